/-! KnownTurns$Program: nowhere at p + 1, its row of blocks at p + 5, renumbered at p + 6, block b at p + 7 + 4 b -/
def kt_pg (σ : kt_Y) (p N : Nat) : Prop := kt_k σ p = some (0, 4) ∧ kt_r σ p 0 = some (p + 5) ∧ kt_r σ p 1 = some (p + 6) ∧ kt_r σ p 2 = some (p + 1) ∧ kt_k σ (p + 5) = some (4, N) ∧ kt_k σ (p + 6) = some (1, N) ∧ kt_blk σ (p + 1) ∧ ∀ b, b < N → kt_r σ (p + 5) b = some (p + 7 + 4 * b) ∧ kt_blk σ (p + 7 + 4 * b)
abbrev k_hs (μ : kt_M) (p : Nat) (b : Int32) : Prop := 0 ≤ b ∧ b < kt_i μ p 3
def k_at (μ : kt_M) (p : Nat) (b : Int32) : Nat := if k_hs μ p b then p + 7 + 4 * b.toNatClampNeg else p + 1
theorem nI_toInt' {n : Nat} (h : n < 1000000) : (nI n).toInt = (n : Int) := nI_toInt (by omega)
theorem k_hs_nI {μ : kt_M} {p s : Nat} {b : Int32} (hs : kt_i μ p 3 = nI s) (h9 : s < 1000000) (h : k_hs μ p b) : ∃ j : Nat, j < s ∧ b = nI j := by
  unfold k_hs at h
  rw [hs] at h
  obtain ⟨j, hj, e⟩ := nI_of (x := b) (Int32.not_lt.mpr h.1)
  refine ⟨j, ?_, e⟩
  have h2 := h.2
  rw [e] at h2
  exact (nI_ltI hj (by omega)).mp h2
theorem k_hs_of {μ : kt_M} {p s j : Nat} (hs : kt_i μ p 3 = nI s) (h9 : s < 1000000) (h : j < s) : k_hs μ p (nI j) := by
  unfold k_hs
  rw [hs]
  exact ⟨nI_pos' (by omega), nI_lt h (by omega)⟩
theorem k_at_nI {μ : kt_M} {p s j : Nat} (hs : kt_i μ p 3 = nI s) (h9 : s < 1000000) (h : j < s) : k_at μ p (nI j) = p + 7 + 4 * j := by
  unfold k_at
  rw [if_pos (k_hs_of hs h9 h), nI_clamp (by omega)]
theorem kt_pg.at_ {σ : kt_Y} {μ : kt_M} {p N s : Nat} (hp : kt_pg σ p N) (hs : kt_i μ p 3 = nI s) (hsN : s ≤ N) (hN : N ≤ 16) (b : Int32) : kt_blk σ (k_at μ p b) := by
  unfold k_at
  split
  · rename_i h
    obtain ⟨j, hj, e⟩ := k_hs_nI hs (by omega) h
    rw [e, nI_clamp (by omega)]
    exact (hp.2.2.2.2.2.2.2 j (by omega)).2
  · exact hp.2.2.2.2.2.2.1
def m_wipe (μ : kt_M) (p : Nat) : kt_M := kt_si (kt_si (kt_si (kt_si (kt_si (kt_si (kt_si (kt_si μ p 0 0) p 4 0) p 5 0) p 6 0) p 7 0) p 8 0) p 9 0) p 10 0
set_option maxHeartbeats 4000000 in
set_option maxRecDepth 100000 in
theorem sp_has {G : kt_G} {σ : kt_Y} {μ : kt_M} {p N : Nat} (hp : kt_pg σ p N) (hN : N ≤ 16) {s : Nat} (hs : kt_i μ p 3 = nI s) (hsN : s ≤ N) {b : Int32} : kt_F G yX4_has cX4_has 2 (some .boolean) 0 [.ref p, .int b] σ μ (fun r μ2 => r = some (.int (kt_f (k_hs μ p b))) ∧ μ2 = μ) := by
  refine kt_F.of (by decide) (Nat.le_of_ble_eq_true rfl) (fun X hX hr => ?_)
  have hp0 := hp
  obtain ⟨hk0, hr0, hr1, hr2, hk5, hk6, hkn, hbl⟩ := hp
  refine kr_iload_n (i := 1) hX dX4_has_0 rfl rfl ?_
  refine kr_if_lt (tgt := 25) hX dX4_has_1 (by decide) (fun c_1 => ?_) (fun c_1 => ?_)
  · skip
    refine kr_iconst (v := 0) hX dX4_has_25 (by decide) ?_
    refine kr_zret hX hr (by first | exact Or.inl rfl | exact Or.inr rfl | assumption) dX4_has_26 ⟨rfl, ?_⟩
    have e1 := nI_toInt' (n := s) (by omega)
    have e2 := nI_toInt' (n := N) (by omega)
    unfold k_hs
    rw [hs] at *
    first | exact ⟨kt_ft (by (simp only [kt_f_0, kt_f_1, ← Int32.toInt_inj, Int32.le_iff_toInt_le, Int32.lt_iff_toInt_lt, Classical.not_not, ki_0, e1, e2] at *; omega)), rfl⟩ | exact ⟨kt_ff (by (simp only [kt_f_0, kt_f_1, ← Int32.toInt_inj, Int32.le_iff_toInt_le, Int32.lt_iff_toInt_lt, Classical.not_not, ki_0, e1, e2] at *; omega)), rfl⟩
  · skip
    refine kr_iload_n (i := 1) hX dX4_has_4 rfl rfl ?_
    refine kr_aload_n (i := 0) hX dX4_has_5 rfl rfl ?_
    refine kr_geti (c0 := 4) (k := 3) hX ⟨_, kf_4_16⟩ dX4_has_6 rfl (by assumption) ?_
    refine kr_icmp_ge (tgt := 25) hX dX4_has_9 (by decide) (fun c_9 => ?_) (fun c_9 => ?_)
    · skip
      refine kr_iconst (v := 0) hX dX4_has_25 (by decide) ?_
      refine kr_zret hX hr (by first | exact Or.inl rfl | exact Or.inr rfl | assumption) dX4_has_26 ⟨rfl, ?_⟩
      have e1 := nI_toInt' (n := s) (by omega)
      have e2 := nI_toInt' (n := N) (by omega)
      unfold k_hs
      rw [hs] at *
      first | exact ⟨kt_ft (by (simp only [kt_f_0, kt_f_1, ← Int32.toInt_inj, Int32.le_iff_toInt_le, Int32.lt_iff_toInt_lt, Classical.not_not, ki_0, e1, e2] at *; omega)), rfl⟩ | exact ⟨kt_ff (by (simp only [kt_f_0, kt_f_1, ← Int32.toInt_inj, Int32.le_iff_toInt_le, Int32.lt_iff_toInt_lt, Classical.not_not, ki_0, e1, e2] at *; omega)), rfl⟩
    · skip
      refine kr_iload_n (i := 1) hX dX4_has_12 rfl rfl ?_
      refine kr_aload_n (i := 0) hX dX4_has_13 rfl rfl ?_
      refine kr_getr (c0 := 4) (k := 0) hX ⟨_, kf_4_20⟩ dX4_has_14 rfl (by assumption) (by assumption) ?_
      refine kr_alen (t := 3) (n := N) (v := nI N) hX dX4_has_17 (by assumption) (by decide) (rfl) ?_
      refine kr_icmp_ge (tgt := 25) hX dX4_has_18 (by decide) (fun c_18 => ?_) (fun c_18 => ?_)
      · skip
        refine kr_iconst (v := 0) hX dX4_has_25 (by decide) ?_
        refine kr_zret hX hr (by first | exact Or.inl rfl | exact Or.inr rfl | assumption) dX4_has_26 ⟨rfl, ?_⟩
        have e1 := nI_toInt' (n := s) (by omega)
        have e2 := nI_toInt' (n := N) (by omega)
        unfold k_hs
        rw [hs] at *
        first | exact ⟨kt_ft (by (simp only [kt_f_0, kt_f_1, ← Int32.toInt_inj, Int32.le_iff_toInt_le, Int32.lt_iff_toInt_lt, Classical.not_not, ki_0, e1, e2] at *; omega)), rfl⟩ | exact ⟨kt_ff (by (simp only [kt_f_0, kt_f_1, ← Int32.toInt_inj, Int32.le_iff_toInt_le, Int32.lt_iff_toInt_lt, Classical.not_not, ki_0, e1, e2] at *; omega)), rfl⟩
      · skip
        refine kr_iconst (v := 1) hX dX4_has_21 (by decide) ?_
        refine kr_goto (tgt := 26) hX dX4_has_22 (by decide) ?_
        refine kr_zret hX hr (by first | exact Or.inl rfl | exact Or.inr rfl | assumption) dX4_has_26 ⟨rfl, ?_⟩
        have e1 := nI_toInt' (n := s) (by omega)
        have e2 := nI_toInt' (n := N) (by omega)
        unfold k_hs
        rw [hs] at *
        first | exact ⟨kt_ft (by (simp only [kt_f_0, kt_f_1, ← Int32.toInt_inj, Int32.le_iff_toInt_le, Int32.lt_iff_toInt_lt, Classical.not_not, ki_0, e1, e2] at *; omega)), rfl⟩ | exact ⟨kt_ff (by (simp only [kt_f_0, kt_f_1, ← Int32.toInt_inj, Int32.le_iff_toInt_le, Int32.lt_iff_toInt_lt, Classical.not_not, ki_0, e1, e2] at *; omega)), rfl⟩

set_option maxHeartbeats 4000000 in
set_option maxRecDepth 100000 in
theorem sp_at {G : kt_G} {σ : kt_Y} {μ : kt_M} {p N : Nat} (hp : kt_pg σ p N) (hN : N ≤ 16) {s : Nat} (hs : kt_i μ p 3 = nI s) (hsN : s ≤ N) {b : Int32} : kt_F G yX4_at cX4_at 2 (some (.object "KnownTurns$Block")) 1 [.ref p, .int b] σ μ (fun r μ2 => r = some (.ref (k_at μ p b)) ∧ μ2 = μ) := by
  refine kt_F.of (by decide) (Nat.le_of_ble_eq_true rfl) (fun X hX hr => ?_)
  have hp0 := hp
  obtain ⟨hk0, hr0, hr1, hr2, hk5, hk6, hkn, hbl⟩ := hp
  refine kr_aload_n (i := 0) hX dX4_at_0 rfl rfl ?_
  refine kr_iload_n (i := 1) hX dX4_at_1 rfl rfl ?_
  refine kr_dV (c1 := 4) [_] hX km_4_28 dX4_at_2 (sp_has hp0 hN hs hsN) rfl rfl ⟨_, _, rfl⟩ (by decide) (Nat.le_of_ble_eq_true rfl) (Nat.le_refl _) (Nat.le_refl _) (by assumption) ?_
  refine kr_if_eq (tgt := 17) hX dX4_at_5 (by decide) (fun c_5 => ?_) (fun c_5 => ?_)
  · skip
    refine kr_aload_n (i := 0) hX dX4_at_17 rfl rfl ?_
    refine kr_getr (c0 := 4) (k := 2) hX ⟨_, kf_4_10⟩ dX4_at_18 rfl (by assumption) (by assumption) ?_
    refine kr_aret hX hr dX4_at_21 ⟨rfl, ?_⟩
    simp only [kt_f_0, Classical.not_not] at c_5
    unfold k_at
    first | (rw [if_pos c_5]; exact ⟨rfl, rfl⟩) | (rw [if_neg c_5]; exact ⟨rfl, rfl⟩)
  · skip
    refine kr_aload_n (i := 0) hX dX4_at_8 rfl rfl ?_
    refine kr_getr (c0 := 4) (k := 0) hX ⟨_, kf_4_20⟩ dX4_at_9 rfl (by assumption) (by assumption) ?_
    refine kr_iload_n (i := 1) hX dX4_at_12 rfl rfl ?_
    refine kr_aald (t := 0) hX dX4_at_13 (by decide) (by assumption) (by obtain ⟨j, hj, e⟩ := k_hs_nI hs (by omega) (by simp only [kt_f_0, Classical.not_not] at c_5; exact c_5); rw [e]; exact vp_in_nI (by omega) (by omega)) (by show kt_r σ (p + 5) b.toNatClampNeg = some (p + 7 + 4 * b.toNatClampNeg); obtain ⟨j, hj, e⟩ := k_hs_nI hs (by omega) (by simp only [kt_f_0, Classical.not_not] at c_5; exact c_5); rw [e, nI_clamp (by omega)]; exact (hbl j (by omega)).1) ?_
    refine kr_goto (tgt := 21) hX dX4_at_14 (by decide) ?_
    refine kr_aret hX hr dX4_at_21 ⟨rfl, ?_⟩
    simp only [kt_f_0, Classical.not_not] at c_5
    unfold k_at
    first | (rw [if_pos c_5]; exact ⟨rfl, rfl⟩) | (rw [if_neg c_5]; exact ⟨rfl, rfl⟩)

theorem sp_atN {G : kt_G} {σ : kt_Y} {μ : kt_M} {p N : Nat} (hp : kt_pg σ p N) (hN : N ≤ 16) {s : Nat} (hs : kt_i μ p 3 = nI s) (hsN : s ≤ N) {j : Nat} (hj : j < s) : kt_F G yX4_at cX4_at 2 (some (.object "KnownTurns$Block")) 1 [.ref p, .int (nI j)] σ μ (fun r μ2 => r = some (.ref (p + 7 + 4 * j)) ∧ μ2 = μ) := by
  have h := sp_at (G := G) hp hN hs hsN (b := nI j)
  rw [k_at_nI hs (by omega) hj] at h
  exact h
set_option maxHeartbeats 4000000 in
set_option maxRecDepth 100000 in
theorem sp_pEdge {G : kt_G} {σ : kt_Y} {μ : kt_M} {p N : Nat} (hp : kt_pg σ p N) (hN : N ≤ 16) {s : Nat} (hs : kt_i μ p 3 = nI s) (hsN : s ≤ N) {b t : Int32} : kt_F G yX4_hasEdge cX4_hasEdge 3 (some .boolean) 3 [.ref p, .int b, .int t] σ μ (fun r μ2 => r = some (.int (kt_f (k_hs μ p b ∧ 0 ≤ t ∧ t < kb_edges (kt_i μ (k_at μ p b) 4)))) ∧ μ2 = μ) := by
  refine kt_F.of (by decide) (Nat.le_of_ble_eq_true rfl) (fun X hX hr => ?_)
  have hp0 := hp
  obtain ⟨hk0, hr0, hr1, hr2, hk5, hk6, hkn, hbl⟩ := hp
  have hat := hp0.at_ hs hsN hN b
  refine kr_aload_n (i := 0) hX dX4_hasEdge_0 rfl rfl ?_
  refine kr_iload_n (i := 1) hX dX4_hasEdge_1 rfl rfl ?_
  refine kr_dV (c1 := 4) [_] hX km_4_28 dX4_hasEdge_2 (sp_has hp0 hN hs hsN) rfl rfl ⟨_, _, rfl⟩ (by decide) (Nat.le_of_ble_eq_true rfl) (Nat.le_refl _) (Nat.le_refl _) (by assumption) ?_
  refine kr_if_eq (tgt := 25) hX dX4_hasEdge_5 (by decide) (fun c_5 => ?_) (fun c_5 => ?_)
  · skip
    refine kr_iconst (v := 0) hX dX4_hasEdge_25 (by decide) ?_
    refine kr_zret hX hr (by first | exact Or.inl rfl | exact Or.inr rfl | assumption) dX4_hasEdge_26 ⟨rfl, ?_⟩
    (try simp only [kt_f_0, Classical.not_not] at c_5)
    (try simp only [kt_f_0, Classical.not_not] at c_18)
    first | exact ⟨kt_ft ⟨by assumption, by assumption⟩, rfl⟩ | exact ⟨kt_ff (fun h => by first | exact absurd h.1 (by assumption) | exact absurd h.2 (by assumption)), rfl⟩
  · skip
    refine kr_aload_n (i := 0) hX dX4_hasEdge_8 rfl rfl ?_
    refine kr_getr (c0 := 4) (k := 0) hX ⟨_, kf_4_20⟩ dX4_hasEdge_9 rfl (by assumption) (by assumption) ?_
    refine kr_iload_n (i := 1) hX dX4_hasEdge_12 rfl rfl ?_
    refine kr_aald (t := 0) hX dX4_hasEdge_13 (by decide) (by assumption) (by obtain ⟨j, hj, e⟩ := k_hs_nI hs (by omega) (by simp only [kt_f_0, Classical.not_not] at c_5; exact c_5); rw [e]; exact vp_in_nI (by omega) (by omega)) (by show kt_r σ (p + 5) b.toNatClampNeg = some (k_at μ p b); unfold k_at; rw [if_pos (by simp only [kt_f_0, Classical.not_not] at c_5; exact c_5)]; obtain ⟨j, hj, e⟩ := k_hs_nI hs (by omega) (by simp only [kt_f_0, Classical.not_not] at c_5; exact c_5); rw [e, nI_clamp (by omega)]; exact (hbl j (by omega)).1) ?_
    refine kr_iload_n (i := 2) hX dX4_hasEdge_14 rfl rfl ?_
    refine kr_dV (c1 := 0) [_] hX km_4_32 dX4_hasEdge_15 (sp_hasEdge hat) rfl rfl ⟨_, _, rfl⟩ (by decide) (Nat.le_of_ble_eq_true rfl) (Nat.le_refl _) (Nat.le_refl _) (by exact hat.1) ?_
    refine kr_if_eq (tgt := 25) hX dX4_hasEdge_18 (by decide) (fun c_18 => ?_) (fun c_18 => ?_)
    · skip
      refine kr_iconst (v := 0) hX dX4_hasEdge_25 (by decide) ?_
      refine kr_zret hX hr (by first | exact Or.inl rfl | exact Or.inr rfl | assumption) dX4_hasEdge_26 ⟨rfl, ?_⟩
      (try simp only [kt_f_0, Classical.not_not] at c_5)
      (try simp only [kt_f_0, Classical.not_not] at c_18)
      first | exact ⟨kt_ft ⟨by assumption, by assumption⟩, rfl⟩ | exact ⟨kt_ff (fun h => by first | exact absurd h.1 (by assumption) | exact absurd h.2 (by assumption)), rfl⟩
    · skip
      refine kr_iconst (v := 1) hX dX4_hasEdge_21 (by decide) ?_
      refine kr_goto (tgt := 26) hX dX4_hasEdge_22 (by decide) ?_
      refine kr_zret hX hr (by first | exact Or.inl rfl | exact Or.inr rfl | assumption) dX4_hasEdge_26 ⟨rfl, ?_⟩
      (try simp only [kt_f_0, Classical.not_not] at c_5)
      (try simp only [kt_f_0, Classical.not_not] at c_18)
      first | exact ⟨kt_ft ⟨by assumption, by assumption⟩, rfl⟩ | exact ⟨kt_ff (fun h => by first | exact absurd h.1 (by assumption) | exact absurd h.2 (by assumption)), rfl⟩

set_option maxHeartbeats 4000000 in
set_option maxRecDepth 100000 in
theorem sp_isFull {G : kt_G} {σ : kt_Y} {μ : kt_M} {p N : Nat} (hp : kt_pg σ p N) (hN : N ≤ 16) : kt_F G yX4_isFull cX4_isFull 1 (some .boolean) 0 [.ref p] σ μ (fun r μ2 => r = some (.int (kt_f (¬ kt_i μ p 3 < nI N))) ∧ μ2 = μ) := by
  refine kt_F.of (by decide) (Nat.le_of_ble_eq_true rfl) (fun X hX hr => ?_)
  have hp0 := hp
  obtain ⟨hk0, hr0, hr1, hr2, hk5, hk6, hkn, hbl⟩ := hp
  refine kr_aload_n (i := 0) hX dX4_isFull_0 rfl rfl ?_
  refine kr_geti (c0 := 4) (k := 3) hX ⟨_, kf_4_16⟩ dX4_isFull_1 rfl (by assumption) ?_
  refine kr_aload_n (i := 0) hX dX4_isFull_4 rfl rfl ?_
  refine kr_getr (c0 := 4) (k := 0) hX ⟨_, kf_4_20⟩ dX4_isFull_5 rfl (by assumption) (by assumption) ?_
  refine kr_alen (t := 3) (n := N) (v := nI N) hX dX4_isFull_8 (by assumption) (by decide) (rfl) ?_
  refine kr_icmp_lt (tgt := 16) hX dX4_isFull_9 (by decide) (fun c_9 => ?_) (fun c_9 => ?_)
  · skip
    refine kr_iconst (v := 0) hX dX4_isFull_16 (by decide) ?_
    refine kr_zret hX hr (by first | exact Or.inl rfl | exact Or.inr rfl | assumption) dX4_isFull_17 ⟨rfl, ?_⟩
    first | exact ⟨kt_ft (by assumption), rfl⟩ | exact ⟨kt_ff (by simpa using c_9), rfl⟩
  · skip
    refine kr_iconst (v := 1) hX dX4_isFull_12 (by decide) ?_
    refine kr_goto (tgt := 17) hX dX4_isFull_13 (by decide) ?_
    refine kr_zret hX hr (by first | exact Or.inl rfl | exact Or.inr rfl | assumption) dX4_isFull_17 ⟨rfl, ?_⟩
    first | exact ⟨kt_ft (by assumption), rfl⟩ | exact ⟨kt_ff (by simpa using c_9), rfl⟩

set_option maxHeartbeats 4000000 in
set_option maxRecDepth 100000 in
theorem sp_grow {G : kt_G} {σ : kt_Y} {μ : kt_M} {p N : Nat} (hp : kt_pg σ p N) (hN : N ≤ 16) {s : Nat} (hs : kt_i μ p 3 = nI s) (hsN : s < N) : kt_F G yX4_grow cX4_grow 2 (some (.object "KnownTurns$Block")) 1 [.ref p] σ μ (fun r μ2 => r = some (.ref (p + 7 + 4 * s)) ∧ μ2 = kt_si (m_wipe μ (p + 7 + 4 * s)) p 3 (nI (s + 1))) := by
  refine kt_F.of (by decide) (Nat.le_of_ble_eq_true rfl) (fun X hX hr => ?_)
  have hp0 := hp
  obtain ⟨hk0, hr0, hr1, hr2, hk5, hk6, hkn, hbl⟩ := hp
  refine kr_aload_n (i := 0) hX dX4_grow_0 rfl rfl ?_
  refine kr_geti (c0 := 4) (k := 3) hX ⟨_, kf_4_16⟩ dX4_grow_1 rfl (by assumption) ?_
  refine kr_if_lt (tgt := 14) hX dX4_grow_4 (by decide) (fun c_4 => ?_) (fun c_4 => ?_)
  · skip
    exact absurd c_4 (by rw [hs]; exact nI_pos (by omega))
  · skip
    refine kr_aload_n (i := 0) hX dX4_grow_7 rfl rfl ?_
    refine kr_dV (c1 := 4) [] hX km_4_35 dX4_grow_8 (sp_isFull hp0 hN) rfl rfl ⟨_, _, rfl⟩ (by decide) (Nat.le_of_ble_eq_true rfl) (Nat.le_refl _) (Nat.le_refl _) (by assumption) ?_
    refine kr_if_eq (tgt := 19) hX dX4_grow_11 (by decide) (fun c_11 => ?_) (fun c_11 => ?_)
    · skip
      refine kr_aload_n (i := 0) hX dX4_grow_19 rfl rfl ?_
      refine kr_getr (c0 := 4) (k := 0) hX ⟨_, kf_4_20⟩ dX4_grow_20 rfl (by assumption) (by assumption) ?_
      refine kr_aload_n (i := 0) hX dX4_grow_23 rfl rfl ?_
      refine kr_geti (c0 := 4) (k := 3) hX ⟨_, kf_4_16⟩ dX4_grow_24 rfl (by assumption) ?_
      refine kr_rw (y := nI s) (by exact hs) ?_
      refine kr_aaldN (t := 0) hX dX4_grow_27 (by decide) (by assumption) (by omega) (by exact (hbl s hsN).1) ?_
      refine kr_astore_n (i := 1) hX dX4_grow_28 rfl (by decide) rfl rfl ?_
      refine kr_aload_n (i := 1) hX dX4_grow_29 rfl rfl ?_
      refine kr_dV (c1 := 0) [] hX km_4_39 dX4_grow_30 (sp_wipe (hbl s hsN).2) rfl rfl ⟨_, _, rfl⟩ (by decide) (Nat.le_of_ble_eq_true rfl) (Nat.le_refl _) (Nat.le_refl _) (by exact (hbl s hsN).2.1) ?_
      refine kr_aload_n (i := 0) hX dX4_grow_33 rfl rfl ?_
      refine kr_dup hX dX4_grow_34 rfl ?_
      refine kr_geti (c0 := 4) (k := 3) hX ⟨_, kf_4_16⟩ dX4_grow_35 rfl (by assumption) ?_
      refine kr_rw (y := nI s) (by (try simp only [m_wipe]); (repeat (rw [kt_i_sin (by omega)])); exact hs) ?_
      refine kr_iconst (v := 1) hX dX4_grow_38 (by decide) ?_
      refine kr_iadd hX dX4_grow_39 ?_
      refine kr_rw (y := nI (s + 1)) (by exact nI_1 s) ?_
      refine kr_puti (c0 := 4) (k := 3) hX kf_4_16 dX4_grow_40 rfl rfl rfl (by assumption) ?_
      refine kr_aload_n (i := 1) hX dX4_grow_43 rfl rfl ?_
      refine kr_aret hX hr dX4_grow_44 ⟨rfl, ?_⟩
      exact ⟨rfl, rfl⟩
    · skip
      exact absurd (by simp only [kt_f_0, Classical.not_not]; rw [hs]; exact nI_lt hsN (by omega)) c_11


theorem kt_cpB_out {μ : kt_M} {p q x k : Nat} (h : ¬ (p ≤ x ∧ x < p + 4)) : kt_i (kt_cpB μ p q) x k = kt_i μ x k := by
  unfold kt_cpB
  repeat (rw [kt_i_sin (by omega)])
def m_pcpL (p q : Nat) : Nat → Nat → kt_M → kt_M
  | 0, _, μ => μ
  | n + 1, i, μ => m_pcpL p q n (i + 1) (kt_si (kt_cpB μ (p + 7 + 4 * i) (q + 7 + 4 * i)) p 3 (nI (i + 1)))
def m_orgL (p : Nat) : Nat → Nat → kt_M → kt_M
  | 0, _, μ => μ
  | n + 1, i, μ => m_orgL p n (i + 1) (kt_si μ (p + 7 + 4 * i) 10 (nI i))
abbrev k_nm (μ : kt_M) (p b : Nat) : Prop := (¬ kb_edges (kt_i μ b 4) ≤ 0 → k_hs μ p (kt_i μ b 8)) ∧ (¬ kb_edges (kt_i μ b 4) ≤ 1 → k_hs μ p (kt_i μ b 9))
def k_nmL (μ : kt_M) (p : Nat) : Nat → Nat → Bool
  | 0, _ => true
  | n + 1, i => decide (k_nm μ p (p + 7 + 4 * i)) && k_nmL μ p n (i + 1)
theorem k_nmL_t {μ : kt_M} {p n i : Nat} (h : k_nm μ p (p + 7 + 4 * i)) : k_nmL μ p (n + 1) i = k_nmL μ p n (i + 1) := by rw [show k_nmL μ p (n + 1) i = (decide (k_nm μ p (p + 7 + 4 * i)) && k_nmL μ p n (i + 1)) from rfl, decide_eq_true h]; rfl
theorem k_nmL_f {μ : kt_M} {p n i : Nat} (h : ¬ k_nm μ p (p + 7 + 4 * i)) : k_nmL μ p (n + 1) i = false := by rw [show k_nmL μ p (n + 1) i = (decide (k_nm μ p (p + 7 + 4 * i)) && k_nmL μ p n (i + 1)) from rfl, decide_eq_false h]; rfl
def k_tot (μ : kt_M) (b : Nat) (w : Int32) : Int32 := if w = 0 then 1 else if w = 1 then kt_i μ b 0 else if w = 2 then kt_f (kb_test (kt_i μ b 4)) else kb_edges (kt_i μ b 4)
def k_totL (μ : kt_M) (p : Nat) (w : Int32) : Nat → Nat → Int32 → Int32
  | 0, _, a => a
  | n + 1, i, a => k_totL μ p w n (i + 1) (a + k_tot μ (p + 7 + 4 * i) w)
theorem kb_edges_2 (e : Int32) : kb_edges e ≤ 2 := by rcases kb_edges_le e with h | h | h <;> rw [h] <;> decide
theorem kb_edges_10 {e : Int32} (h : kb_edges e ≤ 0) : kb_edges e ≤ 1 := by rcases kb_edges_le e with h2 | h2 | h2 <;> rw [h2] at h ⊢ <;> first | decide | exact absurd h (by decide)
def m_an1 (μ : kt_M) (p b : Nat) (x : Int32) : kt_M := if k_hs μ p (if x = 0 then kt_i μ b 8 else kt_i μ b 9) then kt_si μ b (if x = 0 then 8 else 9) (kt_i μ (p + 6) (if x = 0 then kt_i μ b 8 else kt_i μ b 9).toNatClampNeg) else μ
def m_anwL (p b : Nat) : Nat → Nat → kt_M → kt_M
  | 0, _, μ => μ
  | n + 1, i, μ => m_anwL p b n (i + 1) (m_an1 μ p b (nI i))
def k_ne (μ : kt_M) (b : Nat) : Nat := (kb_edges (kt_i μ b 4)).toNatClampNeg
theorem k_ne_eq (μ : kt_M) (b : Nat) : k_ne μ b ≤ 2 ∧ kb_edges (kt_i μ b 4) = nI (k_ne μ b) := by
  obtain ⟨m, hm, e⟩ := kb_edges_nI (kt_i μ b 4)
  unfold k_ne
  rw [e, nI_clamp (by omega)]
  exact ⟨hm, rfl⟩
def m_anew (μ : kt_M) (p b : Nat) : kt_M := m_anwL p b (k_ne μ b) 0 μ
set_option maxHeartbeats 4000000 in
set_option maxRecDepth 100000 in
theorem lp_pcopy {G : kt_G} {σ : kt_Y} {X : kt_X} (hX : kt_ok G X RX4 cX4_copyFrom 3 2 0 0) (hr : kt_rt X = none) {Q : Option Value → kt_M → Prop} {p N : Nat} (hp : kt_pg σ p N) (hN : N ≤ 16) {q M t : Nat} (hq : kt_pg σ q M) (hM : M ≤ 16) (htM : t ≤ M) (htN : t ≤ N) (hsep : p + 7 + 4 * N ≤ q ∨ q + 7 + 4 * M ≤ p) : ∀ (n i : Nat) (μ : kt_M) , i + n = t → kt_i μ q 3 = nI t → kt_i μ p 3 = nI i → (∀ b, b < t → kt_i μ (q + 7 + 4 * b) 6 = 0 ∨ kt_i μ (q + 7 + 4 * b) 6 = 1) → (Q none (m_pcpL p q n i μ)) → kt_W G X 3 7 [(0, .ref p), (1, .ref q), (2, .int (nI i))] [] σ μ 0 0 (kt_Z G X (kt_q σ Q) 0 0) := by
  have hp0 := hp
  obtain ⟨hk0, hr0, hr1, hr2, hk5, hk6, hkn, hbl⟩ := hp
  have hq0 := hq
  obtain ⟨gk0, gr0, gr1, gr2, gk5, gk6, gkn, gbl⟩ := hq
  intro n
  induction n with
  | zero =>
    intro i μ hin ht hi hz hQ
    have hib : i = t := by omega
    refine kr_iload_n (i := 2) hX dX4_copyFrom_7 rfl rfl ?_
    refine kr_aload_n (i := 1) hX dX4_copyFrom_8 rfl rfl ?_
    refine kr_geti (c0 := 4) (k := 3) hX ⟨_, kf_4_16⟩ dX4_copyFrom_9 rfl (by assumption) ?_
    refine kr_icmp_ge (tgt := 54) hX dX4_copyFrom_12 (by decide) (fun c_12 => ?_) (fun c_12 => ?_)
    · skip
      refine kr_vret hX hr dX4_copyFrom_54 ⟨rfl, ?_⟩
      exact hQ
    · skip
      exact absurd (by rw [ht, hib]; exact Int32.le_refl _) c_12
  | succ n ih =>
    intro i μ hin ht hi hz hQ
    have hib : i < t := by omega
    refine kr_iload_n (i := 2) hX dX4_copyFrom_7 rfl rfl ?_
    refine kr_aload_n (i := 1) hX dX4_copyFrom_8 rfl rfl ?_
    refine kr_geti (c0 := 4) (k := 3) hX ⟨_, kf_4_16⟩ dX4_copyFrom_9 rfl (by assumption) ?_
    refine kr_icmp_ge (tgt := 54) hX dX4_copyFrom_12 (by decide) (fun c_12 => ?_) (fun c_12 => ?_)
    · skip
      exact absurd c_12 (by rw [ht]; exact nI_ge hib (by omega))
    · skip
      refine kr_iload_n (i := 2) hX dX4_copyFrom_15 rfl rfl ?_
      refine kr_aload_n (i := 0) hX dX4_copyFrom_16 rfl rfl ?_
      refine kr_getr (c0 := 4) (k := 0) hX ⟨_, kf_4_20⟩ dX4_copyFrom_17 rfl (by assumption) (by assumption) ?_
      refine kr_alen (t := 3) (n := N) (v := nI N) hX dX4_copyFrom_20 (by assumption) (by decide) (rfl) ?_
      refine kr_icmp_ge (tgt := 54) hX dX4_copyFrom_21 (by decide) (fun c_21 => ?_) (fun c_21 => ?_)
      · skip
        exact absurd c_21 (nI_ge (by omega) (by omega))
      · skip
        refine kr_aload_n (i := 0) hX dX4_copyFrom_24 rfl rfl ?_
        refine kr_getr (c0 := 4) (k := 0) hX ⟨_, kf_4_20⟩ dX4_copyFrom_25 rfl (by assumption) (by assumption) ?_
        refine kr_iload_n (i := 2) hX dX4_copyFrom_28 rfl rfl ?_
        refine kr_aaldN (t := 0) hX dX4_copyFrom_29 (by decide) (by assumption) (by omega) (by exact (hbl i (by omega)).1) ?_
        refine kr_aload_n (i := 1) hX dX4_copyFrom_30 rfl rfl ?_
        refine kr_iload_n (i := 2) hX dX4_copyFrom_31 rfl rfl ?_
        refine kr_dV (c1 := 4) [_] hX km_4_42 dX4_copyFrom_32 (sp_atN hq0 hM ht htM hib) rfl rfl ⟨_, _, rfl⟩ (by decide) (Nat.le_of_ble_eq_true rfl) (Nat.le_refl _) (Nat.le_refl _) (by assumption) ?_
        refine kr_dV (c1 := 0) [_] hX km_4_46 dX4_copyFrom_35 (sp_bcopy (hbl i (by omega)).2 (gbl i (by omega)).2 (by omega) (hz i hib)) rfl rfl ⟨_, _, rfl⟩ (by decide) (Nat.le_of_ble_eq_true rfl) (Nat.le_refl _) (Nat.le_refl _) (by exact (hbl i (by omega)).2.1) ?_
        refine kr_aload_n (i := 0) hX dX4_copyFrom_38 rfl rfl ?_
        refine kr_dup hX dX4_copyFrom_39 rfl ?_
        refine kr_geti (c0 := 4) (k := 3) hX ⟨_, kf_4_16⟩ dX4_copyFrom_40 rfl (by assumption) ?_
        refine kr_rw (y := nI i) (by rw [kt_cpB_out (by omega)]; exact hi) ?_
        refine kr_iconst (v := 1) hX dX4_copyFrom_43 (by decide) ?_
        refine kr_iadd hX dX4_copyFrom_44 ?_
        refine kr_rw (y := nI (i + 1)) (by exact nI_1 i) ?_
        refine kr_puti (c0 := 4) (k := 3) hX kf_4_16 dX4_copyFrom_45 rfl rfl rfl (by assumption) ?_
        refine kr_iinc (v := nI (i + 1)) hX dX4_copyFrom_48 rfl (by first | exact nI_1 _ | rfl) (by decide) rfl rfl ?_
        refine kr_goto (tgt := 7) hX dX4_copyFrom_51 (by decide) ?_
        refine ih (i + 1) _ (by omega) ?_ ?_ ?_ hQ
        · rw [kt_i_sin (by omega), kt_cpB_out (by omega)]; exact ht
        · rw [kt_i_sie]
        · intro b hb
          rw [kt_i_sin (by omega), kt_cpB_out (by omega)]; exact hz b hb

set_option maxHeartbeats 4000000 in
set_option maxRecDepth 100000 in
theorem sp_pcopy {G : kt_G} {σ : kt_Y} {μ : kt_M} {p N : Nat} (hp : kt_pg σ p N) (hN : N ≤ 16) {q M t : Nat} (hq : kt_pg σ q M) (hM : M ≤ 16) (htM : t ≤ M) (htN : t ≤ N) (hsep : p + 7 + 4 * N ≤ q ∨ q + 7 + 4 * M ≤ p) (ht : kt_i μ q 3 = nI t) (hz : ∀ b, b < t → kt_i μ (q + 7 + 4 * b) 6 = 0 ∨ kt_i μ (q + 7 + 4 * b) 6 = 1) : kt_F G yX4_copyFrom cX4_copyFrom 3 none 2 [.ref p, .ref q] σ μ (fun r μ2 => r = none ∧ μ2 = m_pcpL p q t 0 (kt_si μ p 3 0)) := by
  refine kt_F.of (by decide) (Nat.le_of_ble_eq_true rfl) (fun X hX hr => ?_)
  have hp0 := hp
  obtain ⟨hk0, hr0, hr1, hr2, hk5, hk6, hkn, hbl⟩ := hp
  have hq0 := hq
  obtain ⟨gk0, gr0, gr1, gr2, gk5, gk6, gkn, gbl⟩ := hq
  refine kr_aload_n (i := 0) hX dX4_copyFrom_0 rfl rfl ?_
  refine kr_iconst (v := 0) hX dX4_copyFrom_1 (by decide) ?_
  refine kr_puti (c0 := 4) (k := 3) hX kf_4_16 dX4_copyFrom_2 rfl rfl rfl (by assumption) ?_
  refine kr_iconst (v := 0) hX dX4_copyFrom_5 (by decide) ?_
  refine kr_istore_n (i := 2) hX dX4_copyFrom_6 rfl (by decide) rfl rfl ?_
  refine lp_pcopy hX hr hp0 hN hq0 hM htM htN hsep t 0 _ (by omega) ?_ ?_ ?_ ⟨rfl, rfl⟩
  · rw [kt_i_sin (by omega)]; exact ht
  · rw [kt_i_sie]; rfl
  · intro b hb
    rw [kt_i_sin (by omega)]; exact hz b hb

set_option maxHeartbeats 4000000 in
set_option maxRecDepth 100000 in
theorem lp_orig {G : kt_G} {σ : kt_Y} {X : kt_X} (hX : kt_ok G X RX4 cX4_setOrigins 2 2 0 0) (hr : kt_rt X = none) {Q : Option Value → kt_M → Prop} {p N : Nat} (hp : kt_pg σ p N) (hN : N ≤ 16) {s : Nat} (hsN : s ≤ N) : ∀ (n i : Nat) (μ : kt_M) , i + n = s → kt_i μ p 3 = nI s → (Q none (m_orgL p n i μ)) → kt_W G X 2 2 [(0, .ref p), (1, .int (nI i))] [] σ μ 0 0 (kt_Z G X (kt_q σ Q) 0 0) := by
  have hp0 := hp
  obtain ⟨hk0, hr0, hr1, hr2, hk5, hk6, hkn, hbl⟩ := hp
  intro n
  induction n with
  | zero =>
    intro i μ hin hs hQ
    have hib : i = s := by omega
    refine kr_iload_n (i := 1) hX dX4_setOrigins_2 rfl rfl ?_
    refine kr_aload_n (i := 0) hX dX4_setOrigins_3 rfl rfl ?_
    refine kr_geti (c0 := 4) (k := 3) hX ⟨_, kf_4_16⟩ dX4_setOrigins_4 rfl (by assumption) ?_
    refine kr_icmp_ge (tgt := 25) hX dX4_setOrigins_7 (by decide) (fun c_7 => ?_) (fun c_7 => ?_)
    · skip
      refine kr_vret hX hr dX4_setOrigins_25 ⟨rfl, ?_⟩
      exact hQ
    · skip
      exact absurd (by rw [hs, hib]; exact Int32.le_refl _) c_7
  | succ n ih =>
    intro i μ hin hs hQ
    have hib : i < s := by omega
    refine kr_iload_n (i := 1) hX dX4_setOrigins_2 rfl rfl ?_
    refine kr_aload_n (i := 0) hX dX4_setOrigins_3 rfl rfl ?_
    refine kr_geti (c0 := 4) (k := 3) hX ⟨_, kf_4_16⟩ dX4_setOrigins_4 rfl (by assumption) ?_
    refine kr_icmp_ge (tgt := 25) hX dX4_setOrigins_7 (by decide) (fun c_7 => ?_) (fun c_7 => ?_)
    · skip
      exact absurd c_7 (by rw [hs]; exact nI_ge hib (by omega))
    · skip
      refine kr_aload_n (i := 0) hX dX4_setOrigins_10 rfl rfl ?_
      refine kr_iload_n (i := 1) hX dX4_setOrigins_11 rfl rfl ?_
      refine kr_dV (c1 := 4) [_] hX km_4_42 dX4_setOrigins_12 (sp_atN hp0 hN hs hsN hib) rfl rfl ⟨_, _, rfl⟩ (by decide) (Nat.le_of_ble_eq_true rfl) (Nat.le_refl _) (Nat.le_refl _) (by assumption) ?_
      refine kr_iload_n (i := 1) hX dX4_setOrigins_15 rfl rfl ?_
      refine kr_puti (c0 := 0) (k := 10) hX kf_4_50 dX4_setOrigins_16 rfl rfl rfl (by exact (hbl i (by omega)).2.1) ?_
      refine kr_iinc (v := nI (i + 1)) hX dX4_setOrigins_19 rfl (by first | exact nI_1 _ | rfl) (by decide) rfl rfl ?_
      refine kr_goto (tgt := 2) hX dX4_setOrigins_22 (by decide) ?_
      refine ih (i + 1) _ (by omega) ?_ hQ
      rw [kt_i_sin (by omega)]; exact hs

set_option maxHeartbeats 4000000 in
set_option maxRecDepth 100000 in
theorem sp_orig {G : kt_G} {σ : kt_Y} {μ : kt_M} {p N : Nat} (hp : kt_pg σ p N) (hN : N ≤ 16) {s : Nat} (hs : kt_i μ p 3 = nI s) (hsN : s ≤ N) : kt_F G yX4_setOrigins cX4_setOrigins 2 none 2 [.ref p] σ μ (fun r μ2 => r = none ∧ μ2 = m_orgL p s 0 μ) := by
  refine kt_F.of (by decide) (Nat.le_of_ble_eq_true rfl) (fun X hX hr => ?_)
  have hp0 := hp
  obtain ⟨hk0, hr0, hr1, hr2, hk5, hk6, hkn, hbl⟩ := hp
  refine kr_iconst (v := 0) hX dX4_setOrigins_0 (by decide) ?_
  refine kr_istore_n (i := 1) hX dX4_setOrigins_1 rfl (by decide) rfl rfl ?_
  exact lp_orig hX hr hp0 hN hsN s 0 _ (by omega) hs ⟨rfl, rfl⟩

set_option maxHeartbeats 4000000 in
set_option maxRecDepth 100000 in
theorem lp_names {G : kt_G} {σ : kt_Y} {X : kt_X} (hX : kt_ok G X RX4 cX4_namesOnlyItsBlocks 4 2 0 0) (hr : kt_rt X = (some .boolean)) {Q : Option Value → kt_M → Prop} {p N : Nat} (hp : kt_pg σ p N) (hN : N ≤ 16) {s : Nat} (hsN : s ≤ N) : ∀ (n i : Nat) (μ : kt_M) , i + n = s → kt_i μ p 3 = nI s → (Q (some (.int (kt_f (k_nmL μ p n i = true)))) μ) → kt_W G X 4 2 [(0, .ref p), (1, .int (nI i))] [] σ μ 0 0 (kt_Z G X (kt_q σ Q) 0 0) := by
  have hp0 := hp
  obtain ⟨hk0, hr0, hr1, hr2, hk5, hk6, hkn, hbl⟩ := hp
  intro n
  induction n with
  | zero =>
    intro i μ hin hs hQ
    have hib : i = s := by omega
    refine kr_iload_n (i := 1) hX dX4_namesOnlyItsBlocks_2 rfl rfl ?_
    refine kr_aload_n (i := 0) hX dX4_namesOnlyItsBlocks_3 rfl rfl ?_
    refine kr_geti (c0 := 4) (k := 3) hX ⟨_, kf_4_16⟩ dX4_namesOnlyItsBlocks_4 rfl (by assumption) ?_
    refine kr_icmp_ge (tgt := 52) hX dX4_namesOnlyItsBlocks_7 (by decide) (fun c_7 => ?_) (fun c_7 => ?_)
    · skip
      refine kr_iconst (v := 1) hX dX4_namesOnlyItsBlocks_52 (by decide) ?_
      refine kr_zret hX hr (by first | exact Or.inl rfl | exact Or.inr rfl | assumption) dX4_namesOnlyItsBlocks_53 ⟨rfl, ?_⟩
      exact hQ
    · skip
      exact absurd (by rw [hs, hib]; exact Int32.le_refl _) c_7
  | succ n ih =>
    intro i μ hin hs hQ
    have hib : i < s := by omega
    refine kr_iload_n (i := 1) hX dX4_namesOnlyItsBlocks_2 rfl rfl ?_
    refine kr_aload_n (i := 0) hX dX4_namesOnlyItsBlocks_3 rfl rfl ?_
    refine kr_geti (c0 := 4) (k := 3) hX ⟨_, kf_4_16⟩ dX4_namesOnlyItsBlocks_4 rfl (by assumption) ?_
    refine kr_icmp_ge (tgt := 52) hX dX4_namesOnlyItsBlocks_7 (by decide) (fun c_7 => ?_) (fun c_7 => ?_)
    · skip
      exact absurd c_7 (by rw [hs]; exact nI_ge hib (by omega))
    · skip
      refine kr_aload_n (i := 0) hX dX4_namesOnlyItsBlocks_10 rfl rfl ?_
      refine kr_iload_n (i := 1) hX dX4_namesOnlyItsBlocks_11 rfl rfl ?_
      refine kr_dV (c1 := 4) [_] hX km_4_42 dX4_namesOnlyItsBlocks_12 (sp_atN hp0 hN hs hsN hib) rfl rfl ⟨_, _, rfl⟩ (by decide) (Nat.le_of_ble_eq_true rfl) (Nat.le_refl _) (Nat.le_refl _) (by assumption) ?_
      refine kr_astore_n (i := 2) hX dX4_namesOnlyItsBlocks_15 rfl (by decide) rfl rfl ?_
      refine kr_iconst (v := 0) hX dX4_namesOnlyItsBlocks_16 (by decide) ?_
      refine kr_istore_n (i := 3) hX dX4_namesOnlyItsBlocks_17 rfl (by decide) rfl rfl ?_
      refine kr_iload_n (i := 3) hX dX4_namesOnlyItsBlocks_18 rfl rfl ?_
      refine kr_aload_n (i := 2) hX dX4_namesOnlyItsBlocks_19 rfl rfl ?_
      refine kr_dV (c1 := 0) [] hX km_4_53 dX4_namesOnlyItsBlocks_20 (sp_edges (hbl i (by omega)).2) rfl rfl ⟨_, _, rfl⟩ (by decide) (Nat.le_of_ble_eq_true rfl) (Nat.le_refl _) (Nat.le_refl _) (by exact (hbl i (by omega)).2.1) ?_
      refine kr_icmp_ge (tgt := 46) hX dX4_namesOnlyItsBlocks_23 (by decide) (fun c_23 => ?_) (fun c_23 => ?_)
      · skip
        refine kr_iinc (v := nI (i + 1)) hX dX4_namesOnlyItsBlocks_46 rfl (by first | exact nI_1 _ | rfl) (by decide) rfl rfl ?_
        refine kr_goto (tgt := 2) hX dX4_namesOnlyItsBlocks_49 (by decide) ?_
        refine kr_keep [0, 1] rfl ?_
        exact ih (i + 1) _ (by omega) hs (by
          have hk : k_nm μ p (p + 7 + 4 * i) := by
            refine ⟨fun h => ?_, fun h => ?_⟩
            all_goals ((try simp only [kt_f_0, Classical.not_not] at *); first | assumption | exact absurd (kb_edges_10 (by assumption)) h | exact absurd (by assumption) h)
          rw [k_nmL_t hk] at hQ; exact hQ)
      · skip
        refine kr_aload_n (i := 0) hX dX4_namesOnlyItsBlocks_26 rfl rfl ?_
        refine kr_aload_n (i := 2) hX dX4_namesOnlyItsBlocks_27 rfl rfl ?_
        refine kr_iload_n (i := 3) hX dX4_namesOnlyItsBlocks_28 rfl rfl ?_
        refine kr_dV (c1 := 0) [_] hX km_4_57 dX4_namesOnlyItsBlocks_29 (sp_target (hbl i (by omega)).2) rfl rfl ⟨_, _, rfl⟩ (by decide) (Nat.le_of_ble_eq_true rfl) (Nat.le_refl _) (Nat.le_refl _) (by exact (hbl i (by omega)).2.1) ?_
        refine kr_dV (c1 := 4) [_] hX km_4_28 dX4_namesOnlyItsBlocks_32 (sp_has hp0 hN hs hsN) rfl rfl ⟨_, _, rfl⟩ (by decide) (Nat.le_of_ble_eq_true rfl) (Nat.le_refl _) (Nat.le_refl _) (by assumption) ?_
        refine kr_if_ne (tgt := 40) hX dX4_namesOnlyItsBlocks_35 (by decide) (fun c_35 => ?_) (fun c_35 => ?_)
        · skip
          refine kr_iinc (v := 1) hX dX4_namesOnlyItsBlocks_40 rfl (by decide) (by decide) rfl rfl ?_
          refine kr_goto (tgt := 18) hX dX4_namesOnlyItsBlocks_43 (by decide) ?_
          refine kr_iload_n (i := 3) hX dX4_namesOnlyItsBlocks_18 rfl rfl ?_
          refine kr_aload_n (i := 2) hX dX4_namesOnlyItsBlocks_19 rfl rfl ?_
          refine kr_dV (c1 := 0) [] hX km_4_53 dX4_namesOnlyItsBlocks_20 (sp_edges (hbl i (by omega)).2) rfl rfl ⟨_, _, rfl⟩ (by decide) (Nat.le_of_ble_eq_true rfl) (Nat.le_refl _) (Nat.le_refl _) (by exact (hbl i (by omega)).2.1) ?_
          refine kr_icmp_ge (tgt := 46) hX dX4_namesOnlyItsBlocks_23 (by decide) (fun c_23 => ?_) (fun c_23 => ?_)
          · skip
            refine kr_iinc (v := nI (i + 1)) hX dX4_namesOnlyItsBlocks_46 rfl (by first | exact nI_1 _ | rfl) (by decide) rfl rfl ?_
            refine kr_goto (tgt := 2) hX dX4_namesOnlyItsBlocks_49 (by decide) ?_
            refine kr_keep [0, 1] rfl ?_
            exact ih (i + 1) _ (by omega) hs (by
              have hk : k_nm μ p (p + 7 + 4 * i) := by
                refine ⟨fun h => ?_, fun h => ?_⟩
                all_goals ((try simp only [kt_f_0, Classical.not_not] at *); first | assumption | exact absurd (kb_edges_10 (by assumption)) h | exact absurd (by assumption) h)
              rw [k_nmL_t hk] at hQ; exact hQ)
          · skip
            refine kr_aload_n (i := 0) hX dX4_namesOnlyItsBlocks_26 rfl rfl ?_
            refine kr_aload_n (i := 2) hX dX4_namesOnlyItsBlocks_27 rfl rfl ?_
            refine kr_iload_n (i := 3) hX dX4_namesOnlyItsBlocks_28 rfl rfl ?_
            refine kr_dV (c1 := 0) [_] hX km_4_57 dX4_namesOnlyItsBlocks_29 (sp_target (hbl i (by omega)).2) rfl rfl ⟨_, _, rfl⟩ (by decide) (Nat.le_of_ble_eq_true rfl) (Nat.le_refl _) (Nat.le_refl _) (by exact (hbl i (by omega)).2.1) ?_
            refine kr_dV (c1 := 4) [_] hX km_4_28 dX4_namesOnlyItsBlocks_32 (sp_has hp0 hN hs hsN) rfl rfl ⟨_, _, rfl⟩ (by decide) (Nat.le_of_ble_eq_true rfl) (Nat.le_refl _) (Nat.le_refl _) (by assumption) ?_
            refine kr_if_ne (tgt := 40) hX dX4_namesOnlyItsBlocks_35 (by decide) (fun c_35 => ?_) (fun c_35 => ?_)
            · skip
              refine kr_iinc (v := 2) hX dX4_namesOnlyItsBlocks_40 rfl (by decide) (by decide) rfl rfl ?_
              refine kr_goto (tgt := 18) hX dX4_namesOnlyItsBlocks_43 (by decide) ?_
              refine kr_iload_n (i := 3) hX dX4_namesOnlyItsBlocks_18 rfl rfl ?_
              refine kr_aload_n (i := 2) hX dX4_namesOnlyItsBlocks_19 rfl rfl ?_
              refine kr_dV (c1 := 0) [] hX km_4_53 dX4_namesOnlyItsBlocks_20 (sp_edges (hbl i (by omega)).2) rfl rfl ⟨_, _, rfl⟩ (by decide) (Nat.le_of_ble_eq_true rfl) (Nat.le_refl _) (Nat.le_refl _) (by exact (hbl i (by omega)).2.1) ?_
              refine kr_icmp_ge (tgt := 46) hX dX4_namesOnlyItsBlocks_23 (by decide) (fun c_23 => ?_) (fun c_23 => ?_)
              · skip
                refine kr_iinc (v := nI (i + 1)) hX dX4_namesOnlyItsBlocks_46 rfl (by first | exact nI_1 _ | rfl) (by decide) rfl rfl ?_
                refine kr_goto (tgt := 2) hX dX4_namesOnlyItsBlocks_49 (by decide) ?_
                refine kr_keep [0, 1] rfl ?_
                exact ih (i + 1) _ (by omega) hs (by
                  have hk : k_nm μ p (p + 7 + 4 * i) := by
                    refine ⟨fun h => ?_, fun h => ?_⟩
                    all_goals ((try simp only [kt_f_0, Classical.not_not] at *); first | assumption | exact absurd (kb_edges_10 (by assumption)) h | exact absurd (by assumption) h)
                  rw [k_nmL_t hk] at hQ; exact hQ)
              · skip
                exact absurd (kb_edges_2 _) c_23
            · skip
              refine kr_iconst (v := 0) hX dX4_namesOnlyItsBlocks_38 (by decide) ?_
              refine kr_zret hX hr (by first | exact Or.inl rfl | exact Or.inr rfl | assumption) dX4_namesOnlyItsBlocks_39 ⟨rfl, ?_⟩
              have hk : ¬ k_nm μ p (p + 7 + 4 * i) := by
                intro h
                simp only [kt_f_0, Classical.not_not] at *
                first | exact absurd (h.2 (by assumption)) (by assumption) | exact absurd (h.1 (by assumption)) (by assumption)
              rw [k_nmL_f hk, kt_f_f (by decide)] at hQ
              exact hQ
        · skip
          refine kr_iconst (v := 0) hX dX4_namesOnlyItsBlocks_38 (by decide) ?_
          refine kr_zret hX hr (by first | exact Or.inl rfl | exact Or.inr rfl | assumption) dX4_namesOnlyItsBlocks_39 ⟨rfl, ?_⟩
          have hk : ¬ k_nm μ p (p + 7 + 4 * i) := by
            intro h
            simp only [kt_f_0, Classical.not_not] at *
            first | exact absurd (h.2 (by assumption)) (by assumption) | exact absurd (h.1 (by assumption)) (by assumption)
          rw [k_nmL_f hk, kt_f_f (by decide)] at hQ
          exact hQ

set_option maxHeartbeats 4000000 in
set_option maxRecDepth 100000 in
theorem sp_names {G : kt_G} {σ : kt_Y} {μ : kt_M} {p N : Nat} (hp : kt_pg σ p N) (hN : N ≤ 16) {s : Nat} (hs : kt_i μ p 3 = nI s) (hsN : s ≤ N) : kt_F G yX4_namesOnlyItsBlocks cX4_namesOnlyItsBlocks 4 (some .boolean) 2 [.ref p] σ μ (fun r μ2 => r = some (.int (kt_f (k_nmL μ p s 0 = true))) ∧ μ2 = μ) := by
  refine kt_F.of (by decide) (Nat.le_of_ble_eq_true rfl) (fun X hX hr => ?_)
  have hp0 := hp
  obtain ⟨hk0, hr0, hr1, hr2, hk5, hk6, hkn, hbl⟩ := hp
  refine kr_iconst (v := 0) hX dX4_namesOnlyItsBlocks_0 (by decide) ?_
  refine kr_istore_n (i := 1) hX dX4_namesOnlyItsBlocks_1 rfl (by decide) rfl rfl ?_
  exact lp_names hX hr hp0 hN hsN s 0 _ (by omega) hs ⟨rfl, rfl⟩


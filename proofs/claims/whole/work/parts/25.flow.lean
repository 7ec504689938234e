/-! KnownTurns$Flow: before's row at p + 1, along's at p + 2, reached, waiting, open, outcomes at p + 3 .. p + 6; its 50 sets of ranges at p + 7 + 4 j: after (0), trial (1), before b (2 + b), along e (18 + e) -/
def kt_fw (σ : kt_Y) (p : Nat) : Prop := kt_k σ p = some (0, 2) ∧ kt_r σ p 0 = some (p + 1) ∧ kt_r σ p 1 = some (p + 2) ∧ kt_r σ p 2 = some (p + 3) ∧ kt_r σ p 3 = some (p + 4) ∧ kt_r σ p 4 = some (p + 5) ∧ kt_r σ p 5 = some (p + 6) ∧ kt_r σ p 6 = some (p + 7) ∧ kt_r σ p 7 = some (p + 7 + 4 * 1) ∧ kt_k σ (p + 1) = some (6, 16) ∧ kt_k σ (p + 2) = some (6, 32) ∧ kt_k σ (p + 3) = some (3, 16) ∧ kt_k σ (p + 4) = some (3, 16) ∧ kt_k σ (p + 5) = some (3, 32) ∧ kt_k σ (p + 6) = some (1, 32) ∧ (∀ j, j < 50 → kt_rg σ (p + 7 + 4 * j)) ∧ (∀ b, b < 16 → kt_r σ (p + 1) b = some (p + 7 + 4 * (2 + b))) ∧ (∀ e, e < 32 → kt_r σ (p + 2) e = some (p + 7 + 4 * (18 + e)))
/-- the nil rows of all the sets hold 0 or 1 -/
def kf_n (μ : kt_M) (p : Nat) : Prop := ∀ j, j < 50 → kt_01 μ (p + 7 + 4 * j + 3)
theorem kf_n.put {μ μ' : kt_M} {p j : Nat} (h : kf_n μ p) (ho : ∀ x k, ¬ (p + 7 + 4 * j + 1 ≤ x ∧ x ≤ p + 7 + 4 * j + 3) → kt_i μ' x k = kt_i μ x k) (hj : kt_01 μ' (p + 7 + 4 * j + 3)) : kf_n μ' p := by
  intro i hi k
  by_cases e : i = j
  · rw [e]; exact hj k
  · rw [ho _ _ (by omega)]; exact h i hi k
theorem kf_n.far {μ μ' : kt_M} {p : Nat} (h : kf_n μ p) (ho : ∀ x k, p + 7 ≤ x → x < p + 207 → kt_i μ' x k = kt_i μ x k) : kf_n μ' p := by
  intro i hi k
  rw [ho _ _ (by omega) (by omega)]; exact h i hi k
theorem m_cpv_i {μ : kt_M} {p v q w x k : Nat} : kt_i (m_cpv μ p v q w) x k = if x = p + 3 ∧ k = v then kt_i μ (q + 3) w else if x = p + 2 ∧ k = v then kt_i μ (q + 2) w else if x = p + 1 ∧ k = v then kt_i μ (q + 1) w else kt_i μ x k := by
  unfold m_cpv; simp only [kt_i_si]
theorem m_cp_out {μ : kt_M} {p q x k : Nat} (h : ¬ (p + 1 ≤ x ∧ x ≤ p + 3)) : kt_i (m_cp μ p q) x k = kt_i μ x k := by
  unfold m_cp; rw [m_cpv_out h, m_cpv_out h, m_cpv_out h, m_cpv_out h]
theorem m_cpv_01 {μ : kt_M} {p v q w : Nat} (h : kt_01 μ (p + 3)) (hq : kt_01 μ (q + 3)) : kt_01 (m_cpv μ p v q w) (p + 3) := kt_01_si (kt_01_si (kt_01_si h (by omega)) (by omega)) (fun _ => hq _)
theorem m_cp_01 {μ : kt_M} {p q : Nat} (h : kt_01 μ (p + 3)) (hq : kt_01 μ (q + 3)) (hne : p + 4 ≤ q ∨ q + 4 ≤ p) : kt_01 (m_cp μ p q) (p + 3) := by
  have k1 : ∀ (μ : kt_M) (v : Nat), kt_01 μ (q + 3) → kt_01 (m_cpv μ p v q v) (q + 3) := fun μ v h k => by rw [m_cpv_out (by omega)]; exact h k
  unfold m_cp
  exact m_cpv_01 (m_cpv_01 (m_cpv_01 (m_cpv_01 h hq) (k1 _ _ hq)) (k1 _ _ (k1 _ _ hq))) (k1 _ _ (k1 _ _ (k1 _ _ hq)))
theorem m_setAll_out {μ : kt_M} {p x k : Nat} {c : Int32} (h : ¬ (p + 1 ≤ x ∧ x ≤ p + 3)) : kt_i (m_setAll μ p c) x k = kt_i μ x k := by
  unfold m_setAll m_set1
  rw [m_nil_out h, m_num_out h, m_nil_out h, m_num_out h, m_nil_out h, m_num_out h, m_nil_out h, m_num_out h]
theorem m_setAll_01 {μ : kt_M} {p : Nat} {c : Int32} (h : kt_01 μ (p + 3)) (hc : c = 0 ∨ c = 1) : kt_01 (m_setAll μ p c) (p + 3) := by
  have k1 : ∀ (μ : kt_M) (v : Nat), kt_01 μ (p + 3) → kt_01 (m_set1 μ p v c) (p + 3) := fun μ v h => kt_01_si (kt_01_si (kt_01_si h (by omega)) (by omega)) (fun _ => hc)
  exact k1 _ _ (k1 _ _ (k1 _ _ (k1 _ _ h)))
theorem m_join1_out {μ : kt_M} {p q v x k : Nat} {g : Int32} (h : ¬ (p + 1 ≤ x ∧ x ≤ p + 3)) : kt_i (m_join1 μ p q v g).1 x k = kt_i μ x k := by
  unfold m_join1
  dsimp only
  (repeat' split) <;> (repeat (first | rfl | rw [kt_i_sin (by omega)]))
theorem m_joinL_out {p q x k : Nat} (h : ¬ (p + 1 ≤ x ∧ x ≤ p + 3)) : ∀ (n i : Nat) (μ : kt_M) (g : Int32), kt_i (m_joinL p q n i μ g).1 x k = kt_i μ x k
  | 0, _, _, _ => rfl
  | n + 1, i, μ, g => by rw [m_joinL, m_joinL_out h n, m_join1_out h]
theorem m_join1_01 {μ : kt_M} {p q v : Nat} {g : Int32} (h : kt_01 μ (p + 3)) : kt_01 (m_join1 μ p q v g).1 (p + 3) := by
  unfold m_join1
  dsimp only
  (repeat' split) <;> (repeat (first | exact h | refine kt_01_si ?_ (fun _ => Or.inr rfl) | refine kt_01_si ?_ (by omega)))
theorem m_joinL_01 {p q : Nat} : ∀ (n i : Nat) (μ : kt_M) (g : Int32), kt_01 μ (p + 3) → kt_01 (m_joinL p q n i μ g).1 (p + 3)
  | 0, _, _, _, h => h
  | n + 1, i, μ, g, h => m_joinL_01 n (i + 1) _ _ (m_join1_01 h)
abbrev f_rch (μ : kt_M) (p : Nat) (b : Int32) : Prop := 0 ≤ b ∧ b < 16 ∧ ¬ kt_i μ (p + 3) b.toNatClampNeg = 0
abbrev f_opn (μ : kt_M) (p : Nat) (b s : Int32) : Prop := f_rch μ p b ∧ 0 ≤ s ∧ s < 2 ∧ ¬ kt_i μ (p + 5) (2 * b + s).toNatClampNeg = 0
theorem k_in16 {b : Int32} (h1 : 0 ≤ b) (h2 : b < 16) : ∃ j : Nat, j < 16 ∧ b = nI j := by
  obtain ⟨j, hj, e⟩ := nI_of (x := b) (Int32.not_lt.mpr h1)
  refine ⟨j, ?_, e⟩
  rw [e] at h2
  exact (nI_ltI hj (b := 16) (by decide)).mp h2
theorem k_in2 {b : Int32} (h1 : 0 ≤ b) (h2 : b < 2) : ∃ j : Nat, j < 2 ∧ b = nI j := by
  obtain ⟨j, hj, e⟩ := nI_of (x := b) (Int32.not_lt.mpr h1)
  refine ⟨j, ?_, e⟩
  rw [e] at h2
  exact (nI_ltI hj (b := 2) (by decide)).mp h2
theorem k_e2 (j t : Nat) : (2 : Int32) * nI j + nI t = nI (2 * j + t) := by
  rw [show (2 : Int32) = nI 2 from rfl, pk_mul, nI_add]
theorem k_e_in {b s : Int32} (h1 : 0 ≤ b) (h2 : b < 16) (h3 : 0 ≤ s) (h4 : s < 2) : vp_in (2 * b + s) 32 := by
  obtain ⟨j, hj, e⟩ := k_in16 h1 h2
  obtain ⟨t, ht, e2⟩ := k_in2 h3 h4
  rw [e, e2, k_e2]
  exact vp_in_nI (by omega) (by decide)
def f_oo (a b : Int32) : Int32 := if a = b then 0 else if a = 0 then 2 else 1
def f_oat (μ : kt_M) (p : Nat) (b : Int32) : Int32 := f_oo (kt_f (f_opn μ p b 0)) (kt_f (f_opn μ p b 1))
def f_oal (μ : kt_M) (p : Nat) (b s : Int32) : Int32 := if f_opn μ p b s then kt_i μ (p + 6) (2 * b + s).toNatClampNeg else 0
def f_cntL (μ : kt_M) (a : Nat) : Nat → Nat → Int32 → Int32
  | 0, _, c => c
  | n + 1, i, c => f_cntL μ a n (i + 1) (c + kt_f (¬ kt_i μ a i = 0))
abbrev f_kn (μ : kt_M) (p q : Nat) (b : Int32) : Prop := f_rch μ p b ∧ kb_test (kt_i μ (k_at μ q b) 4) ∧ ¬ f_oat μ p b = 0
def f_knL (μ : kt_M) (p q : Nat) : Nat → Nat → Int32 → Int32
  | 0, _, c => c
  | n + 1, i, c => f_knL μ p q n (i + 1) (c + kt_f (f_kn μ p q (nI i)))
def f_oa (μ : kt_M) (p k : Nat) (s : Int32) : kt_M := m_side (m_cp μ (p + 7 + 4 * 1) (p + 7)) (p + 7 + 4 * 1) k s
/-- a value that doesn't unfold by itself -/
noncomputable def kt_seal {α : Type} (a : α) : α := Classical.choose (⟨a, rfl⟩ : ∃ b : α, b = a)
theorem kt_seal_eq {α : Type} (a : α) : kt_seal a = a := Classical.choose_spec (⟨a, rfl⟩ : ∃ b : α, b = a)
theorem sp_joinS {G : kt_G} {σ : kt_Y} {μ : kt_M} {p : Nat} (hp : kt_rg σ p) {q : Nat} (hq : kt_rg σ q) (hne : p + 4 ≤ q ∨ q + 4 ≤ p) : kt_F G yX5_join cX5_join 4 (some .boolean) 0 [.ref p, .ref q] σ μ (fun r μ2 => r = some (.int (kt_seal (m_join μ p q)).2) ∧ μ2 = (kt_seal (m_join μ p q)).1) := by
  rw [kt_seal_eq]
  exact sp_join hp hq hne
noncomputable def f_ent (μ : kt_M) (p : Nat) (b : Int32) (r : Nat) : kt_M :=
  if 0 ≤ b ∧ b < 16 then
    (let j := kt_seal (m_join μ (p + 7 + 4 * (2 + b.toNatClampNeg)) r)
     if ¬ j.2 = 0 ∨ kt_i j.1 (p + 3) b.toNatClampNeg = 0 then kt_si (kt_si j.1 (p + 3) b.toNatClampNeg 1) (p + 4) b.toNatClampNeg 1 else j.1)
  else μ
set_option maxHeartbeats 4000000 in
set_option maxRecDepth 100000 in
theorem sp_rch {G : kt_G} {σ : kt_Y} {μ : kt_M} {p : Nat} (hp : kt_fw σ p) {b : Int32} : kt_F G yX2_isReached cX2_isReached 2 (some .boolean) 0 [.ref p, .int b] σ μ (fun r μ2 => r = some (.int (kt_f (f_rch μ p b))) ∧ μ2 = μ) := by
  refine kt_F.of (by decide) (Nat.le_of_ble_eq_true rfl) (fun X hX hr => ?_)
  have hp0 := hp
  obtain ⟨hk0, hr0, hr1, hr2, hr3, hr4, hr5, hr6, hr7, hk1, hk2, hk3, hk4, hk5, hk6, hrg, hrb, hra⟩ := hp
  refine kr_iload_n (i := 1) hX dX2_isReached_0 rfl rfl ?_
  refine kr_if_lt (tgt := 23) hX dX2_isReached_1 (by decide) (fun c_1 => ?_) (fun c_1 => ?_)
  · skip
    refine kr_iconst (v := 0) hX dX2_isReached_23 (by decide) ?_
    refine kr_zret hX hr (by first | exact Or.inl rfl | exact Or.inr rfl | assumption) dX2_isReached_24 ⟨rfl, ?_⟩
    first
    | exact ⟨kt_ft ⟨Int32.not_lt.mp c_1, Int32.not_le.mp c_7, c_16⟩, rfl⟩
    | exact ⟨kt_ff (fun h => h.2.2 c_16), rfl⟩
    | exact ⟨kt_ff (fun h => absurd h.2.1 (Int32.not_lt.mpr c_7)), rfl⟩
    | exact ⟨kt_ff (fun h => absurd h.1 (Int32.not_le.mpr c_1)), rfl⟩
  · skip
    refine kr_iload_n (i := 1) hX dX2_isReached_4 rfl rfl ?_
    refine kr_bipush (v := 16) hX dX2_isReached_5 (by decide) ?_
    refine kr_icmp_ge (tgt := 23) hX dX2_isReached_7 (by decide) (fun c_7 => ?_) (fun c_7 => ?_)
    · skip
      refine kr_iconst (v := 0) hX dX2_isReached_23 (by decide) ?_
      refine kr_zret hX hr (by first | exact Or.inl rfl | exact Or.inr rfl | assumption) dX2_isReached_24 ⟨rfl, ?_⟩
      first
      | exact ⟨kt_ft ⟨Int32.not_lt.mp c_1, Int32.not_le.mp c_7, c_16⟩, rfl⟩
      | exact ⟨kt_ff (fun h => h.2.2 c_16), rfl⟩
      | exact ⟨kt_ff (fun h => absurd h.2.1 (Int32.not_lt.mpr c_7)), rfl⟩
      | exact ⟨kt_ff (fun h => absurd h.1 (Int32.not_le.mpr c_1)), rfl⟩
    · skip
      refine kr_aload_n (i := 0) hX dX2_isReached_10 rfl rfl ?_
      refine kr_getr (c0 := 2) (k := 2) hX ⟨_, kf_2_20⟩ dX2_isReached_11 rfl (by assumption) (by assumption) ?_
      refine kr_iload_n (i := 1) hX dX2_isReached_14 rfl rfl ?_
      refine kr_bald hX dX2_isReached_15 (by assumption) (by exact vp_in_iff.mpr (by have h5 := c_1; have h6 := c_7; simp only [Int32.le_iff_toInt_le, Int32.lt_iff_toInt_lt, ki_0, ki_16] at h5 h6 ⊢; omega)) ?_
      refine kr_if_eq (tgt := 23) hX dX2_isReached_16 (by decide) (fun c_16 => ?_) (fun c_16 => ?_)
      · skip
        refine kr_iconst (v := 0) hX dX2_isReached_23 (by decide) ?_
        refine kr_zret hX hr (by first | exact Or.inl rfl | exact Or.inr rfl | assumption) dX2_isReached_24 ⟨rfl, ?_⟩
        first
        | exact ⟨kt_ft ⟨Int32.not_lt.mp c_1, Int32.not_le.mp c_7, c_16⟩, rfl⟩
        | exact ⟨kt_ff (fun h => h.2.2 c_16), rfl⟩
        | exact ⟨kt_ff (fun h => absurd h.2.1 (Int32.not_lt.mpr c_7)), rfl⟩
        | exact ⟨kt_ff (fun h => absurd h.1 (Int32.not_le.mpr c_1)), rfl⟩
      · skip
        refine kr_iconst (v := 1) hX dX2_isReached_19 (by decide) ?_
        refine kr_goto (tgt := 24) hX dX2_isReached_20 (by decide) ?_
        refine kr_zret hX hr (by first | exact Or.inl rfl | exact Or.inr rfl | assumption) dX2_isReached_24 ⟨rfl, ?_⟩
        first
        | exact ⟨kt_ft ⟨Int32.not_lt.mp c_1, Int32.not_le.mp c_7, c_16⟩, rfl⟩
        | exact ⟨kt_ff (fun h => h.2.2 c_16), rfl⟩
        | exact ⟨kt_ff (fun h => absurd h.2.1 (Int32.not_lt.mpr c_7)), rfl⟩
        | exact ⟨kt_ff (fun h => absurd h.1 (Int32.not_le.mpr c_1)), rfl⟩

set_option maxHeartbeats 4000000 in
set_option maxRecDepth 100000 in
theorem sp_opn {G : kt_G} {σ : kt_Y} {μ : kt_M} {p : Nat} (hp : kt_fw σ p) {b s : Int32} : kt_F G yX2_isOpen cX2_isOpen 3 (some .boolean) 1 [.ref p, .int b, .int s] σ μ (fun r μ2 => r = some (.int (kt_f (f_opn μ p b s))) ∧ μ2 = μ) := by
  refine kt_F.of (by decide) (Nat.le_of_ble_eq_true rfl) (fun X hX hr => ?_)
  have hp0 := hp
  obtain ⟨hk0, hr0, hr1, hr2, hr3, hr4, hr5, hr6, hr7, hk1, hk2, hk3, hk4, hk5, hk6, hrg, hrb, hra⟩ := hp
  refine kr_aload_n (i := 0) hX dX2_isOpen_0 rfl rfl ?_
  refine kr_iload_n (i := 1) hX dX2_isOpen_1 rfl rfl ?_
  refine kr_dV (c1 := 2) [_] hX km_2_97 dX2_isOpen_2 (sp_rch hp0) rfl rfl ⟨_, _, rfl⟩ (by decide) (Nat.le_of_ble_eq_true rfl) (Nat.le_refl _) (Nat.le_refl _) (by assumption) ?_
  refine kr_if_eq (tgt := 34) hX dX2_isOpen_5 (by decide) (fun c_5 => ?_) (fun c_5 => ?_)
  · skip
    refine kr_iconst (v := 0) hX dX2_isOpen_34 (by decide) ?_
    refine kr_zret hX hr (by first | exact Or.inl rfl | exact Or.inr rfl | assumption) dX2_isOpen_35 ⟨rfl, ?_⟩
    simp only [kt_f_0, Classical.not_not] at c_5
    first
    | exact ⟨kt_ft ⟨c_5, Int32.not_lt.mp c_9, Int32.not_le.mp c_14, c_27⟩, rfl⟩
    | exact ⟨kt_ff (fun h => h.2.2.2 c_27), rfl⟩
    | exact ⟨kt_ff (fun h => absurd h.2.2.1 (Int32.not_lt.mpr c_14)), rfl⟩
    | exact ⟨kt_ff (fun h => absurd h.2.1 (Int32.not_le.mpr c_9)), rfl⟩
    | exact ⟨kt_ff (fun h => c_5 h.1), rfl⟩
  · skip
    refine kr_iload_n (i := 2) hX dX2_isOpen_8 rfl rfl ?_
    refine kr_if_lt (tgt := 34) hX dX2_isOpen_9 (by decide) (fun c_9 => ?_) (fun c_9 => ?_)
    · skip
      refine kr_iconst (v := 0) hX dX2_isOpen_34 (by decide) ?_
      refine kr_zret hX hr (by first | exact Or.inl rfl | exact Or.inr rfl | assumption) dX2_isOpen_35 ⟨rfl, ?_⟩
      simp only [kt_f_0, Classical.not_not] at c_5
      first
      | exact ⟨kt_ft ⟨c_5, Int32.not_lt.mp c_9, Int32.not_le.mp c_14, c_27⟩, rfl⟩
      | exact ⟨kt_ff (fun h => h.2.2.2 c_27), rfl⟩
      | exact ⟨kt_ff (fun h => absurd h.2.2.1 (Int32.not_lt.mpr c_14)), rfl⟩
      | exact ⟨kt_ff (fun h => absurd h.2.1 (Int32.not_le.mpr c_9)), rfl⟩
      | exact ⟨kt_ff (fun h => c_5 h.1), rfl⟩
    · skip
      refine kr_iload_n (i := 2) hX dX2_isOpen_12 rfl rfl ?_
      refine kr_iconst (v := 2) hX dX2_isOpen_13 (by decide) ?_
      refine kr_icmp_ge (tgt := 34) hX dX2_isOpen_14 (by decide) (fun c_14 => ?_) (fun c_14 => ?_)
      · skip
        refine kr_iconst (v := 0) hX dX2_isOpen_34 (by decide) ?_
        refine kr_zret hX hr (by first | exact Or.inl rfl | exact Or.inr rfl | assumption) dX2_isOpen_35 ⟨rfl, ?_⟩
        simp only [kt_f_0, Classical.not_not] at c_5
        first
        | exact ⟨kt_ft ⟨c_5, Int32.not_lt.mp c_9, Int32.not_le.mp c_14, c_27⟩, rfl⟩
        | exact ⟨kt_ff (fun h => h.2.2.2 c_27), rfl⟩
        | exact ⟨kt_ff (fun h => absurd h.2.2.1 (Int32.not_lt.mpr c_14)), rfl⟩
        | exact ⟨kt_ff (fun h => absurd h.2.1 (Int32.not_le.mpr c_9)), rfl⟩
        | exact ⟨kt_ff (fun h => c_5 h.1), rfl⟩
      · skip
        refine kr_aload_n (i := 0) hX dX2_isOpen_17 rfl rfl ?_
        refine kr_getr (c0 := 2) (k := 4) hX ⟨_, kf_2_27⟩ dX2_isOpen_18 rfl (by assumption) (by assumption) ?_
        refine kr_iconst (v := 2) hX dX2_isOpen_21 (by decide) ?_
        refine kr_iload_n (i := 1) hX dX2_isOpen_22 rfl rfl ?_
        refine kr_imul hX dX2_isOpen_23 ?_
        refine kr_iload_n (i := 2) hX dX2_isOpen_24 rfl rfl ?_
        refine kr_iadd hX dX2_isOpen_25 ?_
        refine kr_bald hX dX2_isOpen_26 (by assumption) (by simp only [kt_f_0, Classical.not_not] at c_5; exact k_e_in c_5.1 c_5.2.1 (Int32.not_lt.mp c_9) (Int32.not_le.mp c_14)) ?_
        refine kr_if_eq (tgt := 34) hX dX2_isOpen_27 (by decide) (fun c_27 => ?_) (fun c_27 => ?_)
        · skip
          refine kr_iconst (v := 0) hX dX2_isOpen_34 (by decide) ?_
          refine kr_zret hX hr (by first | exact Or.inl rfl | exact Or.inr rfl | assumption) dX2_isOpen_35 ⟨rfl, ?_⟩
          simp only [kt_f_0, Classical.not_not] at c_5
          first
          | exact ⟨kt_ft ⟨c_5, Int32.not_lt.mp c_9, Int32.not_le.mp c_14, c_27⟩, rfl⟩
          | exact ⟨kt_ff (fun h => h.2.2.2 c_27), rfl⟩
          | exact ⟨kt_ff (fun h => absurd h.2.2.1 (Int32.not_lt.mpr c_14)), rfl⟩
          | exact ⟨kt_ff (fun h => absurd h.2.1 (Int32.not_le.mpr c_9)), rfl⟩
          | exact ⟨kt_ff (fun h => c_5 h.1), rfl⟩
        · skip
          refine kr_iconst (v := 1) hX dX2_isOpen_30 (by decide) ?_
          refine kr_goto (tgt := 35) hX dX2_isOpen_31 (by decide) ?_
          refine kr_zret hX hr (by first | exact Or.inl rfl | exact Or.inr rfl | assumption) dX2_isOpen_35 ⟨rfl, ?_⟩
          simp only [kt_f_0, Classical.not_not] at c_5
          first
          | exact ⟨kt_ft ⟨c_5, Int32.not_lt.mp c_9, Int32.not_le.mp c_14, c_27⟩, rfl⟩
          | exact ⟨kt_ff (fun h => h.2.2.2 c_27), rfl⟩
          | exact ⟨kt_ff (fun h => absurd h.2.2.1 (Int32.not_lt.mpr c_14)), rfl⟩
          | exact ⟨kt_ff (fun h => absurd h.2.1 (Int32.not_le.mpr c_9)), rfl⟩
          | exact ⟨kt_ff (fun h => c_5 h.1), rfl⟩

set_option maxHeartbeats 4000000 in
set_option maxRecDepth 100000 in
theorem sp_oo {G : kt_G} {σ : kt_Y} {μ : kt_M} {a b : Int32} : kt_F G yX2_outcomeOf cX2_outcomeOf 2 (some .int) 0 [.int a, .int b] σ μ (fun r μ2 => r = some (.int (f_oo a b)) ∧ μ2 = μ) := by
  refine kt_F.of (by decide) (Nat.le_of_ble_eq_true rfl) (fun X hX hr => ?_)
  refine kr_iload_n (i := 0) hX dX2_outcomeOf_0 rfl rfl ?_
  refine kr_iload_n (i := 1) hX dX2_outcomeOf_1 rfl rfl ?_
  refine kr_icmp_ne (tgt := 7) hX dX2_outcomeOf_2 (by decide) (fun c_2 => ?_) (fun c_2 => ?_)
  · skip
    refine kr_iload_n (i := 0) hX dX2_outcomeOf_7 rfl rfl ?_
    refine kr_if_eq (tgt := 15) hX dX2_outcomeOf_8 (by decide) (fun c_8 => ?_) (fun c_8 => ?_)
    · skip
      refine kr_iconst (v := 2) hX dX2_outcomeOf_15 (by decide) ?_
      refine kr_iret hX hr dX2_outcomeOf_16 ⟨rfl, ?_⟩
      refine ⟨?_, rfl⟩
      simp_all [f_oo]
    · skip
      refine kr_iconst (v := 1) hX dX2_outcomeOf_11 (by decide) ?_
      refine kr_goto (tgt := 16) hX dX2_outcomeOf_12 (by decide) ?_
      refine kr_iret hX hr dX2_outcomeOf_16 ⟨rfl, ?_⟩
      refine ⟨?_, rfl⟩
      simp_all [f_oo]
  · skip
    refine kr_iconst (v := 0) hX dX2_outcomeOf_5 (by decide) ?_
    refine kr_iret hX hr dX2_outcomeOf_6 ⟨rfl, ?_⟩
    refine ⟨?_, rfl⟩
    simp_all [f_oo]

set_option maxHeartbeats 4000000 in
set_option maxRecDepth 100000 in
theorem sp_oat {G : kt_G} {σ : kt_Y} {μ : kt_M} {p : Nat} (hp : kt_fw σ p) {b : Int32} : kt_F G yX2_outcomeAt cX2_outcomeAt 2 (some .int) 2 [.ref p, .int b] σ μ (fun r μ2 => r = some (.int (f_oat μ p b)) ∧ μ2 = μ) := by
  refine kt_F.of (by decide) (Nat.le_of_ble_eq_true rfl) (fun X hX hr => ?_)
  have hp0 := hp
  obtain ⟨hk0, hr0, hr1, hr2, hr3, hr4, hr5, hr6, hr7, hk1, hk2, hk3, hk4, hk5, hk6, hrg, hrb, hra⟩ := hp
  refine kr_aload_n (i := 0) hX dX2_outcomeAt_0 rfl rfl ?_
  refine kr_iload_n (i := 1) hX dX2_outcomeAt_1 rfl rfl ?_
  refine kr_iconst (v := 0) hX dX2_outcomeAt_2 (by decide) ?_
  refine kr_dV (c1 := 2) [_, _] hX km_2_111 dX2_outcomeAt_3 (sp_opn hp0) rfl rfl ⟨_, _, rfl⟩ (by decide) (Nat.le_of_ble_eq_true rfl) (Nat.le_refl _) (Nat.le_refl _) (by assumption) ?_
  refine kr_aload_n (i := 0) hX dX2_outcomeAt_6 rfl rfl ?_
  refine kr_iload_n (i := 1) hX dX2_outcomeAt_7 rfl rfl ?_
  refine kr_iconst (v := 1) hX dX2_outcomeAt_8 (by decide) ?_
  refine kr_dV (c1 := 2) [_, _] hX km_2_111 dX2_outcomeAt_9 (sp_opn hp0) rfl rfl ⟨_, _, rfl⟩ (by decide) (Nat.le_of_ble_eq_true rfl) (Nat.le_refl _) (Nat.le_refl _) (by assumption) ?_
  refine kr_dS [_, _] hX km_2_115 dX2_outcomeAt_12 (sp_oo) rfl rfl (by decide) (Nat.le_of_ble_eq_true rfl) (Nat.le_refl _) (Nat.le_refl _) ?_
  refine kr_iret hX hr dX2_outcomeAt_15 ⟨rfl, ?_⟩
  exact ⟨rfl, rfl⟩

set_option maxHeartbeats 4000000 in
set_option maxRecDepth 100000 in
theorem sp_oal {G : kt_G} {σ : kt_Y} {μ : kt_M} {p : Nat} (hp : kt_fw σ p) {b s : Int32} : kt_F G yX2_outcomeAlong cX2_outcomeAlong 3 (some .int) 2 [.ref p, .int b, .int s] σ μ (fun r μ2 => r = some (.int (f_oal μ p b s)) ∧ μ2 = μ) := by
  refine kt_F.of (by decide) (Nat.le_of_ble_eq_true rfl) (fun X hX hr => ?_)
  have hp0 := hp
  obtain ⟨hk0, hr0, hr1, hr2, hr3, hr4, hr5, hr6, hr7, hk1, hk2, hk3, hk4, hk5, hk6, hrg, hrb, hra⟩ := hp
  refine kr_aload_n (i := 0) hX dX2_outcomeAlong_0 rfl rfl ?_
  refine kr_iload_n (i := 1) hX dX2_outcomeAlong_1 rfl rfl ?_
  refine kr_iload_n (i := 2) hX dX2_outcomeAlong_2 rfl rfl ?_
  refine kr_dV (c1 := 2) [_, _] hX km_2_111 dX2_outcomeAlong_3 (sp_opn hp0) rfl rfl ⟨_, _, rfl⟩ (by decide) (Nat.le_of_ble_eq_true rfl) (Nat.le_refl _) (Nat.le_refl _) (by assumption) ?_
  refine kr_if_eq (tgt := 22) hX dX2_outcomeAlong_6 (by decide) (fun c_6 => ?_) (fun c_6 => ?_)
  · skip
    refine kr_iconst (v := 0) hX dX2_outcomeAlong_22 (by decide) ?_
    refine kr_iret hX hr dX2_outcomeAlong_23 ⟨rfl, ?_⟩
    simp only [kt_f_0, Classical.not_not] at c_6
    unfold f_oal
    first | (rw [if_pos c_6]; exact ⟨rfl, rfl⟩) | (rw [if_neg c_6]; exact ⟨rfl, rfl⟩)
  · skip
    refine kr_aload_n (i := 0) hX dX2_outcomeAlong_9 rfl rfl ?_
    refine kr_getr (c0 := 2) (k := 5) hX ⟨_, kf_2_30⟩ dX2_outcomeAlong_10 rfl (by assumption) (by assumption) ?_
    refine kr_iconst (v := 2) hX dX2_outcomeAlong_13 (by decide) ?_
    refine kr_iload_n (i := 1) hX dX2_outcomeAlong_14 rfl rfl ?_
    refine kr_imul hX dX2_outcomeAlong_15 ?_
    refine kr_iload_n (i := 2) hX dX2_outcomeAlong_16 rfl rfl ?_
    refine kr_iadd hX dX2_outcomeAlong_17 ?_
    refine kr_iald hX dX2_outcomeAlong_18 (by assumption) (by simp only [kt_f_0, Classical.not_not] at c_6; exact k_e_in c_6.1.1 c_6.1.2.1 c_6.2.1 c_6.2.2.1) ?_
    refine kr_goto (tgt := 23) hX dX2_outcomeAlong_19 (by decide) ?_
    refine kr_iret hX hr dX2_outcomeAlong_23 ⟨rfl, ?_⟩
    simp only [kt_f_0, Classical.not_not] at c_6
    unfold f_oal
    first | (rw [if_pos c_6]; exact ⟨rfl, rfl⟩) | (rw [if_neg c_6]; exact ⟨rfl, rfl⟩)

set_option maxHeartbeats 4000000 in
set_option maxRecDepth 100000 in
theorem lp_rbl {G : kt_G} {σ : kt_Y} {X : kt_X} (hX : kt_ok G X RX2 cX2_reachedBlocks 3 0 0 0) (hr : kt_rt X = (some .int)) {Q : Option Value → kt_M → Prop} {p : Nat} (hp : kt_fw σ p) : ∀ (n i : Nat) (μ : kt_M) (c : Int32), i + n = 16 →  (Q (some (.int (f_cntL μ (p + 3) n i c))) μ) → kt_W G X 3 4 [(0, .ref p), (1, .int c), (2, .int (nI i))] [] σ μ 0 0 (kt_Z G X (kt_q σ Q) 0 0) := by
  have hp0 := hp
  obtain ⟨hk0, hr0, hr1, hr2, hr3, hr4, hr5, hr6, hr7, hk1, hk2, hk3, hk4, hk5, hk6, hrg, hrb, hra⟩ := hp
  intro n
  induction n with
  | zero =>
    intro i μ c hin  hQ
    have hib : i = 16 := by omega
    refine kr_iload_n (i := 2) hX dX2_reachedBlocks_4 rfl rfl ?_
    refine kr_bipush (v := 16) hX dX2_reachedBlocks_5 (by decide) ?_
    refine kr_icmp_ge (tgt := 33) hX dX2_reachedBlocks_7 (by decide) (fun c_7 => ?_) (fun c_7 => ?_)
    · skip
      refine kr_iload_n (i := 1) hX dX2_reachedBlocks_33 rfl rfl ?_
      refine kr_iret hX hr dX2_reachedBlocks_34 ⟨rfl, ?_⟩
      exact hQ
    · skip
      exact absurd (by rw [hib]; decide) c_7
  | succ n ih =>
    intro i μ c hin  hQ
    have hib : i < 16 := by omega
    refine kr_iload_n (i := 2) hX dX2_reachedBlocks_4 rfl rfl ?_
    refine kr_bipush (v := 16) hX dX2_reachedBlocks_5 (by decide) ?_
    refine kr_icmp_ge (tgt := 33) hX dX2_reachedBlocks_7 (by decide) (fun c_7 => ?_) (fun c_7 => ?_)
    · skip
      exact absurd c_7 (kt_ge rfl hib (by decide))
    · skip
      refine kr_iload_n (i := 1) hX dX2_reachedBlocks_10 rfl rfl ?_
      refine kr_aload_n (i := 0) hX dX2_reachedBlocks_11 rfl rfl ?_
      refine kr_getr (c0 := 2) (k := 2) hX ⟨_, kf_2_20⟩ dX2_reachedBlocks_12 rfl (by assumption) (by assumption) ?_
      refine kr_iload_n (i := 2) hX dX2_reachedBlocks_15 rfl rfl ?_
      refine kr_baldN hX dX2_reachedBlocks_16 (by assumption) (by omega) ?_
      refine kr_if_eq (tgt := 24) hX dX2_reachedBlocks_17 (by decide) (fun c_17 => ?_) (fun c_17 => ?_)
      · skip
        refine kr_iconst (v := 0) hX dX2_reachedBlocks_24 (by decide) ?_
        refine kr_iadd hX dX2_reachedBlocks_25 ?_
        refine kr_istore_n (i := 1) hX dX2_reachedBlocks_26 rfl (by decide) rfl rfl ?_
        refine kr_iinc (v := nI (i + 1)) hX dX2_reachedBlocks_27 rfl (by first | exact nI_1 _ | rfl) (by decide) rfl rfl ?_
        refine kr_goto (tgt := 4) hX dX2_reachedBlocks_30 (by decide) ?_
        refine ih (i + 1) _ _ (by omega) ?_
        simp only [f_cntL] at hQ
        first
        | (rw [kt_f_t c_17] at hQ; exact hQ)
        | (rw [kt_f_f (fun h => h c_17)] at hQ; exact hQ)
      · skip
        refine kr_iconst (v := 1) hX dX2_reachedBlocks_20 (by decide) ?_
        refine kr_goto (tgt := 25) hX dX2_reachedBlocks_21 (by decide) ?_
        refine kr_iadd hX dX2_reachedBlocks_25 ?_
        refine kr_istore_n (i := 1) hX dX2_reachedBlocks_26 rfl (by decide) rfl rfl ?_
        refine kr_iinc (v := nI (i + 1)) hX dX2_reachedBlocks_27 rfl (by first | exact nI_1 _ | rfl) (by decide) rfl rfl ?_
        refine kr_goto (tgt := 4) hX dX2_reachedBlocks_30 (by decide) ?_
        refine ih (i + 1) _ _ (by omega) ?_
        simp only [f_cntL] at hQ
        first
        | (rw [kt_f_t c_17] at hQ; exact hQ)
        | (rw [kt_f_f (fun h => h c_17)] at hQ; exact hQ)

set_option maxHeartbeats 4000000 in
set_option maxRecDepth 100000 in
theorem sp_rbl {G : kt_G} {σ : kt_Y} {μ : kt_M} {p : Nat} (hp : kt_fw σ p) : kt_F G yX2_reachedBlocks cX2_reachedBlocks 3 (some .int) 0 [.ref p] σ μ (fun r μ2 => r = some (.int (f_cntL μ (p + 3) 16 0 0)) ∧ μ2 = μ) := by
  refine kt_F.of (by decide) (Nat.le_of_ble_eq_true rfl) (fun X hX hr => ?_)
  have hp0 := hp
  obtain ⟨hk0, hr0, hr1, hr2, hr3, hr4, hr5, hr6, hr7, hk1, hk2, hk3, hk4, hk5, hk6, hrg, hrb, hra⟩ := hp
  refine kr_iconst (v := 0) hX dX2_reachedBlocks_0 (by decide) ?_
  refine kr_istore_n (i := 1) hX dX2_reachedBlocks_1 rfl (by decide) rfl rfl ?_
  refine kr_iconst (v := 0) hX dX2_reachedBlocks_2 (by decide) ?_
  refine kr_istore_n (i := 2) hX dX2_reachedBlocks_3 rfl (by decide) rfl rfl ?_
  exact lp_rbl hX hr hp0 16 0 _ 0 (by omega) ⟨rfl, rfl⟩

set_option maxHeartbeats 4000000 in
set_option maxRecDepth 100000 in
theorem lp_oed {G : kt_G} {σ : kt_Y} {X : kt_X} (hX : kt_ok G X RX2 cX2_openEdges 3 0 0 0) (hr : kt_rt X = (some .int)) {Q : Option Value → kt_M → Prop} {p : Nat} (hp : kt_fw σ p) : ∀ (n i : Nat) (μ : kt_M) (c : Int32), i + n = 32 →  (Q (some (.int (f_cntL μ (p + 5) n i c))) μ) → kt_W G X 3 4 [(0, .ref p), (1, .int c), (2, .int (nI i))] [] σ μ 0 0 (kt_Z G X (kt_q σ Q) 0 0) := by
  have hp0 := hp
  obtain ⟨hk0, hr0, hr1, hr2, hr3, hr4, hr5, hr6, hr7, hk1, hk2, hk3, hk4, hk5, hk6, hrg, hrb, hra⟩ := hp
  intro n
  induction n with
  | zero =>
    intro i μ c hin  hQ
    have hib : i = 32 := by omega
    refine kr_iload_n (i := 2) hX dX2_openEdges_4 rfl rfl ?_
    refine kr_bipush (v := 32) hX dX2_openEdges_5 (by decide) ?_
    refine kr_icmp_ge (tgt := 33) hX dX2_openEdges_7 (by decide) (fun c_7 => ?_) (fun c_7 => ?_)
    · skip
      refine kr_iload_n (i := 1) hX dX2_openEdges_33 rfl rfl ?_
      refine kr_iret hX hr dX2_openEdges_34 ⟨rfl, ?_⟩
      exact hQ
    · skip
      exact absurd (by rw [hib]; decide) c_7
  | succ n ih =>
    intro i μ c hin  hQ
    have hib : i < 32 := by omega
    refine kr_iload_n (i := 2) hX dX2_openEdges_4 rfl rfl ?_
    refine kr_bipush (v := 32) hX dX2_openEdges_5 (by decide) ?_
    refine kr_icmp_ge (tgt := 33) hX dX2_openEdges_7 (by decide) (fun c_7 => ?_) (fun c_7 => ?_)
    · skip
      exact absurd c_7 (kt_ge rfl hib (by decide))
    · skip
      refine kr_iload_n (i := 1) hX dX2_openEdges_10 rfl rfl ?_
      refine kr_aload_n (i := 0) hX dX2_openEdges_11 rfl rfl ?_
      refine kr_getr (c0 := 2) (k := 4) hX ⟨_, kf_2_27⟩ dX2_openEdges_12 rfl (by assumption) (by assumption) ?_
      refine kr_iload_n (i := 2) hX dX2_openEdges_15 rfl rfl ?_
      refine kr_baldN hX dX2_openEdges_16 (by assumption) (by omega) ?_
      refine kr_if_eq (tgt := 24) hX dX2_openEdges_17 (by decide) (fun c_17 => ?_) (fun c_17 => ?_)
      · skip
        refine kr_iconst (v := 0) hX dX2_openEdges_24 (by decide) ?_
        refine kr_iadd hX dX2_openEdges_25 ?_
        refine kr_istore_n (i := 1) hX dX2_openEdges_26 rfl (by decide) rfl rfl ?_
        refine kr_iinc (v := nI (i + 1)) hX dX2_openEdges_27 rfl (by first | exact nI_1 _ | rfl) (by decide) rfl rfl ?_
        refine kr_goto (tgt := 4) hX dX2_openEdges_30 (by decide) ?_
        refine ih (i + 1) _ _ (by omega) ?_
        simp only [f_cntL] at hQ
        first
        | (rw [kt_f_t c_17] at hQ; exact hQ)
        | (rw [kt_f_f (fun h => h c_17)] at hQ; exact hQ)
      · skip
        refine kr_iconst (v := 1) hX dX2_openEdges_20 (by decide) ?_
        refine kr_goto (tgt := 25) hX dX2_openEdges_21 (by decide) ?_
        refine kr_iadd hX dX2_openEdges_25 ?_
        refine kr_istore_n (i := 1) hX dX2_openEdges_26 rfl (by decide) rfl rfl ?_
        refine kr_iinc (v := nI (i + 1)) hX dX2_openEdges_27 rfl (by first | exact nI_1 _ | rfl) (by decide) rfl rfl ?_
        refine kr_goto (tgt := 4) hX dX2_openEdges_30 (by decide) ?_
        refine ih (i + 1) _ _ (by omega) ?_
        simp only [f_cntL] at hQ
        first
        | (rw [kt_f_t c_17] at hQ; exact hQ)
        | (rw [kt_f_f (fun h => h c_17)] at hQ; exact hQ)

set_option maxHeartbeats 4000000 in
set_option maxRecDepth 100000 in
theorem sp_oed {G : kt_G} {σ : kt_Y} {μ : kt_M} {p : Nat} (hp : kt_fw σ p) : kt_F G yX2_openEdges cX2_openEdges 3 (some .int) 0 [.ref p] σ μ (fun r μ2 => r = some (.int (f_cntL μ (p + 5) 32 0 0)) ∧ μ2 = μ) := by
  refine kt_F.of (by decide) (Nat.le_of_ble_eq_true rfl) (fun X hX hr => ?_)
  have hp0 := hp
  obtain ⟨hk0, hr0, hr1, hr2, hr3, hr4, hr5, hr6, hr7, hk1, hk2, hk3, hk4, hk5, hk6, hrg, hrb, hra⟩ := hp
  refine kr_iconst (v := 0) hX dX2_openEdges_0 (by decide) ?_
  refine kr_istore_n (i := 1) hX dX2_openEdges_1 rfl (by decide) rfl rfl ?_
  refine kr_iconst (v := 0) hX dX2_openEdges_2 (by decide) ?_
  refine kr_istore_n (i := 2) hX dX2_openEdges_3 rfl (by decide) rfl rfl ?_
  exact lp_oed hX hr hp0 32 0 _ 0 (by omega) ⟨rfl, rfl⟩

set_option maxHeartbeats 4000000 in
set_option maxRecDepth 100000 in
theorem sp_kn {G : kt_G} {σ : kt_Y} {μ : kt_M} {p : Nat} (hp : kt_fw σ p) {q N s : Nat} (hq : kt_pg σ q N) (hN : N ≤ 16) (hs : kt_i μ q 3 = nI s) (hsN : s ≤ N) {b : Int32} : kt_F G yX2_isKnownTest cX2_isKnownTest 3 (some .boolean) 3 [.ref p, .ref q, .int b] σ μ (fun r μ2 => r = some (.int (kt_f (f_kn μ p q b))) ∧ μ2 = μ) := by
  refine kt_F.of (by decide) (Nat.le_of_ble_eq_true rfl) (fun X hX hr => ?_)
  have hp0 := hp
  obtain ⟨hk0, hr0, hr1, hr2, hr3, hr4, hr5, hr6, hr7, hk1, hk2, hk3, hk4, hk5, hk6, hrg, hrb, hra⟩ := hp
  refine kr_aload_n (i := 0) hX dX2_isKnownTest_0 rfl rfl ?_
  refine kr_iload_n (i := 2) hX dX2_isKnownTest_1 rfl rfl ?_
  refine kr_dV (c1 := 2) [_] hX km_2_97 dX2_isKnownTest_2 (sp_rch hp0) rfl rfl ⟨_, _, rfl⟩ (by decide) (Nat.le_of_ble_eq_true rfl) (Nat.le_refl _) (Nat.le_refl _) (by assumption) ?_
  refine kr_if_eq (tgt := 31) hX dX2_isKnownTest_5 (by decide) (fun c_5 => ?_) (fun c_5 => ?_)
  · skip
    refine kr_iconst (v := 0) hX dX2_isKnownTest_31 (by decide) ?_
    refine kr_zret hX hr (by first | exact Or.inl rfl | exact Or.inr rfl | assumption) dX2_isKnownTest_32 ⟨rfl, ?_⟩
    (try simp only [kt_f_0, Classical.not_not] at c_5)
    (try simp only [kt_f_0, Classical.not_not] at c_16)
    first
    | exact ⟨kt_ft ⟨c_5, c_16, c_24⟩, rfl⟩
    | exact ⟨kt_ff (fun h => h.2.2 c_24), rfl⟩
    | exact ⟨kt_ff (fun h => c_16 h.2.1), rfl⟩
    | exact ⟨kt_ff (fun h => c_5 h.1), rfl⟩
  · skip
    refine kr_aload_n (i := 1) hX dX2_isKnownTest_8 rfl rfl ?_
    refine kr_iload_n (i := 2) hX dX2_isKnownTest_9 rfl rfl ?_
    refine kr_dV (c1 := 4) [_] hX km_2_55 dX2_isKnownTest_10 (sp_at hq hN hs hsN) rfl rfl ⟨_, _, rfl⟩ (by decide) (Nat.le_of_ble_eq_true rfl) (Nat.le_refl _) (Nat.le_refl _) (by exact hq.1) ?_
    refine kr_dV (c1 := 0) [] hX km_2_105 dX2_isKnownTest_13 (sp_isTest (hq.at_ hs hsN hN _)) rfl rfl ⟨_, _, rfl⟩ (by decide) (Nat.le_of_ble_eq_true rfl) (Nat.le_refl _) (Nat.le_refl _) (by exact (hq.at_ hs hsN hN _).1) ?_
    refine kr_if_eq (tgt := 31) hX dX2_isKnownTest_16 (by decide) (fun c_16 => ?_) (fun c_16 => ?_)
    · skip
      refine kr_iconst (v := 0) hX dX2_isKnownTest_31 (by decide) ?_
      refine kr_zret hX hr (by first | exact Or.inl rfl | exact Or.inr rfl | assumption) dX2_isKnownTest_32 ⟨rfl, ?_⟩
      (try simp only [kt_f_0, Classical.not_not] at c_5)
      (try simp only [kt_f_0, Classical.not_not] at c_16)
      first
      | exact ⟨kt_ft ⟨c_5, c_16, c_24⟩, rfl⟩
      | exact ⟨kt_ff (fun h => h.2.2 c_24), rfl⟩
      | exact ⟨kt_ff (fun h => c_16 h.2.1), rfl⟩
      | exact ⟨kt_ff (fun h => c_5 h.1), rfl⟩
    · skip
      refine kr_aload_n (i := 0) hX dX2_isKnownTest_19 rfl rfl ?_
      refine kr_iload_n (i := 2) hX dX2_isKnownTest_20 rfl rfl ?_
      refine kr_dV (c1 := 2) [_] hX km_2_108 dX2_isKnownTest_21 (sp_oat hp0) rfl rfl ⟨_, _, rfl⟩ (by decide) (Nat.le_of_ble_eq_true rfl) (Nat.le_refl _) (Nat.le_refl _) (by assumption) ?_
      refine kr_if_eq (tgt := 31) hX dX2_isKnownTest_24 (by decide) (fun c_24 => ?_) (fun c_24 => ?_)
      · skip
        refine kr_iconst (v := 0) hX dX2_isKnownTest_31 (by decide) ?_
        refine kr_zret hX hr (by first | exact Or.inl rfl | exact Or.inr rfl | assumption) dX2_isKnownTest_32 ⟨rfl, ?_⟩
        (try simp only [kt_f_0, Classical.not_not] at c_5)
        (try simp only [kt_f_0, Classical.not_not] at c_16)
        first
        | exact ⟨kt_ft ⟨c_5, c_16, c_24⟩, rfl⟩
        | exact ⟨kt_ff (fun h => h.2.2 c_24), rfl⟩
        | exact ⟨kt_ff (fun h => c_16 h.2.1), rfl⟩
        | exact ⟨kt_ff (fun h => c_5 h.1), rfl⟩
      · skip
        refine kr_iconst (v := 1) hX dX2_isKnownTest_27 (by decide) ?_
        refine kr_goto (tgt := 32) hX dX2_isKnownTest_28 (by decide) ?_
        refine kr_zret hX hr (by first | exact Or.inl rfl | exact Or.inr rfl | assumption) dX2_isKnownTest_32 ⟨rfl, ?_⟩
        (try simp only [kt_f_0, Classical.not_not] at c_5)
        (try simp only [kt_f_0, Classical.not_not] at c_16)
        first
        | exact ⟨kt_ft ⟨c_5, c_16, c_24⟩, rfl⟩
        | exact ⟨kt_ff (fun h => h.2.2 c_24), rfl⟩
        | exact ⟨kt_ff (fun h => c_16 h.2.1), rfl⟩
        | exact ⟨kt_ff (fun h => c_5 h.1), rfl⟩

set_option maxHeartbeats 4000000 in
set_option maxRecDepth 100000 in
theorem lp_kns {G : kt_G} {σ : kt_Y} {X : kt_X} (hX : kt_ok G X RX2 cX2_knownTests 4 4 0 0) (hr : kt_rt X = (some .int)) {Q : Option Value → kt_M → Prop} {p : Nat} (hp : kt_fw σ p) {q N s : Nat} (hq : kt_pg σ q N) (hN : N ≤ 16) (hsN : s ≤ N) : ∀ (n i : Nat) (μ : kt_M) (c : Int32), i + n = s → kt_i μ q 3 = nI s → (Q (some (.int (f_knL μ p q n i c))) μ) → kt_W G X 4 4 [(0, .ref p), (1, .ref q), (2, .int c), (3, .int (nI i))] [] σ μ 0 0 (kt_Z G X (kt_q σ Q) 0 0) := by
  have hp0 := hp
  obtain ⟨hk0, hr0, hr1, hr2, hr3, hr4, hr5, hr6, hr7, hk1, hk2, hk3, hk4, hk5, hk6, hrg, hrb, hra⟩ := hp
  intro n
  induction n with
  | zero =>
    intro i μ c hin hs hQ
    have hib : i = s := by omega
    refine kr_iload_n (i := 3) hX dX2_knownTests_4 rfl rfl ?_
    refine kr_aload_n (i := 1) hX dX2_knownTests_5 rfl rfl ?_
    refine kr_geti (c0 := 4) (k := 3) hX ⟨_, kf_2_45⟩ dX2_knownTests_6 rfl (by exact hq.1) ?_
    refine kr_icmp_ge (tgt := 35) hX dX2_knownTests_9 (by decide) (fun c_9 => ?_) (fun c_9 => ?_)
    · skip
      refine kr_iload_n (i := 2) hX dX2_knownTests_35 rfl rfl ?_
      refine kr_iret hX hr dX2_knownTests_36 ⟨rfl, ?_⟩
      exact hQ
    · skip
      exact absurd (by rw [hs, hib]; exact Int32.le_refl _) c_9
  | succ n ih =>
    intro i μ c hin hs hQ
    have hib : i < s := by omega
    refine kr_iload_n (i := 3) hX dX2_knownTests_4 rfl rfl ?_
    refine kr_aload_n (i := 1) hX dX2_knownTests_5 rfl rfl ?_
    refine kr_geti (c0 := 4) (k := 3) hX ⟨_, kf_2_45⟩ dX2_knownTests_6 rfl (by exact hq.1) ?_
    refine kr_icmp_ge (tgt := 35) hX dX2_knownTests_9 (by decide) (fun c_9 => ?_) (fun c_9 => ?_)
    · skip
      exact absurd c_9 (by rw [hs]; exact nI_ge hib (by omega))
    · skip
      refine kr_iload_n (i := 2) hX dX2_knownTests_12 rfl rfl ?_
      refine kr_aload_n (i := 0) hX dX2_knownTests_13 rfl rfl ?_
      refine kr_aload_n (i := 1) hX dX2_knownTests_14 rfl rfl ?_
      refine kr_iload_n (i := 3) hX dX2_knownTests_15 rfl rfl ?_
      refine kr_dV (c1 := 2) [_, _] hX km_2_101 dX2_knownTests_16 (sp_kn hp0 hq hN hs hsN) rfl rfl ⟨_, _, rfl⟩ (by decide) (Nat.le_of_ble_eq_true rfl) (Nat.le_refl _) (Nat.le_refl _) (by assumption) ?_
      refine kr_if_eq (tgt := 26) hX dX2_knownTests_19 (by decide) (fun c_19 => ?_) (fun c_19 => ?_)
      · skip
        refine kr_iconst (v := 0) hX dX2_knownTests_26 (by decide) ?_
        refine kr_iadd hX dX2_knownTests_27 ?_
        refine kr_istore_n (i := 2) hX dX2_knownTests_28 rfl (by decide) rfl rfl ?_
        refine kr_iinc (v := nI (i + 1)) hX dX2_knownTests_29 rfl (by first | exact nI_1 _ | rfl) (by decide) rfl rfl ?_
        refine kr_goto (tgt := 4) hX dX2_knownTests_32 (by decide) ?_
        simp only [kt_f_0, Classical.not_not] at c_19
        refine ih (i + 1) _ _ (by omega) hs ?_
        simp only [f_knL] at hQ
        first
        | (rw [kt_f_t c_19] at hQ; exact hQ)
        | (rw [kt_f_f c_19] at hQ; exact hQ)
      · skip
        refine kr_iconst (v := 1) hX dX2_knownTests_22 (by decide) ?_
        refine kr_goto (tgt := 27) hX dX2_knownTests_23 (by decide) ?_
        refine kr_iadd hX dX2_knownTests_27 ?_
        refine kr_istore_n (i := 2) hX dX2_knownTests_28 rfl (by decide) rfl rfl ?_
        refine kr_iinc (v := nI (i + 1)) hX dX2_knownTests_29 rfl (by first | exact nI_1 _ | rfl) (by decide) rfl rfl ?_
        refine kr_goto (tgt := 4) hX dX2_knownTests_32 (by decide) ?_
        simp only [kt_f_0, Classical.not_not] at c_19
        refine ih (i + 1) _ _ (by omega) hs ?_
        simp only [f_knL] at hQ
        first
        | (rw [kt_f_t c_19] at hQ; exact hQ)
        | (rw [kt_f_f c_19] at hQ; exact hQ)

set_option maxHeartbeats 4000000 in
set_option maxRecDepth 100000 in
theorem sp_kns {G : kt_G} {σ : kt_Y} {μ : kt_M} {p : Nat} (hp : kt_fw σ p) {q N s : Nat} (hq : kt_pg σ q N) (hN : N ≤ 16) (hs : kt_i μ q 3 = nI s) (hsN : s ≤ N) : kt_F G yX2_knownTests cX2_knownTests 4 (some .int) 4 [.ref p, .ref q] σ μ (fun r μ2 => r = some (.int (f_knL μ p q s 0 0)) ∧ μ2 = μ) := by
  refine kt_F.of (by decide) (Nat.le_of_ble_eq_true rfl) (fun X hX hr => ?_)
  have hp0 := hp
  obtain ⟨hk0, hr0, hr1, hr2, hr3, hr4, hr5, hr6, hr7, hk1, hk2, hk3, hk4, hk5, hk6, hrg, hrb, hra⟩ := hp
  refine kr_iconst (v := 0) hX dX2_knownTests_0 (by decide) ?_
  refine kr_istore_n (i := 2) hX dX2_knownTests_1 rfl (by decide) rfl rfl ?_
  refine kr_iconst (v := 0) hX dX2_knownTests_2 (by decide) ?_
  refine kr_istore_n (i := 3) hX dX2_knownTests_3 rfl (by decide) rfl rfl ?_
  exact lp_kns hX hr hp0 hq hN hsN s 0 _ 0 (by omega) hs ⟨rfl, rfl⟩

set_option maxHeartbeats 4000000 in
set_option maxRecDepth 100000 in
theorem sp_oa {G : kt_G} {σ : kt_Y} {μ : kt_M} {p : Nat} (hp : kt_fw σ p) {k : Nat} (hb : kt_blk σ k) (hkp : p + 207 ≤ k ∨ k + 4 ≤ p) (hn : kf_n μ p) {s : Int32} : kt_F G yX2_opensAfter cX2_opensAfter 3 (some .boolean) 3 [.ref p, .ref k, .int s] σ μ (fun r μ2 => r = some (.int (kt_f (m_all (f_oa μ p k s) (p + 7 + 4 * 1)))) ∧ μ2 = f_oa μ p k s) := by
  refine kt_F.of (by decide) (Nat.le_of_ble_eq_true rfl) (fun X hX hr => ?_)
  have hp0 := hp
  obtain ⟨hk0, hr0, hr1, hr2, hr3, hr4, hr5, hr6, hr7, hk1, hk2, hk3, hk4, hk5, hk6, hrg, hrb, hra⟩ := hp
  refine kr_aload_n (i := 0) hX dX2_opensAfter_0 rfl rfl ?_
  refine kr_getr (c0 := 2) (k := 7) hX ⟨_, kf_2_39⟩ dX2_opensAfter_1 rfl (by assumption) (by assumption) ?_
  refine kr_aload_n (i := 0) hX dX2_opensAfter_4 rfl rfl ?_
  refine kr_getr (c0 := 2) (k := 6) hX ⟨_, kf_2_35⟩ dX2_opensAfter_5 rfl (by assumption) (by assumption) ?_
  refine kr_dV (c1 := 5) [_] hX km_2_63 dX2_opensAfter_8 (sp_rcopy (hrg 1 (by decide)) (hrg 0 (by decide)) (by omega) (hn 0 (by decide))) rfl rfl ⟨_, _, rfl⟩ (by decide) (Nat.le_of_ble_eq_true rfl) (Nat.le_refl _) (Nat.le_refl _) (by exact (hrg 1 (by decide)).1) ?_
  refine kr_aload_n (i := 0) hX dX2_opensAfter_11 rfl rfl ?_
  refine kr_getr (c0 := 2) (k := 7) hX ⟨_, kf_2_39⟩ dX2_opensAfter_12 rfl (by assumption) (by assumption) ?_
  refine kr_aload_n (i := 1) hX dX2_opensAfter_15 rfl rfl ?_
  refine kr_iload_n (i := 2) hX dX2_opensAfter_16 rfl rfl ?_
  refine kr_dV (c1 := 5) [_, _] hX km_2_77 dX2_opensAfter_17 (sp_side (hrg 1 (by decide)) hb (by omega)) rfl rfl ⟨_, _, rfl⟩ (by decide) (Nat.le_of_ble_eq_true rfl) (Nat.le_refl _) (Nat.le_refl _) (by exact (hrg 1 (by decide)).1) ?_
  refine kr_aload_n (i := 0) hX dX2_opensAfter_20 rfl rfl ?_
  refine kr_getr (c0 := 2) (k := 7) hX ⟨_, kf_2_39⟩ dX2_opensAfter_21 rfl (by assumption) (by assumption) ?_
  refine kr_dV (c1 := 5) [] hX km_2_81 dX2_opensAfter_24 (sp_leaves (hrg 1 (by decide))) rfl rfl ⟨_, _, rfl⟩ (by decide) (Nat.le_of_ble_eq_true rfl) (Nat.le_refl _) (Nat.le_refl _) (by exact (hrg 1 (by decide)).1) ?_
  refine kr_zret hX hr (kt_f_01) dX2_opensAfter_27 ⟨rfl, ?_⟩
  exact ⟨rfl, rfl⟩


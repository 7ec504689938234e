theorem f_ent_out {μ : kt_M} {p r x k : Nat} {b : Int32} (h : x < p + 3 ∨ p + 207 ≤ x) : kt_i (f_ent μ p b r) x k = kt_i μ x k := by
  unfold f_ent
  split
  · rename_i hb
    obtain ⟨j, hj, e⟩ := k_in16 hb.1 hb.2
    have e2 : b.toNatClampNeg = j := by rw [e]; exact nI_clamp (by omega)
    rw [e2]
    dsimp only
    rw [kt_seal_eq]
    split
    · rw [kt_i_sin (by omega), kt_i_sin (by omega)]; exact m_joinL_out (by omega) _ _ _ _
    · exact m_joinL_out (by omega) _ _ _ _
  · rfl
theorem f_ent_n {μ : kt_M} {p r : Nat} {b : Int32} (h : kf_n μ p) : kf_n (f_ent μ p b r) p := by
  unfold f_ent
  split
  · rename_i hb
    obtain ⟨j, hj, e⟩ := k_in16 hb.1 hb.2
    have e2 : b.toNatClampNeg = j := by rw [e]; exact nI_clamp (by omega)
    rw [e2]
    dsimp only
    rw [kt_seal_eq]
    have h1 : kf_n (m_join μ (p + 7 + 4 * (2 + j)) r).1 p := h.put (j := 2 + j) (fun x k hx => m_joinL_out hx _ _ _ _) (m_joinL_01 _ _ _ _ (h _ (by omega)))
    split
    · exact h1.far (fun x k h1 h2 => by rw [kt_i_sin (by omega), kt_i_sin (by omega)])
    · exact h1
  · exact h
noncomputable def f_sd (μ : kt_M) (p j k i : Nat) : kt_M :=
  let μ1 := m_side (m_cp μ (p + 7 + 4 * (18 + (2 * j + i))) (p + 7)) (p + 7 + 4 * (18 + (2 * j + i))) k (nI i)
  if m_all μ1 (p + 7 + 4 * (18 + (2 * j + i))) then f_ent (kt_si μ1 (p + 5) (2 * j + i) 1) p (k_tg (kt_si μ1 (p + 5) (2 * j + i) 1) k (nI i)) (p + 7 + 4 * (18 + (2 * j + i))) else μ1
noncomputable def f_sdL (p j k : Nat) : Nat → Nat → kt_M → kt_M
  | 0, _, μ => μ
  | n + 1, i, μ => f_sdL p j k n (i + 1) (f_sd μ p j k i)
noncomputable def f_lv (μ : kt_M) (p j k : Nat) : kt_M := f_sdL p j k (k_ne μ k) 0 (m_actsL (p + 7) k (kt_i μ k 0).toNatClampNeg 0 (m_cp μ (p + 7) (p + 7 + 4 * (2 + j))))
theorem f_sd_out {μ : kt_M} {p j k i x y : Nat} (hj : j < 16) (hi : i < 2) (h : x < p + 3 ∨ p + 207 ≤ x) : kt_i (f_sd μ p j k i) x y = kt_i μ x y := by
  unfold f_sd
  dsimp only
  split
  · rw [f_ent_out h, kt_i_sin (by omega), m_side_out (by omega), m_cp_out (by omega)]
  · rw [m_side_out (by omega), m_cp_out (by omega)]
theorem f_sd_n {μ : kt_M} {p j k i : Nat} (hj : j < 16) (hi : i < 2) (h : kf_n μ p) : kf_n (f_sd μ p j k i) p := by
  unfold f_sd
  dsimp only
  have h1 : kf_n (m_cp μ (p + 7 + 4 * (18 + (2 * j + i))) (p + 7)) p := h.put (j := 18 + (2 * j + i)) (fun x k hx => m_cp_out hx) (m_cp_01 (h _ (by omega)) (h 0 (by decide)) (by omega))
  have h2 : kf_n (m_side (m_cp μ (p + 7 + 4 * (18 + (2 * j + i))) (p + 7)) (p + 7 + 4 * (18 + (2 * j + i))) k (nI i)) p := h1.put (j := 18 + (2 * j + i)) (fun x k hx => m_side_out hx) (m_side_01 (h1 _ (by omega)))
  split
  · exact f_ent_n (h2.far (fun x k h1 h2 => by rw [kt_i_sin (by omega)]))
  · exact h2
theorem f_sdL_out {p j k x y : Nat} (hj : j < 16) (h : x < p + 3 ∨ p + 207 ≤ x) : ∀ (n i : Nat) (μ : kt_M), i + n ≤ 2 → kt_i (f_sdL p j k n i μ) x y = kt_i μ x y
  | 0, _, _, _ => rfl
  | n + 1, i, μ, hi => by rw [f_sdL, f_sdL_out hj h n (i + 1) _ (by omega), f_sd_out hj (by omega) h]
theorem f_sdL_n {p j k : Nat} (hj : j < 16) : ∀ (n i : Nat) (μ : kt_M), i + n ≤ 2 → kf_n μ p → kf_n (f_sdL p j k n i μ) p
  | 0, _, _, _, h => h
  | n + 1, i, μ, hi, h => f_sdL_n hj n (i + 1) _ (by omega) (f_sd_n hj (by omega) h)
theorem f_lv_out {μ : kt_M} {p j k x y : Nat} (hj : j < 16) (h : x < p + 3 ∨ p + 207 ≤ x) : kt_i (f_lv μ p j k) x y = kt_i μ x y := by
  unfold f_lv
  rw [f_sdL_out hj h _ _ _ (by have := (k_ne_eq μ k).1; omega), m_actsL_out (by omega), m_cp_out (by omega)]
theorem f_lv_n0 {μ : kt_M} {p j k : Nat} (hj : j < 16) (h : kf_n μ p) : kf_n (m_actsL (p + 7) k (kt_i μ k 0).toNatClampNeg 0 (m_cp μ (p + 7) (p + 7 + 4 * (2 + j)))) p := by
  have h1 : kf_n (m_cp μ (p + 7) (p + 7 + 4 * (2 + j))) p := h.put (j := 0) (fun x k hx => m_cp_out hx) (m_cp_01 (h 0 (by decide)) (h _ (by omega)) (by omega))
  exact h1.put (j := 0) (fun x k hx => m_actsL_out hx _ _ _) (m_actsL_01 _ _ _ (h1 0 (by decide)))
theorem f_lv_n {μ : kt_M} {p j k : Nat} (hj : j < 16) (h : kf_n μ p) : kf_n (f_lv μ p j k) p := by
  unfold f_lv
  exact f_sdL_n hj _ _ _ (by have := (k_ne_eq μ k).1; omega) (f_lv_n0 hj h)
set_option maxHeartbeats 4000000 in
set_option maxRecDepth 100000 in
theorem sp_ent {G : kt_G} {σ : kt_Y} {μ : kt_M} {p : Nat} (hp : kt_fw σ p) {b : Int32} {e : Nat} (he : e < 32) : kt_F G yX2_enter cX2_enter 4 none 1 [.ref p, .int b, .ref (p + 7 + 4 * (18 + e))] σ μ (fun r μ2 => r = none ∧ μ2 = f_ent μ p b (p + 7 + 4 * (18 + e))) := by
  refine kt_F.of (by decide) (Nat.le_of_ble_eq_true rfl) (fun X hX hr => ?_)
  have hp0 := hp
  obtain ⟨hk0, hr0, hr1, hr2, hr3, hr4, hr5, hr6, hr7, hk1, hk2, hk3, hk4, hk5, hk6, hrg, hrb, hra⟩ := hp
  have hjx : ¬ b < 0 → ¬ (16 : Int32) ≤ b → b.toNatClampNeg < 16 := fun h1 h2 => by
    obtain ⟨j, hj, e⟩ := k_in16 (Int32.not_lt.mp h1) (Int32.not_le.mp h2)
    rw [e, nI_clamp (by omega)]; exact hj
  refine kr_iload_n (i := 1) hX dX2_enter_0 rfl rfl ?_
  refine kr_if_lt (tgt := 48) hX dX2_enter_1 (by decide) (fun c_1 => ?_) (fun c_1 => ?_)
  · skip
    refine kr_vret hX hr dX2_enter_48 ⟨rfl, ?_⟩
    refine ⟨rfl, ?_⟩
    unfold f_ent
    first
    | exact (if_neg (fun h => absurd h.1 (Int32.not_le.mpr c_1))).symm
    | exact (if_neg (fun h => absurd h.2 (Int32.not_lt.mpr c_7))).symm
    | exact ((if_pos ⟨Int32.not_lt.mp c_1, Int32.not_le.mp c_7⟩).trans (if_pos (Or.inl c_22))).symm
    | exact ((if_pos ⟨Int32.not_lt.mp c_1, Int32.not_le.mp c_7⟩).trans (if_pos (Or.inr c_31))).symm
    | exact ((if_pos ⟨Int32.not_lt.mp c_1, Int32.not_le.mp c_7⟩).trans (if_neg (fun h => h.elim (fun h2 => h2 c_22) c_31))).symm
  · skip
    refine kr_iload_n (i := 1) hX dX2_enter_4 rfl rfl ?_
    refine kr_bipush (v := 16) hX dX2_enter_5 (by decide) ?_
    refine kr_icmp_ge (tgt := 48) hX dX2_enter_7 (by decide) (fun c_7 => ?_) (fun c_7 => ?_)
    · skip
      refine kr_vret hX hr dX2_enter_48 ⟨rfl, ?_⟩
      refine ⟨rfl, ?_⟩
      unfold f_ent
      first
      | exact (if_neg (fun h => absurd h.1 (Int32.not_le.mpr c_1))).symm
      | exact (if_neg (fun h => absurd h.2 (Int32.not_lt.mpr c_7))).symm
      | exact ((if_pos ⟨Int32.not_lt.mp c_1, Int32.not_le.mp c_7⟩).trans (if_pos (Or.inl c_22))).symm
      | exact ((if_pos ⟨Int32.not_lt.mp c_1, Int32.not_le.mp c_7⟩).trans (if_pos (Or.inr c_31))).symm
      | exact ((if_pos ⟨Int32.not_lt.mp c_1, Int32.not_le.mp c_7⟩).trans (if_neg (fun h => h.elim (fun h2 => h2 c_22) c_31))).symm
    · skip
      refine kr_aload_n (i := 0) hX dX2_enter_10 rfl rfl ?_
      refine kr_getr (c0 := 2) (k := 0) hX ⟨_, kf_2_11⟩ dX2_enter_11 rfl (by assumption) (by assumption) ?_
      refine kr_iload_n (i := 1) hX dX2_enter_14 rfl rfl ?_
      refine kr_aald (t := 2) hX dX2_enter_15 (by decide) (by assumption) (by exact vp_in_iff.mpr (by have h5 := c_1; have h6 := c_7; simp only [Int32.le_iff_toInt_le, Int32.lt_iff_toInt_lt, ki_0, ki_16] at h5 h6 ⊢; omega)) (by exact hrb _ (hjx c_1 c_7)) ?_
      refine kr_aload_n (i := 2) hX dX2_enter_16 rfl rfl ?_
      refine kr_dV (c1 := 5) [_] hX km_2_93 dX2_enter_17 (sp_joinS (hrg _ (by have := hjx c_1 c_7; omega)) (hrg _ (by omega)) (by have := hjx c_1 c_7; omega)) rfl rfl ⟨_, _, rfl⟩ (by decide) (Nat.le_of_ble_eq_true rfl) (Nat.le_refl _) (Nat.le_refl _) (by exact (hrg _ (by have := hjx c_1 c_7; omega)).1) ?_
      refine kr_istore_n (i := 3) hX dX2_enter_20 rfl (by decide) rfl rfl ?_
      refine kr_iload_n (i := 3) hX dX2_enter_21 rfl rfl ?_
      refine kr_if_ne (tgt := 34) hX dX2_enter_22 (by decide) (fun c_22 => ?_) (fun c_22 => ?_)
      · skip
        refine kr_aload_n (i := 0) hX dX2_enter_34 rfl rfl ?_
        refine kr_getr (c0 := 2) (k := 2) hX ⟨_, kf_2_20⟩ dX2_enter_35 rfl (by assumption) (by assumption) ?_
        refine kr_iload_n (i := 1) hX dX2_enter_38 rfl rfl ?_
        refine kr_iconst (v := 1) hX dX2_enter_39 (by decide) ?_
        refine kr_bast hX dX2_enter_40 (by first | exact Or.inl rfl | exact Or.inr rfl | assumption) (by assumption) (by exact vp_in_iff.mpr (by have h5 := c_1; have h6 := c_7; simp only [Int32.le_iff_toInt_le, Int32.lt_iff_toInt_lt, ki_0, ki_16] at h5 h6 ⊢; omega)) ?_
        refine kr_aload_n (i := 0) hX dX2_enter_41 rfl rfl ?_
        refine kr_getr (c0 := 2) (k := 3) hX ⟨_, kf_2_24⟩ dX2_enter_42 rfl (by assumption) (by assumption) ?_
        refine kr_iload_n (i := 1) hX dX2_enter_45 rfl rfl ?_
        refine kr_iconst (v := 1) hX dX2_enter_46 (by decide) ?_
        refine kr_bast hX dX2_enter_47 (by first | exact Or.inl rfl | exact Or.inr rfl | assumption) (by assumption) (by exact vp_in_iff.mpr (by have h5 := c_1; have h6 := c_7; simp only [Int32.le_iff_toInt_le, Int32.lt_iff_toInt_lt, ki_0, ki_16] at h5 h6 ⊢; omega)) ?_
        refine kr_vret hX hr dX2_enter_48 ⟨rfl, ?_⟩
        refine ⟨rfl, ?_⟩
        unfold f_ent
        first
        | exact (if_neg (fun h => absurd h.1 (Int32.not_le.mpr c_1))).symm
        | exact (if_neg (fun h => absurd h.2 (Int32.not_lt.mpr c_7))).symm
        | exact ((if_pos ⟨Int32.not_lt.mp c_1, Int32.not_le.mp c_7⟩).trans (if_pos (Or.inl c_22))).symm
        | exact ((if_pos ⟨Int32.not_lt.mp c_1, Int32.not_le.mp c_7⟩).trans (if_pos (Or.inr c_31))).symm
        | exact ((if_pos ⟨Int32.not_lt.mp c_1, Int32.not_le.mp c_7⟩).trans (if_neg (fun h => h.elim (fun h2 => h2 c_22) c_31))).symm
      · skip
        refine kr_aload_n (i := 0) hX dX2_enter_25 rfl rfl ?_
        refine kr_getr (c0 := 2) (k := 2) hX ⟨_, kf_2_20⟩ dX2_enter_26 rfl (by assumption) (by assumption) ?_
        refine kr_iload_n (i := 1) hX dX2_enter_29 rfl rfl ?_
        refine kr_bald hX dX2_enter_30 (by assumption) (by exact vp_in_iff.mpr (by have h5 := c_1; have h6 := c_7; simp only [Int32.le_iff_toInt_le, Int32.lt_iff_toInt_lt, ki_0, ki_16] at h5 h6 ⊢; omega)) ?_
        refine kr_if_ne (tgt := 48) hX dX2_enter_31 (by decide) (fun c_31 => ?_) (fun c_31 => ?_)
        · skip
          refine kr_vret hX hr dX2_enter_48 ⟨rfl, ?_⟩
          refine ⟨rfl, ?_⟩
          unfold f_ent
          first
          | exact (if_neg (fun h => absurd h.1 (Int32.not_le.mpr c_1))).symm
          | exact (if_neg (fun h => absurd h.2 (Int32.not_lt.mpr c_7))).symm
          | exact ((if_pos ⟨Int32.not_lt.mp c_1, Int32.not_le.mp c_7⟩).trans (if_pos (Or.inl c_22))).symm
          | exact ((if_pos ⟨Int32.not_lt.mp c_1, Int32.not_le.mp c_7⟩).trans (if_pos (Or.inr c_31))).symm
          | exact ((if_pos ⟨Int32.not_lt.mp c_1, Int32.not_le.mp c_7⟩).trans (if_neg (fun h => h.elim (fun h2 => h2 c_22) c_31))).symm
        · skip
          refine kr_aload_n (i := 0) hX dX2_enter_34 rfl rfl ?_
          refine kr_getr (c0 := 2) (k := 2) hX ⟨_, kf_2_20⟩ dX2_enter_35 rfl (by assumption) (by assumption) ?_
          refine kr_iload_n (i := 1) hX dX2_enter_38 rfl rfl ?_
          refine kr_iconst (v := 1) hX dX2_enter_39 (by decide) ?_
          refine kr_bast hX dX2_enter_40 (by first | exact Or.inl rfl | exact Or.inr rfl | assumption) (by assumption) (by exact vp_in_iff.mpr (by have h5 := c_1; have h6 := c_7; simp only [Int32.le_iff_toInt_le, Int32.lt_iff_toInt_lt, ki_0, ki_16] at h5 h6 ⊢; omega)) ?_
          refine kr_aload_n (i := 0) hX dX2_enter_41 rfl rfl ?_
          refine kr_getr (c0 := 2) (k := 3) hX ⟨_, kf_2_24⟩ dX2_enter_42 rfl (by assumption) (by assumption) ?_
          refine kr_iload_n (i := 1) hX dX2_enter_45 rfl rfl ?_
          refine kr_iconst (v := 1) hX dX2_enter_46 (by decide) ?_
          refine kr_bast hX dX2_enter_47 (by first | exact Or.inl rfl | exact Or.inr rfl | assumption) (by assumption) (by exact vp_in_iff.mpr (by have h5 := c_1; have h6 := c_7; simp only [Int32.le_iff_toInt_le, Int32.lt_iff_toInt_lt, ki_0, ki_16] at h5 h6 ⊢; omega)) ?_
          refine kr_vret hX hr dX2_enter_48 ⟨rfl, ?_⟩
          refine ⟨rfl, ?_⟩
          unfold f_ent
          first
          | exact (if_neg (fun h => absurd h.1 (Int32.not_le.mpr c_1))).symm
          | exact (if_neg (fun h => absurd h.2 (Int32.not_lt.mpr c_7))).symm
          | exact ((if_pos ⟨Int32.not_lt.mp c_1, Int32.not_le.mp c_7⟩).trans (if_pos (Or.inl c_22))).symm
          | exact ((if_pos ⟨Int32.not_lt.mp c_1, Int32.not_le.mp c_7⟩).trans (if_pos (Or.inr c_31))).symm
          | exact ((if_pos ⟨Int32.not_lt.mp c_1, Int32.not_le.mp c_7⟩).trans (if_neg (fun h => h.elim (fun h2 => h2 c_22) c_31))).symm

set_option maxHeartbeats 4000000 in
set_option maxRecDepth 100000 in
theorem lp_lv {G : kt_G} {σ : kt_Y} {X : kt_X} (hX : kt_ok G X RX2 cX2_leave 5 4 0 0) (hr : kt_rt X = none) {Q : Option Value → kt_M → Prop} {p : Nat} (hp : kt_fw σ p) {k : Nat} (hb : kt_blk σ k) (hkp : p + 207 ≤ k ∨ k + 4 ≤ p) {j : Nat} (hj : j < 16) {e : Nat} (he : e ≤ 2) : ∀ (n i : Nat) (μ : kt_M) , i + n = e → kb_edges (kt_i μ k 4) = nI e → kf_n μ p → (Q none (f_sdL p j k n i μ)) → kt_W G X 5 23 [(0, .ref p), (1, .int (nI j)), (2, .ref k), (3, .int (nI i))] [] σ μ 0 0 (kt_Z G X (kt_q σ Q) 0 0) := by
  have hp0 := hp
  obtain ⟨hk0, hr0, hr1, hr2, hr3, hr4, hr5, hr6, hr7, hk1, hk2, hk3, hk4, hk5, hk6, hrg, hrb, hra⟩ := hp
  intro n
  induction n with
  | zero =>
    intro i μ hin hE hn hQ
    have hib : i = e := by omega
    refine kr_iload_n (i := 3) hX dX2_leave_23 rfl rfl ?_
    refine kr_aload_n (i := 2) hX dX2_leave_24 rfl rfl ?_
    refine kr_dV (c1 := 0) [] hX km_2_71 dX2_leave_25 (sp_edges hb) rfl rfl ⟨_, _, rfl⟩ (by decide) (Nat.le_of_ble_eq_true rfl) (Nat.le_refl _) (Nat.le_refl _) (by exact hb.1) ?_
    refine kr_icmp_ge (tgt := 112) hX dX2_leave_28 (by decide) (fun c_28 => ?_) (fun c_28 => ?_)
    · skip
      refine kr_vret hX hr dX2_leave_112 ⟨rfl, ?_⟩
      exact hQ
    · skip
      exact absurd (by rw [hE, hib]; exact Int32.le_refl _) c_28
  | succ n ih =>
    intro i μ hin hE hn hQ
    have hib : i < e := by omega
    refine kr_iload_n (i := 3) hX dX2_leave_23 rfl rfl ?_
    refine kr_aload_n (i := 2) hX dX2_leave_24 rfl rfl ?_
    refine kr_dV (c1 := 0) [] hX km_2_71 dX2_leave_25 (sp_edges hb) rfl rfl ⟨_, _, rfl⟩ (by decide) (Nat.le_of_ble_eq_true rfl) (Nat.le_refl _) (Nat.le_refl _) (by exact hb.1) ?_
    refine kr_icmp_ge (tgt := 112) hX dX2_leave_28 (by decide) (fun c_28 => ?_) (fun c_28 => ?_)
    · skip
      exact absurd c_28 (by rw [hE]; exact nI_ge hib (by omega))
    · skip
      refine kr_iload_n (i := 3) hX dX2_leave_31 rfl rfl ?_
      refine kr_iconst (v := 2) hX dX2_leave_32 (by decide) ?_
      refine kr_icmp_ge (tgt := 112) hX dX2_leave_33 (by decide) (fun c_33 => ?_) (fun c_33 => ?_)
      · skip
        exact absurd c_33 (kt_ge (b := 2) rfl (by omega) (by decide))
      · skip
        refine kr_iconst (v := 2) hX dX2_leave_36 (by decide) ?_
        refine kr_iload_n (i := 1) hX dX2_leave_37 rfl rfl ?_
        refine kr_imul hX dX2_leave_38 ?_
        refine kr_iload_n (i := 3) hX dX2_leave_39 rfl rfl ?_
        refine kr_iadd hX dX2_leave_40 ?_
        refine kr_rw (y := nI (2 * j + i)) (by exact k_e2 j i) ?_
        refine kr_istore hX dX2_leave_41 (by decide) rfl rfl ?_
        refine kr_aload_n (i := 0) hX dX2_leave_43 rfl rfl ?_
        refine kr_getr (c0 := 2) (k := 1) hX ⟨_, kf_2_17⟩ dX2_leave_44 rfl (by assumption) (by assumption) ?_
        refine kr_iload hX dX2_leave_47 rfl ?_
        refine kr_aaldN (t := 2) hX dX2_leave_49 (by decide) (by assumption) (by omega) (by exact hra _ (by omega)) ?_
        refine kr_aload_n (i := 0) hX dX2_leave_50 rfl rfl ?_
        refine kr_getr (c0 := 2) (k := 6) hX ⟨_, kf_2_35⟩ dX2_leave_51 rfl (by assumption) (by assumption) ?_
        refine kr_dV (c1 := 5) [_] hX km_2_63 dX2_leave_54 (sp_rcopy (hrg _ (by omega)) (hrg 0 (by decide)) (by omega) (hn 0 (by decide))) rfl rfl ⟨_, _, rfl⟩ (by decide) (Nat.le_of_ble_eq_true rfl) (Nat.le_refl _) (Nat.le_refl _) (by exact (hrg _ (by omega)).1) ?_
        refine kr_aload_n (i := 0) hX dX2_leave_57 rfl rfl ?_
        refine kr_getr (c0 := 2) (k := 1) hX ⟨_, kf_2_17⟩ dX2_leave_58 rfl (by assumption) (by assumption) ?_
        refine kr_iload hX dX2_leave_61 rfl ?_
        refine kr_aaldN (t := 2) hX dX2_leave_63 (by decide) (by assumption) (by omega) (by exact hra _ (by omega)) ?_
        refine kr_aload_n (i := 2) hX dX2_leave_64 rfl rfl ?_
        refine kr_iload_n (i := 3) hX dX2_leave_65 rfl rfl ?_
        refine kr_dV (c1 := 5) [_, _] hX km_2_77 dX2_leave_66 (sp_side (hrg _ (by omega)) hb (by omega)) rfl rfl ⟨_, _, rfl⟩ (by decide) (Nat.le_of_ble_eq_true rfl) (Nat.le_refl _) (Nat.le_refl _) (by exact (hrg _ (by omega)).1) ?_
        refine kr_aload_n (i := 0) hX dX2_leave_69 rfl rfl ?_
        refine kr_getr (c0 := 2) (k := 1) hX ⟨_, kf_2_17⟩ dX2_leave_70 rfl (by assumption) (by assumption) ?_
        refine kr_iload hX dX2_leave_73 rfl ?_
        refine kr_aaldN (t := 2) hX dX2_leave_75 (by decide) (by assumption) (by omega) (by exact hra _ (by omega)) ?_
        refine kr_dV (c1 := 5) [] hX km_2_81 dX2_leave_76 (sp_leaves (hrg _ (by omega))) rfl rfl ⟨_, _, rfl⟩ (by decide) (Nat.le_of_ble_eq_true rfl) (Nat.le_refl _) (Nat.le_refl _) (by exact (hrg _ (by omega)).1) ?_
        refine kr_if_eq (tgt := 106) hX dX2_leave_79 (by decide) (fun c_79 => ?_) (fun c_79 => ?_)
        · skip
          refine kr_iinc (v := nI (i + 1)) hX dX2_leave_106 rfl (by first | exact nI_1 _ | rfl) (by decide) rfl rfl ?_
          refine kr_goto (tgt := 23) hX dX2_leave_109 (by decide) ?_
          refine kr_keep [0, 1, 2, 3] rfl ?_
          simp only [kt_f_0, Classical.not_not] at c_79
          have es : f_sd μ p j k i = f_sd μ p j k i := rfl
          first
          | (have es : f_sd μ p j k i = m_side (m_cp μ (p + 7 + 4 * (18 + (2 * j + i))) (p + 7)) (p + 7 + 4 * (18 + (2 * j + i))) k (nI i) := if_neg c_79
             rw [f_sdL, es] at hQ
             refine ih (i + 1) _ (by omega) ?_ ?_ hQ
             · rw [← es, f_sd_out hj (by omega) (by omega)]; exact hE
             · rw [← es]; exact f_sd_n hj (by omega) hn)
          | (have es := (show f_sd μ p j k i = _ from if_pos c_79)
             rw [f_sdL, es] at hQ
             refine ih (i + 1) _ (by omega) ?_ ?_ hQ
             · rw [← es, f_sd_out hj (by omega) (by omega)]; exact hE
             · rw [← es]; exact f_sd_n hj (by omega) hn)
        · skip
          refine kr_aload_n (i := 0) hX dX2_leave_82 rfl rfl ?_
          refine kr_getr (c0 := 2) (k := 4) hX ⟨_, kf_2_27⟩ dX2_leave_83 rfl (by assumption) (by assumption) ?_
          refine kr_iload hX dX2_leave_86 rfl ?_
          refine kr_iconst (v := 1) hX dX2_leave_88 (by decide) ?_
          refine kr_bastN hX dX2_leave_89 (by first | exact Or.inl rfl | exact Or.inr rfl | assumption) (by assumption) (by omega) ?_
          refine kr_aload_n (i := 0) hX dX2_leave_90 rfl rfl ?_
          refine kr_aload_n (i := 2) hX dX2_leave_91 rfl rfl ?_
          refine kr_iload_n (i := 3) hX dX2_leave_92 rfl rfl ?_
          refine kr_dV (c1 := 0) [_] hX km_2_85 dX2_leave_93 (sp_target hb) rfl rfl ⟨_, _, rfl⟩ (by decide) (Nat.le_of_ble_eq_true rfl) (Nat.le_refl _) (Nat.le_refl _) (by exact hb.1) ?_
          refine kr_aload_n (i := 0) hX dX2_leave_96 rfl rfl ?_
          refine kr_getr (c0 := 2) (k := 1) hX ⟨_, kf_2_17⟩ dX2_leave_97 rfl (by assumption) (by assumption) ?_
          refine kr_iload hX dX2_leave_100 rfl ?_
          refine kr_aaldN (t := 2) hX dX2_leave_102 (by decide) (by assumption) (by omega) (by exact hra _ (by omega)) ?_
          refine kr_dV (c1 := 2) [_, _] hX km_2_89 dX2_leave_103 (sp_ent hp0 (by omega)) rfl rfl ⟨_, _, rfl⟩ (by decide) (Nat.le_of_ble_eq_true rfl) (Nat.le_refl _) (Nat.le_refl _) (by assumption) ?_
          refine kr_iinc (v := nI (i + 1)) hX dX2_leave_106 rfl (by first | exact nI_1 _ | rfl) (by decide) rfl rfl ?_
          refine kr_goto (tgt := 23) hX dX2_leave_109 (by decide) ?_
          refine kr_keep [0, 1, 2, 3] rfl ?_
          simp only [kt_f_0, Classical.not_not] at c_79
          have es : f_sd μ p j k i = f_sd μ p j k i := rfl
          first
          | (have es : f_sd μ p j k i = m_side (m_cp μ (p + 7 + 4 * (18 + (2 * j + i))) (p + 7)) (p + 7 + 4 * (18 + (2 * j + i))) k (nI i) := if_neg c_79
             rw [f_sdL, es] at hQ
             refine ih (i + 1) _ (by omega) ?_ ?_ hQ
             · rw [← es, f_sd_out hj (by omega) (by omega)]; exact hE
             · rw [← es]; exact f_sd_n hj (by omega) hn)
          | (have es := (show f_sd μ p j k i = _ from if_pos c_79)
             rw [f_sdL, es] at hQ
             refine ih (i + 1) _ (by omega) ?_ ?_ hQ
             · rw [← es, f_sd_out hj (by omega) (by omega)]; exact hE
             · rw [← es]; exact f_sd_n hj (by omega) hn)

set_option maxHeartbeats 4000000 in
set_option maxRecDepth 100000 in
theorem sp_lv {G : kt_G} {σ : kt_Y} {μ : kt_M} {p : Nat} (hp : kt_fw σ p) {k : Nat} (hb : kt_blk σ k) (hkp : p + 207 ≤ k ∨ k + 4 ≤ p) {j : Nat} (hj : j < 16) {m : Nat} (hm : m ≤ 4) (ha : kt_i μ k 0 = nI m) (hn : kf_n μ p) : kt_F G yX2_leave cX2_leave 5 none 4 [.ref p, .int (nI j), .ref k] σ μ (fun r μ2 => r = none ∧ μ2 = f_lv μ p j k) := by
  refine kt_F.of (by decide) (Nat.le_of_ble_eq_true rfl) (fun X hX hr => ?_)
  have hp0 := hp
  obtain ⟨hk0, hr0, hr1, hr2, hr3, hr4, hr5, hr6, hr7, hk1, hk2, hk3, hk4, hk5, hk6, hrg, hrb, hra⟩ := hp
  have hm2 : (kt_i μ k 0).toNatClampNeg = m := by rw [ha]; exact nI_clamp (by omega)
  refine kr_aload_n (i := 0) hX dX2_leave_0 rfl rfl ?_
  refine kr_getr (c0 := 2) (k := 6) hX ⟨_, kf_2_35⟩ dX2_leave_1 rfl (by assumption) (by assumption) ?_
  refine kr_aload_n (i := 0) hX dX2_leave_4 rfl rfl ?_
  refine kr_getr (c0 := 2) (k := 0) hX ⟨_, kf_2_11⟩ dX2_leave_5 rfl (by assumption) (by assumption) ?_
  refine kr_iload_n (i := 1) hX dX2_leave_8 rfl rfl ?_
  refine kr_aaldN (t := 2) hX dX2_leave_9 (by decide) (by assumption) (by omega) (by exact hrb j hj) ?_
  refine kr_dV (c1 := 5) [_] hX km_2_63 dX2_leave_10 (sp_rcopy (hrg 0 (by decide)) (hrg _ (by omega)) (by omega) (hn _ (by omega))) rfl rfl ⟨_, _, rfl⟩ (by decide) (Nat.le_of_ble_eq_true rfl) (Nat.le_refl _) (Nat.le_refl _) (by exact (hrg 0 (by decide)).1) ?_
  refine kr_aload_n (i := 0) hX dX2_leave_13 rfl rfl ?_
  refine kr_getr (c0 := 2) (k := 6) hX ⟨_, kf_2_35⟩ dX2_leave_14 rfl (by assumption) (by assumption) ?_
  refine kr_aload_n (i := 2) hX dX2_leave_17 rfl rfl ?_
  refine kr_dV (c1 := 5) [_] hX km_2_67 dX2_leave_18 (sp_acts (hrg 0 (by decide)) hb (by omega) hm (by rw [m_cp_out (by omega)]; exact ha) (m_cp_01 (hn 0 (by decide)) (hn _ (by omega)) (by omega))) rfl rfl ⟨_, _, rfl⟩ (by decide) (Nat.le_of_ble_eq_true rfl) (Nat.le_refl _) (Nat.le_refl _) (by exact (hrg 0 (by decide)).1) ?_
  refine kr_iconst (v := 0) hX dX2_leave_21 (by decide) ?_
  refine kr_istore_n (i := 3) hX dX2_leave_22 rfl (by decide) rfl rfl ?_
  refine lp_lv hX hr hp0 hb hkp hj (k_ne_eq μ k).1 (k_ne μ k) 0 _ (by omega) ?_ ?_ ?_
  · rw [m_actsL_out (by omega), m_cp_out (by omega)]; exact (k_ne_eq μ k).2
  · rw [← hm2]; exact f_lv_n0 hj hn
  · refine ⟨rfl, ?_⟩
    unfold f_lv
    rw [hm2]


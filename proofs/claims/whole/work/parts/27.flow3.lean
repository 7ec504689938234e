def f_st1L (p : Nat) : Nat → Nat → kt_M → kt_M
  | 0, _, μ => μ
  | n + 1, i, μ => f_st1L p n (i + 1) (kt_si (kt_si (m_setAll μ (p + 7 + 4 * (2 + i)) 0) (p + 3) i 0) (p + 4) i 0)
def f_start (μ : kt_M) (p : Nat) : kt_M := m_fillL (p + 5) 0 32 0 (f_st1L p 16 0 μ)
noncomputable def f_rd1 (μ : kt_M) (p q i : Nat) (g : Int32) : kt_M × Int32 := if kt_i μ (p + 4) i = 0 then (μ, g) else (f_lv (kt_si μ (p + 4) i 0) p i (k_at (kt_si μ (p + 4) i 0) q (nI i)), 1)
noncomputable def f_rdL (p q : Nat) : Nat → Nat → kt_M → Int32 → kt_M × Int32
  | 0, _, μ, g => (μ, g)
  | n + 1, i, μ, g => f_rdL p q n (i + 1) (f_rd1 μ p q i g).1 (f_rd1 μ p q i g).2
noncomputable def f_slL (p q : Nat) : Nat → kt_M → Int32 → kt_M
  | 0, μ, _ => μ
  | n + 1, μ, g => if g = 0 then μ else f_slL p q n (f_rdL p q 16 0 μ 0).1 (f_rdL p q 16 0 μ 0).2
def f_ini (μ : kt_M) (p : Nat) : kt_M := kt_si (kt_si (m_setAll μ (p + 7 + 4 * 2) 1) (p + 3) 0 1) (p + 4) 0 1
noncomputable def f_solve (μ : kt_M) (p q : Nat) : kt_M := kt_seal (if kt_i (f_start μ p) q 3 = 0 then f_start μ p else f_slL p q 3840 (f_ini (f_start μ p) p) 1)
theorem f_st1L_out {p x k : Nat} (h : x < p + 3 ∨ p + 207 ≤ x) : ∀ (n i : Nat) (μ : kt_M), i + n ≤ 16 → kt_i (f_st1L p n i μ) x k = kt_i μ x k
  | 0, _, _, _ => rfl
  | n + 1, i, μ, hi => by rw [f_st1L, f_st1L_out h n (i + 1) _ (by omega), kt_i_sin (by omega), kt_i_sin (by omega), m_setAll_out (by omega)]
theorem f_start_out {μ : kt_M} {p x k : Nat} (h : x < p + 3 ∨ p + 207 ≤ x) : kt_i (f_start μ p) x k = kt_i μ x k := by
  unfold f_start
  rw [m_fillL_i, if_neg (by omega), f_st1L_out h _ _ _ (by omega)]
theorem f_st1L_n {p : Nat} : ∀ (n i : Nat) (μ : kt_M), i + n ≤ 16 → kf_n μ p → kf_n (f_st1L p n i μ) p
  | 0, _, _, _, h => h
  | n + 1, i, μ, hi, h => by
    have h1 : kf_n (m_setAll μ (p + 7 + 4 * (2 + i)) 0) p := h.put (j := 2 + i) (fun x k hx => m_setAll_out hx) (m_setAll_01 (h _ (by omega)) (Or.inl rfl))
    exact f_st1L_n n (i + 1) _ (by omega) (h1.far (fun x k h1 h2 => by rw [kt_i_sin (by omega), kt_i_sin (by omega)]))
theorem f_start_n {μ : kt_M} {p : Nat} (h : kf_n μ p) : kf_n (f_start μ p) p := (f_st1L_n 16 0 μ (by omega) h).far (fun x k h1 h2 => by unfold f_start; rw [m_fillL_i, if_neg (by omega)])
theorem f_ini_out {μ : kt_M} {p x k : Nat} (h : x < p + 3 ∨ p + 207 ≤ x) : kt_i (f_ini μ p) x k = kt_i μ x k := by
  unfold f_ini
  rw [kt_i_sin (by omega), kt_i_sin (by omega), m_setAll_out (by omega)]
theorem f_ini_n {μ : kt_M} {p : Nat} (h : kf_n μ p) : kf_n (f_ini μ p) p := by
  have h1 : kf_n (m_setAll μ (p + 7 + 4 * 2) 1) p := h.put (j := 2) (fun x k hx => m_setAll_out hx) (m_setAll_01 (h 2 (by omega)) (Or.inr rfl))
  exact h1.far (fun x k h1 h2 => by unfold f_ini; rw [kt_i_sin (by omega), kt_i_sin (by omega)])
theorem f_rd1_out {μ : kt_M} {p q i x k : Nat} {g : Int32} (hi : i < 16) (h : x < p + 3 ∨ p + 207 ≤ x) : kt_i (f_rd1 μ p q i g).1 x k = kt_i μ x k := by
  unfold f_rd1; split
  · rfl
  · rw [f_lv_out hi h, kt_i_sin (by omega)]
theorem f_rd1_n {μ : kt_M} {p q i : Nat} {g : Int32} (hi : i < 16) (h : kf_n μ p) : kf_n (f_rd1 μ p q i g).1 p := by
  unfold f_rd1; split
  · exact h
  · exact f_lv_n hi (h.far (fun x k h1 h2 => by rw [kt_i_sin (by omega)]))
theorem f_rdL_out {p q x k : Nat} (h : x < p + 3 ∨ p + 207 ≤ x) : ∀ (n i : Nat) (μ : kt_M) (g : Int32), i + n ≤ 16 → kt_i (f_rdL p q n i μ g).1 x k = kt_i μ x k
  | 0, _, _, _, _ => rfl
  | n + 1, i, μ, g, hi => by rw [f_rdL, f_rdL_out h n (i + 1) _ _ (by omega), f_rd1_out (by omega) h]
theorem f_rdL_n {p q : Nat} : ∀ (n i : Nat) (μ : kt_M) (g : Int32), i + n ≤ 16 → kf_n μ p → kf_n (f_rdL p q n i μ g).1 p
  | 0, _, _, _, _, h => h
  | n + 1, i, μ, g, hi, h => f_rdL_n n (i + 1) _ _ (by omega) (f_rd1_n (by omega) h)
theorem f_slL_out {p q x k : Nat} (h : x < p + 3 ∨ p + 207 ≤ x) : ∀ (n : Nat) (μ : kt_M) (g : Int32), kt_i (f_slL p q n μ g) x k = kt_i μ x k
  | 0, _, _ => rfl
  | n + 1, μ, g => by
    rw [f_slL]; split
    · rfl
    · rw [f_slL_out h n, f_rdL_out h _ _ _ _ (by omega)]
theorem f_slL_n {p q : Nat} : ∀ (n : Nat) (μ : kt_M) (g : Int32), kf_n μ p → kf_n (f_slL p q n μ g) p
  | 0, _, _, h => h
  | n + 1, μ, g, h => by
    rw [f_slL]; split
    · exact h
    · exact f_slL_n n _ _ (f_rdL_n _ _ _ _ (by omega) h)
theorem f_solve_out {μ : kt_M} {p q x k : Nat} (h : x < p + 3 ∨ p + 207 ≤ x) : kt_i (f_solve μ p q) x k = kt_i μ x k := by
  unfold f_solve
  rw [kt_seal_eq]
  split
  · exact f_start_out h
  · rw [f_slL_out h, f_ini_out h, f_start_out h]
theorem f_solve_n {μ : kt_M} {p q : Nat} (h : kf_n μ p) : kf_n (f_solve μ p q) p := by
  unfold f_solve
  rw [kt_seal_eq]
  split
  · exact f_start_n h
  · exact f_slL_n _ _ _ (f_ini_n (f_start_n h))
set_option maxHeartbeats 4000000 in
set_option maxRecDepth 100000 in
theorem lp_st2 {G : kt_G} {σ : kt_Y} {X : kt_X} (hX : kt_ok G X RX2 cX2_startFromNothing 2 2 0 0) (hr : kt_rt X = none) {Q : Option Value → kt_M → Prop} {p : Nat} (hp : kt_fw σ p) : ∀ (n i : Nat) (μ : kt_M) , i + n = 32 →  (Q none (m_fillL (p + 5) 0 n i μ)) → kt_W G X 2 40 [(0, .ref p), (1, .int (nI i))] [] σ μ 0 0 (kt_Z G X (kt_q σ Q) 0 0) := by
  have hp0 := hp
  obtain ⟨hk0, hr0, hr1, hr2, hr3, hr4, hr5, hr6, hr7, hk1, hk2, hk3, hk4, hk5, hk6, hrg, hrb, hra⟩ := hp
  intro n
  induction n with
  | zero =>
    intro i μ hin  hQ
    have hib : i = 32 := by omega
    refine kr_iload_n (i := 1) hX dX2_startFromNothing_40 rfl rfl ?_
    refine kr_bipush (v := 32) hX dX2_startFromNothing_41 (by decide) ?_
    refine kr_icmp_ge (tgt := 59) hX dX2_startFromNothing_43 (by decide) (fun c_43 => ?_) (fun c_43 => ?_)
    · skip
      refine kr_vret hX hr dX2_startFromNothing_59 ⟨rfl, ?_⟩
      exact hQ
    · skip
      exact absurd (by rw [hib]; decide) c_43
  | succ n ih =>
    intro i μ hin  hQ
    have hib : i < 32 := by omega
    refine kr_iload_n (i := 1) hX dX2_startFromNothing_40 rfl rfl ?_
    refine kr_bipush (v := 32) hX dX2_startFromNothing_41 (by decide) ?_
    refine kr_icmp_ge (tgt := 59) hX dX2_startFromNothing_43 (by decide) (fun c_43 => ?_) (fun c_43 => ?_)
    · skip
      exact absurd c_43 (kt_ge rfl hib (by decide))
    · skip
      refine kr_aload_n (i := 0) hX dX2_startFromNothing_46 rfl rfl ?_
      refine kr_getr (c0 := 2) (k := 4) hX ⟨_, kf_2_27⟩ dX2_startFromNothing_47 rfl (by assumption) (by assumption) ?_
      refine kr_iload_n (i := 1) hX dX2_startFromNothing_50 rfl rfl ?_
      refine kr_iconst (v := 0) hX dX2_startFromNothing_51 (by decide) ?_
      refine kr_bastN hX dX2_startFromNothing_52 (by first | exact Or.inl rfl | exact Or.inr rfl | assumption) (by assumption) (by omega) ?_
      refine kr_iinc (v := nI (i + 1)) hX dX2_startFromNothing_53 rfl (by first | exact nI_1 _ | rfl) (by decide) rfl rfl ?_
      refine kr_goto (tgt := 40) hX dX2_startFromNothing_56 (by decide) ?_
      exact ih (i + 1) _ (by omega) hQ

set_option maxHeartbeats 4000000 in
set_option maxRecDepth 100000 in
theorem lp_st1 {G : kt_G} {σ : kt_Y} {X : kt_X} (hX : kt_ok G X RX2 cX2_startFromNothing 2 2 0 0) (hr : kt_rt X = none) {Q : Option Value → kt_M → Prop} {p : Nat} (hp : kt_fw σ p) : ∀ (n i : Nat) (μ : kt_M) , i + n = 16 →  (Q none (m_fillL (p + 5) 0 32 0 (f_st1L p n i μ))) → kt_W G X 2 2 [(0, .ref p), (1, .int (nI i))] [] σ μ 0 0 (kt_Z G X (kt_q σ Q) 0 0) := by
  have hp0 := hp
  obtain ⟨hk0, hr0, hr1, hr2, hr3, hr4, hr5, hr6, hr7, hk1, hk2, hk3, hk4, hk5, hk6, hrg, hrb, hra⟩ := hp
  intro n
  induction n with
  | zero =>
    intro i μ hin  hQ
    have hib : i = 16 := by omega
    refine kr_iload_n (i := 1) hX dX2_startFromNothing_2 rfl rfl ?_
    refine kr_bipush (v := 16) hX dX2_startFromNothing_3 (by decide) ?_
    refine kr_icmp_ge (tgt := 38) hX dX2_startFromNothing_5 (by decide) (fun c_5 => ?_) (fun c_5 => ?_)
    · skip
      refine kr_iconst (v := 0) hX dX2_startFromNothing_38 (by decide) ?_
      refine kr_istore_n (i := 1) hX dX2_startFromNothing_39 rfl (by decide) rfl rfl ?_
      exact lp_st2 hX hr hp0 32 0 _ (by omega) hQ
    · skip
      exact absurd (by rw [hib]; decide) c_5
  | succ n ih =>
    intro i μ hin  hQ
    have hib : i < 16 := by omega
    refine kr_iload_n (i := 1) hX dX2_startFromNothing_2 rfl rfl ?_
    refine kr_bipush (v := 16) hX dX2_startFromNothing_3 (by decide) ?_
    refine kr_icmp_ge (tgt := 38) hX dX2_startFromNothing_5 (by decide) (fun c_5 => ?_) (fun c_5 => ?_)
    · skip
      exact absurd c_5 (kt_ge rfl hib (by decide))
    · skip
      refine kr_aload_n (i := 0) hX dX2_startFromNothing_8 rfl rfl ?_
      refine kr_getr (c0 := 2) (k := 0) hX ⟨_, kf_2_11⟩ dX2_startFromNothing_9 rfl (by assumption) (by assumption) ?_
      refine kr_iload_n (i := 1) hX dX2_startFromNothing_12 rfl rfl ?_
      refine kr_aaldN (t := 2) hX dX2_startFromNothing_13 (by decide) (by assumption) (by omega) (by exact hrb i (by omega)) ?_
      refine kr_iconst (v := 0) hX dX2_startFromNothing_14 (by decide) ?_
      refine kr_dV (c1 := 5) [_] hX km_2_51 dX2_startFromNothing_15 (sp_setAll (hrg _ (by omega)) (Or.inl rfl)) rfl rfl ⟨_, _, rfl⟩ (by decide) (Nat.le_of_ble_eq_true rfl) (Nat.le_refl _) (Nat.le_refl _) (by exact (hrg _ (by omega)).1) ?_
      refine kr_aload_n (i := 0) hX dX2_startFromNothing_18 rfl rfl ?_
      refine kr_getr (c0 := 2) (k := 2) hX ⟨_, kf_2_20⟩ dX2_startFromNothing_19 rfl (by assumption) (by assumption) ?_
      refine kr_iload_n (i := 1) hX dX2_startFromNothing_22 rfl rfl ?_
      refine kr_iconst (v := 0) hX dX2_startFromNothing_23 (by decide) ?_
      refine kr_bastN hX dX2_startFromNothing_24 (by first | exact Or.inl rfl | exact Or.inr rfl | assumption) (by assumption) (by omega) ?_
      refine kr_aload_n (i := 0) hX dX2_startFromNothing_25 rfl rfl ?_
      refine kr_getr (c0 := 2) (k := 3) hX ⟨_, kf_2_24⟩ dX2_startFromNothing_26 rfl (by assumption) (by assumption) ?_
      refine kr_iload_n (i := 1) hX dX2_startFromNothing_29 rfl rfl ?_
      refine kr_iconst (v := 0) hX dX2_startFromNothing_30 (by decide) ?_
      refine kr_bastN hX dX2_startFromNothing_31 (by first | exact Or.inl rfl | exact Or.inr rfl | assumption) (by assumption) (by omega) ?_
      refine kr_iinc (v := nI (i + 1)) hX dX2_startFromNothing_32 rfl (by first | exact nI_1 _ | rfl) (by decide) rfl rfl ?_
      refine kr_goto (tgt := 2) hX dX2_startFromNothing_35 (by decide) ?_
      exact ih (i + 1) _ (by omega) hQ

set_option maxHeartbeats 4000000 in
set_option maxRecDepth 100000 in
theorem sp_start {G : kt_G} {σ : kt_Y} {μ : kt_M} {p : Nat} (hp : kt_fw σ p) : kt_F G yX2_startFromNothing cX2_startFromNothing 2 none 2 [.ref p] σ μ (fun r μ2 => r = none ∧ μ2 = f_start μ p) := by
  refine kt_F.of (by decide) (Nat.le_of_ble_eq_true rfl) (fun X hX hr => ?_)
  have hp0 := hp
  obtain ⟨hk0, hr0, hr1, hr2, hr3, hr4, hr5, hr6, hr7, hk1, hk2, hk3, hk4, hk5, hk6, hrg, hrb, hra⟩ := hp
  refine kr_iconst (v := 0) hX dX2_startFromNothing_0 (by decide) ?_
  refine kr_istore_n (i := 1) hX dX2_startFromNothing_1 rfl (by decide) rfl rfl ?_
  exact lp_st1 hX hr hp0 16 0 _ (by omega) ⟨rfl, rfl⟩

set_option maxHeartbeats 4000000 in
set_option maxRecDepth 100000 in
theorem lp_rd {G : kt_G} {σ : kt_Y} {X : kt_X} (hX : kt_ok G X RX2 cX2_solve 5 5 0 0) (hr : kt_rt X = none) {Q : Option Value → kt_M → Prop} {p : Nat} (hp : kt_fw σ p) {q N s : Nat} (hq : kt_pg σ q N) (hN : N ≤ 16) (hsN : s ≤ N) (hsep : p + 207 ≤ q ∨ q + 7 + 4 * N ≤ p) {r : Int32} : ∀ (n i : Nat) (μ : kt_M) (g : Int32), i + n = 16 → kt_i μ q 3 = nI s → kt_ac μ q → kf_n μ p → (kt_W G X 5 101 [(0, .ref p), (1, .ref q), (2, .int (f_rdL p q n i μ g).2), (3, .int r), (4, .int 16)] [] σ (f_rdL p q n i μ g).1 0 0 (kt_Z G X (kt_q σ Q) 0 0)) → kt_W G X 5 56 [(0, .ref p), (1, .ref q), (2, .int g), (3, .int r), (4, .int (nI i))] [] σ μ 0 0 (kt_Z G X (kt_q σ Q) 0 0) := by
  have hp0 := hp
  obtain ⟨hk0, hr0, hr1, hr2, hr3, hr4, hr5, hr6, hr7, hk1, hk2, hk3, hk4, hk5, hk6, hrg, hrb, hra⟩ := hp
  intro n
  induction n with
  | zero =>
    intro i μ g hin hs hac hn hQ
    have hib : i = 16 := by omega
    refine kr_iload hX dX2_solve_56 rfl ?_
    refine kr_bipush (v := 16) hX dX2_solve_58 (by decide) ?_
    refine kr_icmp_ge (tgt := 101) hX dX2_solve_60 (by decide) (fun c_60 => ?_) (fun c_60 => ?_)
    · skip
      rw [hib]; exact hQ
    · skip
      exact absurd (by rw [hib]; decide) c_60
  | succ n ih =>
    intro i μ g hin hs hac hn hQ
    have hib : i < 16 := by omega
    refine kr_iload hX dX2_solve_56 rfl ?_
    refine kr_bipush (v := 16) hX dX2_solve_58 (by decide) ?_
    refine kr_icmp_ge (tgt := 101) hX dX2_solve_60 (by decide) (fun c_60 => ?_) (fun c_60 => ?_)
    · skip
      exact absurd c_60 (kt_ge rfl hib (by decide))
    · skip
      refine kr_aload_n (i := 0) hX dX2_solve_63 rfl rfl ?_
      refine kr_getr (c0 := 2) (k := 3) hX ⟨_, kf_2_24⟩ dX2_solve_64 rfl (by assumption) (by assumption) ?_
      refine kr_iload hX dX2_solve_67 rfl ?_
      refine kr_baldN hX dX2_solve_69 (by assumption) (by omega) ?_
      refine kr_if_eq (tgt := 95) hX dX2_solve_70 (by decide) (fun c_70 => ?_) (fun c_70 => ?_)
      · skip
        refine kr_iinc (v := nI (i + 1)) hX dX2_solve_95 rfl (by first | exact nI_1 _ | rfl) (by decide) rfl rfl ?_
        refine kr_goto (tgt := 56) hX dX2_solve_98 (by decide) ?_
        have ho : ∀ x k, q ≤ x → x < q + 7 + 4 * N → kt_i (f_rd1 μ p q i g).1 x k = kt_i μ x k := fun x k h3 h4 => f_rd1_out hib (by omega)
        have hs9 : kt_i (f_rd1 μ p q i g).1 q 3 = nI s := by rw [ho q 3 (by omega) (by omega)]; exact hs
        have hac9 := hac.keep hs hsN hN ho
        have hn9 : kf_n (f_rd1 μ p q i g).1 p := f_rd1_n hib hn
        simp only [f_rdL] at hQ
        first
        | (have es : f_rd1 μ p q i g = (μ, g) := if_pos c_70
           rw [es] at hQ
           exact ih (i + 1) _ _ (by omega) hs hac hn hQ)
        | (have es := (show f_rd1 μ p q i g = _ from if_neg c_70)
           rw [es] at hQ hs9 hac9 hn9
           exact ih (i + 1) _ _ (by omega) hs9 hac9 hn9 hQ)
      · skip
        refine kr_aload_n (i := 0) hX dX2_solve_73 rfl rfl ?_
        refine kr_getr (c0 := 2) (k := 3) hX ⟨_, kf_2_24⟩ dX2_solve_74 rfl (by assumption) (by assumption) ?_
        refine kr_iload hX dX2_solve_77 rfl ?_
        refine kr_iconst (v := 0) hX dX2_solve_79 (by decide) ?_
        refine kr_bastN hX dX2_solve_80 (by first | exact Or.inl rfl | exact Or.inr rfl | assumption) (by assumption) (by omega) ?_
        have hs1 : kt_i (kt_si μ (p + 4) i 0) q 3 = nI s := by rw [kt_i_sin (by omega)]; exact hs
        have hac1 : kt_ac (kt_si μ (p + 4) i 0) q := hac.keep hs hsN hN (fun x k h3 h4 => by rw [kt_i_sin (by omega)])
        have hn1 : kf_n (kt_si μ (p + 4) i 0) p := hn.far (fun x k h1 h2 => by rw [kt_i_sin (by omega)])
        obtain ⟨m, hm, eA⟩ := hac1 (nI i)
        have hkb := hq.at_ hs1 hsN hN (nI i)
        obtain ⟨h1, h2⟩ := k_at_in hs1 (by omega) (nI i)
        have hkp : p + 207 ≤ k_at (kt_si μ (p + 4) i 0) q (nI i) ∨ k_at (kt_si μ (p + 4) i 0) q (nI i) + 4 ≤ p := by rcases h2 with h2 | ⟨j, hj, h2⟩ <;> omega
        clear h2
        refine kr_iconst (v := 1) hX dX2_solve_81 (by decide) ?_
        refine kr_istore_n (i := 2) hX dX2_solve_82 rfl (by decide) rfl rfl ?_
        refine kr_aload_n (i := 0) hX dX2_solve_83 rfl rfl ?_
        refine kr_iload hX dX2_solve_84 rfl ?_
        refine kr_aload_n (i := 1) hX dX2_solve_86 rfl rfl ?_
        refine kr_iload hX dX2_solve_87 rfl ?_
        refine kr_dV (c1 := 4) [_] hX km_2_55 dX2_solve_89 (sp_at hq hN hs1 hsN) rfl rfl ⟨_, _, rfl⟩ (by decide) (Nat.le_of_ble_eq_true rfl) (Nat.le_refl _) (Nat.le_refl _) (by exact hq.1) ?_
        refine kr_dV (c1 := 2) [_, _] hX km_2_59 dX2_solve_92 (sp_lv hp0 hkb hkp hib hm eA hn1) rfl rfl ⟨_, _, rfl⟩ (by decide) (Nat.le_of_ble_eq_true rfl) (Nat.le_refl _) (Nat.le_refl _) (by assumption) ?_
        refine kr_iinc (v := nI (i + 1)) hX dX2_solve_95 rfl (by first | exact nI_1 _ | rfl) (by decide) rfl rfl ?_
        refine kr_goto (tgt := 56) hX dX2_solve_98 (by decide) ?_
        have ho : ∀ x k, q ≤ x → x < q + 7 + 4 * N → kt_i (f_rd1 μ p q i g).1 x k = kt_i μ x k := fun x k h3 h4 => f_rd1_out hib (by omega)
        have hs9 : kt_i (f_rd1 μ p q i g).1 q 3 = nI s := by rw [ho q 3 (by omega) (by omega)]; exact hs
        have hac9 := hac.keep hs hsN hN ho
        have hn9 : kf_n (f_rd1 μ p q i g).1 p := f_rd1_n hib hn
        simp only [f_rdL] at hQ
        first
        | (have es : f_rd1 μ p q i g = (μ, g) := if_pos c_70
           rw [es] at hQ
           exact ih (i + 1) _ _ (by omega) hs hac hn hQ)
        | (have es := (show f_rd1 μ p q i g = _ from if_neg c_70)
           rw [es] at hQ hs9 hac9 hn9
           exact ih (i + 1) _ _ (by omega) hs9 hac9 hn9 hQ)

set_option maxHeartbeats 4000000 in
set_option maxRecDepth 100000 in
theorem lp_sl {G : kt_G} {σ : kt_Y} {X : kt_X} (hX : kt_ok G X RX2 cX2_solve 5 5 0 0) (hr : kt_rt X = none) {Q : Option Value → kt_M → Prop} {p : Nat} (hp : kt_fw σ p) {q N s : Nat} (hq : kt_pg σ q N) (hN : N ≤ 16) (hsN : s ≤ N) (hsep : p + 207 ≤ q ∨ q + 7 + 4 * N ≤ p) : ∀ (n i : Nat) (μ : kt_M) (g : Int32), i + n = 3840 → kt_i μ q 3 = nI s → kt_ac μ q → kf_n μ p → (Q none (f_slL p q n μ g)) → kt_W G X 5 40 [(0, .ref p), (1, .ref q), (2, .int g), (3, .int (nI i))] [] σ μ 0 0 (kt_Z G X (kt_q σ Q) 0 0) := by
  have hp0 := hp
  obtain ⟨hk0, hr0, hr1, hr2, hr3, hr4, hr5, hr6, hr7, hk1, hk2, hk3, hk4, hk5, hk6, hrg, hrb, hra⟩ := hp
  intro n
  induction n with
  | zero =>
    intro i μ g hin hs hac hn hQ
    have hib : i = 3840 := by omega
    refine kr_iload_n (i := 3) hX dX2_solve_40 rfl rfl ?_
    refine kr_sipush (v := 3840) hX dX2_solve_41 (by decide) ?_
    refine kr_icmp_ge (tgt := 107) hX dX2_solve_44 (by decide) (fun c_44 => ?_) (fun c_44 => ?_)
    · skip
      refine kr_vret hX hr dX2_solve_107 ⟨rfl, ?_⟩
      exact hQ
    · skip
      exact absurd (by rw [hib]; decide) c_44
  | succ n ih =>
    intro i μ g hin hs hac hn hQ
    have hib : i < 3840 := by omega
    refine kr_iload_n (i := 3) hX dX2_solve_40 rfl rfl ?_
    refine kr_sipush (v := 3840) hX dX2_solve_41 (by decide) ?_
    refine kr_icmp_ge (tgt := 107) hX dX2_solve_44 (by decide) (fun c_44 => ?_) (fun c_44 => ?_)
    · skip
      exact absurd c_44 (kt_ge (b := 3840) rfl hib (by decide))
    · skip
      refine kr_iload_n (i := 2) hX dX2_solve_47 rfl rfl ?_
      refine kr_if_eq (tgt := 107) hX dX2_solve_48 (by decide) (fun c_48 => ?_) (fun c_48 => ?_)
      · skip
        refine kr_vret hX hr dX2_solve_107 ⟨rfl, ?_⟩
        simp only [f_slL] at hQ
        rw [if_pos c_48] at hQ
        exact hQ
      · skip
        refine kr_iconst (v := 0) hX dX2_solve_51 (by decide) ?_
        refine kr_istore_n (i := 2) hX dX2_solve_52 rfl (by decide) rfl rfl ?_
        refine kr_iconst (v := 0) hX dX2_solve_53 (by decide) ?_
        refine kr_istore hX dX2_solve_54 (by decide) rfl rfl ?_
        simp only [f_slL] at hQ
        rw [if_neg c_48] at hQ
        refine lp_rd hX hr hp0 hq hN hsN hsep 16 0 _ _ (by omega) hs hac hn ?_
        refine kr_iinc (v := nI (i + 1)) hX dX2_solve_101 rfl (by first | exact nI_1 _ | rfl) (by decide) rfl rfl ?_
        refine kr_goto (tgt := 40) hX dX2_solve_104 (by decide) ?_
        refine kr_keep [0, 1, 2, 3] rfl ?_
        have ho : ∀ x k, q ≤ x → x < q + 7 + 4 * N → kt_i (f_rdL p q 16 0 μ 0).1 x k = kt_i μ x k := fun x k h3 h4 => f_rdL_out (by omega) _ _ _ _ (by omega)
        exact ih (i + 1) _ _ (by omega) (by rw [ho q 3 (by omega) (by omega)]; exact hs) (hac.keep hs hsN hN ho) (f_rdL_n _ _ _ _ (by omega) hn) hQ

set_option maxHeartbeats 4000000 in
set_option maxRecDepth 100000 in
theorem sp_solve {G : kt_G} {σ : kt_Y} {μ : kt_M} {p : Nat} (hp : kt_fw σ p) {q N s : Nat} (hq : kt_pg σ q N) (hN : N ≤ 16) (hsN : s ≤ N) (hsep : p + 207 ≤ q ∨ q + 7 + 4 * N ≤ p) (hs : kt_i μ q 3 = nI s) (hac : kt_ac μ q) (hn : kf_n μ p) : kt_F G yX2_solve cX2_solve 5 none 5 [.ref p, .ref q] σ μ (fun r μ2 => r = none ∧ μ2 = f_solve μ p q) := by
  refine kt_F.of (by decide) (Nat.le_of_ble_eq_true rfl) (fun X hX hr => ?_)
  have hp0 := hp
  obtain ⟨hk0, hr0, hr1, hr2, hr3, hr4, hr5, hr6, hr7, hk1, hk2, hk3, hk4, hk5, hk6, hrg, hrb, hra⟩ := hp
  refine kr_aload_n (i := 0) hX dX2_solve_0 rfl rfl ?_
  refine kr_dV (c1 := 2) [] hX km_2_42 dX2_solve_1 (sp_start hp0) rfl rfl ⟨_, _, rfl⟩ (by decide) (Nat.le_of_ble_eq_true rfl) (Nat.le_refl _) (Nat.le_refl _) (by assumption) ?_
  refine kr_aload_n (i := 1) hX dX2_solve_4 rfl rfl ?_
  refine kr_geti (c0 := 4) (k := 3) hX ⟨_, kf_2_45⟩ dX2_solve_5 rfl (by exact hq.1) ?_
  refine kr_if_ne (tgt := 12) hX dX2_solve_8 (by decide) (fun c_8 => ?_) (fun c_8 => ?_)
  · skip
    refine kr_aload_n (i := 0) hX dX2_solve_12 rfl rfl ?_
    refine kr_getr (c0 := 2) (k := 0) hX ⟨_, kf_2_11⟩ dX2_solve_13 rfl (by assumption) (by assumption) ?_
    refine kr_iconst (v := 0) hX dX2_solve_16 (by decide) ?_
    refine kr_aald (t := 2) hX dX2_solve_17 (by decide) (by assumption) (by unfold vp_in; decide) (by exact hrb 0 (by decide)) ?_
    refine kr_iconst (v := 1) hX dX2_solve_18 (by decide) ?_
    refine kr_dV (c1 := 5) [_] hX km_2_51 dX2_solve_19 (sp_setAll (hrg 2 (by decide)) (Or.inr rfl)) rfl rfl ⟨_, _, rfl⟩ (by decide) (Nat.le_of_ble_eq_true rfl) (Nat.le_refl _) (Nat.le_refl _) (by exact (hrg 2 (by decide)).1) ?_
    refine kr_aload_n (i := 0) hX dX2_solve_22 rfl rfl ?_
    refine kr_getr (c0 := 2) (k := 2) hX ⟨_, kf_2_20⟩ dX2_solve_23 rfl (by assumption) (by assumption) ?_
    refine kr_iconst (v := 0) hX dX2_solve_26 (by decide) ?_
    refine kr_iconst (v := 1) hX dX2_solve_27 (by decide) ?_
    refine kr_bast hX dX2_solve_28 (by first | exact Or.inl rfl | exact Or.inr rfl | assumption) (by assumption) (by unfold vp_in; decide) ?_
    refine kr_aload_n (i := 0) hX dX2_solve_29 rfl rfl ?_
    refine kr_getr (c0 := 2) (k := 3) hX ⟨_, kf_2_24⟩ dX2_solve_30 rfl (by assumption) (by assumption) ?_
    refine kr_iconst (v := 0) hX dX2_solve_33 (by decide) ?_
    refine kr_iconst (v := 1) hX dX2_solve_34 (by decide) ?_
    refine kr_bast hX dX2_solve_35 (by first | exact Or.inl rfl | exact Or.inr rfl | assumption) (by assumption) (by unfold vp_in; decide) ?_
    refine kr_iconst (v := 1) hX dX2_solve_36 (by decide) ?_
    refine kr_istore_n (i := 2) hX dX2_solve_37 rfl (by decide) rfl rfl ?_
    refine kr_iconst (v := 0) hX dX2_solve_38 (by decide) ?_
    refine kr_istore_n (i := 3) hX dX2_solve_39 rfl (by decide) rfl rfl ?_
    have ho : ∀ x k, q ≤ x → x < q + 7 + 4 * N → kt_i (f_ini (f_start μ p) p) x k = kt_i μ x k := fun x k h3 h4 => by rw [f_ini_out (by omega), f_start_out (by omega)]
    refine lp_sl hX hr hp0 hq hN hsN hsep 3840 0 (f_ini (f_start μ p) p) 1 rfl (by rw [ho q 3 (by omega) (by omega)]; exact hs) (hac.keep hs hsN hN ho) (f_ini_n (f_start_n hn)) ⟨rfl, ?_⟩
    unfold f_solve
    rw [kt_seal_eq, if_neg c_8]
  · skip
    refine kr_vret hX hr dX2_solve_11 ⟨rfl, ?_⟩
    refine ⟨rfl, ?_⟩
    unfold f_solve
    rw [kt_seal_eq, if_pos c_8]


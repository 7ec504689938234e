theorem m_num_out {μ : kt_M} {p v x k : Nat} {f e : Int32} (h : ¬ (p + 1 ≤ x ∧ x ≤ p + 3)) : kt_i (m_num μ p v f e) x k = kt_i μ x k := by
  unfold m_num; rw [kt_i_sin (by omega), kt_i_sin (by omega)]
theorem m_nil_out {μ : kt_M} {p v x k : Nat} {c : Int32} (h : ¬ (p + 1 ≤ x ∧ x ≤ p + 3)) : kt_i (m_nil μ p v c) x k = kt_i μ x k := by
  unfold m_nil; rw [kt_i_sin (by omega)]
theorem m_cpv_out {μ : kt_M} {p v q w x k : Nat} (h : ¬ (p + 1 ≤ x ∧ x ≤ p + 3)) : kt_i (m_cpv μ p v q w) x k = kt_i μ x k := by
  unfold m_cpv; rw [kt_i_sin (by omega), kt_i_sin (by omega), kt_i_sin (by omega)]
theorem m_shift_out {μ : kt_M} {p v x k : Nat} {c : Int32} (h : ¬ (p + 1 ≤ x ∧ x ≤ p + 3)) : kt_i (m_shift μ p v c) x k = kt_i μ x k := by
  unfold m_shift; split; rfl; exact m_num_out h
theorem m_cut_out {μ : kt_M} {p v x k : Nat} {f e : Int32} (h : ¬ (p + 1 ≤ x ∧ x ≤ p + 3)) : kt_i (m_cut μ p v f e) x k = kt_i μ x k := ks_i h
theorem m_act_out {μ : kt_M} {p v x k : Nat} {kd n : Int32} (h : ¬ (p + 1 ≤ x ∧ x ≤ p + 3)) : kt_i (m_act μ p kd v n) x k = kt_i μ x k := by
  unfold m_act
  split
  · rw [m_nil_out h, m_num_out h]
  · split
    · exact m_shift_out h
    · split
      · exact m_shift_out h
      · split
        · split
          · exact m_cpv_out h
          · rfl
        · split
          · rw [m_nil_out h, m_num_out h]
          · rfl
theorem kt_01_si {μ : kt_M} {a b k : Nat} {c : Int32} (h : kt_01 μ a) (hc : b = a → c = 0 ∨ c = 1) : kt_01 (kt_si μ b k c) a := by
  intro y
  rw [kt_i_si]
  split
  · rename_i h2; exact hc h2.1.symm
  · exact h y
theorem m_act_01 {μ : kt_M} {p v : Nat} {kd n : Int32} (h : kt_01 μ (p + 3)) : kt_01 (m_act μ p kd v n) (p + 3) := by
  have n1 : ∀ (μ : kt_M) (v : Nat) (f e : Int32), kt_01 μ (p + 3) → kt_01 (m_num μ p v f e) (p + 3) := fun μ v f e h => kt_01_si (kt_01_si h (by omega)) (by omega)
  unfold m_act
  split
  · exact kt_01_si (n1 _ _ _ _ h) (fun _ => Or.inl rfl)
  · split
    · unfold m_shift; split; exact h; exact n1 _ _ _ _ h
    · split
      · unfold m_shift; split; exact h; exact n1 _ _ _ _ h
      · split
        · split
          · exact kt_01_si (kt_01_si (kt_01_si h (by omega)) (by omega)) (fun _ => h _)
          · exact h
        · split
          · exact kt_01_si (n1 _ _ _ _ h) (fun _ => Or.inr rfl)
          · exact h
theorem m_nil_01 {μ : kt_M} {p v : Nat} {c : Int32} (h : kt_01 μ (p + 3)) (hc : c = 0 ∨ c = 1) : kt_01 (m_nil μ p v c) (p + 3) := kt_01_si h (fun _ => hc)
theorem m_cut_01 {μ : kt_M} {p v : Nat} {f e : Int32} (h : kt_01 μ (p + 3)) : kt_01 (m_cut μ p v f e) (p + 3) := by
  have e3 : (k3_cut (kg μ p v) f e).2.2 = kt_i μ (p + 3) v := by unfold k3_cut; dsimp only; (repeat' split) <;> rfl
  unfold m_cut ks
  rw [e3]
  exact kt_01_si (kt_01_si (kt_01_si h (by omega)) (by omega)) (fun _ => h _)
theorem m_side_out {μ : kt_M} {p b x k : Nat} {s : Int32} (h : ¬ (p + 1 ≤ x ∧ x ≤ p + 3)) : kt_i (m_side μ p b s) x k = kt_i μ x k := by
  unfold m_side m_lessN m_lessV m_eqN m_eqV
  repeat' split
  all_goals (repeat (first | rfl | rw [m_nil_out h] | rw [m_cut_out h]))
theorem m_side_01 {μ : kt_M} {p b : Nat} {s : Int32} (h : kt_01 μ (p + 3)) : kt_01 (m_side μ p b s) (p + 3) := by
  unfold m_side m_lessN m_lessV m_eqN m_eqV
  repeat' split
  all_goals (repeat (first | exact h | refine m_nil_01 ?_ (Or.inl rfl) | refine m_cut_01 ?_))
def m_act1 (μ : kt_M) (p b i : Nat) : kt_M := if 0 ≤ kt_i μ (b + 2) i ∧ kt_i μ (b + 2) i < 4 then m_act μ p (kt_i μ (b + 1) i) (kt_i μ (b + 2) i).toNatClampNeg (kt_i μ (b + 3) i) else μ
def m_actsL (p b : Nat) : Nat → Nat → kt_M → kt_M
  | 0, _, μ => μ
  | n + 1, i, μ => m_actsL p b n (i + 1) (m_act1 μ p b i)
theorem m_act1_out {μ : kt_M} {p b i x k : Nat} (h : ¬ (p + 1 ≤ x ∧ x ≤ p + 3)) : kt_i (m_act1 μ p b i) x k = kt_i μ x k := by
  unfold m_act1; split; exact m_act_out h; rfl
theorem m_act1_01 {μ : kt_M} {p b i : Nat} (h : kt_01 μ (p + 3)) : kt_01 (m_act1 μ p b i) (p + 3) := by
  unfold m_act1; split; exact m_act_01 h; exact h
theorem m_actsL_out {p b x k : Nat} (h : ¬ (p + 1 ≤ x ∧ x ≤ p + 3)) : ∀ (n i : Nat) (μ : kt_M), kt_i (m_actsL p b n i μ) x k = kt_i μ x k
  | 0, _, _ => rfl
  | n + 1, i, μ => by rw [m_actsL, m_actsL_out h n, m_act1_out h]
theorem m_actsL_01 {p b : Nat} : ∀ (n i : Nat) (μ : kt_M), kt_01 μ (p + 3) → kt_01 (m_actsL p b n i μ) (p + 3)
  | 0, _, _, h => h
  | n + 1, i, μ, h => m_actsL_01 n (i + 1) _ (m_act1_01 h)
set_option maxHeartbeats 4000000 in
set_option maxRecDepth 100000 in
theorem sp_act {G : kt_G} {σ : kt_Y} {μ : kt_M} {p : Nat} (hp : kt_rg σ p) {a v n : Int32} (hv : vp_in v 4) (hb : kt_01 μ (p + 3)) : kt_F G yX5_applyAct cX5_applyAct 4 none 2 [.ref p, .int a, .int v, .int n] σ μ (fun r μ2 => r = none ∧ μ2 = m_act μ p a v.toNatClampNeg n) := by
  refine kt_F.of (by decide) (Nat.le_of_ble_eq_true rfl) (fun X hX hr => ?_)
  have hp0 := hp
  obtain ⟨hk0, hr1, hr2, hr3, hk1, hk2, hk3⟩ := hp
  refine kr_iload_n (i := 1) hX dX5_applyAct_0 rfl rfl ?_
  by_cases c_1_0 : a = 0
  · skip
    refine kr_tabIn (tgt := 36) (off := 35) hX dX5_applyAct_1 (by rw [c_1_0]; decide) (by rw [c_1_0]; decide) (by rw [c_1_0]; rfl) (by decide) ?_
    refine kr_aload_n (i := 0) hX dX5_applyAct_36 rfl rfl ?_
    refine kr_iload_n (i := 2) hX dX5_applyAct_37 rfl rfl ?_
    refine kr_iload_n (i := 3) hX dX5_applyAct_38 rfl rfl ?_
    refine kr_iload_n (i := 3) hX dX5_applyAct_39 rfl rfl ?_
    refine kr_dV (c1 := 5) [_, _, _] hX km_5_22 dX5_applyAct_40 (sp_setNumbers hp0 (by assumption)) rfl rfl ⟨_, _, rfl⟩ (by decide) (Nat.le_of_ble_eq_true rfl) (Nat.le_refl _) (Nat.le_refl _) (by assumption) ?_
    refine kr_aload_n (i := 0) hX dX5_applyAct_43 rfl rfl ?_
    refine kr_getr (c0 := 5) (k := 2) hX ⟨_, kf_5_18⟩ dX5_applyAct_44 rfl (by assumption) (by assumption) ?_
    refine kr_iload_n (i := 2) hX dX5_applyAct_47 rfl rfl ?_
    refine kr_iconst (v := 0) hX dX5_applyAct_48 (by decide) ?_
    refine kr_bast hX dX5_applyAct_49 (by first | exact Or.inl rfl | exact Or.inr rfl | assumption) (by assumption) (by assumption) ?_
    refine kr_goto (tgt := 107) hX dX5_applyAct_50 (by decide) ?_
    refine kr_vret hX hr dX5_applyAct_107 ⟨rfl, ?_⟩
    refine ⟨rfl, ?_⟩
    simp_all [m_act, m_nil, kt_f_0, -Int32.not_le, -Int32.not_lt]
  by_cases c_1_1 : a = 1
  · skip
    refine kr_tabIn (tgt := 53) (off := 52) hX dX5_applyAct_1 (by rw [c_1_1]; decide) (by rw [c_1_1]; decide) (by rw [c_1_1]; rfl) (by decide) ?_
    refine kr_aload_n (i := 0) hX dX5_applyAct_53 rfl rfl ?_
    refine kr_iload_n (i := 2) hX dX5_applyAct_54 rfl rfl ?_
    refine kr_iload_n (i := 3) hX dX5_applyAct_55 rfl rfl ?_
    refine kr_dV (c1 := 5) [_, _] hX km_5_52 dX5_applyAct_56 (sp_shift hp0 (by assumption)) rfl rfl ⟨_, _, rfl⟩ (by decide) (Nat.le_of_ble_eq_true rfl) (Nat.le_refl _) (Nat.le_refl _) (by assumption) ?_
    refine kr_goto (tgt := 107) hX dX5_applyAct_59 (by decide) ?_
    refine kr_vret hX hr dX5_applyAct_107 ⟨rfl, ?_⟩
    refine ⟨rfl, ?_⟩
    simp_all [m_act, m_nil, kt_f_0, -Int32.not_le, -Int32.not_lt]
  by_cases c_1_2 : a = 2
  · skip
    refine kr_tabIn (tgt := 62) (off := 61) hX dX5_applyAct_1 (by rw [c_1_2]; decide) (by rw [c_1_2]; decide) (by rw [c_1_2]; rfl) (by decide) ?_
    refine kr_aload_n (i := 0) hX dX5_applyAct_62 rfl rfl ?_
    refine kr_iload_n (i := 2) hX dX5_applyAct_63 rfl rfl ?_
    refine kr_iload_n (i := 3) hX dX5_applyAct_64 rfl rfl ?_
    refine kr_ineg hX dX5_applyAct_65 ?_
    refine kr_dV (c1 := 5) [_, _] hX km_5_52 dX5_applyAct_66 (sp_shift hp0 (by assumption)) rfl rfl ⟨_, _, rfl⟩ (by decide) (Nat.le_of_ble_eq_true rfl) (Nat.le_refl _) (Nat.le_refl _) (by assumption) ?_
    refine kr_goto (tgt := 107) hX dX5_applyAct_69 (by decide) ?_
    refine kr_vret hX hr dX5_applyAct_107 ⟨rfl, ?_⟩
    refine ⟨rfl, ?_⟩
    simp_all [m_act, m_nil, kt_f_0, -Int32.not_le, -Int32.not_lt]
  by_cases c_1_3 : a = 3
  · skip
    refine kr_tabIn (tgt := 72) (off := 71) hX dX5_applyAct_1 (by rw [c_1_3]; decide) (by rw [c_1_3]; decide) (by rw [c_1_3]; rfl) (by decide) ?_
    refine kr_iload_n (i := 3) hX dX5_applyAct_72 rfl rfl ?_
    refine kr_dSN [_] hX km_5_30 dX5_applyAct_73 (sp_isVar) rfl rfl (by decide) (Nat.le_of_ble_eq_true rfl) (Nat.le_refl _) (Nat.le_refl _) ?_
    refine kr_if_eq (tgt := 107) hX dX5_applyAct_76 (by decide) (fun c_76 => ?_) (fun c_76 => ?_)
    · skip
      refine kr_vret hX hr dX5_applyAct_107 ⟨rfl, ?_⟩
      refine ⟨rfl, ?_⟩
      simp_all [m_act, m_nil, kt_f_0, -Int32.not_le, -Int32.not_lt]
    · skip
      refine kr_aload_n (i := 0) hX dX5_applyAct_79 rfl rfl ?_
      refine kr_iload_n (i := 2) hX dX5_applyAct_80 rfl rfl ?_
      refine kr_aload_n (i := 0) hX dX5_applyAct_81 rfl rfl ?_
      refine kr_iload_n (i := 3) hX dX5_applyAct_82 rfl rfl ?_
      refine kr_dV (c1 := 5) [_, _, _] hX km_5_26 dX5_applyAct_83 (sp_cpv hp0 hp0 (Or.inl rfl) (by assumption) (by assumption) (k_isv_in (by simp only [kt_f_0, Classical.not_not] at c_76; exact c_76))) rfl rfl ⟨_, _, rfl⟩ (by decide) (Nat.le_of_ble_eq_true rfl) (Nat.le_refl _) (Nat.le_refl _) (by assumption) ?_
      refine kr_goto (tgt := 107) hX dX5_applyAct_86 (by decide) ?_
      refine kr_vret hX hr dX5_applyAct_107 ⟨rfl, ?_⟩
      refine ⟨rfl, ?_⟩
      simp_all [m_act, m_nil, kt_f_0, -Int32.not_le, -Int32.not_lt]
  by_cases c_1_4 : a = 4
  · skip
    refine kr_tabIn (tgt := 89) (off := 88) hX dX5_applyAct_1 (by rw [c_1_4]; decide) (by rw [c_1_4]; decide) (by rw [c_1_4]; rfl) (by decide) ?_
    refine kr_aload_n (i := 0) hX dX5_applyAct_89 rfl rfl ?_
    refine kr_iload_n (i := 2) hX dX5_applyAct_90 rfl rfl ?_
    refine kr_iconst (v := 0) hX dX5_applyAct_91 (by decide) ?_
    refine kr_bipush (v := 50) hX dX5_applyAct_92 (by decide) ?_
    refine kr_dV (c1 := 5) [_, _, _] hX km_5_22 dX5_applyAct_94 (sp_setNumbers hp0 (by assumption)) rfl rfl ⟨_, _, rfl⟩ (by decide) (Nat.le_of_ble_eq_true rfl) (Nat.le_refl _) (Nat.le_refl _) (by assumption) ?_
    refine kr_aload_n (i := 0) hX dX5_applyAct_97 rfl rfl ?_
    refine kr_getr (c0 := 5) (k := 2) hX ⟨_, kf_5_18⟩ dX5_applyAct_98 rfl (by assumption) (by assumption) ?_
    refine kr_iload_n (i := 2) hX dX5_applyAct_101 rfl rfl ?_
    refine kr_iconst (v := 1) hX dX5_applyAct_102 (by decide) ?_
    refine kr_bast hX dX5_applyAct_103 (by first | exact Or.inl rfl | exact Or.inr rfl | assumption) (by assumption) (by assumption) ?_
    refine kr_goto (tgt := 107) hX dX5_applyAct_104 (by decide) ?_
    refine kr_vret hX hr dX5_applyAct_107 ⟨rfl, ?_⟩
    refine ⟨rfl, ?_⟩
    simp_all [m_act, m_nil, kt_f_0, -Int32.not_le, -Int32.not_lt]
  refine kr_tabOut (tgt := 107) hX dX5_applyAct_1 (by have q_0 := kt_ne c_1_0 (z := 0) (by decide); have q_1 := kt_ne c_1_1 (z := 1) (by decide); have q_2 := kt_ne c_1_2 (z := 2) (by decide); have q_3 := kt_ne c_1_3 (z := 3) (by decide); have q_4 := kt_ne c_1_4 (z := 4) (by decide); omega) (by decide) ?_
  refine kr_vret hX hr dX5_applyAct_107 ⟨rfl, ?_⟩
  refine ⟨rfl, ?_⟩
  simp_all [m_act, m_nil, kt_f_0, -Int32.not_le, -Int32.not_lt]

set_option maxHeartbeats 4000000 in
set_option maxRecDepth 100000 in
theorem lp_acts {G : kt_G} {σ : kt_Y} {X : kt_X} (hX : kt_ok G X RX5 cX5_applyActs 3 3 0 0) (hr : kt_rt X = none) {Q : Option Value → kt_M → Prop} {p : Nat} (hp : kt_rg σ p) {b : Nat} (hb : kt_blk σ b) (hne : p + 4 ≤ b ∨ b + 4 ≤ p) {m : Nat} (hm : m ≤ 4) : ∀ (n i : Nat) (μ : kt_M) , i + n = m → kt_i μ b 0 = nI m → kt_01 μ (p + 3) → (Q none (m_actsL p b n i μ)) → kt_W G X 3 2 [(0, .ref p), (1, .ref b), (2, .int (nI i))] [] σ μ 0 0 (kt_Z G X (kt_q σ Q) 0 0) := by
  have hp0 := hp
  obtain ⟨hk0, hr1, hr2, hr3, hk1, hk2, hk3⟩ := hp
  obtain ⟨gk0, gr1, gr2, gr3, gk1, gk2, gk3⟩ := hb
  intro n
  induction n with
  | zero =>
    intro i μ hin ha hz hQ
    have hib : i = m := by omega
    refine kr_iload_n (i := 2) hX dX5_applyActs_2 rfl rfl ?_
    refine kr_aload_n (i := 1) hX dX5_applyActs_3 rfl rfl ?_
    refine kr_geti (c0 := 0) (k := 0) hX ⟨_, kf_5_34⟩ dX5_applyActs_4 rfl (by assumption) ?_
    refine kr_icmp_ge (tgt := 55) hX dX5_applyActs_7 (by decide) (fun c_7 => ?_) (fun c_7 => ?_)
    · skip
      refine kr_vret hX hr dX5_applyActs_55 ⟨rfl, ?_⟩
      exact hQ
    · skip
      exact absurd (by rw [ha, hib]; exact Int32.le_refl _) c_7
  | succ n ih =>
    intro i μ hin ha hz hQ
    have hib : i < m := by omega
    refine kr_iload_n (i := 2) hX dX5_applyActs_2 rfl rfl ?_
    refine kr_aload_n (i := 1) hX dX5_applyActs_3 rfl rfl ?_
    refine kr_geti (c0 := 0) (k := 0) hX ⟨_, kf_5_34⟩ dX5_applyActs_4 rfl (by assumption) ?_
    refine kr_icmp_ge (tgt := 55) hX dX5_applyActs_7 (by decide) (fun c_7 => ?_) (fun c_7 => ?_)
    · skip
      exact absurd c_7 (by rw [ha]; exact nI_ge hib (by omega))
    · skip
      refine kr_iload_n (i := 2) hX dX5_applyActs_10 rfl rfl ?_
      refine kr_iconst (v := 4) hX dX5_applyActs_11 (by decide) ?_
      refine kr_icmp_ge (tgt := 55) hX dX5_applyActs_12 (by decide) (fun c_12 => ?_) (fun c_12 => ?_)
      · skip
        exact absurd c_12 (kt_ge (b := 4) rfl (by omega) (by decide))
      · skip
        refine kr_aload_n (i := 1) hX dX5_applyActs_15 rfl rfl ?_
        refine kr_getr (c0 := 0) (k := 2) hX ⟨_, kf_5_40⟩ dX5_applyActs_16 rfl (by assumption) (by assumption) ?_
        refine kr_iload_n (i := 2) hX dX5_applyActs_19 rfl rfl ?_
        refine kr_ialdN hX dX5_applyActs_20 (by assumption) (by omega) ?_
        refine kr_dSN [_] hX km_5_30 dX5_applyActs_21 (sp_isVar) rfl rfl (by decide) (Nat.le_of_ble_eq_true rfl) (Nat.le_refl _) (Nat.le_refl _) ?_
        refine kr_if_eq (tgt := 49) hX dX5_applyActs_24 (by decide) (fun c_24 => ?_) (fun c_24 => ?_)
        · skip
          refine kr_iinc (v := nI (i + 1)) hX dX5_applyActs_49 rfl (by first | exact nI_1 _ | rfl) (by decide) rfl rfl ?_
          refine kr_goto (tgt := 2) hX dX5_applyActs_52 (by decide) ?_
          refine ih (i + 1) _ (by omega) ?_ ?_ ?_
          · first
            | exact ha
            | (rw [m_act_out (by omega)]; exact ha)
          · first
            | exact hz
            | exact m_act_01 hz
          · simp only [kt_f_0, Classical.not_not] at c_24
            simp only [m_actsL, m_act1] at hQ
            first
            | (rw [if_pos c_24] at hQ; exact hQ)
            | (rw [if_neg c_24] at hQ; exact hQ)
        · skip
          refine kr_aload_n (i := 0) hX dX5_applyActs_27 rfl rfl ?_
          refine kr_aload_n (i := 1) hX dX5_applyActs_28 rfl rfl ?_
          refine kr_getr (c0 := 0) (k := 1) hX ⟨_, kf_5_43⟩ dX5_applyActs_29 rfl (by assumption) (by assumption) ?_
          refine kr_iload_n (i := 2) hX dX5_applyActs_32 rfl rfl ?_
          refine kr_ialdN hX dX5_applyActs_33 (by assumption) (by omega) ?_
          refine kr_aload_n (i := 1) hX dX5_applyActs_34 rfl rfl ?_
          refine kr_getr (c0 := 0) (k := 2) hX ⟨_, kf_5_40⟩ dX5_applyActs_35 rfl (by assumption) (by assumption) ?_
          refine kr_iload_n (i := 2) hX dX5_applyActs_38 rfl rfl ?_
          refine kr_ialdN hX dX5_applyActs_39 (by assumption) (by omega) ?_
          refine kr_aload_n (i := 1) hX dX5_applyActs_40 rfl rfl ?_
          refine kr_getr (c0 := 0) (k := 3) hX ⟨_, kf_5_46⟩ dX5_applyActs_41 rfl (by assumption) (by assumption) ?_
          refine kr_iload_n (i := 2) hX dX5_applyActs_44 rfl rfl ?_
          refine kr_ialdN hX dX5_applyActs_45 (by assumption) (by omega) ?_
          refine kr_dV (c1 := 5) [_, _, _] hX km_5_49 dX5_applyActs_46 (sp_act hp0 (k_isv_in (by simp only [kt_f_0, Classical.not_not] at c_24; exact c_24)) hz) rfl rfl ⟨_, _, rfl⟩ (by decide) (Nat.le_of_ble_eq_true rfl) (Nat.le_refl _) (Nat.le_refl _) (by assumption) ?_
          refine kr_iinc (v := nI (i + 1)) hX dX5_applyActs_49 rfl (by first | exact nI_1 _ | rfl) (by decide) rfl rfl ?_
          refine kr_goto (tgt := 2) hX dX5_applyActs_52 (by decide) ?_
          refine ih (i + 1) _ (by omega) ?_ ?_ ?_
          · first
            | exact ha
            | (rw [m_act_out (by omega)]; exact ha)
          · first
            | exact hz
            | exact m_act_01 hz
          · simp only [kt_f_0, Classical.not_not] at c_24
            simp only [m_actsL, m_act1] at hQ
            first
            | (rw [if_pos c_24] at hQ; exact hQ)
            | (rw [if_neg c_24] at hQ; exact hQ)

set_option maxHeartbeats 4000000 in
set_option maxRecDepth 100000 in
theorem sp_acts {G : kt_G} {σ : kt_Y} {μ : kt_M} {p : Nat} (hp : kt_rg σ p) {b : Nat} (hb : kt_blk σ b) (hne : p + 4 ≤ b ∨ b + 4 ≤ p) {m : Nat} (hm : m ≤ 4) (ha : kt_i μ b 0 = nI m) (hz : kt_01 μ (p + 3)) : kt_F G yX5_applyActs cX5_applyActs 3 none 3 [.ref p, .ref b] σ μ (fun r μ2 => r = none ∧ μ2 = m_actsL p b m 0 μ) := by
  refine kt_F.of (by decide) (Nat.le_of_ble_eq_true rfl) (fun X hX hr => ?_)
  have hp0 := hp
  obtain ⟨hk0, hr1, hr2, hr3, hk1, hk2, hk3⟩ := hp
  refine kr_iconst (v := 0) hX dX5_applyActs_0 (by decide) ?_
  refine kr_istore_n (i := 2) hX dX5_applyActs_1 rfl (by decide) rfl rfl ?_
  exact lp_acts hX hr hp0 hb hne hm m 0 μ (by omega) ha hz ⟨rfl, rfl⟩


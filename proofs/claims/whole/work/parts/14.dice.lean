def kt_di (σ : kt_Y) (p : Nat) : Prop := kt_k σ p = some (0, 1)
def k_sd (s : Int32) : Int32 := s * 1103515245 + 12345
def k_dr (s : Int32) : Int32 := (s >>> (16 &&& 31)) &&& 32767
def k_rem (x m : Int32) : Int32 := x - x / m * m
def d_val (μ : kt_M) (p : Nat) (m : Int32) : Int32 := if m ≤ 0 then 0 else k_rem (k_dr (k_sd (kt_i μ p 0))) m
def d_nx (μ : kt_M) (p : Nat) : kt_M := kt_si μ p 0 (k_sd (kt_i μ p 0))
def m_add (μ : kt_M) (p : Nat) (a b c : Int32) : kt_M := kt_si (kt_si (kt_si (kt_si μ (p + 1) (kt_i μ p 0).toNatClampNeg a) (p + 2) (kt_i μ p 0).toNatClampNeg b) (p + 3) (kt_i μ p 0).toNatClampNeg c) p 0 (kt_i μ p 0 + 1)
/-- the third of an act: drawn by its kind -/
def d_opn (μ : kt_M) (p : Nat) (k : Int32) : Int32 × kt_M := if k = 0 then (d_val μ p 51, d_nx μ p) else if k = 1 then (d_val μ p 5, d_nx μ p) else if k = 2 then (d_val μ p 5, d_nx μ p) else if k = 3 then (d_val μ p 4, d_nx μ p) else (0, μ)
def d_act (μ : kt_M) (p b : Nat) : kt_M := m_add (d_opn (d_nx (d_nx μ p) p) p (d_val μ p 6)).2 b (d_val μ p 6) (d_val (d_nx μ p) p 4) (d_opn (d_nx (d_nx μ p) p) p (d_val μ p 6)).1
def d_end (μ : kt_M) (p b : Nat) : kt_M :=
  let e := if d_val μ p 5 = 4 then 2 else d_val μ p 5
  let μ2 := kt_si (d_nx μ p) b 4 e
  if ¬ kb_test e then μ2 else
    let μ3 := kt_si (d_nx μ2 p) b 5 (d_val μ2 p 4)
    let g := d_val μ3 p 32768
    let μ5 := kt_si (d_nx μ3 p) b 6 (if k_rem g 2 = 0 then 0 else 1)
    kt_si μ5 b 7 (k_rem (g / 8) (if k_rem g 2 = 0 then 51 else 4))
def d_actsL (p b : Nat) : Nat → kt_M → kt_M
  | 0, μ => μ
  | n + 1, μ => d_actsL p b n (d_act μ p b)
def d_aimL (p b : Nat) (m : Int32) : Nat → Nat → kt_M → kt_M
  | 0, _, μ => μ
  | n + 1, i, μ => d_aimL p b m n (i + 1) (kt_si (d_nx μ p) b (if nI i = 0 then 8 else 9) (d_val μ p m))
theorem d_nx_out {μ : kt_M} {p x k : Nat} (h : x ≠ p) : kt_i (d_nx μ p) x k = kt_i μ x k := kt_i_sin h
theorem d_opn_out {μ : kt_M} {p x k : Nat} {a : Int32} (h : x ≠ p) : kt_i (d_opn μ p a).2 x k = kt_i μ x k := by
  unfold d_opn
  repeat' split
  all_goals first | exact d_nx_out h | rfl
set_option maxHeartbeats 4000000 in
set_option maxRecDepth 100000 in
theorem sp_next {G : kt_G} {σ : kt_Y} {μ : kt_M} {p : Nat} (hp : kt_di σ p) {m : Int32} : kt_F G yX1_next cX1_next 3 (some .int) 0 [.ref p, .int m] σ μ (fun r μ2 => r = some (.int (d_val μ p m)) ∧ μ2 = d_nx μ p) := by
  refine kt_F.of (by decide) (Nat.le_of_ble_eq_true rfl) (fun X hX hr => ?_)
  have hp0 := hp
  unfold kt_di at hp
  refine kr_aload_n (i := 0) hX dX1_next_0 rfl rfl ?_
  refine kr_aload_n (i := 0) hX dX1_next_1 rfl rfl ?_
  refine kr_geti (c0 := 1) (k := 0) hX ⟨_, kf_1_9⟩ dX1_next_2 rfl (by assumption) ?_
  refine kr_ldc (v := 1103515245) hX kw_924 dX1_next_5 ?_
  refine kr_imul hX dX1_next_7 ?_
  refine kr_sipush (v := 12345) hX dX1_next_8 (by decide) ?_
  refine kr_iadd hX dX1_next_11 ?_
  refine kr_puti (c0 := 1) (k := 0) hX kf_1_9 dX1_next_12 rfl rfl rfl (by assumption) ?_
  refine kr_aload_n (i := 0) hX dX1_next_15 rfl rfl ?_
  refine kr_geti (c0 := 1) (k := 0) hX ⟨_, kf_1_9⟩ dX1_next_16 rfl (by assumption) ?_
  refine kr_rw (y := k_sd (kt_i μ p 0)) (by exact kt_i_sie) ?_
  refine kr_bipush (v := 16) hX dX1_next_19 (by decide) ?_
  refine kr_ishr hX dX1_next_21 ?_
  refine kr_sipush (v := 32767) hX dX1_next_22 (by decide) ?_
  refine kr_iand hX dX1_next_25 ?_
  refine kr_istore_n (i := 2) hX dX1_next_26 rfl (by decide) rfl rfl ?_
  refine kr_iload_n (i := 1) hX dX1_next_27 rfl rfl ?_
  refine kr_if_le (tgt := 37) hX dX1_next_28 (by decide) (fun c_28 => ?_) (fun c_28 => ?_)
  · skip
    refine kr_iconst (v := 0) hX dX1_next_37 (by decide) ?_
    refine kr_iret hX hr dX1_next_38 ⟨rfl, ?_⟩
    refine ⟨?_, rfl⟩
    simp_all [d_val, k_rem, k_dr, -Int32.not_le, -Int32.not_lt]
  · skip
    refine kr_iload_n (i := 2) hX dX1_next_31 rfl rfl ?_
    refine kr_iload_n (i := 1) hX dX1_next_32 rfl rfl ?_
    refine kr_irem hX dX1_next_33 (by intro e; subst e; exact c_28 (by decide)) ?_
    refine kr_goto (tgt := 38) hX dX1_next_34 (by decide) ?_
    refine kr_iret hX hr dX1_next_38 ⟨rfl, ?_⟩
    refine ⟨?_, rfl⟩
    simp_all [d_val, k_rem, k_dr, -Int32.not_le, -Int32.not_lt]

set_option maxHeartbeats 4000000 in
set_option maxRecDepth 100000 in
theorem sp_dact {G : kt_G} {σ : kt_Y} {μ : kt_M} {p : Nat} (hp : kt_di σ p) {b : Nat} (hb : kt_blk σ b) (hne : p + 1 ≤ b ∨ b + 4 ≤ p) (ha : vp_in (kt_i μ b 0) 4) : kt_F G yX1_makeAct cX1_makeAct 5 none 1 [.ref p, .ref b] σ μ (fun r μ2 => r = none ∧ μ2 = d_act μ p b) := by
  refine kt_F.of (by decide) (Nat.le_of_ble_eq_true rfl) (fun X hX hr => ?_)
  have hp0 := hp
  unfold kt_di at hp
  have hb0 := hb
  obtain ⟨gk0, gr1, gr2, gr3, gk1, gk2, gk3⟩ := hb
  refine kr_aload_n (i := 0) hX dX1_makeAct_0 rfl rfl ?_
  refine kr_bipush (v := 6) hX dX1_makeAct_1 (by decide) ?_
  refine kr_dV (c1 := 1) [_] hX km_1_16 dX1_makeAct_3 (sp_next hp0) rfl rfl ⟨_, _, rfl⟩ (by decide) (Nat.le_of_ble_eq_true rfl) (Nat.le_refl _) (Nat.le_refl _) (by assumption) ?_
  refine kr_istore_n (i := 2) hX dX1_makeAct_6 rfl (by decide) rfl rfl ?_
  refine kr_aload_n (i := 0) hX dX1_makeAct_7 rfl rfl ?_
  refine kr_iconst (v := 4) hX dX1_makeAct_8 (by decide) ?_
  refine kr_dV (c1 := 1) [_] hX km_1_16 dX1_makeAct_9 (sp_next hp0) rfl rfl ⟨_, _, rfl⟩ (by decide) (Nat.le_of_ble_eq_true rfl) (Nat.le_refl _) (Nat.le_refl _) (by assumption) ?_
  refine kr_istore_n (i := 3) hX dX1_makeAct_12 rfl (by decide) rfl rfl ?_
  refine kr_iconst (v := 0) hX dX1_makeAct_13 (by decide) ?_
  refine kr_istore hX dX1_makeAct_14 (by decide) rfl rfl ?_
  refine kr_iload_n (i := 2) hX dX1_makeAct_16 rfl rfl ?_
  by_cases c_17_0 : d_val μ p 6 = 0
  · skip
    refine kr_tabIn (tgt := 48) (off := 31) hX dX1_makeAct_17 (by rw [c_17_0]; decide) (by rw [c_17_0]; decide) (by rw [c_17_0]; rfl) (by decide) ?_
    refine kr_aload_n (i := 0) hX dX1_makeAct_48 rfl rfl ?_
    refine kr_bipush (v := 51) hX dX1_makeAct_49 (by decide) ?_
    refine kr_dV (c1 := 1) [_] hX km_1_16 dX1_makeAct_51 (sp_next hp0) rfl rfl ⟨_, _, rfl⟩ (by decide) (Nat.le_of_ble_eq_true rfl) (Nat.le_refl _) (Nat.le_refl _) (by assumption) ?_
    refine kr_istore hX dX1_makeAct_54 (by decide) rfl rfl ?_
    refine kr_goto (tgt := 79) hX dX1_makeAct_56 (by decide) ?_
    refine kr_aload_n (i := 1) hX dX1_makeAct_79 rfl rfl ?_
    refine kr_iload_n (i := 2) hX dX1_makeAct_80 rfl rfl ?_
    refine kr_iload_n (i := 3) hX dX1_makeAct_81 rfl rfl ?_
    refine kr_iload hX dX1_makeAct_82 rfl ?_
    refine kr_dV (c1 := 0) [_, _, _] hX km_1_37 dX1_makeAct_84 (sp_addAct hb0 (by (repeat (first | rw [d_nx_out (by omega)] | rw [d_opn_out (by omega)])); exact ha)) rfl rfl ⟨_, _, rfl⟩ (by decide) (Nat.le_of_ble_eq_true rfl) (Nat.le_refl _) (Nat.le_refl _) (by assumption) ?_
    refine kr_vret hX hr dX1_makeAct_87 ⟨rfl, ?_⟩
    refine ⟨rfl, ?_⟩
    simp_all [d_act, d_opn, m_add]
  by_cases c_17_1 : d_val μ p 6 = 1
  · skip
    refine kr_tabIn (tgt := 59) (off := 42) hX dX1_makeAct_17 (by rw [c_17_1]; decide) (by rw [c_17_1]; decide) (by rw [c_17_1]; rfl) (by decide) ?_
    refine kr_aload_n (i := 0) hX dX1_makeAct_59 rfl rfl ?_
    refine kr_iconst (v := 5) hX dX1_makeAct_60 (by decide) ?_
    refine kr_dV (c1 := 1) [_] hX km_1_16 dX1_makeAct_61 (sp_next hp0) rfl rfl ⟨_, _, rfl⟩ (by decide) (Nat.le_of_ble_eq_true rfl) (Nat.le_refl _) (Nat.le_refl _) (by assumption) ?_
    refine kr_istore hX dX1_makeAct_64 (by decide) rfl rfl ?_
    refine kr_goto (tgt := 79) hX dX1_makeAct_66 (by decide) ?_
    refine kr_aload_n (i := 1) hX dX1_makeAct_79 rfl rfl ?_
    refine kr_iload_n (i := 2) hX dX1_makeAct_80 rfl rfl ?_
    refine kr_iload_n (i := 3) hX dX1_makeAct_81 rfl rfl ?_
    refine kr_iload hX dX1_makeAct_82 rfl ?_
    refine kr_dV (c1 := 0) [_, _, _] hX km_1_37 dX1_makeAct_84 (sp_addAct hb0 (by (repeat (first | rw [d_nx_out (by omega)] | rw [d_opn_out (by omega)])); exact ha)) rfl rfl ⟨_, _, rfl⟩ (by decide) (Nat.le_of_ble_eq_true rfl) (Nat.le_refl _) (Nat.le_refl _) (by assumption) ?_
    refine kr_vret hX hr dX1_makeAct_87 ⟨rfl, ?_⟩
    refine ⟨rfl, ?_⟩
    simp_all [d_act, d_opn, m_add]
  by_cases c_17_2 : d_val μ p 6 = 2
  · skip
    refine kr_tabIn (tgt := 59) (off := 42) hX dX1_makeAct_17 (by rw [c_17_2]; decide) (by rw [c_17_2]; decide) (by rw [c_17_2]; rfl) (by decide) ?_
    refine kr_aload_n (i := 0) hX dX1_makeAct_59 rfl rfl ?_
    refine kr_iconst (v := 5) hX dX1_makeAct_60 (by decide) ?_
    refine kr_dV (c1 := 1) [_] hX km_1_16 dX1_makeAct_61 (sp_next hp0) rfl rfl ⟨_, _, rfl⟩ (by decide) (Nat.le_of_ble_eq_true rfl) (Nat.le_refl _) (Nat.le_refl _) (by assumption) ?_
    refine kr_istore hX dX1_makeAct_64 (by decide) rfl rfl ?_
    refine kr_goto (tgt := 79) hX dX1_makeAct_66 (by decide) ?_
    refine kr_aload_n (i := 1) hX dX1_makeAct_79 rfl rfl ?_
    refine kr_iload_n (i := 2) hX dX1_makeAct_80 rfl rfl ?_
    refine kr_iload_n (i := 3) hX dX1_makeAct_81 rfl rfl ?_
    refine kr_iload hX dX1_makeAct_82 rfl ?_
    refine kr_dV (c1 := 0) [_, _, _] hX km_1_37 dX1_makeAct_84 (sp_addAct hb0 (by (repeat (first | rw [d_nx_out (by omega)] | rw [d_opn_out (by omega)])); exact ha)) rfl rfl ⟨_, _, rfl⟩ (by decide) (Nat.le_of_ble_eq_true rfl) (Nat.le_refl _) (Nat.le_refl _) (by assumption) ?_
    refine kr_vret hX hr dX1_makeAct_87 ⟨rfl, ?_⟩
    refine ⟨rfl, ?_⟩
    simp_all [d_act, d_opn, m_add]
  by_cases c_17_3 : d_val μ p 6 = 3
  · skip
    refine kr_tabIn (tgt := 69) (off := 52) hX dX1_makeAct_17 (by rw [c_17_3]; decide) (by rw [c_17_3]; decide) (by rw [c_17_3]; rfl) (by decide) ?_
    refine kr_aload_n (i := 0) hX dX1_makeAct_69 rfl rfl ?_
    refine kr_iconst (v := 4) hX dX1_makeAct_70 (by decide) ?_
    refine kr_dV (c1 := 1) [_] hX km_1_16 dX1_makeAct_71 (sp_next hp0) rfl rfl ⟨_, _, rfl⟩ (by decide) (Nat.le_of_ble_eq_true rfl) (Nat.le_refl _) (Nat.le_refl _) (by assumption) ?_
    refine kr_istore hX dX1_makeAct_74 (by decide) rfl rfl ?_
    refine kr_goto (tgt := 79) hX dX1_makeAct_76 (by decide) ?_
    refine kr_aload_n (i := 1) hX dX1_makeAct_79 rfl rfl ?_
    refine kr_iload_n (i := 2) hX dX1_makeAct_80 rfl rfl ?_
    refine kr_iload_n (i := 3) hX dX1_makeAct_81 rfl rfl ?_
    refine kr_iload hX dX1_makeAct_82 rfl ?_
    refine kr_dV (c1 := 0) [_, _, _] hX km_1_37 dX1_makeAct_84 (sp_addAct hb0 (by (repeat (first | rw [d_nx_out (by omega)] | rw [d_opn_out (by omega)])); exact ha)) rfl rfl ⟨_, _, rfl⟩ (by decide) (Nat.le_of_ble_eq_true rfl) (Nat.le_refl _) (Nat.le_refl _) (by assumption) ?_
    refine kr_vret hX hr dX1_makeAct_87 ⟨rfl, ?_⟩
    refine ⟨rfl, ?_⟩
    simp_all [d_act, d_opn, m_add]
  refine kr_tabOut (tgt := 79) hX dX1_makeAct_17 (by have q_0 := kt_ne c_17_0 (z := 0) (by decide); have q_1 := kt_ne c_17_1 (z := 1) (by decide); have q_2 := kt_ne c_17_2 (z := 2) (by decide); have q_3 := kt_ne c_17_3 (z := 3) (by decide); omega) (by decide) ?_
  refine kr_aload_n (i := 1) hX dX1_makeAct_79 rfl rfl ?_
  refine kr_iload_n (i := 2) hX dX1_makeAct_80 rfl rfl ?_
  refine kr_iload_n (i := 3) hX dX1_makeAct_81 rfl rfl ?_
  refine kr_iload hX dX1_makeAct_82 rfl ?_
  refine kr_dV (c1 := 0) [_, _, _] hX km_1_37 dX1_makeAct_84 (sp_addAct hb0 (by (repeat (first | rw [d_nx_out (by omega)] | rw [d_opn_out (by omega)])); exact ha)) rfl rfl ⟨_, _, rfl⟩ (by decide) (Nat.le_of_ble_eq_true rfl) (Nat.le_refl _) (Nat.le_refl _) (by assumption) ?_
  refine kr_vret hX hr dX1_makeAct_87 ⟨rfl, ?_⟩
  refine ⟨rfl, ?_⟩
  simp_all [d_act, d_opn, m_add]

set_option maxHeartbeats 4000000 in
set_option maxRecDepth 100000 in
theorem sp_dend {G : kt_G} {σ : kt_Y} {μ : kt_M} {p : Nat} (hp : kt_di σ p) {b : Nat} (hb : kt_blk σ b) (hne : p + 1 ≤ b ∨ b + 4 ≤ p) : kt_F G yX1_makeEnd cX1_makeEnd 4 none 1 [.ref p, .ref b] σ μ (fun r μ2 => r = none ∧ μ2 = d_end μ p b) := by
  refine kt_F.of (by decide) (Nat.le_of_ble_eq_true rfl) (fun X hX hr => ?_)
  have hp0 := hp
  unfold kt_di at hp
  have hb0 := hb
  obtain ⟨gk0, gr1, gr2, gr3, gk1, gk2, gk3⟩ := hb
  refine kr_aload_n (i := 0) hX dX1_makeEnd_0 rfl rfl ?_
  refine kr_iconst (v := 5) hX dX1_makeEnd_1 (by decide) ?_
  refine kr_dV (c1 := 1) [_] hX km_1_16 dX1_makeEnd_2 (sp_next hp0) rfl rfl ⟨_, _, rfl⟩ (by decide) (Nat.le_of_ble_eq_true rfl) (Nat.le_refl _) (Nat.le_refl _) (by assumption) ?_
  refine kr_istore_n (i := 2) hX dX1_makeEnd_5 rfl (by decide) rfl rfl ?_
  refine kr_aload_n (i := 1) hX dX1_makeEnd_6 rfl rfl ?_
  refine kr_iload_n (i := 2) hX dX1_makeEnd_7 rfl rfl ?_
  refine kr_iconst (v := 4) hX dX1_makeEnd_8 (by decide) ?_
  refine kr_icmp_ne (tgt := 16) hX dX1_makeEnd_9 (by decide) (fun c_9 => ?_) (fun c_9 => ?_)
  · skip
    refine kr_iload_n (i := 2) hX dX1_makeEnd_16 rfl rfl ?_
    refine kr_puti (c0 := 0) (k := 4) hX kf_1_41 dX1_makeEnd_17 rfl rfl rfl (by assumption) ?_
    refine kr_aload_n (i := 1) hX dX1_makeEnd_20 rfl rfl ?_
    refine kr_dV (c1 := 0) [] hX km_1_44 dX1_makeEnd_21 (sp_isTest hb0) rfl rfl ⟨_, _, rfl⟩ (by decide) (Nat.le_of_ble_eq_true rfl) (Nat.le_refl _) (Nat.le_refl _) (by assumption) ?_
    refine kr_if_eq (tgt := 80) hX dX1_makeEnd_24 (by decide) (fun c_24 => ?_) (fun c_24 => ?_)
    · skip
      refine kr_vret hX hr dX1_makeEnd_80 ⟨rfl, ?_⟩
      refine ⟨rfl, ?_⟩
      simp only [kt_f_0, kt_i_sie, Classical.not_not] at *
      simp_all [d_end, k_rem]
    · skip
      refine kr_aload_n (i := 1) hX dX1_makeEnd_27 rfl rfl ?_
      refine kr_aload_n (i := 0) hX dX1_makeEnd_28 rfl rfl ?_
      refine kr_iconst (v := 4) hX dX1_makeEnd_29 (by decide) ?_
      refine kr_dV (c1 := 1) [_] hX km_1_16 dX1_makeEnd_30 (sp_next hp0) rfl rfl ⟨_, _, rfl⟩ (by decide) (Nat.le_of_ble_eq_true rfl) (Nat.le_refl _) (Nat.le_refl _) (by assumption) ?_
      refine kr_puti (c0 := 0) (k := 5) hX kf_1_48 dX1_makeEnd_33 rfl rfl rfl (by assumption) ?_
      refine kr_aload_n (i := 0) hX dX1_makeEnd_36 rfl rfl ?_
      refine kr_ldc (v := 32768) hX kw_948 dX1_makeEnd_37 ?_
      refine kr_dV (c1 := 1) [_] hX km_1_16 dX1_makeEnd_39 (sp_next hp0) rfl rfl ⟨_, _, rfl⟩ (by decide) (Nat.le_of_ble_eq_true rfl) (Nat.le_refl _) (Nat.le_refl _) (by assumption) ?_
      refine kr_istore_n (i := 3) hX dX1_makeEnd_42 rfl (by decide) rfl rfl ?_
      refine kr_aload_n (i := 1) hX dX1_makeEnd_43 rfl rfl ?_
      refine kr_iload_n (i := 3) hX dX1_makeEnd_44 rfl rfl ?_
      refine kr_iconst (v := 2) hX dX1_makeEnd_45 (by decide) ?_
      refine kr_irem hX dX1_makeEnd_46 (by decide) ?_
      refine kr_if_eq (tgt := 54) hX dX1_makeEnd_47 (by decide) (fun c_47 => ?_) (fun c_47 => ?_)
      · skip
        refine kr_iconst (v := 0) hX dX1_makeEnd_54 (by decide) ?_
        refine kr_puti (c0 := 0) (k := 6) hX kf_1_52 dX1_makeEnd_55 rfl (kt_bz (by first | exact Or.inl rfl | exact Or.inr rfl | assumption)).1 (kt_bz (by first | exact Or.inl rfl | exact Or.inr rfl | assumption)).2 (by assumption) ?_
        refine kr_aload_n (i := 1) hX dX1_makeEnd_58 rfl rfl ?_
        refine kr_iload_n (i := 3) hX dX1_makeEnd_59 rfl rfl ?_
        refine kr_bipush (v := 8) hX dX1_makeEnd_60 (by decide) ?_
        refine kr_idiv hX dX1_makeEnd_62 (by decide) ?_
        refine kr_aload_n (i := 1) hX dX1_makeEnd_63 rfl rfl ?_
        refine kr_geti (c0 := 0) (k := 6) hX ⟨_, kf_1_52⟩ dX1_makeEnd_64 rfl (by assumption) ?_
        refine kr_if_eq (tgt := 74) hX dX1_makeEnd_67 (by decide) (fun c_67 => ?_) (fun c_67 => ?_)
        · skip
          refine kr_bipush (v := 51) hX dX1_makeEnd_74 (by decide) ?_
          refine kr_irem hX dX1_makeEnd_76 (by decide) ?_
          refine kr_puti (c0 := 0) (k := 7) hX kf_1_56 dX1_makeEnd_77 rfl rfl rfl (by assumption) ?_
          refine kr_vret hX hr dX1_makeEnd_80 ⟨rfl, ?_⟩
          refine ⟨rfl, ?_⟩
          simp only [kt_f_0, kt_i_sie, Classical.not_not] at *
          simp_all [d_end, k_rem]
        · skip
          refine kr_iconst (v := 4) hX dX1_makeEnd_70 (by decide) ?_
          refine kr_goto (tgt := 76) hX dX1_makeEnd_71 (by decide) ?_
          refine kr_irem hX dX1_makeEnd_76 (by decide) ?_
          refine kr_puti (c0 := 0) (k := 7) hX kf_1_56 dX1_makeEnd_77 rfl rfl rfl (by assumption) ?_
          refine kr_vret hX hr dX1_makeEnd_80 ⟨rfl, ?_⟩
          refine ⟨rfl, ?_⟩
          simp only [kt_f_0, kt_i_sie, Classical.not_not] at *
          simp_all [d_end, k_rem]
      · skip
        refine kr_iconst (v := 1) hX dX1_makeEnd_50 (by decide) ?_
        refine kr_goto (tgt := 55) hX dX1_makeEnd_51 (by decide) ?_
        refine kr_puti (c0 := 0) (k := 6) hX kf_1_52 dX1_makeEnd_55 rfl (kt_bz (by first | exact Or.inl rfl | exact Or.inr rfl | assumption)).1 (kt_bz (by first | exact Or.inl rfl | exact Or.inr rfl | assumption)).2 (by assumption) ?_
        refine kr_aload_n (i := 1) hX dX1_makeEnd_58 rfl rfl ?_
        refine kr_iload_n (i := 3) hX dX1_makeEnd_59 rfl rfl ?_
        refine kr_bipush (v := 8) hX dX1_makeEnd_60 (by decide) ?_
        refine kr_idiv hX dX1_makeEnd_62 (by decide) ?_
        refine kr_aload_n (i := 1) hX dX1_makeEnd_63 rfl rfl ?_
        refine kr_geti (c0 := 0) (k := 6) hX ⟨_, kf_1_52⟩ dX1_makeEnd_64 rfl (by assumption) ?_
        refine kr_if_eq (tgt := 74) hX dX1_makeEnd_67 (by decide) (fun c_67 => ?_) (fun c_67 => ?_)
        · skip
          refine kr_bipush (v := 51) hX dX1_makeEnd_74 (by decide) ?_
          refine kr_irem hX dX1_makeEnd_76 (by decide) ?_
          refine kr_puti (c0 := 0) (k := 7) hX kf_1_56 dX1_makeEnd_77 rfl rfl rfl (by assumption) ?_
          refine kr_vret hX hr dX1_makeEnd_80 ⟨rfl, ?_⟩
          refine ⟨rfl, ?_⟩
          simp only [kt_f_0, kt_i_sie, Classical.not_not] at *
          simp_all [d_end, k_rem]
        · skip
          refine kr_iconst (v := 4) hX dX1_makeEnd_70 (by decide) ?_
          refine kr_goto (tgt := 76) hX dX1_makeEnd_71 (by decide) ?_
          refine kr_irem hX dX1_makeEnd_76 (by decide) ?_
          refine kr_puti (c0 := 0) (k := 7) hX kf_1_56 dX1_makeEnd_77 rfl rfl rfl (by assumption) ?_
          refine kr_vret hX hr dX1_makeEnd_80 ⟨rfl, ?_⟩
          refine ⟨rfl, ?_⟩
          simp only [kt_f_0, kt_i_sie, Classical.not_not] at *
          simp_all [d_end, k_rem]
  · skip
    refine kr_iconst (v := 2) hX dX1_makeEnd_12 (by decide) ?_
    refine kr_goto (tgt := 17) hX dX1_makeEnd_13 (by decide) ?_
    refine kr_puti (c0 := 0) (k := 4) hX kf_1_41 dX1_makeEnd_17 rfl rfl rfl (by assumption) ?_
    refine kr_aload_n (i := 1) hX dX1_makeEnd_20 rfl rfl ?_
    refine kr_dV (c1 := 0) [] hX km_1_44 dX1_makeEnd_21 (sp_isTest hb0) rfl rfl ⟨_, _, rfl⟩ (by decide) (Nat.le_of_ble_eq_true rfl) (Nat.le_refl _) (Nat.le_refl _) (by assumption) ?_
    refine kr_if_eq (tgt := 80) hX dX1_makeEnd_24 (by decide) (fun c_24 => ?_) (fun c_24 => ?_)
    · skip
      refine kr_vret hX hr dX1_makeEnd_80 ⟨rfl, ?_⟩
      refine ⟨rfl, ?_⟩
      simp only [kt_f_0, kt_i_sie, Classical.not_not] at *
      simp_all [d_end, k_rem]
    · skip
      refine kr_aload_n (i := 1) hX dX1_makeEnd_27 rfl rfl ?_
      refine kr_aload_n (i := 0) hX dX1_makeEnd_28 rfl rfl ?_
      refine kr_iconst (v := 4) hX dX1_makeEnd_29 (by decide) ?_
      refine kr_dV (c1 := 1) [_] hX km_1_16 dX1_makeEnd_30 (sp_next hp0) rfl rfl ⟨_, _, rfl⟩ (by decide) (Nat.le_of_ble_eq_true rfl) (Nat.le_refl _) (Nat.le_refl _) (by assumption) ?_
      refine kr_puti (c0 := 0) (k := 5) hX kf_1_48 dX1_makeEnd_33 rfl rfl rfl (by assumption) ?_
      refine kr_aload_n (i := 0) hX dX1_makeEnd_36 rfl rfl ?_
      refine kr_ldc (v := 32768) hX kw_948 dX1_makeEnd_37 ?_
      refine kr_dV (c1 := 1) [_] hX km_1_16 dX1_makeEnd_39 (sp_next hp0) rfl rfl ⟨_, _, rfl⟩ (by decide) (Nat.le_of_ble_eq_true rfl) (Nat.le_refl _) (Nat.le_refl _) (by assumption) ?_
      refine kr_istore_n (i := 3) hX dX1_makeEnd_42 rfl (by decide) rfl rfl ?_
      refine kr_aload_n (i := 1) hX dX1_makeEnd_43 rfl rfl ?_
      refine kr_iload_n (i := 3) hX dX1_makeEnd_44 rfl rfl ?_
      refine kr_iconst (v := 2) hX dX1_makeEnd_45 (by decide) ?_
      refine kr_irem hX dX1_makeEnd_46 (by decide) ?_
      refine kr_if_eq (tgt := 54) hX dX1_makeEnd_47 (by decide) (fun c_47 => ?_) (fun c_47 => ?_)
      · skip
        refine kr_iconst (v := 0) hX dX1_makeEnd_54 (by decide) ?_
        refine kr_puti (c0 := 0) (k := 6) hX kf_1_52 dX1_makeEnd_55 rfl (kt_bz (by first | exact Or.inl rfl | exact Or.inr rfl | assumption)).1 (kt_bz (by first | exact Or.inl rfl | exact Or.inr rfl | assumption)).2 (by assumption) ?_
        refine kr_aload_n (i := 1) hX dX1_makeEnd_58 rfl rfl ?_
        refine kr_iload_n (i := 3) hX dX1_makeEnd_59 rfl rfl ?_
        refine kr_bipush (v := 8) hX dX1_makeEnd_60 (by decide) ?_
        refine kr_idiv hX dX1_makeEnd_62 (by decide) ?_
        refine kr_aload_n (i := 1) hX dX1_makeEnd_63 rfl rfl ?_
        refine kr_geti (c0 := 0) (k := 6) hX ⟨_, kf_1_52⟩ dX1_makeEnd_64 rfl (by assumption) ?_
        refine kr_if_eq (tgt := 74) hX dX1_makeEnd_67 (by decide) (fun c_67 => ?_) (fun c_67 => ?_)
        · skip
          refine kr_bipush (v := 51) hX dX1_makeEnd_74 (by decide) ?_
          refine kr_irem hX dX1_makeEnd_76 (by decide) ?_
          refine kr_puti (c0 := 0) (k := 7) hX kf_1_56 dX1_makeEnd_77 rfl rfl rfl (by assumption) ?_
          refine kr_vret hX hr dX1_makeEnd_80 ⟨rfl, ?_⟩
          refine ⟨rfl, ?_⟩
          simp only [kt_f_0, kt_i_sie, Classical.not_not] at *
          simp_all [d_end, k_rem]
        · skip
          refine kr_iconst (v := 4) hX dX1_makeEnd_70 (by decide) ?_
          refine kr_goto (tgt := 76) hX dX1_makeEnd_71 (by decide) ?_
          refine kr_irem hX dX1_makeEnd_76 (by decide) ?_
          refine kr_puti (c0 := 0) (k := 7) hX kf_1_56 dX1_makeEnd_77 rfl rfl rfl (by assumption) ?_
          refine kr_vret hX hr dX1_makeEnd_80 ⟨rfl, ?_⟩
          refine ⟨rfl, ?_⟩
          simp only [kt_f_0, kt_i_sie, Classical.not_not] at *
          simp_all [d_end, k_rem]
      · skip
        refine kr_iconst (v := 1) hX dX1_makeEnd_50 (by decide) ?_
        refine kr_goto (tgt := 55) hX dX1_makeEnd_51 (by decide) ?_
        refine kr_puti (c0 := 0) (k := 6) hX kf_1_52 dX1_makeEnd_55 rfl (kt_bz (by first | exact Or.inl rfl | exact Or.inr rfl | assumption)).1 (kt_bz (by first | exact Or.inl rfl | exact Or.inr rfl | assumption)).2 (by assumption) ?_
        refine kr_aload_n (i := 1) hX dX1_makeEnd_58 rfl rfl ?_
        refine kr_iload_n (i := 3) hX dX1_makeEnd_59 rfl rfl ?_
        refine kr_bipush (v := 8) hX dX1_makeEnd_60 (by decide) ?_
        refine kr_idiv hX dX1_makeEnd_62 (by decide) ?_
        refine kr_aload_n (i := 1) hX dX1_makeEnd_63 rfl rfl ?_
        refine kr_geti (c0 := 0) (k := 6) hX ⟨_, kf_1_52⟩ dX1_makeEnd_64 rfl (by assumption) ?_
        refine kr_if_eq (tgt := 74) hX dX1_makeEnd_67 (by decide) (fun c_67 => ?_) (fun c_67 => ?_)
        · skip
          refine kr_bipush (v := 51) hX dX1_makeEnd_74 (by decide) ?_
          refine kr_irem hX dX1_makeEnd_76 (by decide) ?_
          refine kr_puti (c0 := 0) (k := 7) hX kf_1_56 dX1_makeEnd_77 rfl rfl rfl (by assumption) ?_
          refine kr_vret hX hr dX1_makeEnd_80 ⟨rfl, ?_⟩
          refine ⟨rfl, ?_⟩
          simp only [kt_f_0, kt_i_sie, Classical.not_not] at *
          simp_all [d_end, k_rem]
        · skip
          refine kr_iconst (v := 4) hX dX1_makeEnd_70 (by decide) ?_
          refine kr_goto (tgt := 76) hX dX1_makeEnd_71 (by decide) ?_
          refine kr_irem hX dX1_makeEnd_76 (by decide) ?_
          refine kr_puti (c0 := 0) (k := 7) hX kf_1_56 dX1_makeEnd_77 rfl rfl rfl (by assumption) ?_
          refine kr_vret hX hr dX1_makeEnd_80 ⟨rfl, ?_⟩
          refine ⟨rfl, ?_⟩
          simp only [kt_f_0, kt_i_sie, Classical.not_not] at *
          simp_all [d_end, k_rem]


theorem kt_lk_ne {a o d k : Int} {r : List (Int × Int)} (h : ¬ a = k) : Op.lookupswitch.offset ((a, o) :: r) d k = Op.lookupswitch.offset r d k := if_neg h
theorem kt_lk_eq {a o d k : Int} {r : List (Int × Int)} (h : a = k) : Op.lookupswitch.offset ((a, o) :: r) d k = o := if_pos h
theorem kt_ne {x n : Int32} {z : Int} (h : ¬ x = n) (hz : n.toInt = z) : ¬ z = x.toInt := fun e => h (Int32.toInt_inj.mp (by rw [hz]; exact e.symm))
set_option maxHeartbeats 4000000 in
set_option maxRecDepth 100000 in
theorem sp_testProp {G : kt_G} {σ : kt_Y} {μ : kt_M} {p : Nat} (hp : kt_blk σ p) {w : Int32} (hb : kt_i μ p 6 = 0 ∨ kt_i μ p 6 = 1) : kt_F G yX0_testProperty cX0_testProperty 2 (some .int) 0 [.ref p, .int w] σ μ (fun r μ2 => r = some (.int (if w = 4 then kt_i μ p 5 else if w = 5 then kt_i μ p 6 else kt_i μ p 7)) ∧ μ2 = μ) := by
  refine kt_F.of (by decide) (Nat.le_of_ble_eq_true rfl) (fun X hX hr => ?_)
  obtain ⟨hk0, hr1, hr2, hr3, hk1, hk2, hk3⟩ := hp
  refine kr_iload_n (i := 1) hX dX0_testProperty_0 rfl rfl ?_
  by_cases c_1_4 : w = 4
  · skip
    refine kr_look (tgt := 28) (off := 27) hX dX0_testProperty_1 rfl (kt_lk_eq (by rw [c_1_4]; decide)) (by decide) ?_
    refine kr_aload_n (i := 0) hX dX0_testProperty_28 rfl rfl ?_
    refine kr_geti (c0 := 0) (k := 5) hX ⟨_, kf_0_28⟩ dX0_testProperty_29 rfl (by assumption) ?_
    refine kr_iret hX hr dX0_testProperty_32 ⟨rfl, ?_⟩
    refine ⟨?_, rfl⟩
    rcases hb with hb | hb <;> simp_all
  by_cases c_1_5 : w = 5
  · skip
    refine kr_look (tgt := 33) (off := 32) hX dX0_testProperty_1 rfl ((kt_lk_ne (kt_ne c_1_4 (by decide))).trans (kt_lk_eq (by rw [c_1_5]; decide))) (by decide) ?_
    refine kr_aload_n (i := 0) hX dX0_testProperty_33 rfl rfl ?_
    refine kr_geti (c0 := 0) (k := 6) hX ⟨_, kf_0_31⟩ dX0_testProperty_34 rfl (by assumption) ?_
    refine kr_if_eq (tgt := 44) hX dX0_testProperty_37 (by decide) (fun c_37 => ?_) (fun c_37 => ?_)
    · skip
      refine kr_iconst (v := 0) hX dX0_testProperty_44 (by decide) ?_
      refine kr_iret hX hr dX0_testProperty_45 ⟨rfl, ?_⟩
      refine ⟨?_, rfl⟩
      rcases hb with hb | hb <;> simp_all
    · skip
      refine kr_iconst (v := 1) hX dX0_testProperty_40 (by decide) ?_
      refine kr_goto (tgt := 45) hX dX0_testProperty_41 (by decide) ?_
      refine kr_iret hX hr dX0_testProperty_45 ⟨rfl, ?_⟩
      refine ⟨?_, rfl⟩
      rcases hb with hb | hb <;> simp_all
  refine kr_look (tgt := 46) (off := 45) hX dX0_testProperty_1 rfl ((kt_lk_ne (kt_ne c_1_4 (by decide))).trans ((kt_lk_ne (kt_ne c_1_5 (by decide))).trans (rfl))) (by decide) ?_
  refine kr_aload_n (i := 0) hX dX0_testProperty_46 rfl rfl ?_
  refine kr_geti (c0 := 0) (k := 7) hX ⟨_, kf_0_35⟩ dX0_testProperty_47 rfl (by assumption) ?_
  refine kr_iret hX hr dX0_testProperty_50 ⟨rfl, ?_⟩
  refine ⟨?_, rfl⟩
  rcases hb with hb | hb <;> simp_all

set_option maxHeartbeats 4000000 in
set_option maxRecDepth 100000 in
theorem sp_actProp {G : kt_G} {σ : kt_Y} {μ : kt_M} {p : Nat} (hp : kt_blk σ p) {i w : Int32} (h4 : kt_i μ p 0 ≤ 4) : kt_F G yX0_actProperty cX0_actProperty 3 (some .int) 0 [.ref p, .int i, .int w] σ μ (fun r μ2 => r = some (.int (if i < 0 ∨ kt_i μ p 0 ≤ i then -4 else if w = 0 then kt_i μ (p + 1) i.toNatClampNeg else if w = 1 then kt_i μ (p + 2) i.toNatClampNeg else if kt_i μ (p + 1) i.toNatClampNeg = 4 ∨ kt_i μ (p + 1) i.toNatClampNeg = 5 then -4 else kt_i μ (p + 3) i.toNatClampNeg)) ∧ μ2 = μ) := by
  refine kt_F.of (by decide) (Nat.le_of_ble_eq_true rfl) (fun X hX hr => ?_)
  obtain ⟨hk0, hr1, hr2, hr3, hk1, hk2, hk3⟩ := hp
  refine kr_iload_n (i := 1) hX dX0_actProperty_0 rfl rfl ?_
  refine kr_if_lt (tgt := 17) hX dX0_actProperty_1 (by decide) (fun c_1 => ?_) (fun c_1 => ?_)
  · skip
    refine kr_bipush (v := (-4)) hX dX0_actProperty_17 (by decide) ?_
    refine kr_iret hX hr dX0_actProperty_19 ⟨rfl, ?_⟩
    refine ⟨?_, rfl⟩
    first
    | (rw [if_pos (by (simp only [kt_f_0, kt_f_1, ← Int32.toInt_inj, Int32.le_iff_toInt_le, Int32.lt_iff_toInt_lt, Classical.not_not, ki_0, ki_4] at *; omega))])
    | (rw [if_neg (by (simp only [kt_f_0, kt_f_1, ← Int32.toInt_inj, Int32.le_iff_toInt_le, Int32.lt_iff_toInt_lt, Classical.not_not, ki_0, ki_4] at *; omega))]; simp_all)
  · skip
    refine kr_iload_n (i := 1) hX dX0_actProperty_4 rfl rfl ?_
    refine kr_aload_n (i := 0) hX dX0_actProperty_5 rfl rfl ?_
    refine kr_geti (c0 := 0) (k := 0) hX ⟨_, kf_0_21⟩ dX0_actProperty_6 rfl (by assumption) ?_
    refine kr_icmp_ge (tgt := 17) hX dX0_actProperty_9 (by decide) (fun c_9 => ?_) (fun c_9 => ?_)
    · skip
      refine kr_bipush (v := (-4)) hX dX0_actProperty_17 (by decide) ?_
      refine kr_iret hX hr dX0_actProperty_19 ⟨rfl, ?_⟩
      refine ⟨?_, rfl⟩
      first
      | (rw [if_pos (by (simp only [kt_f_0, kt_f_1, ← Int32.toInt_inj, Int32.le_iff_toInt_le, Int32.lt_iff_toInt_lt, Classical.not_not, ki_0, ki_4] at *; omega))])
      | (rw [if_neg (by (simp only [kt_f_0, kt_f_1, ← Int32.toInt_inj, Int32.le_iff_toInt_le, Int32.lt_iff_toInt_lt, Classical.not_not, ki_0, ki_4] at *; omega))]; simp_all)
    · skip
      refine kr_iload_n (i := 1) hX dX0_actProperty_12 rfl rfl ?_
      refine kr_iconst (v := 4) hX dX0_actProperty_13 (by decide) ?_
      refine kr_icmp_lt (tgt := 20) hX dX0_actProperty_14 (by decide) (fun c_14 => ?_) (fun c_14 => ?_)
      · skip
        refine kr_iload_n (i := 2) hX dX0_actProperty_20 rfl rfl ?_
        by_cases c_21_0 : w = 0
        · skip
          refine kr_look (tgt := 48) (off := 27) hX dX0_actProperty_21 rfl (kt_lk_eq (by rw [c_21_0]; decide)) (by decide) ?_
          refine kr_aload_n (i := 0) hX dX0_actProperty_48 rfl rfl ?_
          refine kr_getr (c0 := 0) (k := 1) hX ⟨_, kf_0_9⟩ dX0_actProperty_49 rfl (by assumption) (by assumption) ?_
          refine kr_iload_n (i := 1) hX dX0_actProperty_52 rfl rfl ?_
          refine kr_iald hX dX0_actProperty_53 (by assumption) (by exact vp_in_iff.mpr (by have h5 := h4; simp only [Int32.le_iff_toInt_le, Int32.lt_iff_toInt_lt, ki_0, ki_4] at *; omega)) ?_
          refine kr_iret hX hr dX0_actProperty_54 ⟨rfl, ?_⟩
          refine ⟨?_, rfl⟩
          first
          | (rw [if_pos (by (simp only [kt_f_0, kt_f_1, ← Int32.toInt_inj, Int32.le_iff_toInt_le, Int32.lt_iff_toInt_lt, Classical.not_not, ki_0, ki_4] at *; omega))])
          | (rw [if_neg (by (simp only [kt_f_0, kt_f_1, ← Int32.toInt_inj, Int32.le_iff_toInt_le, Int32.lt_iff_toInt_lt, Classical.not_not, ki_0, ki_4] at *; omega))]; simp_all)
        by_cases c_21_1 : w = 1
        · skip
          refine kr_look (tgt := 55) (off := 34) hX dX0_actProperty_21 rfl ((kt_lk_ne (kt_ne c_21_0 (by decide))).trans (kt_lk_eq (by rw [c_21_1]; decide))) (by decide) ?_
          refine kr_aload_n (i := 0) hX dX0_actProperty_55 rfl rfl ?_
          refine kr_getr (c0 := 0) (k := 2) hX ⟨_, kf_0_15⟩ dX0_actProperty_56 rfl (by assumption) (by assumption) ?_
          refine kr_iload_n (i := 1) hX dX0_actProperty_59 rfl rfl ?_
          refine kr_iald hX dX0_actProperty_60 (by assumption) (by exact vp_in_iff.mpr (by have h5 := h4; simp only [Int32.le_iff_toInt_le, Int32.lt_iff_toInt_lt, ki_0, ki_4] at *; omega)) ?_
          refine kr_iret hX hr dX0_actProperty_61 ⟨rfl, ?_⟩
          refine ⟨?_, rfl⟩
          first
          | (rw [if_pos (by (simp only [kt_f_0, kt_f_1, ← Int32.toInt_inj, Int32.le_iff_toInt_le, Int32.lt_iff_toInt_lt, Classical.not_not, ki_0, ki_4] at *; omega))])
          | (rw [if_neg (by (simp only [kt_f_0, kt_f_1, ← Int32.toInt_inj, Int32.le_iff_toInt_le, Int32.lt_iff_toInt_lt, Classical.not_not, ki_0, ki_4] at *; omega))]; simp_all)
        refine kr_look (tgt := 62) (off := 41) hX dX0_actProperty_21 rfl ((kt_lk_ne (kt_ne c_21_0 (by decide))).trans ((kt_lk_ne (kt_ne c_21_1 (by decide))).trans (rfl))) (by decide) ?_
        refine kr_aload_n (i := 0) hX dX0_actProperty_62 rfl rfl ?_
        refine kr_getr (c0 := 0) (k := 1) hX ⟨_, kf_0_9⟩ dX0_actProperty_63 rfl (by assumption) (by assumption) ?_
        refine kr_iload_n (i := 1) hX dX0_actProperty_66 rfl rfl ?_
        refine kr_iald hX dX0_actProperty_67 (by assumption) (by exact vp_in_iff.mpr (by have h5 := h4; simp only [Int32.le_iff_toInt_le, Int32.lt_iff_toInt_lt, ki_0, ki_4] at *; omega)) ?_
        refine kr_iconst (v := 4) hX dX0_actProperty_68 (by decide) ?_
        refine kr_icmp_eq (tgt := 82) hX dX0_actProperty_69 (by decide) (fun c_69 => ?_) (fun c_69 => ?_)
        · skip
          refine kr_bipush (v := (-4)) hX dX0_actProperty_82 (by decide) ?_
          refine kr_goto (tgt := 93) hX dX0_actProperty_84 (by decide) ?_
          refine kr_iret hX hr dX0_actProperty_93 ⟨rfl, ?_⟩
          refine ⟨?_, rfl⟩
          first
          | (rw [if_pos (by (simp only [kt_f_0, kt_f_1, ← Int32.toInt_inj, Int32.le_iff_toInt_le, Int32.lt_iff_toInt_lt, Classical.not_not, ki_0, ki_4] at *; omega))])
          | (rw [if_neg (by (simp only [kt_f_0, kt_f_1, ← Int32.toInt_inj, Int32.le_iff_toInt_le, Int32.lt_iff_toInt_lt, Classical.not_not, ki_0, ki_4] at *; omega))]; simp_all)
        · skip
          refine kr_aload_n (i := 0) hX dX0_actProperty_72 rfl rfl ?_
          refine kr_getr (c0 := 0) (k := 1) hX ⟨_, kf_0_9⟩ dX0_actProperty_73 rfl (by assumption) (by assumption) ?_
          refine kr_iload_n (i := 1) hX dX0_actProperty_76 rfl rfl ?_
          refine kr_iald hX dX0_actProperty_77 (by assumption) (by exact vp_in_iff.mpr (by have h5 := h4; simp only [Int32.le_iff_toInt_le, Int32.lt_iff_toInt_lt, ki_0, ki_4] at *; omega)) ?_
          refine kr_iconst (v := 5) hX dX0_actProperty_78 (by decide) ?_
          refine kr_icmp_ne (tgt := 87) hX dX0_actProperty_79 (by decide) (fun c_79 => ?_) (fun c_79 => ?_)
          · skip
            refine kr_aload_n (i := 0) hX dX0_actProperty_87 rfl rfl ?_
            refine kr_getr (c0 := 0) (k := 3) hX ⟨_, kf_0_18⟩ dX0_actProperty_88 rfl (by assumption) (by assumption) ?_
            refine kr_iload_n (i := 1) hX dX0_actProperty_91 rfl rfl ?_
            refine kr_iald hX dX0_actProperty_92 (by assumption) (by exact vp_in_iff.mpr (by have h5 := h4; simp only [Int32.le_iff_toInt_le, Int32.lt_iff_toInt_lt, ki_0, ki_4] at *; omega)) ?_
            refine kr_iret hX hr dX0_actProperty_93 ⟨rfl, ?_⟩
            refine ⟨?_, rfl⟩
            first
            | (rw [if_pos (by (simp only [kt_f_0, kt_f_1, ← Int32.toInt_inj, Int32.le_iff_toInt_le, Int32.lt_iff_toInt_lt, Classical.not_not, ki_0, ki_4] at *; omega))])
            | (rw [if_neg (by (simp only [kt_f_0, kt_f_1, ← Int32.toInt_inj, Int32.le_iff_toInt_le, Int32.lt_iff_toInt_lt, Classical.not_not, ki_0, ki_4] at *; omega))]; simp_all)
          · skip
            refine kr_bipush (v := (-4)) hX dX0_actProperty_82 (by decide) ?_
            refine kr_goto (tgt := 93) hX dX0_actProperty_84 (by decide) ?_
            refine kr_iret hX hr dX0_actProperty_93 ⟨rfl, ?_⟩
            refine ⟨?_, rfl⟩
            first
            | (rw [if_pos (by (simp only [kt_f_0, kt_f_1, ← Int32.toInt_inj, Int32.le_iff_toInt_le, Int32.lt_iff_toInt_lt, Classical.not_not, ki_0, ki_4] at *; omega))])
            | (rw [if_neg (by (simp only [kt_f_0, kt_f_1, ← Int32.toInt_inj, Int32.le_iff_toInt_le, Int32.lt_iff_toInt_lt, Classical.not_not, ki_0, ki_4] at *; omega))]; simp_all)
      · skip
        refine kr_bipush (v := (-4)) hX dX0_actProperty_17 (by decide) ?_
        refine kr_iret hX hr dX0_actProperty_19 ⟨rfl, ?_⟩
        refine ⟨?_, rfl⟩
        first
        | (rw [if_pos (by (simp only [kt_f_0, kt_f_1, ← Int32.toInt_inj, Int32.le_iff_toInt_le, Int32.lt_iff_toInt_lt, Classical.not_not, ki_0, ki_4] at *; omega))])
        | (rw [if_neg (by (simp only [kt_f_0, kt_f_1, ← Int32.toInt_inj, Int32.le_iff_toInt_le, Int32.lt_iff_toInt_lt, Classical.not_not, ki_0, ki_4] at *; omega))]; simp_all)

set_option maxHeartbeats 4000000 in
set_option maxRecDepth 100000 in
theorem sp_within {G : kt_G} {σ : kt_Y} {μ : kt_M} {a b : Int32} : kt_F G yX9_within cX9_within 2 (some .boolean) 0 [.int a, .int b] σ μ (fun r μ2 => r = some (.int (kt_f (0 ≤ a ∧ a ≤ b))) ∧ μ2 = μ) := by
  refine kt_F.of (by decide) (Nat.le_of_ble_eq_true rfl) (fun X hX hr => ?_)
  refine kr_iload_n (i := 0) hX dX9_within_0 rfl rfl ?_
  refine kr_if_lt (tgt := 13) hX dX9_within_1 (by decide) (fun c_1 => ?_) (fun c_1 => ?_)
  · skip
    refine kr_iconst (v := 0) hX dX9_within_13 (by decide) ?_
    refine kr_zret hX hr (by first | exact Or.inl rfl | exact Or.inr rfl | assumption) dX9_within_14 ⟨rfl, ?_⟩
    first | exact ⟨kt_ft (by (simp only [kt_f_0, kt_f_1, ← Int32.toInt_inj, Int32.le_iff_toInt_le, Int32.lt_iff_toInt_lt, Classical.not_not, ki_0] at *; omega)), rfl⟩ | exact ⟨kt_ff (by (simp only [kt_f_0, kt_f_1, ← Int32.toInt_inj, Int32.le_iff_toInt_le, Int32.lt_iff_toInt_lt, Classical.not_not, ki_0] at *; omega)), rfl⟩
  · skip
    refine kr_iload_n (i := 0) hX dX9_within_4 rfl rfl ?_
    refine kr_iload_n (i := 1) hX dX9_within_5 rfl rfl ?_
    refine kr_icmp_gt (tgt := 13) hX dX9_within_6 (by decide) (fun c_6 => ?_) (fun c_6 => ?_)
    · skip
      refine kr_iconst (v := 0) hX dX9_within_13 (by decide) ?_
      refine kr_zret hX hr (by first | exact Or.inl rfl | exact Or.inr rfl | assumption) dX9_within_14 ⟨rfl, ?_⟩
      first | exact ⟨kt_ft (by (simp only [kt_f_0, kt_f_1, ← Int32.toInt_inj, Int32.le_iff_toInt_le, Int32.lt_iff_toInt_lt, Classical.not_not, ki_0] at *; omega)), rfl⟩ | exact ⟨kt_ff (by (simp only [kt_f_0, kt_f_1, ← Int32.toInt_inj, Int32.le_iff_toInt_le, Int32.lt_iff_toInt_lt, Classical.not_not, ki_0] at *; omega)), rfl⟩
    · skip
      refine kr_iconst (v := 1) hX dX9_within_9 (by decide) ?_
      refine kr_goto (tgt := 14) hX dX9_within_10 (by decide) ?_
      refine kr_zret hX hr (by first | exact Or.inl rfl | exact Or.inr rfl | assumption) dX9_within_14 ⟨rfl, ?_⟩
      first | exact ⟨kt_ft (by (simp only [kt_f_0, kt_f_1, ← Int32.toInt_inj, Int32.le_iff_toInt_le, Int32.lt_iff_toInt_lt, Classical.not_not, ki_0] at *; omega)), rfl⟩ | exact ⟨kt_ff (by (simp only [kt_f_0, kt_f_1, ← Int32.toInt_inj, Int32.le_iff_toInt_le, Int32.lt_iff_toInt_lt, Classical.not_not, ki_0] at *; omega)), rfl⟩

set_option maxHeartbeats 4000000 in
set_option maxRecDepth 100000 in
theorem sp_isVar {G : kt_G} {σ : kt_Y} {μ : kt_M} {a : Int32} : kt_F G yX9_isVariable cX9_isVariable 1 (some .boolean) 0 [.int a] σ μ (fun r μ2 => r = some (.int (kt_f (0 ≤ a ∧ a < 4))) ∧ μ2 = μ) := by
  refine kt_F.of (by decide) (Nat.le_of_ble_eq_true rfl) (fun X hX hr => ?_)
  refine kr_iload_n (i := 0) hX dX9_isVariable_0 rfl rfl ?_
  refine kr_if_lt (tgt := 13) hX dX9_isVariable_1 (by decide) (fun c_1 => ?_) (fun c_1 => ?_)
  · skip
    refine kr_iconst (v := 0) hX dX9_isVariable_13 (by decide) ?_
    refine kr_zret hX hr (by first | exact Or.inl rfl | exact Or.inr rfl | assumption) dX9_isVariable_14 ⟨rfl, ?_⟩
    first | exact ⟨kt_ft (by (simp only [kt_f_0, kt_f_1, ← Int32.toInt_inj, Int32.le_iff_toInt_le, Int32.lt_iff_toInt_lt, Classical.not_not, ki_0, ki_4] at *; omega)), rfl⟩ | exact ⟨kt_ff (by (simp only [kt_f_0, kt_f_1, ← Int32.toInt_inj, Int32.le_iff_toInt_le, Int32.lt_iff_toInt_lt, Classical.not_not, ki_0, ki_4] at *; omega)), rfl⟩
  · skip
    refine kr_iload_n (i := 0) hX dX9_isVariable_4 rfl rfl ?_
    refine kr_iconst (v := 4) hX dX9_isVariable_5 (by decide) ?_
    refine kr_icmp_ge (tgt := 13) hX dX9_isVariable_6 (by decide) (fun c_6 => ?_) (fun c_6 => ?_)
    · skip
      refine kr_iconst (v := 0) hX dX9_isVariable_13 (by decide) ?_
      refine kr_zret hX hr (by first | exact Or.inl rfl | exact Or.inr rfl | assumption) dX9_isVariable_14 ⟨rfl, ?_⟩
      first | exact ⟨kt_ft (by (simp only [kt_f_0, kt_f_1, ← Int32.toInt_inj, Int32.le_iff_toInt_le, Int32.lt_iff_toInt_lt, Classical.not_not, ki_0, ki_4] at *; omega)), rfl⟩ | exact ⟨kt_ff (by (simp only [kt_f_0, kt_f_1, ← Int32.toInt_inj, Int32.le_iff_toInt_le, Int32.lt_iff_toInt_lt, Classical.not_not, ki_0, ki_4] at *; omega)), rfl⟩
    · skip
      refine kr_iconst (v := 1) hX dX9_isVariable_9 (by decide) ?_
      refine kr_goto (tgt := 14) hX dX9_isVariable_10 (by decide) ?_
      refine kr_zret hX hr (by first | exact Or.inl rfl | exact Or.inr rfl | assumption) dX9_isVariable_14 ⟨rfl, ?_⟩
      first | exact ⟨kt_ft (by (simp only [kt_f_0, kt_f_1, ← Int32.toInt_inj, Int32.le_iff_toInt_le, Int32.lt_iff_toInt_lt, Classical.not_not, ki_0, ki_4] at *; omega)), rfl⟩ | exact ⟨kt_ff (by (simp only [kt_f_0, kt_f_1, ← Int32.toInt_inj, Int32.le_iff_toInt_le, Int32.lt_iff_toInt_lt, Classical.not_not, ki_0, ki_4] at *; omega)), rfl⟩

theorem kr_mmax {G : kt_G} {X : kt_X} {own : String} {cc : ByteArray} {nL d mc ms pc cs ss idx : Nat} {lv : List (Nat × Value)} {st : List Value} {σ : kt_Y} {μ : kt_M} {Z : State → Prop} {x y : Int32} (hX : kt_ok G X own cc nL (d + 1) mc ms) (hw : Cond.methodLink own idx Lib.Math.max.name ∈ kt_T) (hdg : decode cc pc = .ok (.invokestatic idx, 3)) (hcat : (st.map fun v => v.category).sum ≤ 8) (hcs : cs ≤ mc) (hss : ss ≤ ms) (kk : kt_W G X nL (pc + 3) lv (.int (if x < y then y else x) :: st) σ μ cs ss Z) : kt_W G X nL pc lv (.int y :: .int x :: st) σ μ cs ss Z := by
  obtain ⟨p, l, e, R, s, m, args, below, meth, c⟩ := X
  obtain ⟨hx, hb, hml, hown, hts, hK, h0, hlk, hla, hrm, hmc, hms⟩ := hX
  intro H locs ls hH hS hl
  exact va_mmax hx hb (hml.trans hl.1.symm) hown (hts _ hw) (hts (Cond.static Lib.Math.max.name) kw_617) (hts (Cond.initialized "java/lang/Math") kw_16) (hts (Cond.code Lib.Math.max.name Lib.Math.max.code 2 (some .int)) kw_618) (by omega) (by omega) (Nat.le_trans hcs hmc) (Nat.le_trans hss hms) hdg (kk H locs ls hH hS hl)
theorem kr_mmin {G : kt_G} {X : kt_X} {own : String} {cc : ByteArray} {nL d mc ms pc cs ss idx : Nat} {lv : List (Nat × Value)} {st : List Value} {σ : kt_Y} {μ : kt_M} {Z : State → Prop} {x y : Int32} (hX : kt_ok G X own cc nL (d + 1) mc ms) (hw : Cond.methodLink own idx Lib.Math.min.name ∈ kt_T) (hdg : decode cc pc = .ok (.invokestatic idx, 3)) (hcat : (st.map fun v => v.category).sum ≤ 8) (hcs : cs ≤ mc) (hss : ss ≤ ms) (kk : kt_W G X nL (pc + 3) lv (.int (if y < x then y else x) :: st) σ μ cs ss Z) : kt_W G X nL pc lv (.int y :: .int x :: st) σ μ cs ss Z := by
  obtain ⟨p, l, e, R, s, m, args, below, meth, c⟩ := X
  obtain ⟨hx, hb, hml, hown, hts, hK, h0, hlk, hla, hrm, hmc, hms⟩ := hX
  intro H locs ls hH hS hl
  exact va_mmin hx hb (hml.trans hl.1.symm) hown (hts _ hw) (hts (Cond.static Lib.Math.min.name) kw_614) (hts (Cond.initialized "java/lang/Math") kw_16) (hts (Cond.code Lib.Math.min.name Lib.Math.min.code 2 (some .int)) kw_615) (by omega) (by omega) (Nat.le_trans hcs hmc) (Nat.le_trans hss hms) hdg (kk H locs ls hH hS hl)

set_option maxHeartbeats 4000000 in
set_option maxRecDepth 100000 in
theorem sp_holds {G : kt_G} {σ : kt_Y} {μ : kt_M} {p : Nat} (hp : kt_rn σ p) {b : Nat} (hb : kt_blk σ b) (hne : p + 4 ≤ b ∨ b + 4 ≤ p) : kt_F G yX7_holds cX7_holds 4 (some .boolean) 2 [.ref p, .ref b] σ μ (fun r μ2 => r = some (.int (r_hd μ p b)) ∧ μ2 = μ) := by
  refine kt_F.of (by decide) (Nat.le_of_ble_eq_true rfl) (fun X hX hr => ?_)
  have hp0 := hp
  obtain ⟨hk0, hr0, hr1, hr2, hk1, hk2, hk3⟩ := hp
  have hb0 := hb
  obtain ⟨gk0, gr1, gr2, gr3, gk1, gk2, gk3⟩ := hb
  refine kr_aload_n (i := 0) hX dX7_holds_0 rfl rfl ?_
  refine kr_aload_n (i := 1) hX dX7_holds_1 rfl rfl ?_
  refine kr_geti (c0 := 0) (k := 5) hX ⟨_, kf_7_108⟩ dX7_holds_2 rfl (by assumption) ?_
  refine kr_dV (c1 := 7) [_] hX km_7_86 dX7_holds_5 (sp_val hp0) rfl rfl ⟨_, _, rfl⟩ (by decide) (Nat.le_of_ble_eq_true rfl) (Nat.le_refl _) (Nat.le_refl _) (by assumption) ?_
  refine kr_istore_n (i := 2) hX dX7_holds_8 rfl (by decide) rfl rfl ?_
  refine kr_aload_n (i := 1) hX dX7_holds_9 rfl rfl ?_
  refine kr_geti (c0 := 0) (k := 6) hX ⟨_, kf_7_111⟩ dX7_holds_10 rfl (by assumption) ?_
  refine kr_if_eq (tgt := 27) hX dX7_holds_13 (by decide) (fun c_13 => ?_) (fun c_13 => ?_)
  · skip
    refine kr_aload_n (i := 1) hX dX7_holds_27 rfl rfl ?_
    refine kr_geti (c0 := 0) (k := 7) hX ⟨_, kf_7_114⟩ dX7_holds_28 rfl (by assumption) ?_
    refine kr_istore_n (i := 3) hX dX7_holds_31 rfl (by decide) rfl rfl ?_
    refine kr_iload_n (i := 2) hX dX7_holds_32 rfl rfl ?_
    refine kr_bipush (v := 51) hX dX7_holds_33 (by decide) ?_
    refine kr_icmp_eq (tgt := 44) hX dX7_holds_35 (by decide) (fun c_35 => ?_) (fun c_35 => ?_)
    · skip
      refine kr_iconst (v := 0) hX dX7_holds_44 (by decide) ?_
      refine kr_zret hX hr (by first | exact Or.inl rfl | exact Or.inr rfl | assumption) dX7_holds_45 ⟨rfl, ?_⟩
      refine ⟨?_, rfl⟩
      have e1 : r_rhs μ p b = r_rhs μ p b := rfl
      simp_all [r_hd, r_rhs, -Int32.not_le, -Int32.not_lt]
    · skip
      refine kr_iload_n (i := 3) hX dX7_holds_38 rfl rfl ?_
      refine kr_bipush (v := 51) hX dX7_holds_39 (by decide) ?_
      refine kr_icmp_ne (tgt := 46) hX dX7_holds_41 (by decide) (fun c_41 => ?_) (fun c_41 => ?_)
      · skip
        refine kr_aload_n (i := 1) hX dX7_holds_46 rfl rfl ?_
        refine kr_geti (c0 := 0) (k := 4) hX ⟨_, kf_7_105⟩ dX7_holds_47 rfl (by assumption) ?_
        refine kr_iconst (v := 2) hX dX7_holds_50 (by decide) ?_
        refine kr_icmp_ne (tgt := 67) hX dX7_holds_51 (by decide) (fun c_51 => ?_) (fun c_51 => ?_)
        · skip
          refine kr_iload_n (i := 2) hX dX7_holds_67 rfl rfl ?_
          refine kr_iload_n (i := 3) hX dX7_holds_68 rfl rfl ?_
          refine kr_icmp_ne (tgt := 76) hX dX7_holds_69 (by decide) (fun c_69 => ?_) (fun c_69 => ?_)
          · skip
            refine kr_iconst (v := 0) hX dX7_holds_76 (by decide) ?_
            refine kr_zret hX hr (by first | exact Or.inl rfl | exact Or.inr rfl | assumption) dX7_holds_77 ⟨rfl, ?_⟩
            refine ⟨?_, rfl⟩
            have e1 : r_rhs μ p b = r_rhs μ p b := rfl
            simp_all [r_hd, r_rhs, -Int32.not_le, -Int32.not_lt]
          · skip
            refine kr_iconst (v := 1) hX dX7_holds_72 (by decide) ?_
            refine kr_goto (tgt := 77) hX dX7_holds_73 (by decide) ?_
            refine kr_zret hX hr (by first | exact Or.inl rfl | exact Or.inr rfl | assumption) dX7_holds_77 ⟨rfl, ?_⟩
            refine ⟨?_, rfl⟩
            have e1 : r_rhs μ p b = r_rhs μ p b := rfl
            simp_all [r_hd, r_rhs, -Int32.not_le, -Int32.not_lt]
        · skip
          refine kr_iload_n (i := 2) hX dX7_holds_54 rfl rfl ?_
          refine kr_iload_n (i := 3) hX dX7_holds_55 rfl rfl ?_
          refine kr_icmp_ge (tgt := 63) hX dX7_holds_56 (by decide) (fun c_56 => ?_) (fun c_56 => ?_)
          · skip
            refine kr_iconst (v := 0) hX dX7_holds_63 (by decide) ?_
            refine kr_goto (tgt := 77) hX dX7_holds_64 (by decide) ?_
            refine kr_zret hX hr (by first | exact Or.inl rfl | exact Or.inr rfl | assumption) dX7_holds_77 ⟨rfl, ?_⟩
            refine ⟨?_, rfl⟩
            have e1 : r_rhs μ p b = r_rhs μ p b := rfl
            simp_all [r_hd, r_rhs, -Int32.not_le, -Int32.not_lt]
          · skip
            refine kr_iconst (v := 1) hX dX7_holds_59 (by decide) ?_
            refine kr_goto (tgt := 77) hX dX7_holds_60 (by decide) ?_
            refine kr_zret hX hr (by first | exact Or.inl rfl | exact Or.inr rfl | assumption) dX7_holds_77 ⟨rfl, ?_⟩
            refine ⟨?_, rfl⟩
            have e1 : r_rhs μ p b = r_rhs μ p b := rfl
            simp_all [r_hd, r_rhs, -Int32.not_le, -Int32.not_lt]
      · skip
        refine kr_iconst (v := 0) hX dX7_holds_44 (by decide) ?_
        refine kr_zret hX hr (by first | exact Or.inl rfl | exact Or.inr rfl | assumption) dX7_holds_45 ⟨rfl, ?_⟩
        refine ⟨?_, rfl⟩
        have e1 : r_rhs μ p b = r_rhs μ p b := rfl
        simp_all [r_hd, r_rhs, -Int32.not_le, -Int32.not_lt]
  · skip
    refine kr_aload_n (i := 0) hX dX7_holds_16 rfl rfl ?_
    refine kr_aload_n (i := 1) hX dX7_holds_17 rfl rfl ?_
    refine kr_geti (c0 := 0) (k := 7) hX ⟨_, kf_7_114⟩ dX7_holds_18 rfl (by assumption) ?_
    refine kr_dV (c1 := 7) [_] hX km_7_86 dX7_holds_21 (sp_val hp0) rfl rfl ⟨_, _, rfl⟩ (by decide) (Nat.le_of_ble_eq_true rfl) (Nat.le_refl _) (Nat.le_refl _) (by assumption) ?_
    refine kr_goto (tgt := 31) hX dX7_holds_24 (by decide) ?_
    refine kr_istore_n (i := 3) hX dX7_holds_31 rfl (by decide) rfl rfl ?_
    refine kr_iload_n (i := 2) hX dX7_holds_32 rfl rfl ?_
    refine kr_bipush (v := 51) hX dX7_holds_33 (by decide) ?_
    refine kr_icmp_eq (tgt := 44) hX dX7_holds_35 (by decide) (fun c_35 => ?_) (fun c_35 => ?_)
    · skip
      refine kr_iconst (v := 0) hX dX7_holds_44 (by decide) ?_
      refine kr_zret hX hr (by first | exact Or.inl rfl | exact Or.inr rfl | assumption) dX7_holds_45 ⟨rfl, ?_⟩
      refine ⟨?_, rfl⟩
      have e1 : r_rhs μ p b = r_rhs μ p b := rfl
      simp_all [r_hd, r_rhs, -Int32.not_le, -Int32.not_lt]
    · skip
      refine kr_iload_n (i := 3) hX dX7_holds_38 rfl rfl ?_
      refine kr_bipush (v := 51) hX dX7_holds_39 (by decide) ?_
      refine kr_icmp_ne (tgt := 46) hX dX7_holds_41 (by decide) (fun c_41 => ?_) (fun c_41 => ?_)
      · skip
        refine kr_aload_n (i := 1) hX dX7_holds_46 rfl rfl ?_
        refine kr_geti (c0 := 0) (k := 4) hX ⟨_, kf_7_105⟩ dX7_holds_47 rfl (by assumption) ?_
        refine kr_iconst (v := 2) hX dX7_holds_50 (by decide) ?_
        refine kr_icmp_ne (tgt := 67) hX dX7_holds_51 (by decide) (fun c_51 => ?_) (fun c_51 => ?_)
        · skip
          refine kr_iload_n (i := 2) hX dX7_holds_67 rfl rfl ?_
          refine kr_iload_n (i := 3) hX dX7_holds_68 rfl rfl ?_
          refine kr_icmp_ne (tgt := 76) hX dX7_holds_69 (by decide) (fun c_69 => ?_) (fun c_69 => ?_)
          · skip
            refine kr_iconst (v := 0) hX dX7_holds_76 (by decide) ?_
            refine kr_zret hX hr (by first | exact Or.inl rfl | exact Or.inr rfl | assumption) dX7_holds_77 ⟨rfl, ?_⟩
            refine ⟨?_, rfl⟩
            have e1 : r_rhs μ p b = r_rhs μ p b := rfl
            simp_all [r_hd, r_rhs, -Int32.not_le, -Int32.not_lt]
          · skip
            refine kr_iconst (v := 1) hX dX7_holds_72 (by decide) ?_
            refine kr_goto (tgt := 77) hX dX7_holds_73 (by decide) ?_
            refine kr_zret hX hr (by first | exact Or.inl rfl | exact Or.inr rfl | assumption) dX7_holds_77 ⟨rfl, ?_⟩
            refine ⟨?_, rfl⟩
            have e1 : r_rhs μ p b = r_rhs μ p b := rfl
            simp_all [r_hd, r_rhs, -Int32.not_le, -Int32.not_lt]
        · skip
          refine kr_iload_n (i := 2) hX dX7_holds_54 rfl rfl ?_
          refine kr_iload_n (i := 3) hX dX7_holds_55 rfl rfl ?_
          refine kr_icmp_ge (tgt := 63) hX dX7_holds_56 (by decide) (fun c_56 => ?_) (fun c_56 => ?_)
          · skip
            refine kr_iconst (v := 0) hX dX7_holds_63 (by decide) ?_
            refine kr_goto (tgt := 77) hX dX7_holds_64 (by decide) ?_
            refine kr_zret hX hr (by first | exact Or.inl rfl | exact Or.inr rfl | assumption) dX7_holds_77 ⟨rfl, ?_⟩
            refine ⟨?_, rfl⟩
            have e1 : r_rhs μ p b = r_rhs μ p b := rfl
            simp_all [r_hd, r_rhs, -Int32.not_le, -Int32.not_lt]
          · skip
            refine kr_iconst (v := 1) hX dX7_holds_59 (by decide) ?_
            refine kr_goto (tgt := 77) hX dX7_holds_60 (by decide) ?_
            refine kr_zret hX hr (by first | exact Or.inl rfl | exact Or.inr rfl | assumption) dX7_holds_77 ⟨rfl, ?_⟩
            refine ⟨?_, rfl⟩
            have e1 : r_rhs μ p b = r_rhs μ p b := rfl
            simp_all [r_hd, r_rhs, -Int32.not_le, -Int32.not_lt]
      · skip
        refine kr_iconst (v := 0) hX dX7_holds_44 (by decide) ?_
        refine kr_zret hX hr (by first | exact Or.inl rfl | exact Or.inr rfl | assumption) dX7_holds_45 ⟨rfl, ?_⟩
        refine ⟨?_, rfl⟩
        have e1 : r_rhs μ p b = r_rhs μ p b := rfl
        simp_all [r_hd, r_rhs, -Int32.not_le, -Int32.not_lt]

set_option maxHeartbeats 4000000 in
set_option maxRecDepth 100000 in
theorem sp_rend {G : kt_G} {σ : kt_Y} {μ : kt_M} {p : Nat} (hp : kt_rn σ p) {b : Nat} (hb : kt_blk σ b) (hne : p + 4 ≤ b ∨ b + 4 ≤ p) : kt_F G yX7_doEnd cX7_doEnd 2 (some .int) 3 [.ref p, .ref b] σ μ (fun r μ2 => r = some (.int (r_end μ p b).1) ∧ μ2 = (r_end μ p b).2) := by
  refine kt_F.of (by decide) (Nat.le_of_ble_eq_true rfl) (fun X hX hr => ?_)
  have hp0 := hp
  obtain ⟨hk0, hr0, hr1, hr2, hk1, hk2, hk3⟩ := hp
  have hb0 := hb
  obtain ⟨gk0, gr1, gr2, gr3, gk1, gk2, gk3⟩ := hb
  refine kr_aload_n (i := 1) hX dX7_doEnd_0 rfl rfl ?_
  refine kr_dV (c1 := 0) [] hX km_7_94 dX7_doEnd_1 (sp_isTest hb0) rfl rfl ⟨_, _, rfl⟩ (by decide) (Nat.le_of_ble_eq_true rfl) (Nat.le_refl _) (Nat.le_refl _) (by assumption) ?_
  refine kr_if_eq (tgt := 35) hX dX7_doEnd_4 (by decide) (fun c_4 => ?_) (fun c_4 => ?_)
  · skip
    refine kr_aload_n (i := 0) hX dX7_doEnd_35 rfl rfl ?_
    refine kr_aload_n (i := 1) hX dX7_doEnd_36 rfl rfl ?_
    refine kr_geti (c0 := 0) (k := 4) hX ⟨_, kf_7_105⟩ dX7_doEnd_37 rfl (by assumption) ?_
    refine kr_if_ne (tgt := 47) hX dX7_doEnd_40 (by decide) (fun c_40 => ?_) (fun c_40 => ?_)
    · skip
      refine kr_iconst (v := 0) hX dX7_doEnd_47 (by decide) ?_
      refine kr_puti (c0 := 7) (k := 8) hX kf_7_30 dX7_doEnd_48 rfl (kt_bz (by first | exact Or.inl rfl | exact Or.inr rfl | assumption)).1 (kt_bz (by first | exact Or.inl rfl | exact Or.inr rfl | assumption)).2 (by assumption) ?_
      refine kr_aload_n (i := 1) hX dX7_doEnd_51 rfl rfl ?_
      refine kr_iconst (v := 0) hX dX7_doEnd_52 (by decide) ?_
      refine kr_dV (c1 := 0) [_] hX km_7_102 dX7_doEnd_53 (sp_target hb0) rfl rfl ⟨_, _, rfl⟩ (by decide) (Nat.le_of_ble_eq_true rfl) (Nat.le_refl _) (Nat.le_refl _) (by assumption) ?_
      refine kr_iret hX hr dX7_doEnd_56 ⟨rfl, ?_⟩
      simp only [kt_f_0, Classical.not_not] at c_4
      unfold r_end
      first
      | (rw [if_pos c_4]; simp_all; done)
      | (rw [if_neg c_4]; simp_all; done)
    · skip
      refine kr_iconst (v := 1) hX dX7_doEnd_43 (by decide) ?_
      refine kr_goto (tgt := 48) hX dX7_doEnd_44 (by decide) ?_
      refine kr_puti (c0 := 7) (k := 8) hX kf_7_30 dX7_doEnd_48 rfl (kt_bz (by first | exact Or.inl rfl | exact Or.inr rfl | assumption)).1 (kt_bz (by first | exact Or.inl rfl | exact Or.inr rfl | assumption)).2 (by assumption) ?_
      refine kr_aload_n (i := 1) hX dX7_doEnd_51 rfl rfl ?_
      refine kr_iconst (v := 0) hX dX7_doEnd_52 (by decide) ?_
      refine kr_dV (c1 := 0) [_] hX km_7_102 dX7_doEnd_53 (sp_target hb0) rfl rfl ⟨_, _, rfl⟩ (by decide) (Nat.le_of_ble_eq_true rfl) (Nat.le_refl _) (Nat.le_refl _) (by assumption) ?_
      refine kr_iret hX hr dX7_doEnd_56 ⟨rfl, ?_⟩
      simp only [kt_f_0, Classical.not_not] at c_4
      unfold r_end
      first
      | (rw [if_pos c_4]; simp_all; done)
      | (rw [if_neg c_4]; simp_all; done)
  · skip
    refine kr_aload_n (i := 0) hX dX7_doEnd_7 rfl rfl ?_
    refine kr_dup hX dX7_doEnd_8 rfl ?_
    refine kr_geti (c0 := 7) (k := 5) hX ⟨_, kf_7_64⟩ dX7_doEnd_9 rfl (by assumption) ?_
    refine kr_iconst (v := 1) hX dX7_doEnd_12 (by decide) ?_
    refine kr_iadd hX dX7_doEnd_13 ?_
    refine kr_puti (c0 := 7) (k := 5) hX kf_7_64 dX7_doEnd_14 rfl rfl rfl (by assumption) ?_
    refine kr_aload_n (i := 1) hX dX7_doEnd_17 rfl rfl ?_
    refine kr_aload_n (i := 0) hX dX7_doEnd_18 rfl rfl ?_
    refine kr_aload_n (i := 1) hX dX7_doEnd_19 rfl rfl ?_
    refine kr_dV (c1 := 7) [_] hX km_7_98 dX7_doEnd_20 (sp_holds hp0 hb0 hne) rfl rfl ⟨_, _, rfl⟩ (by decide) (Nat.le_of_ble_eq_true rfl) (Nat.le_refl _) (Nat.le_refl _) (by assumption) ?_
    refine kr_if_eq (tgt := 30) hX dX7_doEnd_23 (by decide) (fun c_23 => ?_) (fun c_23 => ?_)
    · skip
      refine kr_iconst (v := 1) hX dX7_doEnd_30 (by decide) ?_
      refine kr_dV (c1 := 0) [_] hX km_7_102 dX7_doEnd_31 (sp_target hb0) rfl rfl ⟨_, _, rfl⟩ (by decide) (Nat.le_of_ble_eq_true rfl) (Nat.le_refl _) (Nat.le_refl _) (by assumption) ?_
      refine kr_iret hX hr dX7_doEnd_34 ⟨rfl, ?_⟩
      simp only [kt_f_0, Classical.not_not] at c_4
      unfold r_end
      first
      | (rw [if_pos c_4]; simp_all; done)
      | (rw [if_neg c_4]; simp_all; done)
    · skip
      refine kr_iconst (v := 0) hX dX7_doEnd_26 (by decide) ?_
      refine kr_goto (tgt := 31) hX dX7_doEnd_27 (by decide) ?_
      refine kr_dV (c1 := 0) [_] hX km_7_102 dX7_doEnd_31 (sp_target hb0) rfl rfl ⟨_, _, rfl⟩ (by decide) (Nat.le_of_ble_eq_true rfl) (Nat.le_refl _) (Nat.le_refl _) (by assumption) ?_
      refine kr_iret hX hr dX7_doEnd_34 ⟨rfl, ?_⟩
      simp only [kt_f_0, Classical.not_not] at c_4
      unfold r_end
      first
      | (rw [if_pos c_4]; simp_all; done)
      | (rw [if_neg c_4]; simp_all; done)

set_option maxHeartbeats 4000000 in
set_option maxRecDepth 100000 in
theorem sp_runp {G : kt_G} {σ : kt_Y} {μ : kt_M} {p : Nat} (hp : kt_rn σ p) {w : Int32} (hz : kt_i μ p 8 = 0 ∨ kt_i μ p 8 = 1) : kt_F G yX7_property cX7_property 2 (some .int) 2 [.ref p, .int w] σ μ (fun r μ2 => r = some (.int (if w = 0 then kt_i μ p 3 else if w = 1 then kt_i μ p 4 else if w = 2 then kt_i μ p 5 else if w = 3 then kt_i μ p 6 else if w = 4 then kt_i μ p 8 else if w = 9 then kt_i μ p 7 else r_val μ p (w - 5))) ∧ μ2 = μ) := by
  refine kt_F.of (by decide) (Nat.le_of_ble_eq_true rfl) (fun X hX hr => ?_)
  have hp0 := hp
  obtain ⟨hk0, hr0, hr1, hr2, hk1, hk2, hk3⟩ := hp
  refine kr_iload_n (i := 1) hX dX7_property_0 rfl rfl ?_
  by_cases c_1_0 : w = 0
  · skip
    refine kr_tabIn (tgt := 56) (off := 55) hX dX7_property_1 (by rw [c_1_0]; decide) (by rw [c_1_0]; decide) (by rw [c_1_0]; rfl) (by decide) ?_
    refine kr_aload_n (i := 0) hX dX7_property_56 rfl rfl ?_
    refine kr_geti (c0 := 7) (k := 3) hX ⟨_, kf_7_34⟩ dX7_property_57 rfl (by assumption) ?_
    refine kr_iret hX hr dX7_property_60 ⟨rfl, ?_⟩
    refine ⟨?_, rfl⟩
    rcases hz with hz | hz <;> simp_all
  by_cases c_1_1 : w = 1
  · skip
    refine kr_tabIn (tgt := 61) (off := 60) hX dX7_property_1 (by rw [c_1_1]; decide) (by rw [c_1_1]; decide) (by rw [c_1_1]; rfl) (by decide) ?_
    refine kr_aload_n (i := 0) hX dX7_property_61 rfl rfl ?_
    refine kr_geti (c0 := 7) (k := 4) hX ⟨_, kf_7_63⟩ dX7_property_62 rfl (by assumption) ?_
    refine kr_iret hX hr dX7_property_65 ⟨rfl, ?_⟩
    refine ⟨?_, rfl⟩
    rcases hz with hz | hz <;> simp_all
  by_cases c_1_2 : w = 2
  · skip
    refine kr_tabIn (tgt := 66) (off := 65) hX dX7_property_1 (by rw [c_1_2]; decide) (by rw [c_1_2]; decide) (by rw [c_1_2]; rfl) (by decide) ?_
    refine kr_aload_n (i := 0) hX dX7_property_66 rfl rfl ?_
    refine kr_geti (c0 := 7) (k := 5) hX ⟨_, kf_7_64⟩ dX7_property_67 rfl (by assumption) ?_
    refine kr_iret hX hr dX7_property_70 ⟨rfl, ?_⟩
    refine ⟨?_, rfl⟩
    rcases hz with hz | hz <;> simp_all
  by_cases c_1_3 : w = 3
  · skip
    refine kr_tabIn (tgt := 71) (off := 70) hX dX7_property_1 (by rw [c_1_3]; decide) (by rw [c_1_3]; decide) (by rw [c_1_3]; rfl) (by decide) ?_
    refine kr_aload_n (i := 0) hX dX7_property_71 rfl rfl ?_
    refine kr_geti (c0 := 7) (k := 6) hX ⟨_, kf_7_67⟩ dX7_property_72 rfl (by assumption) ?_
    refine kr_iret hX hr dX7_property_75 ⟨rfl, ?_⟩
    refine ⟨?_, rfl⟩
    rcases hz with hz | hz <;> simp_all
  by_cases c_1_4 : w = 4
  · skip
    refine kr_tabIn (tgt := 76) (off := 75) hX dX7_property_1 (by rw [c_1_4]; decide) (by rw [c_1_4]; decide) (by rw [c_1_4]; rfl) (by decide) ?_
    refine kr_aload_n (i := 0) hX dX7_property_76 rfl rfl ?_
    refine kr_geti (c0 := 7) (k := 8) hX ⟨_, kf_7_30⟩ dX7_property_77 rfl (by assumption) ?_
    refine kr_if_eq (tgt := 87) hX dX7_property_80 (by decide) (fun c_80 => ?_) (fun c_80 => ?_)
    · skip
      refine kr_iconst (v := 0) hX dX7_property_87 (by decide) ?_
      refine kr_iret hX hr dX7_property_88 ⟨rfl, ?_⟩
      refine ⟨?_, rfl⟩
      rcases hz with hz | hz <;> simp_all
    · skip
      refine kr_iconst (v := 1) hX dX7_property_83 (by decide) ?_
      refine kr_goto (tgt := 88) hX dX7_property_84 (by decide) ?_
      refine kr_iret hX hr dX7_property_88 ⟨rfl, ?_⟩
      refine ⟨?_, rfl⟩
      rcases hz with hz | hz <;> simp_all
  by_cases c_1_5 : w = 5
  · skip
    refine kr_tabIn (tgt := 94) (off := 93) hX dX7_property_1 (by rw [c_1_5]; decide) (by rw [c_1_5]; decide) (by rw [c_1_5]; rfl) (by decide) ?_
    refine kr_aload_n (i := 0) hX dX7_property_94 rfl rfl ?_
    refine kr_iload_n (i := 1) hX dX7_property_95 rfl rfl ?_
    refine kr_iconst (v := 5) hX dX7_property_96 (by decide) ?_
    refine kr_isub hX dX7_property_97 ?_
    refine kr_dV (c1 := 7) [_] hX km_7_86 dX7_property_98 (sp_val hp0) rfl rfl ⟨_, _, rfl⟩ (by decide) (Nat.le_of_ble_eq_true rfl) (Nat.le_refl _) (Nat.le_refl _) (by assumption) ?_
    refine kr_iret hX hr dX7_property_101 ⟨rfl, ?_⟩
    refine ⟨?_, rfl⟩
    rcases hz with hz | hz <;> simp_all
  by_cases c_1_6 : w = 6
  · skip
    refine kr_tabIn (tgt := 94) (off := 93) hX dX7_property_1 (by rw [c_1_6]; decide) (by rw [c_1_6]; decide) (by rw [c_1_6]; rfl) (by decide) ?_
    refine kr_aload_n (i := 0) hX dX7_property_94 rfl rfl ?_
    refine kr_iload_n (i := 1) hX dX7_property_95 rfl rfl ?_
    refine kr_iconst (v := 5) hX dX7_property_96 (by decide) ?_
    refine kr_isub hX dX7_property_97 ?_
    refine kr_dV (c1 := 7) [_] hX km_7_86 dX7_property_98 (sp_val hp0) rfl rfl ⟨_, _, rfl⟩ (by decide) (Nat.le_of_ble_eq_true rfl) (Nat.le_refl _) (Nat.le_refl _) (by assumption) ?_
    refine kr_iret hX hr dX7_property_101 ⟨rfl, ?_⟩
    refine ⟨?_, rfl⟩
    rcases hz with hz | hz <;> simp_all
  by_cases c_1_7 : w = 7
  · skip
    refine kr_tabIn (tgt := 94) (off := 93) hX dX7_property_1 (by rw [c_1_7]; decide) (by rw [c_1_7]; decide) (by rw [c_1_7]; rfl) (by decide) ?_
    refine kr_aload_n (i := 0) hX dX7_property_94 rfl rfl ?_
    refine kr_iload_n (i := 1) hX dX7_property_95 rfl rfl ?_
    refine kr_iconst (v := 5) hX dX7_property_96 (by decide) ?_
    refine kr_isub hX dX7_property_97 ?_
    refine kr_dV (c1 := 7) [_] hX km_7_86 dX7_property_98 (sp_val hp0) rfl rfl ⟨_, _, rfl⟩ (by decide) (Nat.le_of_ble_eq_true rfl) (Nat.le_refl _) (Nat.le_refl _) (by assumption) ?_
    refine kr_iret hX hr dX7_property_101 ⟨rfl, ?_⟩
    refine ⟨?_, rfl⟩
    rcases hz with hz | hz <;> simp_all
  by_cases c_1_8 : w = 8
  · skip
    refine kr_tabIn (tgt := 94) (off := 93) hX dX7_property_1 (by rw [c_1_8]; decide) (by rw [c_1_8]; decide) (by rw [c_1_8]; rfl) (by decide) ?_
    refine kr_aload_n (i := 0) hX dX7_property_94 rfl rfl ?_
    refine kr_iload_n (i := 1) hX dX7_property_95 rfl rfl ?_
    refine kr_iconst (v := 5) hX dX7_property_96 (by decide) ?_
    refine kr_isub hX dX7_property_97 ?_
    refine kr_dV (c1 := 7) [_] hX km_7_86 dX7_property_98 (sp_val hp0) rfl rfl ⟨_, _, rfl⟩ (by decide) (Nat.le_of_ble_eq_true rfl) (Nat.le_refl _) (Nat.le_refl _) (by assumption) ?_
    refine kr_iret hX hr dX7_property_101 ⟨rfl, ?_⟩
    refine ⟨?_, rfl⟩
    rcases hz with hz | hz <;> simp_all
  by_cases c_1_9 : w = 9
  · skip
    refine kr_tabIn (tgt := 89) (off := 88) hX dX7_property_1 (by rw [c_1_9]; decide) (by rw [c_1_9]; decide) (by rw [c_1_9]; rfl) (by decide) ?_
    refine kr_aload_n (i := 0) hX dX7_property_89 rfl rfl ?_
    refine kr_geti (c0 := 7) (k := 7) hX ⟨_, kf_7_70⟩ dX7_property_90 rfl (by assumption) ?_
    refine kr_iret hX hr dX7_property_93 ⟨rfl, ?_⟩
    refine ⟨?_, rfl⟩
    rcases hz with hz | hz <;> simp_all
  refine kr_tabOut (tgt := 94) hX dX7_property_1 (by have q_0 := kt_ne c_1_0 (z := 0) (by decide); have q_1 := kt_ne c_1_1 (z := 1) (by decide); have q_2 := kt_ne c_1_2 (z := 2) (by decide); have q_3 := kt_ne c_1_3 (z := 3) (by decide); have q_4 := kt_ne c_1_4 (z := 4) (by decide); have q_5 := kt_ne c_1_5 (z := 5) (by decide); have q_6 := kt_ne c_1_6 (z := 6) (by decide); have q_7 := kt_ne c_1_7 (z := 7) (by decide); have q_8 := kt_ne c_1_8 (z := 8) (by decide); have q_9 := kt_ne c_1_9 (z := 9) (by decide); omega) (by decide) ?_
  refine kr_aload_n (i := 0) hX dX7_property_94 rfl rfl ?_
  refine kr_iload_n (i := 1) hX dX7_property_95 rfl rfl ?_
  refine kr_iconst (v := 5) hX dX7_property_96 (by decide) ?_
  refine kr_isub hX dX7_property_97 ?_
  refine kr_dV (c1 := 7) [_] hX km_7_86 dX7_property_98 (sp_val hp0) rfl rfl ⟨_, _, rfl⟩ (by decide) (Nat.le_of_ble_eq_true rfl) (Nat.le_refl _) (Nat.le_refl _) (by assumption) ?_
  refine kr_iret hX hr dX7_property_101 ⟨rfl, ?_⟩
  refine ⟨?_, rfl⟩
  rcases hz with hz | hz <;> simp_all


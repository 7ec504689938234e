set_option maxHeartbeats 4000000 in
set_option maxRecDepth 100000 in
theorem sp_side {G : kt_G} {σ : kt_Y} {μ : kt_M} {p : Nat} (hp : kt_rg σ p) {b : Nat} (hb : kt_blk σ b) (hne : p + 4 ≤ b ∨ b + 4 ≤ p) {s : Int32} : kt_F G yX5_followSide cX5_followSide 5 none 2 [.ref p, .ref b, .int s] σ μ (fun r μ2 => r = none ∧ μ2 = m_side μ p b s) := by
  refine kt_F.of (by decide) (Nat.le_of_ble_eq_true rfl) (fun X hX hr => ?_)
  have hp0 := hp
  obtain ⟨hk0, hr1, hr2, hr3, hk1, hk2, hk3⟩ := hp
  have hb0 := hb
  obtain ⟨gk0, gr1, gr2, gr3, gk1, gk2, gk3⟩ := hb
  refine kr_aload_n (i := 1) hX dX5_followSide_0 rfl rfl ?_
  refine kr_geti (c0 := 0) (k := 5) hX ⟨_, kf_5_65⟩ dX5_followSide_1 rfl (by assumption) ?_
  refine kr_istore_n (i := 3) hX dX5_followSide_4 rfl (by decide) rfl rfl ?_
  refine kr_aload_n (i := 1) hX dX5_followSide_5 rfl rfl ?_
  refine kr_geti (c0 := 0) (k := 7) hX ⟨_, kf_5_68⟩ dX5_followSide_6 rfl (by assumption) ?_
  refine kr_istore hX dX5_followSide_9 (by decide) rfl rfl ?_
  refine kr_aload_n (i := 1) hX dX5_followSide_11 rfl rfl ?_
  refine kr_dV (c1 := 0) [] hX km_5_71 dX5_followSide_12 (sp_isTest hb0) rfl rfl ⟨_, _, rfl⟩ (by decide) (Nat.le_of_ble_eq_true rfl) (Nat.le_refl _) (Nat.le_refl _) (by assumption) ?_
  refine kr_if_eq (tgt := 25) hX dX5_followSide_15 (by decide) (fun c_15 => ?_) (fun c_15 => ?_)
  · skip
    refine kr_vret hX hr dX5_followSide_25 ⟨rfl, ?_⟩
    refine ⟨rfl, ?_⟩
    simp only [kt_f_0, Classical.not_not] at *
    simp_all [m_side, -Int32.not_le, -Int32.not_lt]
  · skip
    refine kr_iload_n (i := 3) hX dX5_followSide_18 rfl rfl ?_
    refine kr_dSN [_] hX km_5_30 dX5_followSide_19 (sp_isVar) rfl rfl (by decide) (Nat.le_of_ble_eq_true rfl) (Nat.le_refl _) (Nat.le_refl _) ?_
    refine kr_if_ne (tgt := 26) hX dX5_followSide_22 (by decide) (fun c_22 => ?_) (fun c_22 => ?_)
    · skip
      refine kr_aload_n (i := 1) hX dX5_followSide_26 rfl rfl ?_
      refine kr_geti (c0 := 0) (k := 6) hX ⟨_, kf_5_75⟩ dX5_followSide_27 rfl (by assumption) ?_
      refine kr_if_ne (tgt := 63) hX dX5_followSide_30 (by decide) (fun c_30 => ?_) (fun c_30 => ?_)
      · skip
        refine kr_iload hX dX5_followSide_63 rfl ?_
        refine kr_dSN [_] hX km_5_30 dX5_followSide_65 (sp_isVar) rfl rfl (by decide) (Nat.le_of_ble_eq_true rfl) (Nat.le_refl _) (Nat.le_refl _) ?_
        refine kr_if_eq (tgt := 98) hX dX5_followSide_68 (by decide) (fun c_68 => ?_) (fun c_68 => ?_)
        · skip
          refine kr_vret hX hr dX5_followSide_98 ⟨rfl, ?_⟩
          refine ⟨rfl, ?_⟩
          simp only [kt_f_0, Classical.not_not] at *
          simp_all [m_side, -Int32.not_le, -Int32.not_lt]
        · skip
          refine kr_aload_n (i := 1) hX dX5_followSide_71 rfl rfl ?_
          refine kr_geti (c0 := 0) (k := 4) hX ⟨_, kf_5_79⟩ dX5_followSide_72 rfl (by assumption) ?_
          refine kr_iconst (v := 2) hX dX5_followSide_75 (by decide) ?_
          refine kr_icmp_ne (tgt := 90) hX dX5_followSide_76 (by decide) (fun c_76 => ?_) (fun c_76 => ?_)
          · skip
            refine kr_aload_n (i := 0) hX dX5_followSide_90 rfl rfl ?_
            refine kr_iload_n (i := 3) hX dX5_followSide_91 rfl rfl ?_
            refine kr_iload hX dX5_followSide_92 rfl ?_
            refine kr_iload_n (i := 2) hX dX5_followSide_94 rfl rfl ?_
            refine kr_dV (c1 := 5) [_, _, _] hX km_5_91 dX5_followSide_95 (sp_eqV hp0 (k_isv_in (by simp only [kt_f_0, Classical.not_not] at c_22; exact c_22)) (k_isv_in (by simp only [kt_f_0, Classical.not_not] at c_68; exact c_68))) rfl rfl ⟨_, _, rfl⟩ (by decide) (Nat.le_of_ble_eq_true rfl) (Nat.le_refl _) (Nat.le_refl _) (by assumption) ?_
            refine kr_vret hX hr dX5_followSide_98 ⟨rfl, ?_⟩
            refine ⟨rfl, ?_⟩
            simp only [kt_f_0, Classical.not_not] at *
            simp_all [m_side, -Int32.not_le, -Int32.not_lt]
          · skip
            refine kr_aload_n (i := 0) hX dX5_followSide_79 rfl rfl ?_
            refine kr_iload_n (i := 3) hX dX5_followSide_80 rfl rfl ?_
            refine kr_iload hX dX5_followSide_81 rfl ?_
            refine kr_iload_n (i := 2) hX dX5_followSide_83 rfl rfl ?_
            refine kr_dV (c1 := 5) [_, _, _] hX km_5_88 dX5_followSide_84 (sp_lessV hp0 (k_isv_in (by simp only [kt_f_0, Classical.not_not] at c_22; exact c_22)) (k_isv_in (by simp only [kt_f_0, Classical.not_not] at c_68; exact c_68))) rfl rfl ⟨_, _, rfl⟩ (by decide) (Nat.le_of_ble_eq_true rfl) (Nat.le_refl _) (Nat.le_refl _) (by assumption) ?_
            refine kr_goto (tgt := 98) hX dX5_followSide_87 (by decide) ?_
            refine kr_vret hX hr dX5_followSide_98 ⟨rfl, ?_⟩
            refine ⟨rfl, ?_⟩
            simp only [kt_f_0, Classical.not_not] at *
            simp_all [m_side, -Int32.not_le, -Int32.not_lt]
      · skip
        refine kr_aload_n (i := 1) hX dX5_followSide_33 rfl rfl ?_
        refine kr_geti (c0 := 0) (k := 4) hX ⟨_, kf_5_79⟩ dX5_followSide_34 rfl (by assumption) ?_
        refine kr_iconst (v := 2) hX dX5_followSide_37 (by decide) ?_
        refine kr_icmp_ne (tgt := 52) hX dX5_followSide_38 (by decide) (fun c_38 => ?_) (fun c_38 => ?_)
        · skip
          refine kr_aload_n (i := 0) hX dX5_followSide_52 rfl rfl ?_
          refine kr_iload_n (i := 3) hX dX5_followSide_53 rfl rfl ?_
          refine kr_iload hX dX5_followSide_54 rfl ?_
          refine kr_iload_n (i := 2) hX dX5_followSide_56 rfl rfl ?_
          refine kr_dV (c1 := 5) [_, _, _] hX km_5_85 dX5_followSide_57 (sp_eqN hp0 (k_isv_in (by simp only [kt_f_0, Classical.not_not] at c_22; exact c_22))) rfl rfl ⟨_, _, rfl⟩ (by decide) (Nat.le_of_ble_eq_true rfl) (Nat.le_refl _) (Nat.le_refl _) (by assumption) ?_
          refine kr_goto (tgt := 98) hX dX5_followSide_60 (by decide) ?_
          refine kr_vret hX hr dX5_followSide_98 ⟨rfl, ?_⟩
          refine ⟨rfl, ?_⟩
          simp only [kt_f_0, Classical.not_not] at *
          simp_all [m_side, -Int32.not_le, -Int32.not_lt]
        · skip
          refine kr_aload_n (i := 0) hX dX5_followSide_41 rfl rfl ?_
          refine kr_iload_n (i := 3) hX dX5_followSide_42 rfl rfl ?_
          refine kr_iload hX dX5_followSide_43 rfl ?_
          refine kr_iload_n (i := 2) hX dX5_followSide_45 rfl rfl ?_
          refine kr_dV (c1 := 5) [_, _, _] hX km_5_82 dX5_followSide_46 (sp_lessN hp0 (k_isv_in (by simp only [kt_f_0, Classical.not_not] at c_22; exact c_22))) rfl rfl ⟨_, _, rfl⟩ (by decide) (Nat.le_of_ble_eq_true rfl) (Nat.le_refl _) (Nat.le_refl _) (by assumption) ?_
          refine kr_goto (tgt := 98) hX dX5_followSide_49 (by decide) ?_
          refine kr_vret hX hr dX5_followSide_98 ⟨rfl, ?_⟩
          refine ⟨rfl, ?_⟩
          simp only [kt_f_0, Classical.not_not] at *
          simp_all [m_side, -Int32.not_le, -Int32.not_lt]
    · skip
      refine kr_vret hX hr dX5_followSide_25 ⟨rfl, ?_⟩
      refine ⟨rfl, ?_⟩
      simp only [kt_f_0, Classical.not_not] at *
      simp_all [m_side, -Int32.not_le, -Int32.not_lt]


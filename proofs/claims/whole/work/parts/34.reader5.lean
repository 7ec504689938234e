set_option maxHeartbeats 4000000 in
set_option maxRecDepth 100000 in
theorem sp_end {G : kt_G} {σ : kt_Y} {μ : kt_M} {p : Nat} (hp : kt_rd σ p) {L : Nat} (ho : k_rdok μ p L) {k : Nat} (hb : kt_blk σ k) (hkp : k + 4 ≤ p ∨ p + 2 ≤ k) : kt_F G yX6_parseEnd cX6_parseEnd 2 (some .boolean) 5 [.ref p, .ref k] σ μ (fun r μ2 => r = some (.int (b_end μ p k).1) ∧ μ2 = (b_end μ p k).2) := by
  refine kt_F.of (by decide) (Nat.le_of_ble_eq_true rfl) (fun X hX hr => ?_)
  have hp0 := hp
  obtain ⟨hk0, hr0, hk1⟩ := hp
  obtain ⟨hL, hL2, s0, a0, hs0, ha0, hsa, haL⟩ := id ho
  have hb0 := hb
  obtain ⟨gk0, gr1, gr2, gr3, gk1, gk2, gk3⟩ := hb
  have hkne : k ≠ p := by omega
  refine kr_aload_n (i := 0) hX dX6_parseEnd_0 rfl rfl ?_
  refine kr_ldcS (i := 6) hX (by decide) dX6_parseEnd_1 ?_
  refine kr_dV (c1 := 6) [_] hX km_6_88 dX6_parseEnd_3 (sp_word hp0 (by decide)) rfl rfl ⟨_, _, rfl⟩ (by decide) (Nat.le_of_ble_eq_true rfl) (Nat.le_refl _) (Nat.le_refl _) (by assumption) ?_
  refine kr_if_eq (tgt := 19) hX dX6_parseEnd_6 (by decide) (fun c_6 => ?_) (fun c_6 => ?_)
  · skip
    refine kr_aload_n (i := 0) hX dX6_parseEnd_19 rfl rfl ?_
    refine kr_ldcS (i := 7) hX (by decide) dX6_parseEnd_20 ?_
    refine kr_dV (c1 := 6) [_] hX km_6_88 dX6_parseEnd_22 (sp_word hp0 (by decide)) rfl rfl ⟨_, _, rfl⟩ (by decide) (Nat.le_of_ble_eq_true rfl) (Nat.le_refl _) (Nat.le_refl _) (by assumption) ?_
    refine kr_if_eq (tgt := 55) hX dX6_parseEnd_25 (by decide) (fun c_25 => ?_) (fun c_25 => ?_)
    · skip
      refine kr_aload_n (i := 0) hX dX6_parseEnd_55 rfl rfl ?_
      refine kr_ldcS (i := 8) hX (by decide) dX6_parseEnd_56 ?_
      refine kr_dV (c1 := 6) [_] hX km_6_88 dX6_parseEnd_58 (sp_word hp0 (by decide)) rfl rfl ⟨_, _, rfl⟩ (by decide) (Nat.le_of_ble_eq_true rfl) (Nat.le_refl _) (Nat.le_refl _) (by assumption) ?_
      refine kr_if_eq (tgt := 103) hX dX6_parseEnd_61 (by decide) (fun c_61 => ?_) (fun c_61 => ?_)
      · skip
        refine kr_aload_n (i := 0) hX dX6_parseEnd_103 rfl rfl ?_
        refine kr_iconst (v := 2) hX dX6_parseEnd_104 (by decide) ?_
        refine kr_dV (c1 := 6) [_] hX km_6_51 dX6_parseEnd_105 (sp_fail hp0) rfl rfl ⟨_, _, rfl⟩ (by decide) (Nat.le_of_ble_eq_true rfl) (Nat.le_refl _) (Nat.le_refl _) (by assumption) ?_
        refine kr_zret hX hr (by first | exact Or.inl rfl | exact Or.inr rfl | assumption) dX6_parseEnd_108 ⟨rfl, ?_⟩
        simp only [kt_f_0, Classical.not_not] at c_6 c_25 c_61
        unfold b_end
        rw [if_neg c_6, if_neg c_25, if_neg c_61]
        exact ⟨rfl, rfl⟩
      · skip
        refine kr_aload_n (i := 0) hX dX6_parseEnd_64 rfl rfl ?_
        refine kr_dV (c1 := 6) [] hX km_6_39 dX6_parseEnd_65 (sp_advS hp0 hL hL2 ha0 haL) rfl rfl ⟨_, _, rfl⟩ (by decide) (Nat.le_of_ble_eq_true rfl) (Nat.le_refl _) (Nat.le_refl _) (by assumption) ?_
        refine kr_if_eq (tgt := 101) hX dX6_parseEnd_68 (by decide) (fun c_68 => ?_) (fun c_68 => ?_)
        · skip
          refine kr_iconst (v := 0) hX dX6_parseEnd_101 (by decide) ?_
          refine kr_zret hX hr (by first | exact Or.inl rfl | exact Or.inr rfl | assumption) dX6_parseEnd_102 ⟨rfl, ?_⟩
          simp only [kt_f_0, Classical.not_not] at c_6 c_25 c_61
          unfold b_end
          rw [if_neg c_6, if_neg c_25, if_pos c_61]
          rw [b_and_f c_68]
          exact ⟨rfl, rfl⟩
        · skip
          refine kr_aload_n (i := 0) hX dX6_parseEnd_71 rfl rfl ?_
          refine kr_aload_n (i := 1) hX dX6_parseEnd_72 rfl rfl ?_
          refine kr_dV (c1 := 6) [_] hX km_6_102 dX6_parseEnd_73 (sp_testS hp0 ho.qadv hb0 hkp) rfl rfl ⟨_, _, rfl⟩ (by decide) (Nat.le_of_ble_eq_true rfl) (Nat.le_refl _) (Nat.le_refl _) (by assumption) ?_
          refine kr_if_eq (tgt := 101) hX dX6_parseEnd_76 (by decide) (fun c_76 => ?_) (fun c_76 => ?_)
          · skip
            refine kr_iconst (v := 0) hX dX6_parseEnd_101 (by decide) ?_
            refine kr_zret hX hr (by first | exact Or.inl rfl | exact Or.inr rfl | assumption) dX6_parseEnd_102 ⟨rfl, ?_⟩
            simp only [kt_f_0, Classical.not_not] at c_6 c_25 c_61
            unfold b_end
            rw [if_neg c_6, if_neg c_25, if_pos c_61]
            rw [b_and_t c_68]
            dsimp only
            rw [b_and_f c_76]
            dsimp only
            rw [kt_f_f (fun h => h rfl)]
            exact ⟨rfl, rfl⟩
          · skip
            refine kr_aload_n (i := 0) hX dX6_parseEnd_79 rfl rfl ?_
            refine kr_aload_n (i := 1) hX dX6_parseEnd_80 rfl rfl ?_
            refine kr_iconst (v := 0) hX dX6_parseEnd_81 (by decide) ?_
            refine kr_dV (c1 := 6) [_, _] hX km_6_97 dX6_parseEnd_82 (sp_tgtS hp0 (ho.qadv.qtest hkne) hb0 hkp) rfl rfl ⟨_, _, rfl⟩ (by decide) (Nat.le_of_ble_eq_true rfl) (Nat.le_refl _) (Nat.le_refl _) (by assumption) ?_
            refine kr_if_eq (tgt := 101) hX dX6_parseEnd_85 (by decide) (fun c_85 => ?_) (fun c_85 => ?_)
            · skip
              refine kr_iconst (v := 0) hX dX6_parseEnd_101 (by decide) ?_
              refine kr_zret hX hr (by first | exact Or.inl rfl | exact Or.inr rfl | assumption) dX6_parseEnd_102 ⟨rfl, ?_⟩
              simp only [kt_f_0, Classical.not_not] at c_6 c_25 c_61
              unfold b_end
              rw [if_neg c_6, if_neg c_25, if_pos c_61]
              rw [b_and_t c_68]
              dsimp only
              rw [b_and_t c_76]
              dsimp only
              rw [kt_fnz]
              rw [b_and_f c_85]
              dsimp only
              rw [kt_f_f (fun h => h rfl)]
              exact ⟨rfl, rfl⟩
            · skip
              refine kr_aload_n (i := 0) hX dX6_parseEnd_88 rfl rfl ?_
              refine kr_aload_n (i := 1) hX dX6_parseEnd_89 rfl rfl ?_
              refine kr_iconst (v := 1) hX dX6_parseEnd_90 (by decide) ?_
              refine kr_dV (c1 := 6) [_, _] hX km_6_97 dX6_parseEnd_91 (sp_tgtS hp0 ((ho.qadv.qtest hkne).qtgt hkne) hb0 hkp) rfl rfl ⟨_, _, rfl⟩ (by decide) (Nat.le_of_ble_eq_true rfl) (Nat.le_refl _) (Nat.le_refl _) (by assumption) ?_
              refine kr_if_eq (tgt := 101) hX dX6_parseEnd_94 (by decide) (fun c_94 => ?_) (fun c_94 => ?_)
              · skip
                refine kr_iconst (v := 0) hX dX6_parseEnd_101 (by decide) ?_
                refine kr_zret hX hr (by first | exact Or.inl rfl | exact Or.inr rfl | assumption) dX6_parseEnd_102 ⟨rfl, ?_⟩
                simp only [kt_f_0, Classical.not_not] at c_6 c_25 c_61
                unfold b_end
                rw [if_neg c_6, if_neg c_25, if_pos c_61]
                rw [b_and_t c_68]
                dsimp only
                rw [b_and_t c_76]
                dsimp only
                rw [kt_fnz]
                rw [b_and_t c_85]
                dsimp only
                rw [kt_fnz]
                rw [kt_f_f (fun h => h c_94)]
                exact ⟨rfl, rfl⟩
              · skip
                refine kr_iconst (v := 1) hX dX6_parseEnd_97 (by decide) ?_
                refine kr_goto (tgt := 102) hX dX6_parseEnd_98 (by decide) ?_
                refine kr_zret hX hr (by first | exact Or.inl rfl | exact Or.inr rfl | assumption) dX6_parseEnd_102 ⟨rfl, ?_⟩
                simp only [kt_f_0, Classical.not_not] at c_6 c_25 c_61
                unfold b_end
                rw [if_neg c_6, if_neg c_25, if_pos c_61]
                rw [b_and_t c_68]
                dsimp only
                rw [b_and_t c_76]
                dsimp only
                rw [kt_fnz]
                rw [b_and_t c_85]
                dsimp only
                rw [kt_fnz]
                rw [kt_f_t c_94]
                exact ⟨rfl, rfl⟩
    · skip
      refine kr_aload_n (i := 1) hX dX6_parseEnd_28 rfl rfl ?_
      refine kr_iconst (v := 1) hX dX6_parseEnd_29 (by decide) ?_
      refine kr_puti (c0 := 0) (k := 4) hX kf_6_92 dX6_parseEnd_30 rfl rfl rfl (by assumption) ?_
      refine kr_aload_n (i := 0) hX dX6_parseEnd_33 rfl rfl ?_
      refine kr_dV (c1 := 6) [] hX km_6_39 dX6_parseEnd_34 (sp_advS hp0 (by rw [kt_i_sin (Ne.symm hkne)]; exact hL) hL2 (by rw [kt_i_sin (Ne.symm hkne)]; exact ha0) haL) rfl rfl ⟨_, _, rfl⟩ (by decide) (Nat.le_of_ble_eq_true rfl) (Nat.le_refl _) (Nat.le_refl _) (by assumption) ?_
      refine kr_if_eq (tgt := 53) hX dX6_parseEnd_37 (by decide) (fun c_37 => ?_) (fun c_37 => ?_)
      · skip
        refine kr_iconst (v := 0) hX dX6_parseEnd_53 (by decide) ?_
        refine kr_zret hX hr (by first | exact Or.inl rfl | exact Or.inr rfl | assumption) dX6_parseEnd_54 ⟨rfl, ?_⟩
        simp only [kt_f_0, Classical.not_not] at c_6 c_25
        unfold b_end
        rw [if_neg c_6, if_pos c_25]
        rw [b_and_f c_37]
        exact ⟨rfl, rfl⟩
      · skip
        refine kr_aload_n (i := 0) hX dX6_parseEnd_40 rfl rfl ?_
        refine kr_aload_n (i := 1) hX dX6_parseEnd_41 rfl rfl ?_
        refine kr_iconst (v := 0) hX dX6_parseEnd_42 (by decide) ?_
        refine kr_dV (c1 := 6) [_, _] hX km_6_97 dX6_parseEnd_43 (sp_tgtS hp0 (ho.far hkne).qadv hb0 hkp) rfl rfl ⟨_, _, rfl⟩ (by decide) (Nat.le_of_ble_eq_true rfl) (Nat.le_refl _) (Nat.le_refl _) (by assumption) ?_
        refine kr_if_eq (tgt := 53) hX dX6_parseEnd_46 (by decide) (fun c_46 => ?_) (fun c_46 => ?_)
        · skip
          refine kr_iconst (v := 0) hX dX6_parseEnd_53 (by decide) ?_
          refine kr_zret hX hr (by first | exact Or.inl rfl | exact Or.inr rfl | assumption) dX6_parseEnd_54 ⟨rfl, ?_⟩
          simp only [kt_f_0, Classical.not_not] at c_6 c_25
          unfold b_end
          rw [if_neg c_6, if_pos c_25]
          rw [b_and_t c_37]
          dsimp only
          rw [kt_f_f (fun h => h c_46)]
          exact ⟨rfl, rfl⟩
        · skip
          refine kr_iconst (v := 1) hX dX6_parseEnd_49 (by decide) ?_
          refine kr_goto (tgt := 54) hX dX6_parseEnd_50 (by decide) ?_
          refine kr_zret hX hr (by first | exact Or.inl rfl | exact Or.inr rfl | assumption) dX6_parseEnd_54 ⟨rfl, ?_⟩
          simp only [kt_f_0, Classical.not_not] at c_6 c_25
          unfold b_end
          rw [if_neg c_6, if_pos c_25]
          rw [b_and_t c_37]
          dsimp only
          rw [kt_f_t c_46]
          exact ⟨rfl, rfl⟩
  · skip
    refine kr_aload_n (i := 1) hX dX6_parseEnd_9 rfl rfl ?_
    refine kr_iconst (v := 0) hX dX6_parseEnd_10 (by decide) ?_
    refine kr_puti (c0 := 0) (k := 4) hX kf_6_92 dX6_parseEnd_11 rfl rfl rfl (by assumption) ?_
    refine kr_aload_n (i := 0) hX dX6_parseEnd_14 rfl rfl ?_
    refine kr_dV (c1 := 6) [] hX km_6_39 dX6_parseEnd_15 (sp_advS hp0 (by rw [kt_i_sin (Ne.symm hkne)]; exact hL) hL2 (by rw [kt_i_sin (Ne.symm hkne)]; exact ha0) haL) rfl rfl ⟨_, _, rfl⟩ (by decide) (Nat.le_of_ble_eq_true rfl) (Nat.le_refl _) (Nat.le_refl _) (by assumption) ?_
    refine kr_zret hX hr (by rw [a_adv_1]; exact kt_f_01) dX6_parseEnd_18 ⟨rfl, ?_⟩
    simp only [kt_f_0, Classical.not_not] at c_6
    unfold b_end
    rw [if_pos c_6]
    exact ⟨rfl, rfl⟩


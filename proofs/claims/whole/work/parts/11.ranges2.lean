set_option maxHeartbeats 4000000 in
set_option maxRecDepth 100000 in
theorem sp_rcopy {G : kt_G} {σ : kt_Y} {μ : kt_M} {p : Nat} (hp : kt_rg σ p) {q : Nat} (hq : kt_rg σ q) (hne : p + 4 ≤ q ∨ q + 4 ≤ p) (hb : kt_01 μ (q + 3)) : kt_F G yX5_copyFrom cX5_copyFrom 3 none 1 [.ref p, .ref q] σ μ (fun r μ2 => r = none ∧ μ2 = m_cp μ p q) := by
  refine kt_F.of (by decide) (Nat.le_of_ble_eq_true rfl) (fun X hX hr => ?_)
  have hp0 := hp
  obtain ⟨hk0, hr1, hr2, hr3, hk1, hk2, hk3⟩ := hp
  refine kr_iconst (v := 0) hX dX5_copyFrom_0 (by decide) ?_
  refine kr_istore_n (i := 2) hX dX5_copyFrom_1 rfl (by decide) rfl rfl ?_
  refine kr_iload_n (i := 2) hX dX5_copyFrom_2 rfl rfl ?_
  refine kr_iconst (v := 4) hX dX5_copyFrom_3 (by decide) ?_
  refine kr_icmp_ge (tgt := 20) hX dX5_copyFrom_4 (by decide) (fun c_4 => ?_) (fun c_4 => ?_)
  · skip
    exact absurd c_4 (by decide)
  · skip
    refine kr_aload_n (i := 0) hX dX5_copyFrom_7 rfl rfl ?_
    refine kr_iload_n (i := 2) hX dX5_copyFrom_8 rfl rfl ?_
    refine kr_aload_n (i := 1) hX dX5_copyFrom_9 rfl rfl ?_
    refine kr_iload_n (i := 2) hX dX5_copyFrom_10 rfl rfl ?_
    refine kr_cV (c1 := 5) [_, _, _] hX km_5_26 dX5_copyFrom_11 (sp_cpv hp0 (by assumption) (by omega) (by intro k; (try simp only [m_cpv]); (repeat (rw [kt_i_sin (by omega)])); exact hb k) (by unfold vp_in; decide) (by unfold vp_in; decide)) rfl rfl ⟨_, _, rfl⟩ (by decide) (Nat.le_of_ble_eq_true rfl) (Nat.le_refl _) (Nat.le_refl _) (by assumption) ?_
    rintro _ _ ⟨rfl, rfl⟩
    refine kr_iinc (v := 1) hX dX5_copyFrom_14 rfl (by decide) (by decide) rfl rfl ?_
    refine kr_goto (tgt := 2) hX dX5_copyFrom_17 (by decide) ?_
    refine kr_iload_n (i := 2) hX dX5_copyFrom_2 rfl rfl ?_
    refine kr_iconst (v := 4) hX dX5_copyFrom_3 (by decide) ?_
    refine kr_icmp_ge (tgt := 20) hX dX5_copyFrom_4 (by decide) (fun c_4 => ?_) (fun c_4 => ?_)
    · skip
      exact absurd c_4 (by decide)
    · skip
      refine kr_aload_n (i := 0) hX dX5_copyFrom_7 rfl rfl ?_
      refine kr_iload_n (i := 2) hX dX5_copyFrom_8 rfl rfl ?_
      refine kr_aload_n (i := 1) hX dX5_copyFrom_9 rfl rfl ?_
      refine kr_iload_n (i := 2) hX dX5_copyFrom_10 rfl rfl ?_
      refine kr_cV (c1 := 5) [_, _, _] hX km_5_26 dX5_copyFrom_11 (sp_cpv hp0 (by assumption) (by omega) (by intro k; (try simp only [m_cpv]); (repeat (rw [kt_i_sin (by omega)])); exact hb k) (by unfold vp_in; decide) (by unfold vp_in; decide)) rfl rfl ⟨_, _, rfl⟩ (by decide) (Nat.le_of_ble_eq_true rfl) (Nat.le_refl _) (Nat.le_refl _) (by assumption) ?_
      rintro _ _ ⟨rfl, rfl⟩
      refine kr_iinc (v := 2) hX dX5_copyFrom_14 rfl (by decide) (by decide) rfl rfl ?_
      refine kr_goto (tgt := 2) hX dX5_copyFrom_17 (by decide) ?_
      refine kr_iload_n (i := 2) hX dX5_copyFrom_2 rfl rfl ?_
      refine kr_iconst (v := 4) hX dX5_copyFrom_3 (by decide) ?_
      refine kr_icmp_ge (tgt := 20) hX dX5_copyFrom_4 (by decide) (fun c_4 => ?_) (fun c_4 => ?_)
      · skip
        exact absurd c_4 (by decide)
      · skip
        refine kr_aload_n (i := 0) hX dX5_copyFrom_7 rfl rfl ?_
        refine kr_iload_n (i := 2) hX dX5_copyFrom_8 rfl rfl ?_
        refine kr_aload_n (i := 1) hX dX5_copyFrom_9 rfl rfl ?_
        refine kr_iload_n (i := 2) hX dX5_copyFrom_10 rfl rfl ?_
        refine kr_cV (c1 := 5) [_, _, _] hX km_5_26 dX5_copyFrom_11 (sp_cpv hp0 (by assumption) (by omega) (by intro k; (try simp only [m_cpv]); (repeat (rw [kt_i_sin (by omega)])); exact hb k) (by unfold vp_in; decide) (by unfold vp_in; decide)) rfl rfl ⟨_, _, rfl⟩ (by decide) (Nat.le_of_ble_eq_true rfl) (Nat.le_refl _) (Nat.le_refl _) (by assumption) ?_
        rintro _ _ ⟨rfl, rfl⟩
        refine kr_iinc (v := 3) hX dX5_copyFrom_14 rfl (by decide) (by decide) rfl rfl ?_
        refine kr_goto (tgt := 2) hX dX5_copyFrom_17 (by decide) ?_
        refine kr_iload_n (i := 2) hX dX5_copyFrom_2 rfl rfl ?_
        refine kr_iconst (v := 4) hX dX5_copyFrom_3 (by decide) ?_
        refine kr_icmp_ge (tgt := 20) hX dX5_copyFrom_4 (by decide) (fun c_4 => ?_) (fun c_4 => ?_)
        · skip
          exact absurd c_4 (by decide)
        · skip
          refine kr_aload_n (i := 0) hX dX5_copyFrom_7 rfl rfl ?_
          refine kr_iload_n (i := 2) hX dX5_copyFrom_8 rfl rfl ?_
          refine kr_aload_n (i := 1) hX dX5_copyFrom_9 rfl rfl ?_
          refine kr_iload_n (i := 2) hX dX5_copyFrom_10 rfl rfl ?_
          refine kr_cV (c1 := 5) [_, _, _] hX km_5_26 dX5_copyFrom_11 (sp_cpv hp0 (by assumption) (by omega) (by intro k; (try simp only [m_cpv]); (repeat (rw [kt_i_sin (by omega)])); exact hb k) (by unfold vp_in; decide) (by unfold vp_in; decide)) rfl rfl ⟨_, _, rfl⟩ (by decide) (Nat.le_of_ble_eq_true rfl) (Nat.le_refl _) (Nat.le_refl _) (by assumption) ?_
          rintro _ _ ⟨rfl, rfl⟩
          refine kr_iinc (v := 4) hX dX5_copyFrom_14 rfl (by decide) (by decide) rfl rfl ?_
          refine kr_goto (tgt := 2) hX dX5_copyFrom_17 (by decide) ?_
          refine kr_iload_n (i := 2) hX dX5_copyFrom_2 rfl rfl ?_
          refine kr_iconst (v := 4) hX dX5_copyFrom_3 (by decide) ?_
          refine kr_icmp_ge (tgt := 20) hX dX5_copyFrom_4 (by decide) (fun c_4 => ?_) (fun c_4 => ?_)
          · skip
            refine kr_vret hX hr dX5_copyFrom_20 ⟨rfl, ?_⟩
            exact ⟨rfl, rfl⟩
          · skip
            exact absurd c_4 (by decide)

set_option maxHeartbeats 4000000 in
set_option maxRecDepth 100000 in
theorem lp_join {G : kt_G} {σ : kt_Y} {X : kt_X} (hX : kt_ok G X RX5 cX5_join 4 0 0 0) (hr : kt_rt X = (some .boolean)) {Q : Option Value → kt_M → Prop} {p : Nat} (hp : kt_rg σ p) {q : Nat} (hq : kt_rg σ q) (hne : p + 4 ≤ q ∨ q + 4 ≤ p) : ∀ (n i : Nat) (μ : kt_M) (g : Int32), i + n = 4 → (g = 0 ∨ g = 1) → (Q (some (.int (m_joinL p q n i μ g).2)) (m_joinL p q n i μ g).1) → kt_W G X 4 4 [(0, .ref p), (1, .ref q), (2, .int g), (3, .int (nI i))] [] σ μ 0 0 (kt_Z G X (kt_q σ Q) 0 0) := by
  obtain ⟨hk0, hr1, hr2, hr3, hk1, hk2, hk3⟩ := hp
  obtain ⟨gk0, gr1, gr2, gr3, gk1, gk2, gk3⟩ := hq
  intro n
  induction n with
  | zero =>
    intro i μ g hin hg hQ
    have hib : i = 4 := by omega
    refine kr_iload_n (i := 3) hX dX5_join_4 rfl rfl ?_
    refine kr_iconst (v := 4) hX dX5_join_5 (by decide) ?_
    refine kr_icmp_ge (tgt := 100) hX dX5_join_6 (by decide) (fun c_6 => ?_) (fun c_6 => ?_)
    · skip
      refine kr_iload_n (i := 2) hX dX5_join_100 rfl rfl ?_
      refine kr_zret hX hr (by first | exact Or.inl rfl | exact Or.inr rfl | assumption) dX5_join_101 ⟨rfl, ?_⟩
      exact hQ
    · skip
      exact absurd (by rw [hib]; decide) c_6
  | succ n ih =>
    intro i μ g hin hg hQ
    have hib : i < 4 := by omega
    refine kr_iload_n (i := 3) hX dX5_join_4 rfl rfl ?_
    refine kr_iconst (v := 4) hX dX5_join_5 (by decide) ?_
    refine kr_icmp_ge (tgt := 100) hX dX5_join_6 (by decide) (fun c_6 => ?_) (fun c_6 => ?_)
    · skip
      exact absurd c_6 (kt_ge rfl hib (by decide))
    · skip
      refine kr_aload_n (i := 1) hX dX5_join_9 rfl rfl ?_
      refine kr_getr (c0 := 5) (k := 0) hX ⟨_, kf_5_9⟩ dX5_join_10 rfl (by assumption) (by assumption) ?_
      refine kr_iload_n (i := 3) hX dX5_join_13 rfl rfl ?_
      refine kr_ialdN hX dX5_join_14 (by assumption) (by omega) ?_
      refine kr_aload_n (i := 0) hX dX5_join_15 rfl rfl ?_
      refine kr_getr (c0 := 5) (k := 0) hX ⟨_, kf_5_9⟩ dX5_join_16 rfl (by assumption) (by assumption) ?_
      refine kr_iload_n (i := 3) hX dX5_join_19 rfl rfl ?_
      refine kr_ialdN hX dX5_join_20 (by assumption) (by omega) ?_
      refine kr_icmp_ge (tgt := 38) hX dX5_join_21 (by decide) (fun c_21 => ?_) (fun c_21 => ?_)
      · skip
        refine kr_aload_n (i := 1) hX dX5_join_38 rfl rfl ?_
        refine kr_getr (c0 := 5) (k := 1) hX ⟨_, kf_5_15⟩ dX5_join_39 rfl (by assumption) (by assumption) ?_
        refine kr_iload_n (i := 3) hX dX5_join_42 rfl rfl ?_
        refine kr_ialdN hX dX5_join_43 (by assumption) (by omega) ?_
        refine kr_aload_n (i := 0) hX dX5_join_44 rfl rfl ?_
        refine kr_getr (c0 := 5) (k := 1) hX ⟨_, kf_5_15⟩ dX5_join_45 rfl (by assumption) (by assumption) ?_
        refine kr_iload_n (i := 3) hX dX5_join_48 rfl rfl ?_
        refine kr_ialdN hX dX5_join_49 (by assumption) (by omega) ?_
        refine kr_icmp_le (tgt := 67) hX dX5_join_50 (by decide) (fun c_50 => ?_) (fun c_50 => ?_)
        · skip
          refine kr_aload_n (i := 1) hX dX5_join_67 rfl rfl ?_
          refine kr_getr (c0 := 5) (k := 2) hX ⟨_, kf_5_18⟩ dX5_join_68 rfl (by assumption) (by assumption) ?_
          refine kr_iload_n (i := 3) hX dX5_join_71 rfl rfl ?_
          refine kr_baldN hX dX5_join_72 (by assumption) (by omega) ?_
          refine kr_if_eq (tgt := 94) hX dX5_join_73 (by decide) (fun c_73 => ?_) (fun c_73 => ?_)
          · skip
            refine kr_iinc (v := nI (i + 1)) hX dX5_join_94 rfl (by first | exact nI_1 _ | rfl) (by decide) rfl rfl ?_
            refine kr_goto (tgt := 4) hX dX5_join_97 (by decide) ?_
            exact ih (i + 1) _ _ (by omega) (by first | exact Or.inr rfl | assumption) (by simp_all [m_joinL, m_join1, -Int32.not_le, -Int32.not_lt])
          · skip
            refine kr_aload_n (i := 0) hX dX5_join_76 rfl rfl ?_
            refine kr_getr (c0 := 5) (k := 2) hX ⟨_, kf_5_18⟩ dX5_join_77 rfl (by assumption) (by assumption) ?_
            refine kr_iload_n (i := 3) hX dX5_join_80 rfl rfl ?_
            refine kr_baldN hX dX5_join_81 (by assumption) (by omega) ?_
            refine kr_if_ne (tgt := 94) hX dX5_join_82 (by decide) (fun c_82 => ?_) (fun c_82 => ?_)
            · skip
              refine kr_iinc (v := nI (i + 1)) hX dX5_join_94 rfl (by first | exact nI_1 _ | rfl) (by decide) rfl rfl ?_
              refine kr_goto (tgt := 4) hX dX5_join_97 (by decide) ?_
              exact ih (i + 1) _ _ (by omega) (by first | exact Or.inr rfl | assumption) (by simp_all [m_joinL, m_join1, -Int32.not_le, -Int32.not_lt])
            · skip
              refine kr_aload_n (i := 0) hX dX5_join_85 rfl rfl ?_
              refine kr_getr (c0 := 5) (k := 2) hX ⟨_, kf_5_18⟩ dX5_join_86 rfl (by assumption) (by assumption) ?_
              refine kr_iload_n (i := 3) hX dX5_join_89 rfl rfl ?_
              refine kr_iconst (v := 1) hX dX5_join_90 (by decide) ?_
              refine kr_bastN hX dX5_join_91 (by first | exact Or.inl rfl | exact Or.inr rfl | assumption) (by assumption) (by omega) ?_
              refine kr_iconst (v := 1) hX dX5_join_92 (by decide) ?_
              refine kr_istore_n (i := 2) hX dX5_join_93 rfl (by decide) rfl rfl ?_
              refine kr_iinc (v := nI (i + 1)) hX dX5_join_94 rfl (by first | exact nI_1 _ | rfl) (by decide) rfl rfl ?_
              refine kr_goto (tgt := 4) hX dX5_join_97 (by decide) ?_
              exact ih (i + 1) _ _ (by omega) (by first | exact Or.inr rfl | assumption) (by simp_all [m_joinL, m_join1, -Int32.not_le, -Int32.not_lt])
        · skip
          refine kr_aload_n (i := 0) hX dX5_join_53 rfl rfl ?_
          refine kr_getr (c0 := 5) (k := 1) hX ⟨_, kf_5_15⟩ dX5_join_54 rfl (by assumption) (by assumption) ?_
          refine kr_iload_n (i := 3) hX dX5_join_57 rfl rfl ?_
          refine kr_aload_n (i := 1) hX dX5_join_58 rfl rfl ?_
          refine kr_getr (c0 := 5) (k := 1) hX ⟨_, kf_5_15⟩ dX5_join_59 rfl (by assumption) (by assumption) ?_
          refine kr_iload_n (i := 3) hX dX5_join_62 rfl rfl ?_
          refine kr_ialdN hX dX5_join_63 (by assumption) (by omega) ?_
          refine kr_iastN hX dX5_join_64 (by assumption) (by omega) ?_
          refine kr_iconst (v := 1) hX dX5_join_65 (by decide) ?_
          refine kr_istore_n (i := 2) hX dX5_join_66 rfl (by decide) rfl rfl ?_
          refine kr_aload_n (i := 1) hX dX5_join_67 rfl rfl ?_
          refine kr_getr (c0 := 5) (k := 2) hX ⟨_, kf_5_18⟩ dX5_join_68 rfl (by assumption) (by assumption) ?_
          refine kr_iload_n (i := 3) hX dX5_join_71 rfl rfl ?_
          refine kr_baldN hX dX5_join_72 (by assumption) (by omega) ?_
          refine kr_if_eq (tgt := 94) hX dX5_join_73 (by decide) (fun c_73 => ?_) (fun c_73 => ?_)
          · skip
            refine kr_iinc (v := nI (i + 1)) hX dX5_join_94 rfl (by first | exact nI_1 _ | rfl) (by decide) rfl rfl ?_
            refine kr_goto (tgt := 4) hX dX5_join_97 (by decide) ?_
            exact ih (i + 1) _ _ (by omega) (by first | exact Or.inr rfl | assumption) (by simp_all [m_joinL, m_join1, -Int32.not_le, -Int32.not_lt])
          · skip
            refine kr_aload_n (i := 0) hX dX5_join_76 rfl rfl ?_
            refine kr_getr (c0 := 5) (k := 2) hX ⟨_, kf_5_18⟩ dX5_join_77 rfl (by assumption) (by assumption) ?_
            refine kr_iload_n (i := 3) hX dX5_join_80 rfl rfl ?_
            refine kr_baldN hX dX5_join_81 (by assumption) (by omega) ?_
            refine kr_if_ne (tgt := 94) hX dX5_join_82 (by decide) (fun c_82 => ?_) (fun c_82 => ?_)
            · skip
              refine kr_iinc (v := nI (i + 1)) hX dX5_join_94 rfl (by first | exact nI_1 _ | rfl) (by decide) rfl rfl ?_
              refine kr_goto (tgt := 4) hX dX5_join_97 (by decide) ?_
              exact ih (i + 1) _ _ (by omega) (by first | exact Or.inr rfl | assumption) (by simp_all [m_joinL, m_join1, -Int32.not_le, -Int32.not_lt])
            · skip
              refine kr_aload_n (i := 0) hX dX5_join_85 rfl rfl ?_
              refine kr_getr (c0 := 5) (k := 2) hX ⟨_, kf_5_18⟩ dX5_join_86 rfl (by assumption) (by assumption) ?_
              refine kr_iload_n (i := 3) hX dX5_join_89 rfl rfl ?_
              refine kr_iconst (v := 1) hX dX5_join_90 (by decide) ?_
              refine kr_bastN hX dX5_join_91 (by first | exact Or.inl rfl | exact Or.inr rfl | assumption) (by assumption) (by omega) ?_
              refine kr_iconst (v := 1) hX dX5_join_92 (by decide) ?_
              refine kr_istore_n (i := 2) hX dX5_join_93 rfl (by decide) rfl rfl ?_
              refine kr_iinc (v := nI (i + 1)) hX dX5_join_94 rfl (by first | exact nI_1 _ | rfl) (by decide) rfl rfl ?_
              refine kr_goto (tgt := 4) hX dX5_join_97 (by decide) ?_
              exact ih (i + 1) _ _ (by omega) (by first | exact Or.inr rfl | assumption) (by simp_all [m_joinL, m_join1, -Int32.not_le, -Int32.not_lt])
      · skip
        refine kr_aload_n (i := 0) hX dX5_join_24 rfl rfl ?_
        refine kr_getr (c0 := 5) (k := 0) hX ⟨_, kf_5_9⟩ dX5_join_25 rfl (by assumption) (by assumption) ?_
        refine kr_iload_n (i := 3) hX dX5_join_28 rfl rfl ?_
        refine kr_aload_n (i := 1) hX dX5_join_29 rfl rfl ?_
        refine kr_getr (c0 := 5) (k := 0) hX ⟨_, kf_5_9⟩ dX5_join_30 rfl (by assumption) (by assumption) ?_
        refine kr_iload_n (i := 3) hX dX5_join_33 rfl rfl ?_
        refine kr_ialdN hX dX5_join_34 (by assumption) (by omega) ?_
        refine kr_iastN hX dX5_join_35 (by assumption) (by omega) ?_
        refine kr_iconst (v := 1) hX dX5_join_36 (by decide) ?_
        refine kr_istore_n (i := 2) hX dX5_join_37 rfl (by decide) rfl rfl ?_
        refine kr_aload_n (i := 1) hX dX5_join_38 rfl rfl ?_
        refine kr_getr (c0 := 5) (k := 1) hX ⟨_, kf_5_15⟩ dX5_join_39 rfl (by assumption) (by assumption) ?_
        refine kr_iload_n (i := 3) hX dX5_join_42 rfl rfl ?_
        refine kr_ialdN hX dX5_join_43 (by assumption) (by omega) ?_
        refine kr_aload_n (i := 0) hX dX5_join_44 rfl rfl ?_
        refine kr_getr (c0 := 5) (k := 1) hX ⟨_, kf_5_15⟩ dX5_join_45 rfl (by assumption) (by assumption) ?_
        refine kr_iload_n (i := 3) hX dX5_join_48 rfl rfl ?_
        refine kr_ialdN hX dX5_join_49 (by assumption) (by omega) ?_
        refine kr_icmp_le (tgt := 67) hX dX5_join_50 (by decide) (fun c_50 => ?_) (fun c_50 => ?_)
        · skip
          refine kr_aload_n (i := 1) hX dX5_join_67 rfl rfl ?_
          refine kr_getr (c0 := 5) (k := 2) hX ⟨_, kf_5_18⟩ dX5_join_68 rfl (by assumption) (by assumption) ?_
          refine kr_iload_n (i := 3) hX dX5_join_71 rfl rfl ?_
          refine kr_baldN hX dX5_join_72 (by assumption) (by omega) ?_
          refine kr_if_eq (tgt := 94) hX dX5_join_73 (by decide) (fun c_73 => ?_) (fun c_73 => ?_)
          · skip
            refine kr_iinc (v := nI (i + 1)) hX dX5_join_94 rfl (by first | exact nI_1 _ | rfl) (by decide) rfl rfl ?_
            refine kr_goto (tgt := 4) hX dX5_join_97 (by decide) ?_
            exact ih (i + 1) _ _ (by omega) (by first | exact Or.inr rfl | assumption) (by simp_all [m_joinL, m_join1, -Int32.not_le, -Int32.not_lt])
          · skip
            refine kr_aload_n (i := 0) hX dX5_join_76 rfl rfl ?_
            refine kr_getr (c0 := 5) (k := 2) hX ⟨_, kf_5_18⟩ dX5_join_77 rfl (by assumption) (by assumption) ?_
            refine kr_iload_n (i := 3) hX dX5_join_80 rfl rfl ?_
            refine kr_baldN hX dX5_join_81 (by assumption) (by omega) ?_
            refine kr_if_ne (tgt := 94) hX dX5_join_82 (by decide) (fun c_82 => ?_) (fun c_82 => ?_)
            · skip
              refine kr_iinc (v := nI (i + 1)) hX dX5_join_94 rfl (by first | exact nI_1 _ | rfl) (by decide) rfl rfl ?_
              refine kr_goto (tgt := 4) hX dX5_join_97 (by decide) ?_
              exact ih (i + 1) _ _ (by omega) (by first | exact Or.inr rfl | assumption) (by simp_all [m_joinL, m_join1, -Int32.not_le, -Int32.not_lt])
            · skip
              refine kr_aload_n (i := 0) hX dX5_join_85 rfl rfl ?_
              refine kr_getr (c0 := 5) (k := 2) hX ⟨_, kf_5_18⟩ dX5_join_86 rfl (by assumption) (by assumption) ?_
              refine kr_iload_n (i := 3) hX dX5_join_89 rfl rfl ?_
              refine kr_iconst (v := 1) hX dX5_join_90 (by decide) ?_
              refine kr_bastN hX dX5_join_91 (by first | exact Or.inl rfl | exact Or.inr rfl | assumption) (by assumption) (by omega) ?_
              refine kr_iconst (v := 1) hX dX5_join_92 (by decide) ?_
              refine kr_istore_n (i := 2) hX dX5_join_93 rfl (by decide) rfl rfl ?_
              refine kr_iinc (v := nI (i + 1)) hX dX5_join_94 rfl (by first | exact nI_1 _ | rfl) (by decide) rfl rfl ?_
              refine kr_goto (tgt := 4) hX dX5_join_97 (by decide) ?_
              exact ih (i + 1) _ _ (by omega) (by first | exact Or.inr rfl | assumption) (by simp_all [m_joinL, m_join1, -Int32.not_le, -Int32.not_lt])
        · skip
          refine kr_aload_n (i := 0) hX dX5_join_53 rfl rfl ?_
          refine kr_getr (c0 := 5) (k := 1) hX ⟨_, kf_5_15⟩ dX5_join_54 rfl (by assumption) (by assumption) ?_
          refine kr_iload_n (i := 3) hX dX5_join_57 rfl rfl ?_
          refine kr_aload_n (i := 1) hX dX5_join_58 rfl rfl ?_
          refine kr_getr (c0 := 5) (k := 1) hX ⟨_, kf_5_15⟩ dX5_join_59 rfl (by assumption) (by assumption) ?_
          refine kr_iload_n (i := 3) hX dX5_join_62 rfl rfl ?_
          refine kr_ialdN hX dX5_join_63 (by assumption) (by omega) ?_
          refine kr_iastN hX dX5_join_64 (by assumption) (by omega) ?_
          refine kr_iconst (v := 1) hX dX5_join_65 (by decide) ?_
          refine kr_istore_n (i := 2) hX dX5_join_66 rfl (by decide) rfl rfl ?_
          refine kr_aload_n (i := 1) hX dX5_join_67 rfl rfl ?_
          refine kr_getr (c0 := 5) (k := 2) hX ⟨_, kf_5_18⟩ dX5_join_68 rfl (by assumption) (by assumption) ?_
          refine kr_iload_n (i := 3) hX dX5_join_71 rfl rfl ?_
          refine kr_baldN hX dX5_join_72 (by assumption) (by omega) ?_
          refine kr_if_eq (tgt := 94) hX dX5_join_73 (by decide) (fun c_73 => ?_) (fun c_73 => ?_)
          · skip
            refine kr_iinc (v := nI (i + 1)) hX dX5_join_94 rfl (by first | exact nI_1 _ | rfl) (by decide) rfl rfl ?_
            refine kr_goto (tgt := 4) hX dX5_join_97 (by decide) ?_
            exact ih (i + 1) _ _ (by omega) (by first | exact Or.inr rfl | assumption) (by simp_all [m_joinL, m_join1, -Int32.not_le, -Int32.not_lt])
          · skip
            refine kr_aload_n (i := 0) hX dX5_join_76 rfl rfl ?_
            refine kr_getr (c0 := 5) (k := 2) hX ⟨_, kf_5_18⟩ dX5_join_77 rfl (by assumption) (by assumption) ?_
            refine kr_iload_n (i := 3) hX dX5_join_80 rfl rfl ?_
            refine kr_baldN hX dX5_join_81 (by assumption) (by omega) ?_
            refine kr_if_ne (tgt := 94) hX dX5_join_82 (by decide) (fun c_82 => ?_) (fun c_82 => ?_)
            · skip
              refine kr_iinc (v := nI (i + 1)) hX dX5_join_94 rfl (by first | exact nI_1 _ | rfl) (by decide) rfl rfl ?_
              refine kr_goto (tgt := 4) hX dX5_join_97 (by decide) ?_
              exact ih (i + 1) _ _ (by omega) (by first | exact Or.inr rfl | assumption) (by simp_all [m_joinL, m_join1, -Int32.not_le, -Int32.not_lt])
            · skip
              refine kr_aload_n (i := 0) hX dX5_join_85 rfl rfl ?_
              refine kr_getr (c0 := 5) (k := 2) hX ⟨_, kf_5_18⟩ dX5_join_86 rfl (by assumption) (by assumption) ?_
              refine kr_iload_n (i := 3) hX dX5_join_89 rfl rfl ?_
              refine kr_iconst (v := 1) hX dX5_join_90 (by decide) ?_
              refine kr_bastN hX dX5_join_91 (by first | exact Or.inl rfl | exact Or.inr rfl | assumption) (by assumption) (by omega) ?_
              refine kr_iconst (v := 1) hX dX5_join_92 (by decide) ?_
              refine kr_istore_n (i := 2) hX dX5_join_93 rfl (by decide) rfl rfl ?_
              refine kr_iinc (v := nI (i + 1)) hX dX5_join_94 rfl (by first | exact nI_1 _ | rfl) (by decide) rfl rfl ?_
              refine kr_goto (tgt := 4) hX dX5_join_97 (by decide) ?_
              exact ih (i + 1) _ _ (by omega) (by first | exact Or.inr rfl | assumption) (by simp_all [m_joinL, m_join1, -Int32.not_le, -Int32.not_lt])

set_option maxHeartbeats 4000000 in
set_option maxRecDepth 100000 in
theorem sp_join {G : kt_G} {σ : kt_Y} {μ : kt_M} {p : Nat} (hp : kt_rg σ p) {q : Nat} (hq : kt_rg σ q) (hne : p + 4 ≤ q ∨ q + 4 ≤ p) : kt_F G yX5_join cX5_join 4 (some .boolean) 0 [.ref p, .ref q] σ μ (fun r μ2 => r = some (.int (m_join μ p q).2) ∧ μ2 = (m_join μ p q).1) := by
  refine kt_F.of (by decide) (Nat.le_of_ble_eq_true rfl) (fun X hX hr => ?_)
  have hp0 := hp
  obtain ⟨hk0, hr1, hr2, hr3, hk1, hk2, hk3⟩ := hp
  refine kr_iconst (v := 0) hX dX5_join_0 (by decide) ?_
  refine kr_istore_n (i := 2) hX dX5_join_1 rfl (by decide) rfl rfl ?_
  refine kr_iconst (v := 0) hX dX5_join_2 (by decide) ?_
  refine kr_istore_n (i := 3) hX dX5_join_3 rfl (by decide) rfl rfl ?_
  exact lp_join hX hr hp0 hq hne 4 0 μ 0 rfl (Or.inl rfl) ⟨rfl, rfl⟩

set_option maxHeartbeats 4000000 in
set_option maxRecDepth 100000 in
theorem sp_leaves {G : kt_G} {σ : kt_Y} {μ : kt_M} {p : Nat} (hp : kt_rg σ p) : kt_F G yX5_leavesEachSomething cX5_leavesEachSomething 2 (some .boolean) 0 [.ref p] σ μ (fun r μ2 => r = some (.int (kt_f (m_all μ p))) ∧ μ2 = μ) := by
  refine kt_F.of (by decide) (Nat.le_of_ble_eq_true rfl) (fun X hX hr => ?_)
  have hp0 := hp
  obtain ⟨hk0, hr1, hr2, hr3, hk1, hk2, hk3⟩ := hp
  refine kr_iconst (v := 0) hX dX5_leavesEachSomething_0 (by decide) ?_
  refine kr_istore_n (i := 1) hX dX5_leavesEachSomething_1 rfl (by decide) rfl rfl ?_
  refine kr_iload_n (i := 1) hX dX5_leavesEachSomething_2 rfl rfl ?_
  refine kr_iconst (v := 4) hX dX5_leavesEachSomething_3 (by decide) ?_
  refine kr_icmp_ge (tgt := 39) hX dX5_leavesEachSomething_4 (by decide) (fun c_4 => ?_) (fun c_4 => ?_)
  · skip
    exact absurd c_4 (by decide)
  · skip
    refine kr_aload_n (i := 0) hX dX5_leavesEachSomething_7 rfl rfl ?_
    refine kr_getr (c0 := 5) (k := 2) hX ⟨_, kf_5_18⟩ dX5_leavesEachSomething_8 rfl (by assumption) (by assumption) ?_
    refine kr_iload_n (i := 1) hX dX5_leavesEachSomething_11 rfl rfl ?_
    refine kr_bald hX dX5_leavesEachSomething_12 (by assumption) (by unfold vp_in; decide) ?_
    refine kr_if_ne (tgt := 33) hX dX5_leavesEachSomething_13 (by decide) (fun c_13 => ?_) (fun c_13 => ?_)
    · skip
      refine kr_iinc (v := 1) hX dX5_leavesEachSomething_33 rfl (by decide) (by decide) rfl rfl ?_
      refine kr_goto (tgt := 2) hX dX5_leavesEachSomething_36 (by decide) ?_
      refine kr_iload_n (i := 1) hX dX5_leavesEachSomething_2 rfl rfl ?_
      refine kr_iconst (v := 4) hX dX5_leavesEachSomething_3 (by decide) ?_
      refine kr_icmp_ge (tgt := 39) hX dX5_leavesEachSomething_4 (by decide) (fun c_4 => ?_) (fun c_4 => ?_)
      · skip
        exact absurd c_4 (by decide)
      · skip
        refine kr_aload_n (i := 0) hX dX5_leavesEachSomething_7 rfl rfl ?_
        refine kr_getr (c0 := 5) (k := 2) hX ⟨_, kf_5_18⟩ dX5_leavesEachSomething_8 rfl (by assumption) (by assumption) ?_
        refine kr_iload_n (i := 1) hX dX5_leavesEachSomething_11 rfl rfl ?_
        refine kr_bald hX dX5_leavesEachSomething_12 (by assumption) (by unfold vp_in; decide) ?_
        refine kr_if_ne (tgt := 33) hX dX5_leavesEachSomething_13 (by decide) (fun c_13 => ?_) (fun c_13 => ?_)
        · skip
          refine kr_iinc (v := 2) hX dX5_leavesEachSomething_33 rfl (by decide) (by decide) rfl rfl ?_
          refine kr_goto (tgt := 2) hX dX5_leavesEachSomething_36 (by decide) ?_
          refine kr_iload_n (i := 1) hX dX5_leavesEachSomething_2 rfl rfl ?_
          refine kr_iconst (v := 4) hX dX5_leavesEachSomething_3 (by decide) ?_
          refine kr_icmp_ge (tgt := 39) hX dX5_leavesEachSomething_4 (by decide) (fun c_4 => ?_) (fun c_4 => ?_)
          · skip
            exact absurd c_4 (by decide)
          · skip
            refine kr_aload_n (i := 0) hX dX5_leavesEachSomething_7 rfl rfl ?_
            refine kr_getr (c0 := 5) (k := 2) hX ⟨_, kf_5_18⟩ dX5_leavesEachSomething_8 rfl (by assumption) (by assumption) ?_
            refine kr_iload_n (i := 1) hX dX5_leavesEachSomething_11 rfl rfl ?_
            refine kr_bald hX dX5_leavesEachSomething_12 (by assumption) (by unfold vp_in; decide) ?_
            refine kr_if_ne (tgt := 33) hX dX5_leavesEachSomething_13 (by decide) (fun c_13 => ?_) (fun c_13 => ?_)
            · skip
              refine kr_iinc (v := 3) hX dX5_leavesEachSomething_33 rfl (by decide) (by decide) rfl rfl ?_
              refine kr_goto (tgt := 2) hX dX5_leavesEachSomething_36 (by decide) ?_
              refine kr_iload_n (i := 1) hX dX5_leavesEachSomething_2 rfl rfl ?_
              refine kr_iconst (v := 4) hX dX5_leavesEachSomething_3 (by decide) ?_
              refine kr_icmp_ge (tgt := 39) hX dX5_leavesEachSomething_4 (by decide) (fun c_4 => ?_) (fun c_4 => ?_)
              · skip
                exact absurd c_4 (by decide)
              · skip
                refine kr_aload_n (i := 0) hX dX5_leavesEachSomething_7 rfl rfl ?_
                refine kr_getr (c0 := 5) (k := 2) hX ⟨_, kf_5_18⟩ dX5_leavesEachSomething_8 rfl (by assumption) (by assumption) ?_
                refine kr_iload_n (i := 1) hX dX5_leavesEachSomething_11 rfl rfl ?_
                refine kr_bald hX dX5_leavesEachSomething_12 (by assumption) (by unfold vp_in; decide) ?_
                refine kr_if_ne (tgt := 33) hX dX5_leavesEachSomething_13 (by decide) (fun c_13 => ?_) (fun c_13 => ?_)
                · skip
                  refine kr_iinc (v := 4) hX dX5_leavesEachSomething_33 rfl (by decide) (by decide) rfl rfl ?_
                  refine kr_goto (tgt := 2) hX dX5_leavesEachSomething_36 (by decide) ?_
                  refine kr_iload_n (i := 1) hX dX5_leavesEachSomething_2 rfl rfl ?_
                  refine kr_iconst (v := 4) hX dX5_leavesEachSomething_3 (by decide) ?_
                  refine kr_icmp_ge (tgt := 39) hX dX5_leavesEachSomething_4 (by decide) (fun c_4 => ?_) (fun c_4 => ?_)
                  · skip
                    refine kr_iconst (v := 1) hX dX5_leavesEachSomething_39 (by decide) ?_
                    refine kr_zret hX hr (by first | exact Or.inl rfl | exact Or.inr rfl | assumption) dX5_leavesEachSomething_40 ⟨rfl, ?_⟩
                    first
                    | exact ⟨kt_ft (by simp_all [m_all, m_some, -Int32.not_le, -Int32.not_lt]), rfl⟩
                    | exact ⟨kt_ff (by simp_all [m_all, m_some, -Int32.not_le, -Int32.not_lt]), rfl⟩
                  · skip
                    exact absurd c_4 (by decide)
                · skip
                  refine kr_aload_n (i := 0) hX dX5_leavesEachSomething_16 rfl rfl ?_
                  refine kr_getr (c0 := 5) (k := 0) hX ⟨_, kf_5_9⟩ dX5_leavesEachSomething_17 rfl (by assumption) (by assumption) ?_
                  refine kr_iload_n (i := 1) hX dX5_leavesEachSomething_20 rfl rfl ?_
                  refine kr_iald hX dX5_leavesEachSomething_21 (by assumption) (by unfold vp_in; decide) ?_
                  refine kr_aload_n (i := 0) hX dX5_leavesEachSomething_22 rfl rfl ?_
                  refine kr_getr (c0 := 5) (k := 1) hX ⟨_, kf_5_15⟩ dX5_leavesEachSomething_23 rfl (by assumption) (by assumption) ?_
                  refine kr_iload_n (i := 1) hX dX5_leavesEachSomething_26 rfl rfl ?_
                  refine kr_iald hX dX5_leavesEachSomething_27 (by assumption) (by unfold vp_in; decide) ?_
                  refine kr_icmp_le (tgt := 33) hX dX5_leavesEachSomething_28 (by decide) (fun c_28 => ?_) (fun c_28 => ?_)
                  · skip
                    refine kr_iinc (v := 4) hX dX5_leavesEachSomething_33 rfl (by decide) (by decide) rfl rfl ?_
                    refine kr_goto (tgt := 2) hX dX5_leavesEachSomething_36 (by decide) ?_
                    refine kr_iload_n (i := 1) hX dX5_leavesEachSomething_2 rfl rfl ?_
                    refine kr_iconst (v := 4) hX dX5_leavesEachSomething_3 (by decide) ?_
                    refine kr_icmp_ge (tgt := 39) hX dX5_leavesEachSomething_4 (by decide) (fun c_4 => ?_) (fun c_4 => ?_)
                    · skip
                      refine kr_iconst (v := 1) hX dX5_leavesEachSomething_39 (by decide) ?_
                      refine kr_zret hX hr (by first | exact Or.inl rfl | exact Or.inr rfl | assumption) dX5_leavesEachSomething_40 ⟨rfl, ?_⟩
                      first
                      | exact ⟨kt_ft (by simp_all [m_all, m_some, -Int32.not_le, -Int32.not_lt]), rfl⟩
                      | exact ⟨kt_ff (by simp_all [m_all, m_some, -Int32.not_le, -Int32.not_lt]), rfl⟩
                    · skip
                      exact absurd c_4 (by decide)
                  · skip
                    refine kr_iconst (v := 0) hX dX5_leavesEachSomething_31 (by decide) ?_
                    refine kr_zret hX hr (by first | exact Or.inl rfl | exact Or.inr rfl | assumption) dX5_leavesEachSomething_32 ⟨rfl, ?_⟩
                    first
                    | exact ⟨kt_ft (by simp_all [m_all, m_some, -Int32.not_le, -Int32.not_lt]), rfl⟩
                    | exact ⟨kt_ff (by simp_all [m_all, m_some, -Int32.not_le, -Int32.not_lt]), rfl⟩
            · skip
              refine kr_aload_n (i := 0) hX dX5_leavesEachSomething_16 rfl rfl ?_
              refine kr_getr (c0 := 5) (k := 0) hX ⟨_, kf_5_9⟩ dX5_leavesEachSomething_17 rfl (by assumption) (by assumption) ?_
              refine kr_iload_n (i := 1) hX dX5_leavesEachSomething_20 rfl rfl ?_
              refine kr_iald hX dX5_leavesEachSomething_21 (by assumption) (by unfold vp_in; decide) ?_
              refine kr_aload_n (i := 0) hX dX5_leavesEachSomething_22 rfl rfl ?_
              refine kr_getr (c0 := 5) (k := 1) hX ⟨_, kf_5_15⟩ dX5_leavesEachSomething_23 rfl (by assumption) (by assumption) ?_
              refine kr_iload_n (i := 1) hX dX5_leavesEachSomething_26 rfl rfl ?_
              refine kr_iald hX dX5_leavesEachSomething_27 (by assumption) (by unfold vp_in; decide) ?_
              refine kr_icmp_le (tgt := 33) hX dX5_leavesEachSomething_28 (by decide) (fun c_28 => ?_) (fun c_28 => ?_)
              · skip
                refine kr_iinc (v := 3) hX dX5_leavesEachSomething_33 rfl (by decide) (by decide) rfl rfl ?_
                refine kr_goto (tgt := 2) hX dX5_leavesEachSomething_36 (by decide) ?_
                refine kr_iload_n (i := 1) hX dX5_leavesEachSomething_2 rfl rfl ?_
                refine kr_iconst (v := 4) hX dX5_leavesEachSomething_3 (by decide) ?_
                refine kr_icmp_ge (tgt := 39) hX dX5_leavesEachSomething_4 (by decide) (fun c_4 => ?_) (fun c_4 => ?_)
                · skip
                  exact absurd c_4 (by decide)
                · skip
                  refine kr_aload_n (i := 0) hX dX5_leavesEachSomething_7 rfl rfl ?_
                  refine kr_getr (c0 := 5) (k := 2) hX ⟨_, kf_5_18⟩ dX5_leavesEachSomething_8 rfl (by assumption) (by assumption) ?_
                  refine kr_iload_n (i := 1) hX dX5_leavesEachSomething_11 rfl rfl ?_
                  refine kr_bald hX dX5_leavesEachSomething_12 (by assumption) (by unfold vp_in; decide) ?_
                  refine kr_if_ne (tgt := 33) hX dX5_leavesEachSomething_13 (by decide) (fun c_13 => ?_) (fun c_13 => ?_)
                  · skip
                    refine kr_iinc (v := 4) hX dX5_leavesEachSomething_33 rfl (by decide) (by decide) rfl rfl ?_
                    refine kr_goto (tgt := 2) hX dX5_leavesEachSomething_36 (by decide) ?_
                    refine kr_iload_n (i := 1) hX dX5_leavesEachSomething_2 rfl rfl ?_
                    refine kr_iconst (v := 4) hX dX5_leavesEachSomething_3 (by decide) ?_
                    refine kr_icmp_ge (tgt := 39) hX dX5_leavesEachSomething_4 (by decide) (fun c_4 => ?_) (fun c_4 => ?_)
                    · skip
                      refine kr_iconst (v := 1) hX dX5_leavesEachSomething_39 (by decide) ?_
                      refine kr_zret hX hr (by first | exact Or.inl rfl | exact Or.inr rfl | assumption) dX5_leavesEachSomething_40 ⟨rfl, ?_⟩
                      first
                      | exact ⟨kt_ft (by simp_all [m_all, m_some, -Int32.not_le, -Int32.not_lt]), rfl⟩
                      | exact ⟨kt_ff (by simp_all [m_all, m_some, -Int32.not_le, -Int32.not_lt]), rfl⟩
                    · skip
                      exact absurd c_4 (by decide)
                  · skip
                    refine kr_aload_n (i := 0) hX dX5_leavesEachSomething_16 rfl rfl ?_
                    refine kr_getr (c0 := 5) (k := 0) hX ⟨_, kf_5_9⟩ dX5_leavesEachSomething_17 rfl (by assumption) (by assumption) ?_
                    refine kr_iload_n (i := 1) hX dX5_leavesEachSomething_20 rfl rfl ?_
                    refine kr_iald hX dX5_leavesEachSomething_21 (by assumption) (by unfold vp_in; decide) ?_
                    refine kr_aload_n (i := 0) hX dX5_leavesEachSomething_22 rfl rfl ?_
                    refine kr_getr (c0 := 5) (k := 1) hX ⟨_, kf_5_15⟩ dX5_leavesEachSomething_23 rfl (by assumption) (by assumption) ?_
                    refine kr_iload_n (i := 1) hX dX5_leavesEachSomething_26 rfl rfl ?_
                    refine kr_iald hX dX5_leavesEachSomething_27 (by assumption) (by unfold vp_in; decide) ?_
                    refine kr_icmp_le (tgt := 33) hX dX5_leavesEachSomething_28 (by decide) (fun c_28 => ?_) (fun c_28 => ?_)
                    · skip
                      refine kr_iinc (v := 4) hX dX5_leavesEachSomething_33 rfl (by decide) (by decide) rfl rfl ?_
                      refine kr_goto (tgt := 2) hX dX5_leavesEachSomething_36 (by decide) ?_
                      refine kr_iload_n (i := 1) hX dX5_leavesEachSomething_2 rfl rfl ?_
                      refine kr_iconst (v := 4) hX dX5_leavesEachSomething_3 (by decide) ?_
                      refine kr_icmp_ge (tgt := 39) hX dX5_leavesEachSomething_4 (by decide) (fun c_4 => ?_) (fun c_4 => ?_)
                      · skip
                        refine kr_iconst (v := 1) hX dX5_leavesEachSomething_39 (by decide) ?_
                        refine kr_zret hX hr (by first | exact Or.inl rfl | exact Or.inr rfl | assumption) dX5_leavesEachSomething_40 ⟨rfl, ?_⟩
                        first
                        | exact ⟨kt_ft (by simp_all [m_all, m_some, -Int32.not_le, -Int32.not_lt]), rfl⟩
                        | exact ⟨kt_ff (by simp_all [m_all, m_some, -Int32.not_le, -Int32.not_lt]), rfl⟩
                      · skip
                        exact absurd c_4 (by decide)
                    · skip
                      refine kr_iconst (v := 0) hX dX5_leavesEachSomething_31 (by decide) ?_
                      refine kr_zret hX hr (by first | exact Or.inl rfl | exact Or.inr rfl | assumption) dX5_leavesEachSomething_32 ⟨rfl, ?_⟩
                      first
                      | exact ⟨kt_ft (by simp_all [m_all, m_some, -Int32.not_le, -Int32.not_lt]), rfl⟩
                      | exact ⟨kt_ff (by simp_all [m_all, m_some, -Int32.not_le, -Int32.not_lt]), rfl⟩
              · skip
                refine kr_iconst (v := 0) hX dX5_leavesEachSomething_31 (by decide) ?_
                refine kr_zret hX hr (by first | exact Or.inl rfl | exact Or.inr rfl | assumption) dX5_leavesEachSomething_32 ⟨rfl, ?_⟩
                first
                | exact ⟨kt_ft (by simp_all [m_all, m_some, -Int32.not_le, -Int32.not_lt]), rfl⟩
                | exact ⟨kt_ff (by simp_all [m_all, m_some, -Int32.not_le, -Int32.not_lt]), rfl⟩
        · skip
          refine kr_aload_n (i := 0) hX dX5_leavesEachSomething_16 rfl rfl ?_
          refine kr_getr (c0 := 5) (k := 0) hX ⟨_, kf_5_9⟩ dX5_leavesEachSomething_17 rfl (by assumption) (by assumption) ?_
          refine kr_iload_n (i := 1) hX dX5_leavesEachSomething_20 rfl rfl ?_
          refine kr_iald hX dX5_leavesEachSomething_21 (by assumption) (by unfold vp_in; decide) ?_
          refine kr_aload_n (i := 0) hX dX5_leavesEachSomething_22 rfl rfl ?_
          refine kr_getr (c0 := 5) (k := 1) hX ⟨_, kf_5_15⟩ dX5_leavesEachSomething_23 rfl (by assumption) (by assumption) ?_
          refine kr_iload_n (i := 1) hX dX5_leavesEachSomething_26 rfl rfl ?_
          refine kr_iald hX dX5_leavesEachSomething_27 (by assumption) (by unfold vp_in; decide) ?_
          refine kr_icmp_le (tgt := 33) hX dX5_leavesEachSomething_28 (by decide) (fun c_28 => ?_) (fun c_28 => ?_)
          · skip
            refine kr_iinc (v := 2) hX dX5_leavesEachSomething_33 rfl (by decide) (by decide) rfl rfl ?_
            refine kr_goto (tgt := 2) hX dX5_leavesEachSomething_36 (by decide) ?_
            refine kr_iload_n (i := 1) hX dX5_leavesEachSomething_2 rfl rfl ?_
            refine kr_iconst (v := 4) hX dX5_leavesEachSomething_3 (by decide) ?_
            refine kr_icmp_ge (tgt := 39) hX dX5_leavesEachSomething_4 (by decide) (fun c_4 => ?_) (fun c_4 => ?_)
            · skip
              exact absurd c_4 (by decide)
            · skip
              refine kr_aload_n (i := 0) hX dX5_leavesEachSomething_7 rfl rfl ?_
              refine kr_getr (c0 := 5) (k := 2) hX ⟨_, kf_5_18⟩ dX5_leavesEachSomething_8 rfl (by assumption) (by assumption) ?_
              refine kr_iload_n (i := 1) hX dX5_leavesEachSomething_11 rfl rfl ?_
              refine kr_bald hX dX5_leavesEachSomething_12 (by assumption) (by unfold vp_in; decide) ?_
              refine kr_if_ne (tgt := 33) hX dX5_leavesEachSomething_13 (by decide) (fun c_13 => ?_) (fun c_13 => ?_)
              · skip
                refine kr_iinc (v := 3) hX dX5_leavesEachSomething_33 rfl (by decide) (by decide) rfl rfl ?_
                refine kr_goto (tgt := 2) hX dX5_leavesEachSomething_36 (by decide) ?_
                refine kr_iload_n (i := 1) hX dX5_leavesEachSomething_2 rfl rfl ?_
                refine kr_iconst (v := 4) hX dX5_leavesEachSomething_3 (by decide) ?_
                refine kr_icmp_ge (tgt := 39) hX dX5_leavesEachSomething_4 (by decide) (fun c_4 => ?_) (fun c_4 => ?_)
                · skip
                  exact absurd c_4 (by decide)
                · skip
                  refine kr_aload_n (i := 0) hX dX5_leavesEachSomething_7 rfl rfl ?_
                  refine kr_getr (c0 := 5) (k := 2) hX ⟨_, kf_5_18⟩ dX5_leavesEachSomething_8 rfl (by assumption) (by assumption) ?_
                  refine kr_iload_n (i := 1) hX dX5_leavesEachSomething_11 rfl rfl ?_
                  refine kr_bald hX dX5_leavesEachSomething_12 (by assumption) (by unfold vp_in; decide) ?_
                  refine kr_if_ne (tgt := 33) hX dX5_leavesEachSomething_13 (by decide) (fun c_13 => ?_) (fun c_13 => ?_)
                  · skip
                    refine kr_iinc (v := 4) hX dX5_leavesEachSomething_33 rfl (by decide) (by decide) rfl rfl ?_
                    refine kr_goto (tgt := 2) hX dX5_leavesEachSomething_36 (by decide) ?_
                    refine kr_iload_n (i := 1) hX dX5_leavesEachSomething_2 rfl rfl ?_
                    refine kr_iconst (v := 4) hX dX5_leavesEachSomething_3 (by decide) ?_
                    refine kr_icmp_ge (tgt := 39) hX dX5_leavesEachSomething_4 (by decide) (fun c_4 => ?_) (fun c_4 => ?_)
                    · skip
                      refine kr_iconst (v := 1) hX dX5_leavesEachSomething_39 (by decide) ?_
                      refine kr_zret hX hr (by first | exact Or.inl rfl | exact Or.inr rfl | assumption) dX5_leavesEachSomething_40 ⟨rfl, ?_⟩
                      first
                      | exact ⟨kt_ft (by simp_all [m_all, m_some, -Int32.not_le, -Int32.not_lt]), rfl⟩
                      | exact ⟨kt_ff (by simp_all [m_all, m_some, -Int32.not_le, -Int32.not_lt]), rfl⟩
                    · skip
                      exact absurd c_4 (by decide)
                  · skip
                    refine kr_aload_n (i := 0) hX dX5_leavesEachSomething_16 rfl rfl ?_
                    refine kr_getr (c0 := 5) (k := 0) hX ⟨_, kf_5_9⟩ dX5_leavesEachSomething_17 rfl (by assumption) (by assumption) ?_
                    refine kr_iload_n (i := 1) hX dX5_leavesEachSomething_20 rfl rfl ?_
                    refine kr_iald hX dX5_leavesEachSomething_21 (by assumption) (by unfold vp_in; decide) ?_
                    refine kr_aload_n (i := 0) hX dX5_leavesEachSomething_22 rfl rfl ?_
                    refine kr_getr (c0 := 5) (k := 1) hX ⟨_, kf_5_15⟩ dX5_leavesEachSomething_23 rfl (by assumption) (by assumption) ?_
                    refine kr_iload_n (i := 1) hX dX5_leavesEachSomething_26 rfl rfl ?_
                    refine kr_iald hX dX5_leavesEachSomething_27 (by assumption) (by unfold vp_in; decide) ?_
                    refine kr_icmp_le (tgt := 33) hX dX5_leavesEachSomething_28 (by decide) (fun c_28 => ?_) (fun c_28 => ?_)
                    · skip
                      refine kr_iinc (v := 4) hX dX5_leavesEachSomething_33 rfl (by decide) (by decide) rfl rfl ?_
                      refine kr_goto (tgt := 2) hX dX5_leavesEachSomething_36 (by decide) ?_
                      refine kr_iload_n (i := 1) hX dX5_leavesEachSomething_2 rfl rfl ?_
                      refine kr_iconst (v := 4) hX dX5_leavesEachSomething_3 (by decide) ?_
                      refine kr_icmp_ge (tgt := 39) hX dX5_leavesEachSomething_4 (by decide) (fun c_4 => ?_) (fun c_4 => ?_)
                      · skip
                        refine kr_iconst (v := 1) hX dX5_leavesEachSomething_39 (by decide) ?_
                        refine kr_zret hX hr (by first | exact Or.inl rfl | exact Or.inr rfl | assumption) dX5_leavesEachSomething_40 ⟨rfl, ?_⟩
                        first
                        | exact ⟨kt_ft (by simp_all [m_all, m_some, -Int32.not_le, -Int32.not_lt]), rfl⟩
                        | exact ⟨kt_ff (by simp_all [m_all, m_some, -Int32.not_le, -Int32.not_lt]), rfl⟩
                      · skip
                        exact absurd c_4 (by decide)
                    · skip
                      refine kr_iconst (v := 0) hX dX5_leavesEachSomething_31 (by decide) ?_
                      refine kr_zret hX hr (by first | exact Or.inl rfl | exact Or.inr rfl | assumption) dX5_leavesEachSomething_32 ⟨rfl, ?_⟩
                      first
                      | exact ⟨kt_ft (by simp_all [m_all, m_some, -Int32.not_le, -Int32.not_lt]), rfl⟩
                      | exact ⟨kt_ff (by simp_all [m_all, m_some, -Int32.not_le, -Int32.not_lt]), rfl⟩
              · skip
                refine kr_aload_n (i := 0) hX dX5_leavesEachSomething_16 rfl rfl ?_
                refine kr_getr (c0 := 5) (k := 0) hX ⟨_, kf_5_9⟩ dX5_leavesEachSomething_17 rfl (by assumption) (by assumption) ?_
                refine kr_iload_n (i := 1) hX dX5_leavesEachSomething_20 rfl rfl ?_
                refine kr_iald hX dX5_leavesEachSomething_21 (by assumption) (by unfold vp_in; decide) ?_
                refine kr_aload_n (i := 0) hX dX5_leavesEachSomething_22 rfl rfl ?_
                refine kr_getr (c0 := 5) (k := 1) hX ⟨_, kf_5_15⟩ dX5_leavesEachSomething_23 rfl (by assumption) (by assumption) ?_
                refine kr_iload_n (i := 1) hX dX5_leavesEachSomething_26 rfl rfl ?_
                refine kr_iald hX dX5_leavesEachSomething_27 (by assumption) (by unfold vp_in; decide) ?_
                refine kr_icmp_le (tgt := 33) hX dX5_leavesEachSomething_28 (by decide) (fun c_28 => ?_) (fun c_28 => ?_)
                · skip
                  refine kr_iinc (v := 3) hX dX5_leavesEachSomething_33 rfl (by decide) (by decide) rfl rfl ?_
                  refine kr_goto (tgt := 2) hX dX5_leavesEachSomething_36 (by decide) ?_
                  refine kr_iload_n (i := 1) hX dX5_leavesEachSomething_2 rfl rfl ?_
                  refine kr_iconst (v := 4) hX dX5_leavesEachSomething_3 (by decide) ?_
                  refine kr_icmp_ge (tgt := 39) hX dX5_leavesEachSomething_4 (by decide) (fun c_4 => ?_) (fun c_4 => ?_)
                  · skip
                    exact absurd c_4 (by decide)
                  · skip
                    refine kr_aload_n (i := 0) hX dX5_leavesEachSomething_7 rfl rfl ?_
                    refine kr_getr (c0 := 5) (k := 2) hX ⟨_, kf_5_18⟩ dX5_leavesEachSomething_8 rfl (by assumption) (by assumption) ?_
                    refine kr_iload_n (i := 1) hX dX5_leavesEachSomething_11 rfl rfl ?_
                    refine kr_bald hX dX5_leavesEachSomething_12 (by assumption) (by unfold vp_in; decide) ?_
                    refine kr_if_ne (tgt := 33) hX dX5_leavesEachSomething_13 (by decide) (fun c_13 => ?_) (fun c_13 => ?_)
                    · skip
                      refine kr_iinc (v := 4) hX dX5_leavesEachSomething_33 rfl (by decide) (by decide) rfl rfl ?_
                      refine kr_goto (tgt := 2) hX dX5_leavesEachSomething_36 (by decide) ?_
                      refine kr_iload_n (i := 1) hX dX5_leavesEachSomething_2 rfl rfl ?_
                      refine kr_iconst (v := 4) hX dX5_leavesEachSomething_3 (by decide) ?_
                      refine kr_icmp_ge (tgt := 39) hX dX5_leavesEachSomething_4 (by decide) (fun c_4 => ?_) (fun c_4 => ?_)
                      · skip
                        refine kr_iconst (v := 1) hX dX5_leavesEachSomething_39 (by decide) ?_
                        refine kr_zret hX hr (by first | exact Or.inl rfl | exact Or.inr rfl | assumption) dX5_leavesEachSomething_40 ⟨rfl, ?_⟩
                        first
                        | exact ⟨kt_ft (by simp_all [m_all, m_some, -Int32.not_le, -Int32.not_lt]), rfl⟩
                        | exact ⟨kt_ff (by simp_all [m_all, m_some, -Int32.not_le, -Int32.not_lt]), rfl⟩
                      · skip
                        exact absurd c_4 (by decide)
                    · skip
                      refine kr_aload_n (i := 0) hX dX5_leavesEachSomething_16 rfl rfl ?_
                      refine kr_getr (c0 := 5) (k := 0) hX ⟨_, kf_5_9⟩ dX5_leavesEachSomething_17 rfl (by assumption) (by assumption) ?_
                      refine kr_iload_n (i := 1) hX dX5_leavesEachSomething_20 rfl rfl ?_
                      refine kr_iald hX dX5_leavesEachSomething_21 (by assumption) (by unfold vp_in; decide) ?_
                      refine kr_aload_n (i := 0) hX dX5_leavesEachSomething_22 rfl rfl ?_
                      refine kr_getr (c0 := 5) (k := 1) hX ⟨_, kf_5_15⟩ dX5_leavesEachSomething_23 rfl (by assumption) (by assumption) ?_
                      refine kr_iload_n (i := 1) hX dX5_leavesEachSomething_26 rfl rfl ?_
                      refine kr_iald hX dX5_leavesEachSomething_27 (by assumption) (by unfold vp_in; decide) ?_
                      refine kr_icmp_le (tgt := 33) hX dX5_leavesEachSomething_28 (by decide) (fun c_28 => ?_) (fun c_28 => ?_)
                      · skip
                        refine kr_iinc (v := 4) hX dX5_leavesEachSomething_33 rfl (by decide) (by decide) rfl rfl ?_
                        refine kr_goto (tgt := 2) hX dX5_leavesEachSomething_36 (by decide) ?_
                        refine kr_iload_n (i := 1) hX dX5_leavesEachSomething_2 rfl rfl ?_
                        refine kr_iconst (v := 4) hX dX5_leavesEachSomething_3 (by decide) ?_
                        refine kr_icmp_ge (tgt := 39) hX dX5_leavesEachSomething_4 (by decide) (fun c_4 => ?_) (fun c_4 => ?_)
                        · skip
                          refine kr_iconst (v := 1) hX dX5_leavesEachSomething_39 (by decide) ?_
                          refine kr_zret hX hr (by first | exact Or.inl rfl | exact Or.inr rfl | assumption) dX5_leavesEachSomething_40 ⟨rfl, ?_⟩
                          first
                          | exact ⟨kt_ft (by simp_all [m_all, m_some, -Int32.not_le, -Int32.not_lt]), rfl⟩
                          | exact ⟨kt_ff (by simp_all [m_all, m_some, -Int32.not_le, -Int32.not_lt]), rfl⟩
                        · skip
                          exact absurd c_4 (by decide)
                      · skip
                        refine kr_iconst (v := 0) hX dX5_leavesEachSomething_31 (by decide) ?_
                        refine kr_zret hX hr (by first | exact Or.inl rfl | exact Or.inr rfl | assumption) dX5_leavesEachSomething_32 ⟨rfl, ?_⟩
                        first
                        | exact ⟨kt_ft (by simp_all [m_all, m_some, -Int32.not_le, -Int32.not_lt]), rfl⟩
                        | exact ⟨kt_ff (by simp_all [m_all, m_some, -Int32.not_le, -Int32.not_lt]), rfl⟩
                · skip
                  refine kr_iconst (v := 0) hX dX5_leavesEachSomething_31 (by decide) ?_
                  refine kr_zret hX hr (by first | exact Or.inl rfl | exact Or.inr rfl | assumption) dX5_leavesEachSomething_32 ⟨rfl, ?_⟩
                  first
                  | exact ⟨kt_ft (by simp_all [m_all, m_some, -Int32.not_le, -Int32.not_lt]), rfl⟩
                  | exact ⟨kt_ff (by simp_all [m_all, m_some, -Int32.not_le, -Int32.not_lt]), rfl⟩
          · skip
            refine kr_iconst (v := 0) hX dX5_leavesEachSomething_31 (by decide) ?_
            refine kr_zret hX hr (by first | exact Or.inl rfl | exact Or.inr rfl | assumption) dX5_leavesEachSomething_32 ⟨rfl, ?_⟩
            first
            | exact ⟨kt_ft (by simp_all [m_all, m_some, -Int32.not_le, -Int32.not_lt]), rfl⟩
            | exact ⟨kt_ff (by simp_all [m_all, m_some, -Int32.not_le, -Int32.not_lt]), rfl⟩
    · skip
      refine kr_aload_n (i := 0) hX dX5_leavesEachSomething_16 rfl rfl ?_
      refine kr_getr (c0 := 5) (k := 0) hX ⟨_, kf_5_9⟩ dX5_leavesEachSomething_17 rfl (by assumption) (by assumption) ?_
      refine kr_iload_n (i := 1) hX dX5_leavesEachSomething_20 rfl rfl ?_
      refine kr_iald hX dX5_leavesEachSomething_21 (by assumption) (by unfold vp_in; decide) ?_
      refine kr_aload_n (i := 0) hX dX5_leavesEachSomething_22 rfl rfl ?_
      refine kr_getr (c0 := 5) (k := 1) hX ⟨_, kf_5_15⟩ dX5_leavesEachSomething_23 rfl (by assumption) (by assumption) ?_
      refine kr_iload_n (i := 1) hX dX5_leavesEachSomething_26 rfl rfl ?_
      refine kr_iald hX dX5_leavesEachSomething_27 (by assumption) (by unfold vp_in; decide) ?_
      refine kr_icmp_le (tgt := 33) hX dX5_leavesEachSomething_28 (by decide) (fun c_28 => ?_) (fun c_28 => ?_)
      · skip
        refine kr_iinc (v := 1) hX dX5_leavesEachSomething_33 rfl (by decide) (by decide) rfl rfl ?_
        refine kr_goto (tgt := 2) hX dX5_leavesEachSomething_36 (by decide) ?_
        refine kr_iload_n (i := 1) hX dX5_leavesEachSomething_2 rfl rfl ?_
        refine kr_iconst (v := 4) hX dX5_leavesEachSomething_3 (by decide) ?_
        refine kr_icmp_ge (tgt := 39) hX dX5_leavesEachSomething_4 (by decide) (fun c_4 => ?_) (fun c_4 => ?_)
        · skip
          exact absurd c_4 (by decide)
        · skip
          refine kr_aload_n (i := 0) hX dX5_leavesEachSomething_7 rfl rfl ?_
          refine kr_getr (c0 := 5) (k := 2) hX ⟨_, kf_5_18⟩ dX5_leavesEachSomething_8 rfl (by assumption) (by assumption) ?_
          refine kr_iload_n (i := 1) hX dX5_leavesEachSomething_11 rfl rfl ?_
          refine kr_bald hX dX5_leavesEachSomething_12 (by assumption) (by unfold vp_in; decide) ?_
          refine kr_if_ne (tgt := 33) hX dX5_leavesEachSomething_13 (by decide) (fun c_13 => ?_) (fun c_13 => ?_)
          · skip
            refine kr_iinc (v := 2) hX dX5_leavesEachSomething_33 rfl (by decide) (by decide) rfl rfl ?_
            refine kr_goto (tgt := 2) hX dX5_leavesEachSomething_36 (by decide) ?_
            refine kr_iload_n (i := 1) hX dX5_leavesEachSomething_2 rfl rfl ?_
            refine kr_iconst (v := 4) hX dX5_leavesEachSomething_3 (by decide) ?_
            refine kr_icmp_ge (tgt := 39) hX dX5_leavesEachSomething_4 (by decide) (fun c_4 => ?_) (fun c_4 => ?_)
            · skip
              exact absurd c_4 (by decide)
            · skip
              refine kr_aload_n (i := 0) hX dX5_leavesEachSomething_7 rfl rfl ?_
              refine kr_getr (c0 := 5) (k := 2) hX ⟨_, kf_5_18⟩ dX5_leavesEachSomething_8 rfl (by assumption) (by assumption) ?_
              refine kr_iload_n (i := 1) hX dX5_leavesEachSomething_11 rfl rfl ?_
              refine kr_bald hX dX5_leavesEachSomething_12 (by assumption) (by unfold vp_in; decide) ?_
              refine kr_if_ne (tgt := 33) hX dX5_leavesEachSomething_13 (by decide) (fun c_13 => ?_) (fun c_13 => ?_)
              · skip
                refine kr_iinc (v := 3) hX dX5_leavesEachSomething_33 rfl (by decide) (by decide) rfl rfl ?_
                refine kr_goto (tgt := 2) hX dX5_leavesEachSomething_36 (by decide) ?_
                refine kr_iload_n (i := 1) hX dX5_leavesEachSomething_2 rfl rfl ?_
                refine kr_iconst (v := 4) hX dX5_leavesEachSomething_3 (by decide) ?_
                refine kr_icmp_ge (tgt := 39) hX dX5_leavesEachSomething_4 (by decide) (fun c_4 => ?_) (fun c_4 => ?_)
                · skip
                  exact absurd c_4 (by decide)
                · skip
                  refine kr_aload_n (i := 0) hX dX5_leavesEachSomething_7 rfl rfl ?_
                  refine kr_getr (c0 := 5) (k := 2) hX ⟨_, kf_5_18⟩ dX5_leavesEachSomething_8 rfl (by assumption) (by assumption) ?_
                  refine kr_iload_n (i := 1) hX dX5_leavesEachSomething_11 rfl rfl ?_
                  refine kr_bald hX dX5_leavesEachSomething_12 (by assumption) (by unfold vp_in; decide) ?_
                  refine kr_if_ne (tgt := 33) hX dX5_leavesEachSomething_13 (by decide) (fun c_13 => ?_) (fun c_13 => ?_)
                  · skip
                    refine kr_iinc (v := 4) hX dX5_leavesEachSomething_33 rfl (by decide) (by decide) rfl rfl ?_
                    refine kr_goto (tgt := 2) hX dX5_leavesEachSomething_36 (by decide) ?_
                    refine kr_iload_n (i := 1) hX dX5_leavesEachSomething_2 rfl rfl ?_
                    refine kr_iconst (v := 4) hX dX5_leavesEachSomething_3 (by decide) ?_
                    refine kr_icmp_ge (tgt := 39) hX dX5_leavesEachSomething_4 (by decide) (fun c_4 => ?_) (fun c_4 => ?_)
                    · skip
                      refine kr_iconst (v := 1) hX dX5_leavesEachSomething_39 (by decide) ?_
                      refine kr_zret hX hr (by first | exact Or.inl rfl | exact Or.inr rfl | assumption) dX5_leavesEachSomething_40 ⟨rfl, ?_⟩
                      first
                      | exact ⟨kt_ft (by simp_all [m_all, m_some, -Int32.not_le, -Int32.not_lt]), rfl⟩
                      | exact ⟨kt_ff (by simp_all [m_all, m_some, -Int32.not_le, -Int32.not_lt]), rfl⟩
                    · skip
                      exact absurd c_4 (by decide)
                  · skip
                    refine kr_aload_n (i := 0) hX dX5_leavesEachSomething_16 rfl rfl ?_
                    refine kr_getr (c0 := 5) (k := 0) hX ⟨_, kf_5_9⟩ dX5_leavesEachSomething_17 rfl (by assumption) (by assumption) ?_
                    refine kr_iload_n (i := 1) hX dX5_leavesEachSomething_20 rfl rfl ?_
                    refine kr_iald hX dX5_leavesEachSomething_21 (by assumption) (by unfold vp_in; decide) ?_
                    refine kr_aload_n (i := 0) hX dX5_leavesEachSomething_22 rfl rfl ?_
                    refine kr_getr (c0 := 5) (k := 1) hX ⟨_, kf_5_15⟩ dX5_leavesEachSomething_23 rfl (by assumption) (by assumption) ?_
                    refine kr_iload_n (i := 1) hX dX5_leavesEachSomething_26 rfl rfl ?_
                    refine kr_iald hX dX5_leavesEachSomething_27 (by assumption) (by unfold vp_in; decide) ?_
                    refine kr_icmp_le (tgt := 33) hX dX5_leavesEachSomething_28 (by decide) (fun c_28 => ?_) (fun c_28 => ?_)
                    · skip
                      refine kr_iinc (v := 4) hX dX5_leavesEachSomething_33 rfl (by decide) (by decide) rfl rfl ?_
                      refine kr_goto (tgt := 2) hX dX5_leavesEachSomething_36 (by decide) ?_
                      refine kr_iload_n (i := 1) hX dX5_leavesEachSomething_2 rfl rfl ?_
                      refine kr_iconst (v := 4) hX dX5_leavesEachSomething_3 (by decide) ?_
                      refine kr_icmp_ge (tgt := 39) hX dX5_leavesEachSomething_4 (by decide) (fun c_4 => ?_) (fun c_4 => ?_)
                      · skip
                        refine kr_iconst (v := 1) hX dX5_leavesEachSomething_39 (by decide) ?_
                        refine kr_zret hX hr (by first | exact Or.inl rfl | exact Or.inr rfl | assumption) dX5_leavesEachSomething_40 ⟨rfl, ?_⟩
                        first
                        | exact ⟨kt_ft (by simp_all [m_all, m_some, -Int32.not_le, -Int32.not_lt]), rfl⟩
                        | exact ⟨kt_ff (by simp_all [m_all, m_some, -Int32.not_le, -Int32.not_lt]), rfl⟩
                      · skip
                        exact absurd c_4 (by decide)
                    · skip
                      refine kr_iconst (v := 0) hX dX5_leavesEachSomething_31 (by decide) ?_
                      refine kr_zret hX hr (by first | exact Or.inl rfl | exact Or.inr rfl | assumption) dX5_leavesEachSomething_32 ⟨rfl, ?_⟩
                      first
                      | exact ⟨kt_ft (by simp_all [m_all, m_some, -Int32.not_le, -Int32.not_lt]), rfl⟩
                      | exact ⟨kt_ff (by simp_all [m_all, m_some, -Int32.not_le, -Int32.not_lt]), rfl⟩
              · skip
                refine kr_aload_n (i := 0) hX dX5_leavesEachSomething_16 rfl rfl ?_
                refine kr_getr (c0 := 5) (k := 0) hX ⟨_, kf_5_9⟩ dX5_leavesEachSomething_17 rfl (by assumption) (by assumption) ?_
                refine kr_iload_n (i := 1) hX dX5_leavesEachSomething_20 rfl rfl ?_
                refine kr_iald hX dX5_leavesEachSomething_21 (by assumption) (by unfold vp_in; decide) ?_
                refine kr_aload_n (i := 0) hX dX5_leavesEachSomething_22 rfl rfl ?_
                refine kr_getr (c0 := 5) (k := 1) hX ⟨_, kf_5_15⟩ dX5_leavesEachSomething_23 rfl (by assumption) (by assumption) ?_
                refine kr_iload_n (i := 1) hX dX5_leavesEachSomething_26 rfl rfl ?_
                refine kr_iald hX dX5_leavesEachSomething_27 (by assumption) (by unfold vp_in; decide) ?_
                refine kr_icmp_le (tgt := 33) hX dX5_leavesEachSomething_28 (by decide) (fun c_28 => ?_) (fun c_28 => ?_)
                · skip
                  refine kr_iinc (v := 3) hX dX5_leavesEachSomething_33 rfl (by decide) (by decide) rfl rfl ?_
                  refine kr_goto (tgt := 2) hX dX5_leavesEachSomething_36 (by decide) ?_
                  refine kr_iload_n (i := 1) hX dX5_leavesEachSomething_2 rfl rfl ?_
                  refine kr_iconst (v := 4) hX dX5_leavesEachSomething_3 (by decide) ?_
                  refine kr_icmp_ge (tgt := 39) hX dX5_leavesEachSomething_4 (by decide) (fun c_4 => ?_) (fun c_4 => ?_)
                  · skip
                    exact absurd c_4 (by decide)
                  · skip
                    refine kr_aload_n (i := 0) hX dX5_leavesEachSomething_7 rfl rfl ?_
                    refine kr_getr (c0 := 5) (k := 2) hX ⟨_, kf_5_18⟩ dX5_leavesEachSomething_8 rfl (by assumption) (by assumption) ?_
                    refine kr_iload_n (i := 1) hX dX5_leavesEachSomething_11 rfl rfl ?_
                    refine kr_bald hX dX5_leavesEachSomething_12 (by assumption) (by unfold vp_in; decide) ?_
                    refine kr_if_ne (tgt := 33) hX dX5_leavesEachSomething_13 (by decide) (fun c_13 => ?_) (fun c_13 => ?_)
                    · skip
                      refine kr_iinc (v := 4) hX dX5_leavesEachSomething_33 rfl (by decide) (by decide) rfl rfl ?_
                      refine kr_goto (tgt := 2) hX dX5_leavesEachSomething_36 (by decide) ?_
                      refine kr_iload_n (i := 1) hX dX5_leavesEachSomething_2 rfl rfl ?_
                      refine kr_iconst (v := 4) hX dX5_leavesEachSomething_3 (by decide) ?_
                      refine kr_icmp_ge (tgt := 39) hX dX5_leavesEachSomething_4 (by decide) (fun c_4 => ?_) (fun c_4 => ?_)
                      · skip
                        refine kr_iconst (v := 1) hX dX5_leavesEachSomething_39 (by decide) ?_
                        refine kr_zret hX hr (by first | exact Or.inl rfl | exact Or.inr rfl | assumption) dX5_leavesEachSomething_40 ⟨rfl, ?_⟩
                        first
                        | exact ⟨kt_ft (by simp_all [m_all, m_some, -Int32.not_le, -Int32.not_lt]), rfl⟩
                        | exact ⟨kt_ff (by simp_all [m_all, m_some, -Int32.not_le, -Int32.not_lt]), rfl⟩
                      · skip
                        exact absurd c_4 (by decide)
                    · skip
                      refine kr_aload_n (i := 0) hX dX5_leavesEachSomething_16 rfl rfl ?_
                      refine kr_getr (c0 := 5) (k := 0) hX ⟨_, kf_5_9⟩ dX5_leavesEachSomething_17 rfl (by assumption) (by assumption) ?_
                      refine kr_iload_n (i := 1) hX dX5_leavesEachSomething_20 rfl rfl ?_
                      refine kr_iald hX dX5_leavesEachSomething_21 (by assumption) (by unfold vp_in; decide) ?_
                      refine kr_aload_n (i := 0) hX dX5_leavesEachSomething_22 rfl rfl ?_
                      refine kr_getr (c0 := 5) (k := 1) hX ⟨_, kf_5_15⟩ dX5_leavesEachSomething_23 rfl (by assumption) (by assumption) ?_
                      refine kr_iload_n (i := 1) hX dX5_leavesEachSomething_26 rfl rfl ?_
                      refine kr_iald hX dX5_leavesEachSomething_27 (by assumption) (by unfold vp_in; decide) ?_
                      refine kr_icmp_le (tgt := 33) hX dX5_leavesEachSomething_28 (by decide) (fun c_28 => ?_) (fun c_28 => ?_)
                      · skip
                        refine kr_iinc (v := 4) hX dX5_leavesEachSomething_33 rfl (by decide) (by decide) rfl rfl ?_
                        refine kr_goto (tgt := 2) hX dX5_leavesEachSomething_36 (by decide) ?_
                        refine kr_iload_n (i := 1) hX dX5_leavesEachSomething_2 rfl rfl ?_
                        refine kr_iconst (v := 4) hX dX5_leavesEachSomething_3 (by decide) ?_
                        refine kr_icmp_ge (tgt := 39) hX dX5_leavesEachSomething_4 (by decide) (fun c_4 => ?_) (fun c_4 => ?_)
                        · skip
                          refine kr_iconst (v := 1) hX dX5_leavesEachSomething_39 (by decide) ?_
                          refine kr_zret hX hr (by first | exact Or.inl rfl | exact Or.inr rfl | assumption) dX5_leavesEachSomething_40 ⟨rfl, ?_⟩
                          first
                          | exact ⟨kt_ft (by simp_all [m_all, m_some, -Int32.not_le, -Int32.not_lt]), rfl⟩
                          | exact ⟨kt_ff (by simp_all [m_all, m_some, -Int32.not_le, -Int32.not_lt]), rfl⟩
                        · skip
                          exact absurd c_4 (by decide)
                      · skip
                        refine kr_iconst (v := 0) hX dX5_leavesEachSomething_31 (by decide) ?_
                        refine kr_zret hX hr (by first | exact Or.inl rfl | exact Or.inr rfl | assumption) dX5_leavesEachSomething_32 ⟨rfl, ?_⟩
                        first
                        | exact ⟨kt_ft (by simp_all [m_all, m_some, -Int32.not_le, -Int32.not_lt]), rfl⟩
                        | exact ⟨kt_ff (by simp_all [m_all, m_some, -Int32.not_le, -Int32.not_lt]), rfl⟩
                · skip
                  refine kr_iconst (v := 0) hX dX5_leavesEachSomething_31 (by decide) ?_
                  refine kr_zret hX hr (by first | exact Or.inl rfl | exact Or.inr rfl | assumption) dX5_leavesEachSomething_32 ⟨rfl, ?_⟩
                  first
                  | exact ⟨kt_ft (by simp_all [m_all, m_some, -Int32.not_le, -Int32.not_lt]), rfl⟩
                  | exact ⟨kt_ff (by simp_all [m_all, m_some, -Int32.not_le, -Int32.not_lt]), rfl⟩
          · skip
            refine kr_aload_n (i := 0) hX dX5_leavesEachSomething_16 rfl rfl ?_
            refine kr_getr (c0 := 5) (k := 0) hX ⟨_, kf_5_9⟩ dX5_leavesEachSomething_17 rfl (by assumption) (by assumption) ?_
            refine kr_iload_n (i := 1) hX dX5_leavesEachSomething_20 rfl rfl ?_
            refine kr_iald hX dX5_leavesEachSomething_21 (by assumption) (by unfold vp_in; decide) ?_
            refine kr_aload_n (i := 0) hX dX5_leavesEachSomething_22 rfl rfl ?_
            refine kr_getr (c0 := 5) (k := 1) hX ⟨_, kf_5_15⟩ dX5_leavesEachSomething_23 rfl (by assumption) (by assumption) ?_
            refine kr_iload_n (i := 1) hX dX5_leavesEachSomething_26 rfl rfl ?_
            refine kr_iald hX dX5_leavesEachSomething_27 (by assumption) (by unfold vp_in; decide) ?_
            refine kr_icmp_le (tgt := 33) hX dX5_leavesEachSomething_28 (by decide) (fun c_28 => ?_) (fun c_28 => ?_)
            · skip
              refine kr_iinc (v := 2) hX dX5_leavesEachSomething_33 rfl (by decide) (by decide) rfl rfl ?_
              refine kr_goto (tgt := 2) hX dX5_leavesEachSomething_36 (by decide) ?_
              refine kr_iload_n (i := 1) hX dX5_leavesEachSomething_2 rfl rfl ?_
              refine kr_iconst (v := 4) hX dX5_leavesEachSomething_3 (by decide) ?_
              refine kr_icmp_ge (tgt := 39) hX dX5_leavesEachSomething_4 (by decide) (fun c_4 => ?_) (fun c_4 => ?_)
              · skip
                exact absurd c_4 (by decide)
              · skip
                refine kr_aload_n (i := 0) hX dX5_leavesEachSomething_7 rfl rfl ?_
                refine kr_getr (c0 := 5) (k := 2) hX ⟨_, kf_5_18⟩ dX5_leavesEachSomething_8 rfl (by assumption) (by assumption) ?_
                refine kr_iload_n (i := 1) hX dX5_leavesEachSomething_11 rfl rfl ?_
                refine kr_bald hX dX5_leavesEachSomething_12 (by assumption) (by unfold vp_in; decide) ?_
                refine kr_if_ne (tgt := 33) hX dX5_leavesEachSomething_13 (by decide) (fun c_13 => ?_) (fun c_13 => ?_)
                · skip
                  refine kr_iinc (v := 3) hX dX5_leavesEachSomething_33 rfl (by decide) (by decide) rfl rfl ?_
                  refine kr_goto (tgt := 2) hX dX5_leavesEachSomething_36 (by decide) ?_
                  refine kr_iload_n (i := 1) hX dX5_leavesEachSomething_2 rfl rfl ?_
                  refine kr_iconst (v := 4) hX dX5_leavesEachSomething_3 (by decide) ?_
                  refine kr_icmp_ge (tgt := 39) hX dX5_leavesEachSomething_4 (by decide) (fun c_4 => ?_) (fun c_4 => ?_)
                  · skip
                    exact absurd c_4 (by decide)
                  · skip
                    refine kr_aload_n (i := 0) hX dX5_leavesEachSomething_7 rfl rfl ?_
                    refine kr_getr (c0 := 5) (k := 2) hX ⟨_, kf_5_18⟩ dX5_leavesEachSomething_8 rfl (by assumption) (by assumption) ?_
                    refine kr_iload_n (i := 1) hX dX5_leavesEachSomething_11 rfl rfl ?_
                    refine kr_bald hX dX5_leavesEachSomething_12 (by assumption) (by unfold vp_in; decide) ?_
                    refine kr_if_ne (tgt := 33) hX dX5_leavesEachSomething_13 (by decide) (fun c_13 => ?_) (fun c_13 => ?_)
                    · skip
                      refine kr_iinc (v := 4) hX dX5_leavesEachSomething_33 rfl (by decide) (by decide) rfl rfl ?_
                      refine kr_goto (tgt := 2) hX dX5_leavesEachSomething_36 (by decide) ?_
                      refine kr_iload_n (i := 1) hX dX5_leavesEachSomething_2 rfl rfl ?_
                      refine kr_iconst (v := 4) hX dX5_leavesEachSomething_3 (by decide) ?_
                      refine kr_icmp_ge (tgt := 39) hX dX5_leavesEachSomething_4 (by decide) (fun c_4 => ?_) (fun c_4 => ?_)
                      · skip
                        refine kr_iconst (v := 1) hX dX5_leavesEachSomething_39 (by decide) ?_
                        refine kr_zret hX hr (by first | exact Or.inl rfl | exact Or.inr rfl | assumption) dX5_leavesEachSomething_40 ⟨rfl, ?_⟩
                        first
                        | exact ⟨kt_ft (by simp_all [m_all, m_some, -Int32.not_le, -Int32.not_lt]), rfl⟩
                        | exact ⟨kt_ff (by simp_all [m_all, m_some, -Int32.not_le, -Int32.not_lt]), rfl⟩
                      · skip
                        exact absurd c_4 (by decide)
                    · skip
                      refine kr_aload_n (i := 0) hX dX5_leavesEachSomething_16 rfl rfl ?_
                      refine kr_getr (c0 := 5) (k := 0) hX ⟨_, kf_5_9⟩ dX5_leavesEachSomething_17 rfl (by assumption) (by assumption) ?_
                      refine kr_iload_n (i := 1) hX dX5_leavesEachSomething_20 rfl rfl ?_
                      refine kr_iald hX dX5_leavesEachSomething_21 (by assumption) (by unfold vp_in; decide) ?_
                      refine kr_aload_n (i := 0) hX dX5_leavesEachSomething_22 rfl rfl ?_
                      refine kr_getr (c0 := 5) (k := 1) hX ⟨_, kf_5_15⟩ dX5_leavesEachSomething_23 rfl (by assumption) (by assumption) ?_
                      refine kr_iload_n (i := 1) hX dX5_leavesEachSomething_26 rfl rfl ?_
                      refine kr_iald hX dX5_leavesEachSomething_27 (by assumption) (by unfold vp_in; decide) ?_
                      refine kr_icmp_le (tgt := 33) hX dX5_leavesEachSomething_28 (by decide) (fun c_28 => ?_) (fun c_28 => ?_)
                      · skip
                        refine kr_iinc (v := 4) hX dX5_leavesEachSomething_33 rfl (by decide) (by decide) rfl rfl ?_
                        refine kr_goto (tgt := 2) hX dX5_leavesEachSomething_36 (by decide) ?_
                        refine kr_iload_n (i := 1) hX dX5_leavesEachSomething_2 rfl rfl ?_
                        refine kr_iconst (v := 4) hX dX5_leavesEachSomething_3 (by decide) ?_
                        refine kr_icmp_ge (tgt := 39) hX dX5_leavesEachSomething_4 (by decide) (fun c_4 => ?_) (fun c_4 => ?_)
                        · skip
                          refine kr_iconst (v := 1) hX dX5_leavesEachSomething_39 (by decide) ?_
                          refine kr_zret hX hr (by first | exact Or.inl rfl | exact Or.inr rfl | assumption) dX5_leavesEachSomething_40 ⟨rfl, ?_⟩
                          first
                          | exact ⟨kt_ft (by simp_all [m_all, m_some, -Int32.not_le, -Int32.not_lt]), rfl⟩
                          | exact ⟨kt_ff (by simp_all [m_all, m_some, -Int32.not_le, -Int32.not_lt]), rfl⟩
                        · skip
                          exact absurd c_4 (by decide)
                      · skip
                        refine kr_iconst (v := 0) hX dX5_leavesEachSomething_31 (by decide) ?_
                        refine kr_zret hX hr (by first | exact Or.inl rfl | exact Or.inr rfl | assumption) dX5_leavesEachSomething_32 ⟨rfl, ?_⟩
                        first
                        | exact ⟨kt_ft (by simp_all [m_all, m_some, -Int32.not_le, -Int32.not_lt]), rfl⟩
                        | exact ⟨kt_ff (by simp_all [m_all, m_some, -Int32.not_le, -Int32.not_lt]), rfl⟩
                · skip
                  refine kr_aload_n (i := 0) hX dX5_leavesEachSomething_16 rfl rfl ?_
                  refine kr_getr (c0 := 5) (k := 0) hX ⟨_, kf_5_9⟩ dX5_leavesEachSomething_17 rfl (by assumption) (by assumption) ?_
                  refine kr_iload_n (i := 1) hX dX5_leavesEachSomething_20 rfl rfl ?_
                  refine kr_iald hX dX5_leavesEachSomething_21 (by assumption) (by unfold vp_in; decide) ?_
                  refine kr_aload_n (i := 0) hX dX5_leavesEachSomething_22 rfl rfl ?_
                  refine kr_getr (c0 := 5) (k := 1) hX ⟨_, kf_5_15⟩ dX5_leavesEachSomething_23 rfl (by assumption) (by assumption) ?_
                  refine kr_iload_n (i := 1) hX dX5_leavesEachSomething_26 rfl rfl ?_
                  refine kr_iald hX dX5_leavesEachSomething_27 (by assumption) (by unfold vp_in; decide) ?_
                  refine kr_icmp_le (tgt := 33) hX dX5_leavesEachSomething_28 (by decide) (fun c_28 => ?_) (fun c_28 => ?_)
                  · skip
                    refine kr_iinc (v := 3) hX dX5_leavesEachSomething_33 rfl (by decide) (by decide) rfl rfl ?_
                    refine kr_goto (tgt := 2) hX dX5_leavesEachSomething_36 (by decide) ?_
                    refine kr_iload_n (i := 1) hX dX5_leavesEachSomething_2 rfl rfl ?_
                    refine kr_iconst (v := 4) hX dX5_leavesEachSomething_3 (by decide) ?_
                    refine kr_icmp_ge (tgt := 39) hX dX5_leavesEachSomething_4 (by decide) (fun c_4 => ?_) (fun c_4 => ?_)
                    · skip
                      exact absurd c_4 (by decide)
                    · skip
                      refine kr_aload_n (i := 0) hX dX5_leavesEachSomething_7 rfl rfl ?_
                      refine kr_getr (c0 := 5) (k := 2) hX ⟨_, kf_5_18⟩ dX5_leavesEachSomething_8 rfl (by assumption) (by assumption) ?_
                      refine kr_iload_n (i := 1) hX dX5_leavesEachSomething_11 rfl rfl ?_
                      refine kr_bald hX dX5_leavesEachSomething_12 (by assumption) (by unfold vp_in; decide) ?_
                      refine kr_if_ne (tgt := 33) hX dX5_leavesEachSomething_13 (by decide) (fun c_13 => ?_) (fun c_13 => ?_)
                      · skip
                        refine kr_iinc (v := 4) hX dX5_leavesEachSomething_33 rfl (by decide) (by decide) rfl rfl ?_
                        refine kr_goto (tgt := 2) hX dX5_leavesEachSomething_36 (by decide) ?_
                        refine kr_iload_n (i := 1) hX dX5_leavesEachSomething_2 rfl rfl ?_
                        refine kr_iconst (v := 4) hX dX5_leavesEachSomething_3 (by decide) ?_
                        refine kr_icmp_ge (tgt := 39) hX dX5_leavesEachSomething_4 (by decide) (fun c_4 => ?_) (fun c_4 => ?_)
                        · skip
                          refine kr_iconst (v := 1) hX dX5_leavesEachSomething_39 (by decide) ?_
                          refine kr_zret hX hr (by first | exact Or.inl rfl | exact Or.inr rfl | assumption) dX5_leavesEachSomething_40 ⟨rfl, ?_⟩
                          first
                          | exact ⟨kt_ft (by simp_all [m_all, m_some, -Int32.not_le, -Int32.not_lt]), rfl⟩
                          | exact ⟨kt_ff (by simp_all [m_all, m_some, -Int32.not_le, -Int32.not_lt]), rfl⟩
                        · skip
                          exact absurd c_4 (by decide)
                      · skip
                        refine kr_aload_n (i := 0) hX dX5_leavesEachSomething_16 rfl rfl ?_
                        refine kr_getr (c0 := 5) (k := 0) hX ⟨_, kf_5_9⟩ dX5_leavesEachSomething_17 rfl (by assumption) (by assumption) ?_
                        refine kr_iload_n (i := 1) hX dX5_leavesEachSomething_20 rfl rfl ?_
                        refine kr_iald hX dX5_leavesEachSomething_21 (by assumption) (by unfold vp_in; decide) ?_
                        refine kr_aload_n (i := 0) hX dX5_leavesEachSomething_22 rfl rfl ?_
                        refine kr_getr (c0 := 5) (k := 1) hX ⟨_, kf_5_15⟩ dX5_leavesEachSomething_23 rfl (by assumption) (by assumption) ?_
                        refine kr_iload_n (i := 1) hX dX5_leavesEachSomething_26 rfl rfl ?_
                        refine kr_iald hX dX5_leavesEachSomething_27 (by assumption) (by unfold vp_in; decide) ?_
                        refine kr_icmp_le (tgt := 33) hX dX5_leavesEachSomething_28 (by decide) (fun c_28 => ?_) (fun c_28 => ?_)
                        · skip
                          refine kr_iinc (v := 4) hX dX5_leavesEachSomething_33 rfl (by decide) (by decide) rfl rfl ?_
                          refine kr_goto (tgt := 2) hX dX5_leavesEachSomething_36 (by decide) ?_
                          refine kr_iload_n (i := 1) hX dX5_leavesEachSomething_2 rfl rfl ?_
                          refine kr_iconst (v := 4) hX dX5_leavesEachSomething_3 (by decide) ?_
                          refine kr_icmp_ge (tgt := 39) hX dX5_leavesEachSomething_4 (by decide) (fun c_4 => ?_) (fun c_4 => ?_)
                          · skip
                            refine kr_iconst (v := 1) hX dX5_leavesEachSomething_39 (by decide) ?_
                            refine kr_zret hX hr (by first | exact Or.inl rfl | exact Or.inr rfl | assumption) dX5_leavesEachSomething_40 ⟨rfl, ?_⟩
                            first
                            | exact ⟨kt_ft (by simp_all [m_all, m_some, -Int32.not_le, -Int32.not_lt]), rfl⟩
                            | exact ⟨kt_ff (by simp_all [m_all, m_some, -Int32.not_le, -Int32.not_lt]), rfl⟩
                          · skip
                            exact absurd c_4 (by decide)
                        · skip
                          refine kr_iconst (v := 0) hX dX5_leavesEachSomething_31 (by decide) ?_
                          refine kr_zret hX hr (by first | exact Or.inl rfl | exact Or.inr rfl | assumption) dX5_leavesEachSomething_32 ⟨rfl, ?_⟩
                          first
                          | exact ⟨kt_ft (by simp_all [m_all, m_some, -Int32.not_le, -Int32.not_lt]), rfl⟩
                          | exact ⟨kt_ff (by simp_all [m_all, m_some, -Int32.not_le, -Int32.not_lt]), rfl⟩
                  · skip
                    refine kr_iconst (v := 0) hX dX5_leavesEachSomething_31 (by decide) ?_
                    refine kr_zret hX hr (by first | exact Or.inl rfl | exact Or.inr rfl | assumption) dX5_leavesEachSomething_32 ⟨rfl, ?_⟩
                    first
                    | exact ⟨kt_ft (by simp_all [m_all, m_some, -Int32.not_le, -Int32.not_lt]), rfl⟩
                    | exact ⟨kt_ff (by simp_all [m_all, m_some, -Int32.not_le, -Int32.not_lt]), rfl⟩
            · skip
              refine kr_iconst (v := 0) hX dX5_leavesEachSomething_31 (by decide) ?_
              refine kr_zret hX hr (by first | exact Or.inl rfl | exact Or.inr rfl | assumption) dX5_leavesEachSomething_32 ⟨rfl, ?_⟩
              first
              | exact ⟨kt_ft (by simp_all [m_all, m_some, -Int32.not_le, -Int32.not_lt]), rfl⟩
              | exact ⟨kt_ff (by simp_all [m_all, m_some, -Int32.not_le, -Int32.not_lt]), rfl⟩
      · skip
        refine kr_iconst (v := 0) hX dX5_leavesEachSomething_31 (by decide) ?_
        refine kr_zret hX hr (by first | exact Or.inl rfl | exact Or.inr rfl | assumption) dX5_leavesEachSomething_32 ⟨rfl, ?_⟩
        first
        | exact ⟨kt_ft (by simp_all [m_all, m_some, -Int32.not_le, -Int32.not_lt]), rfl⟩
        | exact ⟨kt_ff (by simp_all [m_all, m_some, -Int32.not_le, -Int32.not_lt]), rfl⟩

set_option maxHeartbeats 4000000 in
set_option maxRecDepth 100000 in
theorem sp_rprop {G : kt_G} {σ : kt_Y} {μ : kt_M} {p : Nat} (hp : kt_rg σ p) {v w : Int32} (hb : kt_01 μ (p + 3)) : kt_F G yX5_property cX5_property 3 (some .int) 1 [.ref p, .int v, .int w] σ μ (fun r μ2 => r = some (.int (m_prop μ p v w)) ∧ μ2 = μ) := by
  refine kt_F.of (by decide) (Nat.le_of_ble_eq_true rfl) (fun X hX hr => ?_)
  have hp0 := hp
  obtain ⟨hk0, hr1, hr2, hr3, hk1, hk2, hk3⟩ := hp
  refine kr_iload_n (i := 1) hX dX5_property_0 rfl rfl ?_
  refine kr_dSN [_] hX km_5_30 dX5_property_1 (sp_isVar) rfl rfl (by decide) (Nat.le_of_ble_eq_true rfl) (Nat.le_refl _) (Nat.le_refl _) ?_
  refine kr_if_ne (tgt := 10) hX dX5_property_4 (by decide) (fun c_4 => ?_) (fun c_4 => ?_)
  · skip
    refine kr_iload_n (i := 2) hX dX5_property_10 rfl rfl ?_
    refine kr_iconst (v := 2) hX dX5_property_11 (by decide) ?_
    refine kr_icmp_ne (tgt := 30) hX dX5_property_12 (by decide) (fun c_12 => ?_) (fun c_12 => ?_)
    · skip
      refine kr_aload_n (i := 0) hX dX5_property_30 rfl rfl ?_
      refine kr_getr (c0 := 5) (k := 0) hX ⟨_, kf_5_9⟩ dX5_property_31 rfl (by assumption) (by assumption) ?_
      refine kr_iload_n (i := 1) hX dX5_property_34 rfl rfl ?_
      refine kr_iald hX dX5_property_35 (by assumption) (by exact k_isv_in (by simp only [kt_f_0, Classical.not_not] at c_4; exact c_4)) ?_
      refine kr_aload_n (i := 0) hX dX5_property_36 rfl rfl ?_
      refine kr_getr (c0 := 5) (k := 1) hX ⟨_, kf_5_15⟩ dX5_property_37 rfl (by assumption) (by assumption) ?_
      refine kr_iload_n (i := 1) hX dX5_property_40 rfl rfl ?_
      refine kr_iald hX dX5_property_41 (by assumption) (by exact k_isv_in (by simp only [kt_f_0, Classical.not_not] at c_4; exact c_4)) ?_
      refine kr_icmp_le (tgt := 48) hX dX5_property_42 (by decide) (fun c_42 => ?_) (fun c_42 => ?_)
      · skip
        refine kr_iload_n (i := 2) hX dX5_property_48 rfl rfl ?_
        refine kr_if_ne (tgt := 61) hX dX5_property_49 (by decide) (fun c_49 => ?_) (fun c_49 => ?_)
        · skip
          refine kr_aload_n (i := 0) hX dX5_property_61 rfl rfl ?_
          refine kr_getr (c0 := 5) (k := 1) hX ⟨_, kf_5_15⟩ dX5_property_62 rfl (by assumption) (by assumption) ?_
          refine kr_iload_n (i := 1) hX dX5_property_65 rfl rfl ?_
          refine kr_iald hX dX5_property_66 (by assumption) (by exact k_isv_in (by simp only [kt_f_0, Classical.not_not] at c_4; exact c_4)) ?_
          refine kr_iret hX hr dX5_property_67 ⟨rfl, ?_⟩
          refine ⟨?_, rfl⟩
          have hb2 := hb v.toNatClampNeg
          simp only [kt_f_0, Classical.not_not] at c_4
          simp_all [m_prop, -Int32.not_le, -Int32.not_lt]
        · skip
          refine kr_aload_n (i := 0) hX dX5_property_52 rfl rfl ?_
          refine kr_getr (c0 := 5) (k := 0) hX ⟨_, kf_5_9⟩ dX5_property_53 rfl (by assumption) (by assumption) ?_
          refine kr_iload_n (i := 1) hX dX5_property_56 rfl rfl ?_
          refine kr_iald hX dX5_property_57 (by assumption) (by exact k_isv_in (by simp only [kt_f_0, Classical.not_not] at c_4; exact c_4)) ?_
          refine kr_goto (tgt := 67) hX dX5_property_58 (by decide) ?_
          refine kr_iret hX hr dX5_property_67 ⟨rfl, ?_⟩
          refine ⟨?_, rfl⟩
          have hb2 := hb v.toNatClampNeg
          simp only [kt_f_0, Classical.not_not] at c_4
          simp_all [m_prop, -Int32.not_le, -Int32.not_lt]
      · skip
        refine kr_bipush (v := (-4)) hX dX5_property_45 (by decide) ?_
        refine kr_iret hX hr dX5_property_47 ⟨rfl, ?_⟩
        refine ⟨?_, rfl⟩
        have hb2 := hb v.toNatClampNeg
        simp only [kt_f_0, Classical.not_not] at c_4
        simp_all [m_prop, -Int32.not_le, -Int32.not_lt]
    · skip
      refine kr_aload_n (i := 0) hX dX5_property_15 rfl rfl ?_
      refine kr_getr (c0 := 5) (k := 2) hX ⟨_, kf_5_18⟩ dX5_property_16 rfl (by assumption) (by assumption) ?_
      refine kr_iload_n (i := 1) hX dX5_property_19 rfl rfl ?_
      refine kr_bald hX dX5_property_20 (by assumption) (by exact k_isv_in (by simp only [kt_f_0, Classical.not_not] at c_4; exact c_4)) ?_
      refine kr_if_eq (tgt := 28) hX dX5_property_21 (by decide) (fun c_21 => ?_) (fun c_21 => ?_)
      · skip
        refine kr_iconst (v := 0) hX dX5_property_28 (by decide) ?_
        refine kr_iret hX hr dX5_property_29 ⟨rfl, ?_⟩
        refine ⟨?_, rfl⟩
        have hb2 := hb v.toNatClampNeg
        simp only [kt_f_0, Classical.not_not] at c_4
        simp_all [m_prop, -Int32.not_le, -Int32.not_lt]
      · skip
        refine kr_iconst (v := 1) hX dX5_property_24 (by decide) ?_
        refine kr_goto (tgt := 29) hX dX5_property_25 (by decide) ?_
        refine kr_iret hX hr dX5_property_29 ⟨rfl, ?_⟩
        refine ⟨?_, rfl⟩
        have hb2 := hb v.toNatClampNeg
        simp only [kt_f_0, Classical.not_not] at c_4
        simp_all [m_prop, -Int32.not_le, -Int32.not_lt]
  · skip
    refine kr_bipush (v := (-4)) hX dX5_property_7 (by decide) ?_
    refine kr_iret hX hr dX5_property_9 ⟨rfl, ?_⟩
    refine ⟨?_, rfl⟩
    have hb2 := hb v.toNatClampNeg
    simp only [kt_f_0, Classical.not_not] at c_4
    simp_all [m_prop, -Int32.not_le, -Int32.not_lt]


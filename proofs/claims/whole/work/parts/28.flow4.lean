def f_nx (μ : kt_M) (q i : Nat) : Nat := k_at μ q (k_tg μ (k_at μ q (nI (i / 2))) (nI (i % 2)))
noncomputable def f_la1 (μ : kt_M) (p q i : Nat) : kt_M :=
  if ¬ kt_i μ (p + 5) i = 0 ∧ kb_test (kt_i μ (f_nx μ q i) 4) then
    (let μ1 := m_actsL (p + 7) (f_nx μ q i) (kt_i μ (f_nx μ q i) 0).toNatClampNeg 0 (m_cp μ (p + 7) (p + 7 + 4 * (18 + i)))
     let μ2 := f_oa μ1 p (f_nx μ q i) 0
     let μ3 := f_oa μ2 p (f_nx μ q i) 1
     kt_si μ3 (p + 6) i (f_oo (kt_f (m_all μ2 (p + 7 + 4 * 1))) (kt_f (m_all μ3 (p + 7 + 4 * 1))))) else μ
noncomputable def f_laL (p q : Nat) : Nat → Nat → kt_M → kt_M
  | 0, _, μ => μ
  | n + 1, i, μ => f_laL p q n (i + 1) (f_la1 μ p q i)
noncomputable def f_la (μ : kt_M) (p q : Nat) : kt_M := kt_seal (f_laL p q 32 0 μ)
theorem f_oa_out {μ : kt_M} {p k x y : Nat} {s : Int32} (h : x < p + 3 ∨ p + 207 ≤ x ∨ (p + 3 ≤ x ∧ x ≤ p + 6)) : kt_i (f_oa μ p k s) x y = kt_i μ x y := by
  unfold f_oa; rw [m_side_out (by omega), m_cp_out (by omega)]
theorem f_oa_n {μ : kt_M} {p k : Nat} {s : Int32} (h : kf_n μ p) : kf_n (f_oa μ p k s) p := by
  unfold f_oa
  have h1 : kf_n (m_cp μ (p + 7 + 4 * 1) (p + 7)) p := h.put (j := 1) (fun x k hx => m_cp_out hx) (m_cp_01 (h 1 (by decide)) (h 0 (by decide)) (by omega))
  exact h1.put (j := 1) (fun x k hx => m_side_out hx) (m_side_01 (h1 1 (by decide)))
theorem f_la_n0 {μ : kt_M} {p k i : Nat} (hi : i < 32) (h : kf_n μ p) (m : Nat) : kf_n (m_actsL (p + 7) k m 0 (m_cp μ (p + 7) (p + 7 + 4 * (18 + i)))) p := by
  have h1 : kf_n (m_cp μ (p + 7) (p + 7 + 4 * (18 + i))) p := h.put (j := 0) (fun x k hx => m_cp_out hx) (m_cp_01 (h 0 (by decide)) (h _ (by omega)) (by omega))
  exact h1.put (j := 0) (fun x k hx => m_actsL_out hx _ _ _) (m_actsL_01 _ _ _ (h1 0 (by decide)))
theorem f_la1_out {μ : kt_M} {p q i x y : Nat} (h : x < p + 3 ∨ p + 207 ≤ x ∨ (p + 3 ≤ x ∧ x ≤ p + 5)) : kt_i (f_la1 μ p q i) x y = kt_i μ x y := by
  unfold f_la1; split
  · dsimp only
    rw [kt_i_sin (by omega), f_oa_out (by omega), f_oa_out (by omega), m_actsL_out (by omega), m_cp_out (by omega)]
  · rfl
theorem f_la1_n {μ : kt_M} {p q i : Nat} (hi : i < 32) (h : kf_n μ p) : kf_n (f_la1 μ p q i) p := by
  unfold f_la1; split
  · dsimp only
    exact (f_oa_n (f_oa_n (f_la_n0 hi h _))).far (fun x k h1 h2 => by rw [kt_i_sin (by omega)])
  · exact h
theorem f_laL_out {p q x y : Nat} (h : x < p + 3 ∨ p + 207 ≤ x ∨ (p + 3 ≤ x ∧ x ≤ p + 5)) : ∀ (n i : Nat) (μ : kt_M), kt_i (f_laL p q n i μ) x y = kt_i μ x y
  | 0, _, _ => rfl
  | n + 1, i, μ => by rw [f_laL, f_laL_out h n, f_la1_out h]
theorem f_laL_n {p q : Nat} : ∀ (n i : Nat) (μ : kt_M), i + n ≤ 32 → kf_n μ p → kf_n (f_laL p q n i μ) p
  | 0, _, _, _, h => h
  | n + 1, i, μ, hi, h => f_laL_n n (i + 1) _ (by omega) (f_la1_n (by omega) h)
theorem f_la_out {μ : kt_M} {p q x y : Nat} (h : x < p + 3 ∨ p + 207 ≤ x ∨ (p + 3 ≤ x ∧ x ≤ p + 5)) : kt_i (f_la μ p q) x y = kt_i μ x y := by unfold f_la; rw [kt_seal_eq]; exact f_laL_out h _ _ _
theorem f_la_n {μ : kt_M} {p q : Nat} (h : kf_n μ p) : kf_n (f_la μ p q) p := by unfold f_la; rw [kt_seal_eq]; exact f_laL_n 32 0 μ (by omega) h
set_option maxHeartbeats 4000000 in
set_option maxRecDepth 100000 in
theorem lp_la {G : kt_G} {σ : kt_Y} {X : kt_X} (hX : kt_ok G X RX2 cX2_lookAhead 4 4 0 0) (hr : kt_rt X = none) {Q : Option Value → kt_M → Prop} {p : Nat} (hp : kt_fw σ p) {q N s : Nat} (hq : kt_pg σ q N) (hN : N ≤ 16) (hsN : s ≤ N) (hsep : p + 207 ≤ q ∨ q + 7 + 4 * N ≤ p) : ∀ (n i : Nat) (μ : kt_M) , i + n = 32 → kt_i μ q 3 = nI s → kt_ac μ q → kf_n μ p → (Q none (f_laL p q n i μ)) → kt_W G X 4 2 [(0, .ref p), (1, .ref q), (2, .int (nI i))] [] σ μ 0 0 (kt_Z G X (kt_q σ Q) 0 0) := by
  have hp0 := hp
  obtain ⟨hk0, hr0, hr1, hr2, hr3, hr4, hr5, hr6, hr7, hk1, hk2, hk3, hk4, hk5, hk6, hrg, hrb, hra⟩ := hp
  intro n
  induction n with
  | zero =>
    intro i μ hin hs hac hn hQ
    have hib : i = 32 := by omega
    refine kr_iload_n (i := 2) hX dX2_lookAhead_2 rfl rfl ?_
    refine kr_bipush (v := 32) hX dX2_lookAhead_3 (by decide) ?_
    refine kr_icmp_ge (tgt := 90) hX dX2_lookAhead_5 (by decide) (fun c_5 => ?_) (fun c_5 => ?_)
    · skip
      refine kr_vret hX hr dX2_lookAhead_90 ⟨rfl, ?_⟩
      exact hQ
    · skip
      exact absurd (by rw [hib]; decide) c_5
  | succ n ih =>
    intro i μ hin hs hac hn hQ
    have hib : i < 32 := by omega
    refine kr_iload_n (i := 2) hX dX2_lookAhead_2 rfl rfl ?_
    refine kr_bipush (v := 32) hX dX2_lookAhead_3 (by decide) ?_
    refine kr_icmp_ge (tgt := 90) hX dX2_lookAhead_5 (by decide) (fun c_5 => ?_) (fun c_5 => ?_)
    · skip
      exact absurd c_5 (kt_ge rfl hib (by decide))
    · skip
      refine kr_aload_n (i := 1) hX dX2_lookAhead_8 rfl rfl ?_
      refine kr_aload_n (i := 1) hX dX2_lookAhead_9 rfl rfl ?_
      refine kr_iload_n (i := 2) hX dX2_lookAhead_10 rfl rfl ?_
      refine kr_iconst (v := 2) hX dX2_lookAhead_11 (by decide) ?_
      refine kr_idiv hX dX2_lookAhead_12 (by decide) ?_
      refine kr_rw (y := nI (i / 2)) (by exact pk_div (by omega) (by decide) (by decide)) ?_
      refine kr_dV (c1 := 4) [_] hX km_2_55 dX2_lookAhead_13 (sp_at hq hN hs hsN) rfl rfl ⟨_, _, rfl⟩ (by decide) (Nat.le_of_ble_eq_true rfl) (Nat.le_refl _) (Nat.le_refl _) (by exact hq.1) ?_
      refine kr_iload_n (i := 2) hX dX2_lookAhead_16 rfl rfl ?_
      refine kr_iconst (v := 2) hX dX2_lookAhead_17 (by decide) ?_
      refine kr_irem hX dX2_lookAhead_18 (by decide) ?_
      refine kr_rw (y := nI (i % 2)) (by exact pk_rem (by omega) (by decide) (by decide)) ?_
      refine kr_dV (c1 := 0) [_] hX km_2_85 dX2_lookAhead_19 (sp_target (hq.at_ hs hsN hN _)) rfl rfl ⟨_, _, rfl⟩ (by decide) (Nat.le_of_ble_eq_true rfl) (Nat.le_refl _) (Nat.le_refl _) (by exact (hq.at_ hs hsN hN _).1) ?_
      refine kr_dV (c1 := 4) [_] hX km_2_55 dX2_lookAhead_22 (sp_at hq hN hs hsN) rfl rfl ⟨_, _, rfl⟩ (by decide) (Nat.le_of_ble_eq_true rfl) (Nat.le_refl _) (Nat.le_refl _) (by exact hq.1) ?_
      refine kr_astore_n (i := 3) hX dX2_lookAhead_25 rfl (by decide) rfl rfl ?_
      obtain ⟨m, hm, eA⟩ := hac (k_tg μ (k_at μ q (nI (i / 2))) (nI (i % 2)))
      have hkb := hq.at_ hs hsN hN (k_tg μ (k_at μ q (nI (i / 2))) (nI (i % 2)))
      obtain ⟨h1, h2⟩ := k_at_in hs (by omega) (k_tg μ (k_at μ q (nI (i / 2))) (nI (i % 2)))
      have hkp : p + 207 ≤ f_nx μ q i ∨ f_nx μ q i + 4 ≤ p := by
        show p + 207 ≤ k_at μ q _ ∨ k_at μ q _ + 4 ≤ p
        rcases h2 with h2 | ⟨j, hj, h2⟩ <;> omega
      clear h2
      have hkb : kt_blk σ (f_nx μ q i) := hkb
      have eA : kt_i μ (f_nx μ q i) 0 = nI m := eA
      have hm2 : (kt_i μ (f_nx μ q i) 0).toNatClampNeg = m := by rw [eA]; exact nI_clamp (by omega)
      have hn1 := f_la_n0 (k := f_nx μ q i) hib hn m
      have hn2 := f_oa_n (k := f_nx μ q i) (s := 0) hn1
      refine kr_aload_n (i := 0) hX dX2_lookAhead_26 rfl rfl ?_
      refine kr_getr (c0 := 2) (k := 4) hX ⟨_, kf_2_27⟩ dX2_lookAhead_27 rfl (by assumption) (by assumption) ?_
      refine kr_iload_n (i := 2) hX dX2_lookAhead_30 rfl rfl ?_
      refine kr_baldN hX dX2_lookAhead_31 (by assumption) (by omega) ?_
      refine kr_if_eq (tgt := 84) hX dX2_lookAhead_32 (by decide) (fun c_32 => ?_) (fun c_32 => ?_)
      · skip
        refine kr_iinc (v := nI (i + 1)) hX dX2_lookAhead_84 rfl (by first | exact nI_1 _ | rfl) (by decide) rfl rfl ?_
        refine kr_goto (tgt := 2) hX dX2_lookAhead_87 (by decide) ?_
        simp only [f_laL] at hQ
        have ho : ∀ x k, q ≤ x → x < q + 7 + 4 * N → kt_i (f_la1 μ p q i) x k = kt_i μ x k := fun x k h3 h4 => f_la1_out (by omega)
        have hs9 : kt_i (f_la1 μ p q i) q 3 = nI s := by rw [ho q 3 (by omega) (by omega)]; exact hs
        have hac9 := hac.keep hs hsN hN ho
        have hn9 : kf_n (f_la1 μ p q i) p := f_la1_n hib hn
        (try simp only [kt_f_0, Classical.not_not] at c_39)
        refine kr_keep [0, 1, 2] rfl ?_
        by_cases hh : ¬ kt_i μ (p + 5) i = 0 ∧ kb_test (kt_i μ (f_nx μ q i) 4)
        · first
          | exact absurd c_32 hh.1
          | exact absurd hh.2 c_39
          | (have es := (show f_la1 μ p q i = _ from if_pos hh)
             dsimp only at es
             rw [hm2] at es
             rw [es] at hQ hs9 hac9 hn9
             exact ih (i + 1) _ (by omega) hs9 hac9 hn9 hQ)
        · first
          | exact absurd ⟨by assumption, by assumption⟩ hh
          | (have es : f_la1 μ p q i = μ := if_neg hh
             rw [es] at hQ
             exact ih (i + 1) _ (by omega) hs hac hn hQ)
      · skip
        refine kr_aload_n (i := 3) hX dX2_lookAhead_35 rfl rfl ?_
        refine kr_dV (c1 := 0) [] hX km_2_105 dX2_lookAhead_36 (sp_isTest hkb) rfl rfl ⟨_, _, rfl⟩ (by decide) (Nat.le_of_ble_eq_true rfl) (Nat.le_refl _) (Nat.le_refl _) (by exact hkb.1) ?_
        refine kr_if_eq (tgt := 84) hX dX2_lookAhead_39 (by decide) (fun c_39 => ?_) (fun c_39 => ?_)
        · skip
          refine kr_iinc (v := nI (i + 1)) hX dX2_lookAhead_84 rfl (by first | exact nI_1 _ | rfl) (by decide) rfl rfl ?_
          refine kr_goto (tgt := 2) hX dX2_lookAhead_87 (by decide) ?_
          simp only [f_laL] at hQ
          have ho : ∀ x k, q ≤ x → x < q + 7 + 4 * N → kt_i (f_la1 μ p q i) x k = kt_i μ x k := fun x k h3 h4 => f_la1_out (by omega)
          have hs9 : kt_i (f_la1 μ p q i) q 3 = nI s := by rw [ho q 3 (by omega) (by omega)]; exact hs
          have hac9 := hac.keep hs hsN hN ho
          have hn9 : kf_n (f_la1 μ p q i) p := f_la1_n hib hn
          (try simp only [kt_f_0, Classical.not_not] at c_39)
          refine kr_keep [0, 1, 2] rfl ?_
          by_cases hh : ¬ kt_i μ (p + 5) i = 0 ∧ kb_test (kt_i μ (f_nx μ q i) 4)
          · first
            | exact absurd c_32 hh.1
            | exact absurd hh.2 c_39
            | (have es := (show f_la1 μ p q i = _ from if_pos hh)
               dsimp only at es
               rw [hm2] at es
               rw [es] at hQ hs9 hac9 hn9
               exact ih (i + 1) _ (by omega) hs9 hac9 hn9 hQ)
          · first
            | exact absurd ⟨by assumption, by assumption⟩ hh
            | (have es : f_la1 μ p q i = μ := if_neg hh
               rw [es] at hQ
               exact ih (i + 1) _ (by omega) hs hac hn hQ)
        · skip
          refine kr_aload_n (i := 0) hX dX2_lookAhead_42 rfl rfl ?_
          refine kr_getr (c0 := 2) (k := 6) hX ⟨_, kf_2_35⟩ dX2_lookAhead_43 rfl (by assumption) (by assumption) ?_
          refine kr_aload_n (i := 0) hX dX2_lookAhead_46 rfl rfl ?_
          refine kr_getr (c0 := 2) (k := 1) hX ⟨_, kf_2_17⟩ dX2_lookAhead_47 rfl (by assumption) (by assumption) ?_
          refine kr_iload_n (i := 2) hX dX2_lookAhead_50 rfl rfl ?_
          refine kr_aaldN (t := 2) hX dX2_lookAhead_51 (by decide) (by assumption) (by omega) (by exact hra i (by omega)) ?_
          refine kr_dV (c1 := 5) [_] hX km_2_63 dX2_lookAhead_52 (sp_rcopy (hrg 0 (by decide)) (hrg _ (by omega)) (by omega) (hn _ (by omega))) rfl rfl ⟨_, _, rfl⟩ (by decide) (Nat.le_of_ble_eq_true rfl) (Nat.le_refl _) (Nat.le_refl _) (by exact (hrg 0 (by decide)).1) ?_
          refine kr_aload_n (i := 0) hX dX2_lookAhead_55 rfl rfl ?_
          refine kr_getr (c0 := 2) (k := 6) hX ⟨_, kf_2_35⟩ dX2_lookAhead_56 rfl (by assumption) (by assumption) ?_
          refine kr_aload_n (i := 3) hX dX2_lookAhead_59 rfl rfl ?_
          refine kr_dV (c1 := 5) [_] hX km_2_67 dX2_lookAhead_60 (sp_acts (hrg 0 (by decide)) hkb (by omega) hm (by rw [m_cp_out (by omega)]; exact eA) (m_cp_01 (hn 0 (by decide)) (hn _ (by omega)) (by omega))) rfl rfl ⟨_, _, rfl⟩ (by decide) (Nat.le_of_ble_eq_true rfl) (Nat.le_refl _) (Nat.le_refl _) (by exact (hrg 0 (by decide)).1) ?_
          refine kr_aload_n (i := 0) hX dX2_lookAhead_63 rfl rfl ?_
          refine kr_getr (c0 := 2) (k := 5) hX ⟨_, kf_2_30⟩ dX2_lookAhead_64 rfl (by assumption) (by assumption) ?_
          refine kr_iload_n (i := 2) hX dX2_lookAhead_67 rfl rfl ?_
          refine kr_aload_n (i := 0) hX dX2_lookAhead_68 rfl rfl ?_
          refine kr_aload_n (i := 3) hX dX2_lookAhead_69 rfl rfl ?_
          refine kr_iconst (v := 0) hX dX2_lookAhead_70 (by decide) ?_
          refine kr_dV (c1 := 2) [_, _] hX km_2_119 dX2_lookAhead_71 (sp_oa hp0 hkb hkp hn1) rfl rfl ⟨_, _, rfl⟩ (by decide) (Nat.le_of_ble_eq_true rfl) (Nat.le_refl _) (Nat.le_refl _) (by assumption) ?_
          refine kr_aload_n (i := 0) hX dX2_lookAhead_74 rfl rfl ?_
          refine kr_aload_n (i := 3) hX dX2_lookAhead_75 rfl rfl ?_
          refine kr_iconst (v := 1) hX dX2_lookAhead_76 (by decide) ?_
          refine kr_dV (c1 := 2) [_, _] hX km_2_119 dX2_lookAhead_77 (sp_oa hp0 hkb hkp hn2) rfl rfl ⟨_, _, rfl⟩ (by decide) (Nat.le_of_ble_eq_true rfl) (Nat.le_refl _) (Nat.le_refl _) (by assumption) ?_
          refine kr_dS [_, _] hX km_2_115 dX2_lookAhead_80 (sp_oo) rfl rfl (by decide) (Nat.le_of_ble_eq_true rfl) (Nat.le_refl _) (Nat.le_refl _) ?_
          refine kr_iastN hX dX2_lookAhead_83 (by assumption) (by omega) ?_
          refine kr_iinc (v := nI (i + 1)) hX dX2_lookAhead_84 rfl (by first | exact nI_1 _ | rfl) (by decide) rfl rfl ?_
          refine kr_goto (tgt := 2) hX dX2_lookAhead_87 (by decide) ?_
          simp only [f_laL] at hQ
          have ho : ∀ x k, q ≤ x → x < q + 7 + 4 * N → kt_i (f_la1 μ p q i) x k = kt_i μ x k := fun x k h3 h4 => f_la1_out (by omega)
          have hs9 : kt_i (f_la1 μ p q i) q 3 = nI s := by rw [ho q 3 (by omega) (by omega)]; exact hs
          have hac9 := hac.keep hs hsN hN ho
          have hn9 : kf_n (f_la1 μ p q i) p := f_la1_n hib hn
          (try simp only [kt_f_0, Classical.not_not] at c_39)
          refine kr_keep [0, 1, 2] rfl ?_
          by_cases hh : ¬ kt_i μ (p + 5) i = 0 ∧ kb_test (kt_i μ (f_nx μ q i) 4)
          · first
            | exact absurd c_32 hh.1
            | exact absurd hh.2 c_39
            | (have es := (show f_la1 μ p q i = _ from if_pos hh)
               dsimp only at es
               rw [hm2] at es
               rw [es] at hQ hs9 hac9 hn9
               exact ih (i + 1) _ (by omega) hs9 hac9 hn9 hQ)
          · first
            | exact absurd ⟨by assumption, by assumption⟩ hh
            | (have es : f_la1 μ p q i = μ := if_neg hh
               rw [es] at hQ
               exact ih (i + 1) _ (by omega) hs hac hn hQ)

set_option maxHeartbeats 4000000 in
set_option maxRecDepth 100000 in
theorem sp_la {G : kt_G} {σ : kt_Y} {μ : kt_M} {p : Nat} (hp : kt_fw σ p) {q N s : Nat} (hq : kt_pg σ q N) (hN : N ≤ 16) (hsN : s ≤ N) (hsep : p + 207 ≤ q ∨ q + 7 + 4 * N ≤ p) (hs : kt_i μ q 3 = nI s) (hac : kt_ac μ q) (hn : kf_n μ p) : kt_F G yX2_lookAhead cX2_lookAhead 4 none 4 [.ref p, .ref q] σ μ (fun r μ2 => r = none ∧ μ2 = f_la μ p q) := by
  refine kt_F.of (by decide) (Nat.le_of_ble_eq_true rfl) (fun X hX hr => ?_)
  have hp0 := hp
  obtain ⟨hk0, hr0, hr1, hr2, hr3, hr4, hr5, hr6, hr7, hk1, hk2, hk3, hk4, hk5, hk6, hrg, hrb, hra⟩ := hp
  refine kr_iconst (v := 0) hX dX2_lookAhead_0 (by decide) ?_
  refine kr_istore_n (i := 2) hX dX2_lookAhead_1 rfl (by decide) rfl rfl ?_
  refine lp_la hX hr hp0 hq hN hsN hsep 32 0 _ (by omega) hs hac hn ⟨rfl, ?_⟩
  unfold f_la
  rw [kt_seal_eq]


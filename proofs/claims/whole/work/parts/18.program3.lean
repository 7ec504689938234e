theorem m_an1_k {μ : kt_M} {p b j : Nat} {x : Int32} (h : j ≠ 8 ∧ j ≠ 9) : kt_i (m_an1 μ p b x) b j = kt_i μ b j := by
  unfold m_an1; (repeat' split) <;> first | rfl | rw [kt_i_sik (by omega)]
theorem m_an1_out {μ : kt_M} {p b y j : Nat} {x : Int32} (h : y ≠ b) : kt_i (m_an1 μ p b x) y j = kt_i μ y j := by
  unfold m_an1; (repeat' split) <;> first | rfl | rw [kt_i_sin h]
theorem m_anwL_out {p b y j : Nat} (h : y ≠ b) : ∀ (n i : Nat) (μ : kt_M), kt_i (m_anwL p b n i μ) y j = kt_i μ y j
  | 0, _, _ => rfl
  | n + 1, i, μ => by rw [m_anwL, m_anwL_out h n, m_an1_out h]
theorem m_anew_out {μ : kt_M} {p b y j : Nat} (h : y ≠ b) : kt_i (m_anew μ p b) y j = kt_i μ y j := m_anwL_out h _ _ _
def m_anL (p : Nat) : Nat → Nat → kt_M → kt_M
  | 0, _, μ => μ
  | n + 1, i, μ => m_anL p n (i + 1) (m_anew μ p (p + 7 + 4 * i))
/-- one block of keepOnly: the memory and how many are kept -/
def m_kp1 (μ : kt_M) (p : Nat) (m : Int32) (i l : Nat) : kt_M × Nat :=
  let μ1 := kt_si μ (p + 6) i (nI l)
  if (m >>> (nI i &&& 31)) &&& 1 = 0 then (μ1, l) else (if nI l = nI i then μ1 else kt_cpB μ1 (p + 7 + 4 * l) (p + 7 + 4 * i), l + 1)
def m_kpL (p : Nat) (m : Int32) : Nat → Nat → Nat → kt_M → kt_M × Nat
  | 0, _, l, μ => (μ, l)
  | n + 1, i, l, μ => m_kpL p m n (i + 1) (m_kp1 μ p m i l).2 (m_kp1 μ p m i l).1
theorem kt_cpB_6 {μ : kt_M} {p q : Nat} : kt_i (kt_cpB μ p q) p 6 = kt_i μ q 6 := by
  unfold kt_cpB
  rw [kt_i_sik (by decide), kt_i_sik (by decide), kt_i_sik (by decide), kt_i_sik (by decide), kt_i_sie]
set_option maxHeartbeats 4000000 in
set_option maxRecDepth 100000 in
theorem lp_total {G : kt_G} {σ : kt_Y} {X : kt_X} (hX : kt_ok G X RX4 cX4_total 5 2 0 0) (hr : kt_rt X = (some .int)) {Q : Option Value → kt_M → Prop} {p N : Nat} (hp : kt_pg σ p N) (hN : N ≤ 16) {s : Nat} (hsN : s ≤ N) {w : Int32} : ∀ (n i : Nat) (μ : kt_M) (a : Int32), i + n = s → kt_i μ p 3 = nI s → (Q (some (.int (k_totL μ p w n i a))) μ) → kt_W G X 5 4 [(0, .ref p), (1, .int w), (2, .int a), (3, .int (nI i))] [] σ μ 0 0 (kt_Z G X (kt_q σ Q) 0 0) := by
  have hp0 := hp
  obtain ⟨hk0, hr0, hr1, hr2, hk5, hk6, hkn, hbl⟩ := hp
  intro n
  induction n with
  | zero =>
    intro i μ a hin hs hQ
    have hib : i = s := by omega
    refine kr_iload_n (i := 3) hX dX4_total_4 rfl rfl ?_
    refine kr_aload_n (i := 0) hX dX4_total_5 rfl rfl ?_
    refine kr_geti (c0 := 4) (k := 3) hX ⟨_, kf_4_16⟩ dX4_total_6 rfl (by assumption) ?_
    refine kr_icmp_ge (tgt := 98) hX dX4_total_9 (by decide) (fun c_9 => ?_) (fun c_9 => ?_)
    · skip
      refine kr_iload_n (i := 2) hX dX4_total_98 rfl rfl ?_
      refine kr_iret hX hr dX4_total_99 ⟨rfl, ?_⟩
      exact hQ
    · skip
      exact absurd (by rw [hs, hib]; exact Int32.le_refl _) c_9
  | succ n ih =>
    intro i μ a hin hs hQ
    have hib : i < s := by omega
    refine kr_iload_n (i := 3) hX dX4_total_4 rfl rfl ?_
    refine kr_aload_n (i := 0) hX dX4_total_5 rfl rfl ?_
    refine kr_geti (c0 := 4) (k := 3) hX ⟨_, kf_4_16⟩ dX4_total_6 rfl (by assumption) ?_
    refine kr_icmp_ge (tgt := 98) hX dX4_total_9 (by decide) (fun c_9 => ?_) (fun c_9 => ?_)
    · skip
      exact absurd c_9 (by rw [hs]; exact nI_ge hib (by omega))
    · skip
      refine kr_aload_n (i := 0) hX dX4_total_12 rfl rfl ?_
      refine kr_iload_n (i := 3) hX dX4_total_13 rfl rfl ?_
      refine kr_dV (c1 := 4) [_] hX km_4_42 dX4_total_14 (sp_atN hp0 hN hs hsN hib) rfl rfl ⟨_, _, rfl⟩ (by decide) (Nat.le_of_ble_eq_true rfl) (Nat.le_refl _) (Nat.le_refl _) (by assumption) ?_
      refine kr_astore hX dX4_total_17 (by decide) rfl rfl ?_
      refine kr_iload_n (i := 1) hX dX4_total_19 rfl rfl ?_
      by_cases c_20_0 : w = 0
      · skip
        refine kr_tabIn (tgt := 48) (off := 28) hX dX4_total_20 (by rw [c_20_0]; decide) (by rw [c_20_0]; decide) (by rw [c_20_0]; rfl) (by decide) ?_
        refine kr_iinc hX dX4_total_48 rfl rfl (by decide) rfl rfl ?_
        refine kr_goto (tgt := 92) hX dX4_total_51 (by decide) ?_
        refine kr_iinc (v := nI (i + 1)) hX dX4_total_92 rfl (by first | exact nI_1 _ | rfl) (by decide) rfl rfl ?_
        refine kr_goto (tgt := 4) hX dX4_total_95 (by decide) ?_
        refine kr_keep [0, 1, 2, 3] rfl ?_
        refine ih (i + 1) _ _ (by omega) hs ?_
        simp only [k_totL] at hQ
        first
        | (rw [show k_tot μ (p + 7 + 4 * i) w = 1 from if_pos (by assumption)] at hQ; exact hQ)
        | (rw [show k_tot μ (p + 7 + 4 * i) w = kt_i μ (p + 7 + 4 * i) 0 from (if_neg (by assumption)).trans (if_pos (by assumption))] at hQ; exact hQ)
        | (rw [show k_tot μ (p + 7 + 4 * i) w = kt_f (kb_test (kt_i μ (p + 7 + 4 * i) 4)) from (if_neg (by assumption)).trans ((if_neg (by assumption)).trans (if_pos (by assumption)))] at hQ; simp only [kt_f_0, Classical.not_not] at c_71; first | (rw [kt_f_t c_71] at hQ; exact hQ) | (rw [kt_f_f c_71] at hQ; exact hQ))
        | (rw [show k_tot μ (p + 7 + 4 * i) w = kb_edges (kt_i μ (p + 7 + 4 * i) 4) from (if_neg (by assumption)).trans ((if_neg (by assumption)).trans (if_neg (by assumption)))] at hQ; exact hQ)
      by_cases c_20_1 : w = 1
      · skip
        refine kr_tabIn (tgt := 54) (off := 34) hX dX4_total_20 (by rw [c_20_1]; decide) (by rw [c_20_1]; decide) (by rw [c_20_1]; rfl) (by decide) ?_
        refine kr_iload_n (i := 2) hX dX4_total_54 rfl rfl ?_
        refine kr_aload hX dX4_total_55 rfl ?_
        refine kr_geti (c0 := 0) (k := 0) hX ⟨_, kf_4_61⟩ dX4_total_57 rfl (by exact (hbl i (by omega)).2.1) ?_
        refine kr_iadd hX dX4_total_60 ?_
        refine kr_istore_n (i := 2) hX dX4_total_61 rfl (by decide) rfl rfl ?_
        refine kr_goto (tgt := 92) hX dX4_total_62 (by decide) ?_
        refine kr_iinc (v := nI (i + 1)) hX dX4_total_92 rfl (by first | exact nI_1 _ | rfl) (by decide) rfl rfl ?_
        refine kr_goto (tgt := 4) hX dX4_total_95 (by decide) ?_
        refine kr_keep [0, 1, 2, 3] rfl ?_
        refine ih (i + 1) _ _ (by omega) hs ?_
        simp only [k_totL] at hQ
        first
        | (rw [show k_tot μ (p + 7 + 4 * i) w = 1 from if_pos (by assumption)] at hQ; exact hQ)
        | (rw [show k_tot μ (p + 7 + 4 * i) w = kt_i μ (p + 7 + 4 * i) 0 from (if_neg (by assumption)).trans (if_pos (by assumption))] at hQ; exact hQ)
        | (rw [show k_tot μ (p + 7 + 4 * i) w = kt_f (kb_test (kt_i μ (p + 7 + 4 * i) 4)) from (if_neg (by assumption)).trans ((if_neg (by assumption)).trans (if_pos (by assumption)))] at hQ; simp only [kt_f_0, Classical.not_not] at c_71; first | (rw [kt_f_t c_71] at hQ; exact hQ) | (rw [kt_f_f c_71] at hQ; exact hQ))
        | (rw [show k_tot μ (p + 7 + 4 * i) w = kb_edges (kt_i μ (p + 7 + 4 * i) 4) from (if_neg (by assumption)).trans ((if_neg (by assumption)).trans (if_neg (by assumption)))] at hQ; exact hQ)
      by_cases c_20_2 : w = 2
      · skip
        refine kr_tabIn (tgt := 65) (off := 45) hX dX4_total_20 (by rw [c_20_2]; decide) (by rw [c_20_2]; decide) (by rw [c_20_2]; rfl) (by decide) ?_
        refine kr_iload_n (i := 2) hX dX4_total_65 rfl rfl ?_
        refine kr_aload hX dX4_total_66 rfl ?_
        refine kr_dV (c1 := 0) [] hX km_4_64 dX4_total_68 (sp_isTest (hbl i (by omega)).2) rfl rfl ⟨_, _, rfl⟩ (by decide) (Nat.le_of_ble_eq_true rfl) (Nat.le_refl _) (Nat.le_refl _) (by exact (hbl i (by omega)).2.1) ?_
        refine kr_if_eq (tgt := 78) hX dX4_total_71 (by decide) (fun c_71 => ?_) (fun c_71 => ?_)
        · skip
          refine kr_iconst (v := 0) hX dX4_total_78 (by decide) ?_
          refine kr_iadd hX dX4_total_79 ?_
          refine kr_istore_n (i := 2) hX dX4_total_80 rfl (by decide) rfl rfl ?_
          refine kr_goto (tgt := 92) hX dX4_total_81 (by decide) ?_
          refine kr_iinc (v := nI (i + 1)) hX dX4_total_92 rfl (by first | exact nI_1 _ | rfl) (by decide) rfl rfl ?_
          refine kr_goto (tgt := 4) hX dX4_total_95 (by decide) ?_
          refine kr_keep [0, 1, 2, 3] rfl ?_
          refine ih (i + 1) _ _ (by omega) hs ?_
          simp only [k_totL] at hQ
          first
          | (rw [show k_tot μ (p + 7 + 4 * i) w = 1 from if_pos (by assumption)] at hQ; exact hQ)
          | (rw [show k_tot μ (p + 7 + 4 * i) w = kt_i μ (p + 7 + 4 * i) 0 from (if_neg (by assumption)).trans (if_pos (by assumption))] at hQ; exact hQ)
          | (rw [show k_tot μ (p + 7 + 4 * i) w = kt_f (kb_test (kt_i μ (p + 7 + 4 * i) 4)) from (if_neg (by assumption)).trans ((if_neg (by assumption)).trans (if_pos (by assumption)))] at hQ; simp only [kt_f_0, Classical.not_not] at c_71; first | (rw [kt_f_t c_71] at hQ; exact hQ) | (rw [kt_f_f c_71] at hQ; exact hQ))
          | (rw [show k_tot μ (p + 7 + 4 * i) w = kb_edges (kt_i μ (p + 7 + 4 * i) 4) from (if_neg (by assumption)).trans ((if_neg (by assumption)).trans (if_neg (by assumption)))] at hQ; exact hQ)
        · skip
          refine kr_iconst (v := 1) hX dX4_total_74 (by decide) ?_
          refine kr_goto (tgt := 79) hX dX4_total_75 (by decide) ?_
          refine kr_iadd hX dX4_total_79 ?_
          refine kr_istore_n (i := 2) hX dX4_total_80 rfl (by decide) rfl rfl ?_
          refine kr_goto (tgt := 92) hX dX4_total_81 (by decide) ?_
          refine kr_iinc (v := nI (i + 1)) hX dX4_total_92 rfl (by first | exact nI_1 _ | rfl) (by decide) rfl rfl ?_
          refine kr_goto (tgt := 4) hX dX4_total_95 (by decide) ?_
          refine kr_keep [0, 1, 2, 3] rfl ?_
          refine ih (i + 1) _ _ (by omega) hs ?_
          simp only [k_totL] at hQ
          first
          | (rw [show k_tot μ (p + 7 + 4 * i) w = 1 from if_pos (by assumption)] at hQ; exact hQ)
          | (rw [show k_tot μ (p + 7 + 4 * i) w = kt_i μ (p + 7 + 4 * i) 0 from (if_neg (by assumption)).trans (if_pos (by assumption))] at hQ; exact hQ)
          | (rw [show k_tot μ (p + 7 + 4 * i) w = kt_f (kb_test (kt_i μ (p + 7 + 4 * i) 4)) from (if_neg (by assumption)).trans ((if_neg (by assumption)).trans (if_pos (by assumption)))] at hQ; simp only [kt_f_0, Classical.not_not] at c_71; first | (rw [kt_f_t c_71] at hQ; exact hQ) | (rw [kt_f_f c_71] at hQ; exact hQ))
          | (rw [show k_tot μ (p + 7 + 4 * i) w = kb_edges (kt_i μ (p + 7 + 4 * i) 4) from (if_neg (by assumption)).trans ((if_neg (by assumption)).trans (if_neg (by assumption)))] at hQ; exact hQ)
      refine kr_tabOut (tgt := 84) hX dX4_total_20 (by have q_0 := kt_ne c_20_0 (z := 0) (by decide); have q_1 := kt_ne c_20_1 (z := 1) (by decide); have q_2 := kt_ne c_20_2 (z := 2) (by decide); omega) (by decide) ?_
      refine kr_iload_n (i := 2) hX dX4_total_84 rfl rfl ?_
      refine kr_aload hX dX4_total_85 rfl ?_
      refine kr_dV (c1 := 0) [] hX km_4_53 dX4_total_87 (sp_edges (hbl i (by omega)).2) rfl rfl ⟨_, _, rfl⟩ (by decide) (Nat.le_of_ble_eq_true rfl) (Nat.le_refl _) (Nat.le_refl _) (by exact (hbl i (by omega)).2.1) ?_
      refine kr_iadd hX dX4_total_90 ?_
      refine kr_istore_n (i := 2) hX dX4_total_91 rfl (by decide) rfl rfl ?_
      refine kr_iinc (v := nI (i + 1)) hX dX4_total_92 rfl (by first | exact nI_1 _ | rfl) (by decide) rfl rfl ?_
      refine kr_goto (tgt := 4) hX dX4_total_95 (by decide) ?_
      refine kr_keep [0, 1, 2, 3] rfl ?_
      refine ih (i + 1) _ _ (by omega) hs ?_
      simp only [k_totL] at hQ
      first
      | (rw [show k_tot μ (p + 7 + 4 * i) w = 1 from if_pos (by assumption)] at hQ; exact hQ)
      | (rw [show k_tot μ (p + 7 + 4 * i) w = kt_i μ (p + 7 + 4 * i) 0 from (if_neg (by assumption)).trans (if_pos (by assumption))] at hQ; exact hQ)
      | (rw [show k_tot μ (p + 7 + 4 * i) w = kt_f (kb_test (kt_i μ (p + 7 + 4 * i) 4)) from (if_neg (by assumption)).trans ((if_neg (by assumption)).trans (if_pos (by assumption)))] at hQ; simp only [kt_f_0, Classical.not_not] at c_71; first | (rw [kt_f_t c_71] at hQ; exact hQ) | (rw [kt_f_f c_71] at hQ; exact hQ))
      | (rw [show k_tot μ (p + 7 + 4 * i) w = kb_edges (kt_i μ (p + 7 + 4 * i) 4) from (if_neg (by assumption)).trans ((if_neg (by assumption)).trans (if_neg (by assumption)))] at hQ; exact hQ)

set_option maxHeartbeats 4000000 in
set_option maxRecDepth 100000 in
theorem sp_total {G : kt_G} {σ : kt_Y} {μ : kt_M} {p N : Nat} (hp : kt_pg σ p N) (hN : N ≤ 16) {s : Nat} (hs : kt_i μ p 3 = nI s) (hsN : s ≤ N) {w : Int32} : kt_F G yX4_total cX4_total 5 (some .int) 2 [.ref p, .int w] σ μ (fun r μ2 => r = some (.int (k_totL μ p w s 0 0)) ∧ μ2 = μ) := by
  refine kt_F.of (by decide) (Nat.le_of_ble_eq_true rfl) (fun X hX hr => ?_)
  have hp0 := hp
  obtain ⟨hk0, hr0, hr1, hr2, hk5, hk6, hkn, hbl⟩ := hp
  refine kr_iconst (v := 0) hX dX4_total_0 (by decide) ?_
  refine kr_istore_n (i := 2) hX dX4_total_1 rfl (by decide) rfl rfl ?_
  refine kr_iconst (v := 0) hX dX4_total_2 (by decide) ?_
  refine kr_istore_n (i := 3) hX dX4_total_3 rfl (by decide) rfl rfl ?_
  exact lp_total hX hr hp0 hN hsN s 0 _ 0 (by omega) hs ⟨rfl, rfl⟩

set_option maxHeartbeats 4000000 in
set_option maxRecDepth 100000 in
theorem lp_anew {G : kt_G} {σ : kt_Y} {X : kt_X} (hX : kt_ok G X RX4 cX4_aimAnew 4 2 0 0) (hr : kt_rt X = none) {Q : Option Value → kt_M → Prop} {p N : Nat} (hp : kt_pg σ p N) (hN : N ≤ 16) {s : Nat} (hsN : s ≤ N) {b : Nat} (hb : kt_blk σ b) (hbp : b ≠ p ∧ b ≠ p + 6) {e : Nat} (he : e ≤ 2) : ∀ (n i : Nat) (μ : kt_M) , i + n = e → kt_i μ p 3 = nI s → kb_edges (kt_i μ b 4) = nI e → (Q none (m_anwL p b n i μ)) → kt_W G X 4 2 [(0, .ref p), (1, .ref b), (2, .int (nI i))] [] σ μ 0 0 (kt_Z G X (kt_q σ Q) 0 0) := by
  have hp0 := hp
  obtain ⟨hk0, hr0, hr1, hr2, hk5, hk6, hkn, hbl⟩ := hp
  have hb0 := hb
  obtain ⟨qk0, qr1, qr2, qr3, qk1, qk2, qk3⟩ := hb
  intro n
  induction n with
  | zero =>
    intro i μ hin hs hE hQ
    have hib : i = e := by omega
    refine kr_iload_n (i := 2) hX dX4_aimAnew_2 rfl rfl ?_
    refine kr_aload_n (i := 1) hX dX4_aimAnew_3 rfl rfl ?_
    refine kr_dV (c1 := 0) [] hX km_4_53 dX4_aimAnew_4 (sp_edges hb0) rfl rfl ⟨_, _, rfl⟩ (by decide) (Nat.le_of_ble_eq_true rfl) (Nat.le_refl _) (Nat.le_refl _) (by assumption) ?_
    refine kr_icmp_ge (tgt := 41) hX dX4_aimAnew_7 (by decide) (fun c_7 => ?_) (fun c_7 => ?_)
    · skip
      refine kr_vret hX hr dX4_aimAnew_41 ⟨rfl, ?_⟩
      exact hQ
    · skip
      exact absurd (by rw [hE, hib]; exact Int32.le_refl _) c_7
  | succ n ih =>
    intro i μ hin hs hE hQ
    have hib : i < e := by omega
    refine kr_iload_n (i := 2) hX dX4_aimAnew_2 rfl rfl ?_
    refine kr_aload_n (i := 1) hX dX4_aimAnew_3 rfl rfl ?_
    refine kr_dV (c1 := 0) [] hX km_4_53 dX4_aimAnew_4 (sp_edges hb0) rfl rfl ⟨_, _, rfl⟩ (by decide) (Nat.le_of_ble_eq_true rfl) (Nat.le_refl _) (Nat.le_refl _) (by assumption) ?_
    refine kr_icmp_ge (tgt := 41) hX dX4_aimAnew_7 (by decide) (fun c_7 => ?_) (fun c_7 => ?_)
    · skip
      exact absurd c_7 (by rw [hE]; exact nI_ge hib (by omega))
    · skip
      refine kr_aload_n (i := 1) hX dX4_aimAnew_10 rfl rfl ?_
      refine kr_iload_n (i := 2) hX dX4_aimAnew_11 rfl rfl ?_
      refine kr_dV (c1 := 0) [_] hX km_4_57 dX4_aimAnew_12 (sp_target hb0) rfl rfl ⟨_, _, rfl⟩ (by decide) (Nat.le_of_ble_eq_true rfl) (Nat.le_refl _) (Nat.le_refl _) (by assumption) ?_
      refine kr_istore_n (i := 3) hX dX4_aimAnew_15 rfl (by decide) rfl rfl ?_
      refine kr_aload_n (i := 0) hX dX4_aimAnew_16 rfl rfl ?_
      refine kr_iload_n (i := 3) hX dX4_aimAnew_17 rfl rfl ?_
      refine kr_dV (c1 := 4) [_] hX km_4_28 dX4_aimAnew_18 (sp_has hp0 hN hs hsN) rfl rfl ⟨_, _, rfl⟩ (by decide) (Nat.le_of_ble_eq_true rfl) (Nat.le_refl _) (Nat.le_refl _) (by assumption) ?_
      refine kr_if_eq (tgt := 35) hX dX4_aimAnew_21 (by decide) (fun c_21 => ?_) (fun c_21 => ?_)
      · skip
        refine kr_iinc (v := nI (i + 1)) hX dX4_aimAnew_35 rfl (by first | exact nI_1 _ | rfl) (by decide) rfl rfl ?_
        refine kr_goto (tgt := 2) hX dX4_aimAnew_38 (by decide) ?_
        refine kr_keep [0, 1, 2] rfl ?_
        simp only [kt_f_0, Classical.not_not] at c_21
        refine ih (i + 1) _ (by omega) ?_ ?_ ?_
        · first
          | exact hs
          | (rw [kt_i_sin hbp.1.symm]; exact hs)
        · first
          | exact hE
          | (rw [kt_i_sik (by split <;> decide)]; exact hE)
        · simp only [m_anwL, m_an1] at hQ
          first
          | (rw [if_pos c_21] at hQ; exact hQ)
          | (rw [if_neg c_21] at hQ; exact hQ)
      · skip
        refine kr_aload_n (i := 1) hX dX4_aimAnew_24 rfl rfl ?_
        refine kr_iload_n (i := 2) hX dX4_aimAnew_25 rfl rfl ?_
        refine kr_aload_n (i := 0) hX dX4_aimAnew_26 rfl rfl ?_
        refine kr_getr (c0 := 4) (k := 1) hX ⟨_, kf_4_24⟩ dX4_aimAnew_27 rfl (by assumption) (by assumption) ?_
        refine kr_iload_n (i := 3) hX dX4_aimAnew_30 rfl rfl ?_
        refine kr_iald hX dX4_aimAnew_31 (by assumption) (by obtain ⟨j, hj, ej⟩ := k_hs_nI hs (by omega) (by simp only [kt_f_0, Classical.not_not] at c_21; exact c_21); rw [ej]; exact vp_in_nI (by omega) (by omega)) ?_
        refine kr_dV (c1 := 0) [_, _] hX km_4_70 dX4_aimAnew_32 (sp_aim hb0) rfl rfl ⟨_, _, rfl⟩ (by decide) (Nat.le_of_ble_eq_true rfl) (Nat.le_refl _) (Nat.le_refl _) (by assumption) ?_
        refine kr_iinc (v := nI (i + 1)) hX dX4_aimAnew_35 rfl (by first | exact nI_1 _ | rfl) (by decide) rfl rfl ?_
        refine kr_goto (tgt := 2) hX dX4_aimAnew_38 (by decide) ?_
        refine kr_keep [0, 1, 2] rfl ?_
        simp only [kt_f_0, Classical.not_not] at c_21
        refine ih (i + 1) _ (by omega) ?_ ?_ ?_
        · first
          | exact hs
          | (rw [kt_i_sin hbp.1.symm]; exact hs)
        · first
          | exact hE
          | (rw [kt_i_sik (by split <;> decide)]; exact hE)
        · simp only [m_anwL, m_an1] at hQ
          first
          | (rw [if_pos c_21] at hQ; exact hQ)
          | (rw [if_neg c_21] at hQ; exact hQ)

set_option maxHeartbeats 4000000 in
set_option maxRecDepth 100000 in
theorem sp_anew {G : kt_G} {σ : kt_Y} {μ : kt_M} {p N : Nat} (hp : kt_pg σ p N) (hN : N ≤ 16) {s : Nat} (hs : kt_i μ p 3 = nI s) (hsN : s ≤ N) {b : Nat} (hb : kt_blk σ b) (hbp : b ≠ p ∧ b ≠ p + 6) : kt_F G yX4_aimAnew cX4_aimAnew 4 none 2 [.ref p, .ref b] σ μ (fun r μ2 => r = none ∧ μ2 = m_anew μ p b) := by
  refine kt_F.of (by decide) (Nat.le_of_ble_eq_true rfl) (fun X hX hr => ?_)
  have hp0 := hp
  obtain ⟨hk0, hr0, hr1, hr2, hk5, hk6, hkn, hbl⟩ := hp
  refine kr_iconst (v := 0) hX dX4_aimAnew_0 (by decide) ?_
  refine kr_istore_n (i := 2) hX dX4_aimAnew_1 rfl (by decide) rfl rfl ?_
  exact lp_anew hX hr hp0 hN hsN hb hbp (k_ne_eq μ b).1 (k_ne μ b) 0 _ (by omega) hs (k_ne_eq μ b).2 ⟨rfl, rfl⟩


theorem b_tgt_out {μ : kt_M} {p k x j : Nat} {s : Int32} (h : x ≠ p ∧ x ≠ k) : kt_i (b_tgt μ p k s).2 x j = kt_i μ x j := by
  show kt_i (kt_si _ k _ _) x j = _
  rw [kt_i_sin h.2, a_num_out h.1]
theorem b_test4_out {μ : kt_M} {p k x j : Nat} (h : x ≠ p ∧ x ≠ k) : kt_i (b_test4 μ p k).2 x j = kt_i μ x j := by
  unfold b_test4; dsimp only
  rw [kt_i_sin h.2]
  split
  · exact a_num_out h.1
  · exact a_var_out h.1
theorem b_test3_out {μ : kt_M} {p k x j : Nat} {c : Int32} (h : x ≠ p ∧ x ≠ k) : kt_i (b_test3 μ p k c).2 x j = kt_i μ x j := by
  unfold b_test3; dsimp only
  by_cases h1 : (a_sgn μ p c).1 = 0
  · rw [if_pos h1]; exact a_sgn_out h.1
  · rw [if_neg h1, b_test4_out h, kt_i_sin h.2, a_sgn_out h.1]
theorem b_test_out {μ : kt_M} {p k x j : Nat} (h : x ≠ p ∧ x ≠ k) : kt_i (b_test μ p k).2 x j = kt_i μ x j := by
  unfold b_test; dsimp only
  by_cases h2 : 0 ≤ (a_var μ p).1
  · rw [if_pos h2]; unfold b_test2; dsimp only; rw [b_test3_out h, kt_i_sin h.2, kt_i_sin h.2, a_var_out h.1]
  · rw [if_neg h2, kt_i_sin h.2, a_var_out h.1]
theorem q_tgt_out {μ : kt_M} {p k x j : Nat} {s : Int32} (h : x ≠ p ∧ x ≠ k) : kt_i (q_tgt μ p k s).2 x j = kt_i μ x j := by unfold q_tgt; rw [kt_seal_eq]; exact b_tgt_out h
theorem q_test_out {μ : kt_M} {p k x j : Nat} (h : x ≠ p ∧ x ≠ k) : kt_i (q_test μ p k).2 x j = kt_i μ x j := by unfold q_test; rw [kt_seal_eq]; exact b_test_out h
theorem a_adv_out {μ : kt_M} {p x j : Nat} (h : x ≠ p) : kt_i (a_adv μ p).2 x j = kt_i μ x j := by rw [a_adv_2]; exact a_mem_out h
theorem b_and_out {a : Int32 × kt_M} {f : kt_M → Int32 × kt_M} {μ : kt_M} {x j : Nat} (h : kt_i a.2 x j = kt_i μ x j) (hf : kt_i (f a.2).2 x j = kt_i μ x j) : kt_i (b_and a f).2 x j = kt_i μ x j := by
  unfold b_and; split
  · exact h
  · exact hf
theorem b_end_out {μ : kt_M} {p k x j : Nat} (h : x ≠ p ∧ x ≠ k) : kt_i (b_end μ p k).2 x j = kt_i μ x j := by
  unfold b_end
  split
  · rw [a_adv_out h.1, kt_i_sin h.2]
  · split
    · exact b_and_out (by rw [a_adv_out h.1, kt_i_sin h.2]) (by rw [q_tgt_out h, a_adv_out h.1, kt_i_sin h.2])
    · split
      · refine b_and_out (by rw [a_adv_out h.1]) ?_
        refine b_and_out (by rw [q_test_out h, a_adv_out h.1]) ?_
        exact b_and_out (by rw [q_tgt_out h, q_test_out h, a_adv_out h.1]) (by rw [q_tgt_out h, q_tgt_out h, q_test_out h, a_adv_out h.1])
      · exact m_fail_out h.1
theorem q_end_out {μ : kt_M} {p k x j : Nat} (h : x ≠ p ∧ x ≠ k) : kt_i (q_end μ p k).2 x j = kt_i μ x j := by unfold q_end; rw [kt_seal_eq]; exact b_end_out h
theorem q_sgn_out {μ : kt_M} {p x j : Nat} {c : Int32} (h : x ≠ p) : kt_i (q_sgn μ p c).2 x j = kt_i μ x j := by unfold q_sgn; rw [kt_seal_eq]; exact a_sgn_out h
theorem b_last_out {μ : kt_M} {p k x j : Nat} (h : x ≠ p ∧ x ≠ k) : kt_i (b_last μ p k).2 x j = kt_i μ x j := b_and_out (q_end_out h) (by rw [q_sgn_out h.1, q_end_out h])
theorem m_add_out {μ : kt_M} {k x j : Nat} {a b c : Int32} (h : x < k ∨ k + 4 ≤ x) : kt_i (m_add μ k a b c) x j = kt_i μ x j := by
  unfold m_add; rw [kt_i_sin (by omega), kt_i_sin (by omega), kt_i_sin (by omega), kt_i_sin (by omega)]
theorem b_act_out {μ : kt_M} {p k x j : Nat} {a : Int32} (h : x ≠ p ∧ (x < k ∨ k + 4 ≤ x)) : kt_i (b_act μ p k a).2 x j = kt_i μ x j := by
  unfold b_act; split
  · exact a_adv_out h.1
  · unfold b_act2; split
    · unfold b_act3; split
      · rw [m_add_out h.2, b_opn_out h.1, q_var_out h.1, a_adv_out h.1]
      · rw [b_opn_out h.1, q_var_out h.1, a_adv_out h.1]
    · rw [q_var_out h.1, a_adv_out h.1]
theorem q_bact_out {μ : kt_M} {p k x j : Nat} {a : Int32} (h : x ≠ p ∧ (x < k ∨ k + 4 ≤ x)) : kt_i (q_bact μ p k a).2 x j = kt_i μ x j := by unfold q_bact; rw [kt_seal_eq]; exact b_act_out h
theorem b_blkL_out {p k x j : Nat} (h : x ≠ p ∧ (x < k ∨ k + 4 ≤ x)) : ∀ (n : Nat) (μ : kt_M), kt_i (b_blkL p k n μ).2 x j = kt_i μ x j
  | 0, μ => by
    rw [b_blkL]; split
    · exact b_last_out ⟨h.1, by omega⟩
    · exact m_fail_out h.1
  | n + 1, μ => by
    rw [b_blkL]; split
    · split
      · exact q_bact_out h
      · rw [b_blkL_out h n, q_bact_out h]
    · exact b_last_out ⟨h.1, by omega⟩
theorem b_blkL_ok {p k L : Nat} (hk : k + 4 ≤ p ∨ p + 2 ≤ k) : ∀ (n : Nat) (μ : kt_M), k_rdok μ p L → k_rdok (b_blkL p k n μ).2 p L
  | 0, μ, h => by
    rw [b_blkL]; split
    · exact h.last (by omega)
    · exact h.fail
  | n + 1, μ, h => by
    rw [b_blkL]; split
    · split
      · exact h.qact hk
      · exact b_blkL_ok hk n _ (h.qact hk)
    · exact h.last (by omega)
noncomputable def q_blk (μ : kt_M) (p k : Nat) : Int32 × kt_M := kt_seal (b_blkL p k 4 μ)
theorem q_blk_out {μ : kt_M} {p k x j : Nat} (h : x ≠ p ∧ (x < k ∨ k + 4 ≤ x)) : kt_i (q_blk μ p k).2 x j = kt_i μ x j := by unfold q_blk; rw [kt_seal_eq]; exact b_blkL_out h _ _
theorem q_blk_ok {μ : kt_M} {p k L : Nat} (hk : k + 4 ≤ p ∨ p + 2 ≤ k) (h : k_rdok μ p L) : k_rdok (q_blk μ p k).2 p L := by unfold q_blk; rw [kt_seal_eq]; exact b_blkL_ok hk _ _ h
noncomputable def p_fin (μ : kt_M) (p q s : Nat) : Int32 × kt_M := if kt_i μ p 4 = 0 then (if k_nmL μ q s 0 = true then (1, μ) else (0, m_fail μ p 6)) else (0, m_fail μ p (if kt_i μ p 4 = 1 then 5 else 2))
def p_grw (μ : kt_M) (q i : Nat) : kt_M := kt_si (m_wipe μ (q + 7 + 4 * i)) q 3 (nI (i + 1))
noncomputable def p_prL (p q : Nat) : Nat → Nat → kt_M → Int32 × kt_M
  | 0, i, μ => p_fin μ p q i
  | n + 1, i, μ => if kt_i μ p 4 = 0 then p_fin μ p q i else if (q_blk (p_grw μ q i) p (q + 7 + 4 * i)).1 = 0 then (0, (q_blk (p_grw μ q i) p (q + 7 + 4 * i)).2) else p_prL p q n (i + 1) (q_blk (p_grw μ q i) p (q + 7 + 4 * i)).2
def p_ini (μ : kt_M) (p q : Nat) : kt_M := kt_si (kt_si (kt_si μ q 3 0) p 2 0) p 6 0
noncomputable def p_prs (μ : kt_M) (p q : Nat) : Int32 × kt_M := if (a_adv (p_ini μ p q) p).1 = 0 then (0, (a_adv (p_ini μ p q) p).2) else p_prL p q 8 0 (a_adv (p_ini μ p q) p).2
theorem k_rdok.adv0 {μ : kt_M} {p L a : Nat} (hL : kt_i μ p 1 = nI L) (hL2 : L ≤ 200) (ha : kt_i μ p 6 = nI a) (haL : a ≤ L) : k_rdok (a_adv μ p).2 p L := by
  rw [a_adv_2]
  have ea : a_tok μ p = k_tok (k_T μ p) L a := by unfold a_tok; rw [hL, ha, nI_clamp (by omega), nI_clamp (by omega)]
  have hle := k_tok_le (k_T μ p) L a haL
  have h1 : k_rdok (m_tk μ p (a_tok μ p).1 (a_tok μ p).2.1 (a_tok μ p).2.2.1) p L := ⟨by rw [m_tk_k (by decide)]; exact hL, hL2, _, _, m_tk_5, m_tk_6, by rw [ea]; exact hle⟩
  unfold a_mem
  dsimp only
  split
  · exact h1
  · exact h1.fail
theorem m_wipe_out {μ : kt_M} {k x j : Nat} (h : x ≠ k) : kt_i (m_wipe μ k) x j = kt_i μ x j := by
  unfold m_wipe; (repeat (rw [kt_i_sin h]))
theorem m_wipe_0 {μ : kt_M} {k : Nat} : kt_i (m_wipe μ k) k 0 = 0 := by
  unfold m_wipe; (repeat (rw [kt_i_sik (by decide)])); exact kt_i_sie
theorem p_grw_out {μ : kt_M} {q i x j : Nat} (h : x ≠ q ∧ x ≠ q + 7 + 4 * i) : kt_i (p_grw μ q i) x j = kt_i μ x j := by unfold p_grw; rw [kt_i_sin h.1, m_wipe_out h.2]
theorem sp_pblkS {G : kt_G} {σ : kt_Y} {μ : kt_M} {p : Nat} (hp : kt_rd σ p) {L : Nat} (ho : k_rdok μ p L) {k : Nat} (hb : kt_blk σ k) (hkp : k + 4 ≤ p ∨ p + 2 ≤ k) (hA : kt_i μ k 0 = 0) : kt_F G yX6_parseBlock cX6_parseBlock 4 (some .boolean) 6 [.ref p, .ref k] σ μ (fun r μ2 => r = some (.int (q_blk μ p k).1) ∧ μ2 = (q_blk μ p k).2) := by
  unfold q_blk
  rw [kt_seal_eq]
  exact sp_pblk hp ho hb hkp hA
set_option maxHeartbeats 4000000 in
set_option maxRecDepth 100000 in
theorem lp_pfin {G : kt_G} {σ : kt_Y} {X : kt_X} (hX : kt_ok G X RX6 cX6_parse 3 7 0 0) (hr : kt_rt X = (some .boolean)) {Q : Option Value → kt_M → Prop} {μ : kt_M} {p : Nat} (hp : kt_rd σ p) {q : Nat} (hq : kt_pg σ q 8) (hsep : q + 39 ≤ p ∨ p + 2 ≤ q) {s : Nat} (hs : kt_i μ q 3 = nI s) (hsN : s ≤ 8) {z : Int32} (hQ : Q (some (.int (p_fin μ p q s).1)) (p_fin μ p q s).2) : kt_W G X 3 58 [(0, .ref p), (1, .ref q), (2, .int z)] [] σ μ 0 0 (kt_Z G X (kt_q σ Q) 0 0) := by
  have hp0 := hp
  obtain ⟨hk0, hr0, hk1⟩ := hp
  have hq0 := hq
  obtain ⟨gk0, gr0, gr1, gr2, gk5, gk6, gkn, gbl⟩ := hq
  refine kr_aload_n (i := 0) hX dX6_parse_58 rfl rfl ?_
  refine kr_geti (c0 := 6) (k := 4) hX ⟨_, kf_6_25⟩ dX6_parse_59 rfl (by assumption) ?_
  refine kr_if_eq (tgt := 83) hX dX6_parse_62 (by decide) (fun c_62 => ?_) (fun c_62 => ?_)
  · skip
    refine kr_aload_n (i := 1) hX dX6_parse_83 rfl rfl ?_
    refine kr_dV (c1 := 4) [] hX km_6_55 dX6_parse_84 (sp_names hq0 (by decide) hs hsN) rfl rfl ⟨_, _, rfl⟩ (by decide) (Nat.le_of_ble_eq_true rfl) (Nat.le_refl _) (Nat.le_refl _) (by exact gk0) ?_
    refine kr_if_ne (tgt := 99) hX dX6_parse_87 (by decide) (fun c_87 => ?_) (fun c_87 => ?_)
    · skip
      refine kr_iconst (v := 1) hX dX6_parse_99 (by decide) ?_
      refine kr_goto (tgt := 104) hX dX6_parse_100 (by decide) ?_
      refine kr_zret hX hr (by first | exact Or.inl rfl | exact Or.inr rfl | assumption) dX6_parse_104 ⟨rfl, ?_⟩
      unfold p_fin at hQ
      rw [if_pos c_62] at hQ
      simp only [kt_f_0, Classical.not_not] at c_87
      rw [if_pos c_87] at hQ
      exact hQ
    · skip
      refine kr_aload_n (i := 0) hX dX6_parse_90 rfl rfl ?_
      refine kr_bipush (v := 6) hX dX6_parse_91 (by decide) ?_
      refine kr_dV (c1 := 6) [_] hX km_6_51 dX6_parse_93 (sp_fail hp0) rfl rfl ⟨_, _, rfl⟩ (by decide) (Nat.le_of_ble_eq_true rfl) (Nat.le_refl _) (Nat.le_refl _) (by assumption) ?_
      refine kr_if_eq (tgt := 103) hX dX6_parse_96 (by decide) (fun c_96 => ?_) (fun c_96 => ?_)
      · skip
        refine kr_iconst (v := 0) hX dX6_parse_103 (by decide) ?_
        refine kr_zret hX hr (by first | exact Or.inl rfl | exact Or.inr rfl | assumption) dX6_parse_104 ⟨rfl, ?_⟩
        unfold p_fin at hQ
        rw [if_pos c_62] at hQ
        simp only [kt_f_0, Classical.not_not] at c_87
        rw [if_neg c_87] at hQ
        exact hQ
      · skip
        refine kr_iconst (v := 1) hX dX6_parse_99 (by decide) ?_
        refine kr_goto (tgt := 104) hX dX6_parse_100 (by decide) ?_
        refine kr_zret hX hr (by first | exact Or.inl rfl | exact Or.inr rfl | assumption) dX6_parse_104 ⟨rfl, ?_⟩
        unfold p_fin at hQ
        rw [if_pos c_62] at hQ
        simp only [kt_f_0, Classical.not_not] at c_87
        rw [if_neg c_87] at hQ
        exact absurd rfl c_96
  · skip
    refine kr_aload_n (i := 0) hX dX6_parse_65 rfl rfl ?_
    refine kr_aload_n (i := 0) hX dX6_parse_66 rfl rfl ?_
    refine kr_geti (c0 := 6) (k := 4) hX ⟨_, kf_6_25⟩ dX6_parse_67 rfl (by assumption) ?_
    refine kr_iconst (v := 1) hX dX6_parse_70 (by decide) ?_
    refine kr_icmp_ne (tgt := 78) hX dX6_parse_71 (by decide) (fun c_71 => ?_) (fun c_71 => ?_)
    · skip
      refine kr_iconst (v := 2) hX dX6_parse_78 (by decide) ?_
      refine kr_dV (c1 := 6) [_] hX km_6_51 dX6_parse_79 (sp_fail hp0) rfl rfl ⟨_, _, rfl⟩ (by decide) (Nat.le_of_ble_eq_true rfl) (Nat.le_refl _) (Nat.le_refl _) (by assumption) ?_
      refine kr_zret hX hr (by first | exact Or.inl rfl | exact Or.inr rfl | assumption) dX6_parse_82 ⟨rfl, ?_⟩
      unfold p_fin at hQ
      rw [if_neg c_62] at hQ
      rw [if_neg c_71] at hQ
      exact hQ
    · skip
      refine kr_iconst (v := 5) hX dX6_parse_74 (by decide) ?_
      refine kr_goto (tgt := 79) hX dX6_parse_75 (by decide) ?_
      refine kr_dV (c1 := 6) [_] hX km_6_51 dX6_parse_79 (sp_fail hp0) rfl rfl ⟨_, _, rfl⟩ (by decide) (Nat.le_of_ble_eq_true rfl) (Nat.le_refl _) (Nat.le_refl _) (by assumption) ?_
      refine kr_zret hX hr (by first | exact Or.inl rfl | exact Or.inr rfl | assumption) dX6_parse_82 ⟨rfl, ?_⟩
      unfold p_fin at hQ
      rw [if_neg c_62] at hQ
      rw [if_pos c_71] at hQ
      exact hQ
set_option maxHeartbeats 4000000 in
set_option maxRecDepth 100000 in
theorem lp_parse {G : kt_G} {σ : kt_Y} {X : kt_X} (hX : kt_ok G X RX6 cX6_parse 3 7 0 0) (hr : kt_rt X = (some .boolean)) {Q : Option Value → kt_M → Prop} {p : Nat} (hp : kt_rd σ p) {L : Nat} {q : Nat} (hq : kt_pg σ q 8) (hsep : q + 39 ≤ p ∨ p + 2 ≤ q) : ∀ (n i : Nat) (μ : kt_M) , i + n = 8 → k_rdok μ p L → kt_i μ q 3 = nI i → (Q (some (.int (p_prL p q n i μ).1)) (p_prL p q n i μ).2) → kt_W G X 3 26 [(0, .ref p), (1, .ref q), (2, .int (nI i))] [] σ μ 0 0 (kt_Z G X (kt_q σ Q) 0 0) := by
  have hp0 := hp
  obtain ⟨hk0, hr0, hk1⟩ := hp
  have hq0 := hq
  obtain ⟨gk0, gr0, gr1, gr2, gk5, gk6, gkn, gbl⟩ := hq
  intro n
  induction n with
  | zero =>
    intro i μ hin ho hs hQ
    have hib : i = 8 := by omega
    refine kr_iload_n (i := 2) hX dX6_parse_26 rfl rfl ?_
    refine kr_bipush (v := 8) hX dX6_parse_27 (by decide) ?_
    refine kr_icmp_ge (tgt := 58) hX dX6_parse_29 (by decide) (fun c_29 => ?_) (fun c_29 => ?_)
    · skip
      exact lp_pfin hX hr hp0 hq0 hsep hs (by omega) hQ
    · skip
      exact absurd (by rw [hib]; decide) c_29
  | succ n ih =>
    intro i μ hin ho hs hQ
    have hib : i < 8 := by omega
    refine kr_iload_n (i := 2) hX dX6_parse_26 rfl rfl ?_
    refine kr_bipush (v := 8) hX dX6_parse_27 (by decide) ?_
    refine kr_icmp_ge (tgt := 58) hX dX6_parse_29 (by decide) (fun c_29 => ?_) (fun c_29 => ?_)
    · skip
      exact absurd c_29 (kt_ge (b := 8) rfl hib (by decide))
    · skip
      have hog : k_rdok (p_grw μ q i) p L := ho.keep (p_grw_out (by omega)) (p_grw_out (by omega)) (p_grw_out (by omega))
      have hA : kt_i (p_grw μ q i) (q + 7 + 4 * i) 0 = 0 := by unfold p_grw; rw [kt_i_sin (by omega)]; exact m_wipe_0
      refine kr_aload_n (i := 0) hX dX6_parse_32 rfl rfl ?_
      refine kr_geti (c0 := 6) (k := 4) hX ⟨_, kf_6_25⟩ dX6_parse_33 rfl (by assumption) ?_
      refine kr_if_eq (tgt := 58) hX dX6_parse_36 (by decide) (fun c_36 => ?_) (fun c_36 => ?_)
      · skip
        rw [p_prL, if_pos c_36] at hQ
        exact lp_pfin hX hr hp0 hq0 hsep hs (by omega) hQ
      · skip
        refine kr_aload_n (i := 0) hX dX6_parse_39 rfl rfl ?_
        refine kr_aload_n (i := 1) hX dX6_parse_40 rfl rfl ?_
        refine kr_dV (c1 := 4) [] hX km_6_43 dX6_parse_41 (sp_grow hq0 (by decide) hs hib) rfl rfl ⟨_, _, rfl⟩ (by decide) (Nat.le_of_ble_eq_true rfl) (Nat.le_refl _) (Nat.le_refl _) (by exact gk0) ?_
        refine kr_dV (c1 := 6) [_] hX km_6_47 dX6_parse_44 (sp_pblkS hp0 hog (gbl i hib).2 (by omega) hA) rfl rfl ⟨_, _, rfl⟩ (by decide) (Nat.le_of_ble_eq_true rfl) (Nat.le_refl _) (Nat.le_refl _) (by assumption) ?_
        refine kr_if_ne (tgt := 52) hX dX6_parse_47 (by decide) (fun c_47 => ?_) (fun c_47 => ?_)
        · skip
          refine kr_iinc (v := nI (i + 1)) hX dX6_parse_52 rfl (by first | exact nI_1 _ | rfl) (by decide) rfl rfl ?_
          refine kr_goto (tgt := 26) hX dX6_parse_55 (by decide) ?_
          rw [p_prL, if_neg c_36, if_neg c_47] at hQ
          refine ih (i + 1) _ (by omega) (q_blk_ok (by omega) hog) ?_ hQ
          rw [q_blk_out (by omega)]; unfold p_grw; rw [kt_i_sie]
        · skip
          refine kr_iconst (v := 0) hX dX6_parse_50 (by decide) ?_
          refine kr_zret hX hr (by first | exact Or.inl rfl | exact Or.inr rfl | assumption) dX6_parse_51 ⟨rfl, ?_⟩
          rw [p_prL, if_neg c_36, if_pos c_47] at hQ
          exact hQ

set_option maxHeartbeats 4000000 in
set_option maxRecDepth 100000 in
theorem sp_parse {G : kt_G} {σ : kt_Y} {μ : kt_M} {p : Nat} (hp : kt_rd σ p) {q : Nat} (hq : kt_pg σ q 8) (hsep : q + 39 ≤ p ∨ p + 2 ≤ q) {L : Nat} (hL : kt_i μ p 1 = nI L) (hL2 : L ≤ 200) : kt_F G yX6_parse cX6_parse 3 (some .boolean) 7 [.ref p, .ref q] σ μ (fun r μ2 => r = some (.int (p_prs μ p q).1) ∧ μ2 = (p_prs μ p q).2) := by
  refine kt_F.of (by decide) (Nat.le_of_ble_eq_true rfl) (fun X hX hr => ?_)
  have hp0 := hp
  obtain ⟨hk0, hr0, hk1⟩ := hp
  have hq0 := hq
  obtain ⟨gk0, gr0, gr1, gr2, gk5, gk6, gkn, gbl⟩ := hq
  have h1 : kt_i (p_ini μ p q) p 1 = nI L := by unfold p_ini; rw [kt_i_sik (by decide), kt_i_sik (by decide), kt_i_sin (by omega)]; exact hL
  have h6 : kt_i (p_ini μ p q) p 6 = nI 0 := by unfold p_ini; rw [kt_i_sie]; rfl
  refine kr_aload_n (i := 1) hX dX6_parse_0 rfl rfl ?_
  refine kr_iconst (v := 0) hX dX6_parse_1 (by decide) ?_
  refine kr_puti (c0 := 4) (k := 3) hX kf_6_34 dX6_parse_2 rfl rfl rfl (by assumption) ?_
  refine kr_aload_n (i := 0) hX dX6_parse_5 rfl rfl ?_
  refine kr_iconst (v := 0) hX dX6_parse_6 (by decide) ?_
  refine kr_puti (c0 := 6) (k := 2) hX kf_6_19 dX6_parse_7 rfl rfl rfl (by assumption) ?_
  refine kr_aload_n (i := 0) hX dX6_parse_10 rfl rfl ?_
  refine kr_iconst (v := 0) hX dX6_parse_11 (by decide) ?_
  refine kr_puti (c0 := 6) (k := 6) hX kf_6_31 dX6_parse_12 rfl rfl rfl (by assumption) ?_
  refine kr_mu (μ' := p_ini μ p q) rfl ?_
  refine kr_aload_n (i := 0) hX dX6_parse_15 rfl rfl ?_
  refine kr_dV (c1 := 6) [] hX km_6_39 dX6_parse_16 (sp_advS hp0 h1 hL2 h6 (by omega)) rfl rfl ⟨_, _, rfl⟩ (by decide) (Nat.le_of_ble_eq_true rfl) (Nat.le_refl _) (Nat.le_refl _) (by assumption) ?_
  refine kr_if_ne (tgt := 24) hX dX6_parse_19 (by decide) (fun c_19 => ?_) (fun c_19 => ?_)
  · skip
    refine kr_iconst (v := 0) hX dX6_parse_24 (by decide) ?_
    refine kr_istore_n (i := 2) hX dX6_parse_25 rfl (by decide) rfl rfl ?_
    refine lp_parse hX hr hp0 hq0 hsep 8 0 _ (by omega) (k_rdok.adv0 h1 hL2 h6 (by omega)) (by rw [a_adv_out (by omega)]; unfold p_ini; rw [kt_i_sin (by omega), kt_i_sin (by omega), kt_i_sie]; rfl) ?_
    unfold p_prs
    rw [if_neg c_19]
    exact ⟨rfl, rfl⟩
  · skip
    refine kr_iconst (v := 0) hX dX6_parse_22 (by decide) ?_
    refine kr_zret hX hr (by first | exact Or.inl rfl | exact Or.inr rfl | assumption) dX6_parse_23 ⟨rfl, ?_⟩
    unfold p_prs
    rw [if_pos c_19]
    exact ⟨rfl, rfl⟩


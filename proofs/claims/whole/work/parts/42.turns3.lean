theorem ut_chf {σ : kt_Y} {μ : kt_M} {o s0 s1 : Nat} (hor : kt_pg σ (o + 42) 8) (hcu : kt_pg σ (o + 81) 16) (hg : kp μ (o + 42) 8 s0) (hc : kp μ (o + 81) 16 s1) (a : Int32) : ∃ N t : Nat, kt_pg σ (ut_ch o a) N ∧ N ≤ 16 ∧ kp μ (ut_ch o a) N t ∧ o + 42 ≤ ut_ch o a ∧ ut_ch o a + 7 + 4 * N ≤ o + 152 := by
  unfold ut_ch
  split
  · exact ⟨8, s0, hor, by decide, hg, by omega, by omega⟩
  · exact ⟨16, s1, hcu, by decide, hc, by omega, by omega⟩
def ut_bw (μ : kt_M) (k : Nat) (w : Int32) : Int32 :=
  if w = 0 then kt_i μ k 0 else if w = 1 then kt_i μ k 4 else if w = 2 then (if (0 : Int32) ≤ 0 ∧ 0 < kb_edges (kt_i μ k 4) then kt_i μ k 8 else -4) else if w = 3 then (if (0 : Int32) ≤ 1 ∧ 1 < kb_edges (kt_i μ k 4) then kt_i μ k 9 else -4)
  else if w = 7 then kt_i μ k 10 else if kb_test (kt_i μ k 4) then (if w = 4 then kt_i μ k 5 else if w = 5 then kt_i μ k 6 else kt_i μ k 7) else -4
def ut_block (μ : kt_M) (o : Nat) (a b w : Int32) : Int32 := if k_wi a 1 ∧ k_wi w 7 ∧ k_hs μ (ut_ch o a) b then ut_bw μ (k_at μ (ut_ch o a) b) w else -1
def ut_av (μ : kt_M) (k : Nat) (i w : Int32) : Int32 := if i < 0 ∨ kt_i μ k 0 ≤ i then -4 else if w = 0 then kt_i μ (k + 1) i.toNatClampNeg else if w = 1 then kt_i μ (k + 2) i.toNatClampNeg else if kt_i μ (k + 1) i.toNatClampNeg = 4 ∨ kt_i μ (k + 1) i.toNatClampNeg = 5 then -4 else kt_i μ (k + 3) i.toNatClampNeg
def ut_act (μ : kt_M) (o : Nat) (a b i w : Int32) : Int32 := if k_wi a 1 ∧ k_wi w 2 ∧ k_hs μ (ut_ch o a) b ∧ 0 ≤ i then ut_av μ (k_at μ (ut_ch o a) b) i w else -1
theorem k_riv_at {μ : kt_M} {q N s : Nat} (h : kp μ q N s) (hN : N ≤ 16) {b : Int32} (hb : k_hs μ q b) : kt_i μ (k_at μ q b) 6 = 0 ∨ kt_i μ (k_at μ q b) 6 = 1 := by
  obtain ⟨j, hj, e⟩ := k_hs_nI h.1 (by have := h.2.1; omega) hb
  rw [e, k_at_nI h.1 (by have := h.2.1; omega) hj]
  exact h.2.2.2 j hj
theorem k_ac4 {μ : kt_M} {q N s : Nat} (h : kp μ q N s) (b : Int32) : kt_i μ (k_at μ q b) 0 ≤ 4 := by
  obtain ⟨m, hm, e⟩ := h.2.2.1 b
  rw [e]; exact nI_le (b := 4) hm (by decide)
theorem r_end_8 {μ : kt_M} {p b : Nat} (h : kt_i μ p 8 = 0 ∨ kt_i μ p 8 = 1) : kt_i (r_end μ p b).2 p 8 = 0 ∨ kt_i (r_end μ p b).2 p 8 = 1 := by
  unfold r_end; split
  · show kt_i (kt_si μ p 5 _) p 8 = 0 ∨ kt_i (kt_si μ p 5 _) p 8 = 1
    rw [kt_i_sik (by decide)]; exact h
  · show kt_i (kt_si μ p 8 _) p 8 = 0 ∨ kt_i (kt_si μ p 8 _) p 8 = 1
    rw [kt_i_sie]; split
    · exact Or.inr rfl
    · exact Or.inl rfl
theorem r_flL_8 {p q a : Nat} : ∀ (n : Nat) (b : Int32) (μ : kt_M), (kt_i μ p 8 = 0 ∨ kt_i μ p 8 = 1) → kt_i (r_flL p q a n b μ) p 8 = 0 ∨ kt_i (r_flL p q a n b μ) p 8 = 1
  | 0, _, _, h => h
  | n + 1, b, μ, h => by
    rw [r_flL]; split
    · refine r_flL_8 n _ _ (r_end_8 ?_)
      rw [r_actsL_p (by decide)]; unfold r_ent; rw [kt_i_sik (by decide), kt_i_sin (by omega)]; exact h
    · exact h
noncomputable def q_fol (μ : kt_M) (p q a : Nat) : kt_M := kt_seal (r_fol μ p q a)
theorem q_fol_8 {μ : kt_M} {p q a : Nat} : kt_i (q_fol μ p q a) p 8 = 0 ∨ kt_i (q_fol μ p q a) p 8 = 1 := by
  unfold q_fol r_fol
  rw [kt_seal_eq]
  refine r_flL_8 _ _ _ ?_
  rw [kt_i_sie]; split
  · exact Or.inr rfl
  · exact Or.inl rfl
theorem r_flL_out {p q a x k : Nat} (h : x < p ∨ p + 4 ≤ x) : ∀ (n : Nat) (b : Int32) (μ : kt_M), kt_i (r_flL p q a n b μ) x k = kt_i μ x k
  | 0, _, _ => rfl
  | n + 1, b, μ => by
    rw [r_flL]; split
    · rw [r_flL_out h n]; unfold r_step; rw [r_end_out (by omega), r_actsL_out (by omega)]; unfold r_ent; rw [kt_i_sin (by omega), kt_i_sin (by omega)]
    · rfl
theorem q_fol_out {μ : kt_M} {p q a x k : Nat} (h : x < p ∨ p + 4 ≤ x) : kt_i (q_fol μ p q a) x k = kt_i μ x k := by
  unfold q_fol r_fol
  rw [kt_seal_eq, r_flL_out h, kt_i_sin (by omega)]
  unfold r_start
  repeat (rw [kt_i_sin (by omega)])
def ut_rp (μ : kt_M) (p : Nat) (w : Int32) : Int32 := if w = 0 then kt_i μ p 3 else if w = 1 then kt_i μ p 4 else if w = 2 then kt_i μ p 5 else if w = 3 then kt_i μ p 6 else if w = 4 then kt_i μ p 8 else if w = 9 then kt_i μ p 7 else r_val μ p (w - 5)
noncomputable def ut_ran (μ : kt_M) (o : Nat) (a w : Int32) : Int32 × kt_M := if k_wi a 1 ∧ k_wi w 9 then (ut_rp (q_fol μ (o + 364) (ut_ch o a) (o + 369)) (o + 364) w, q_fol μ (o + 364) (ut_ch o a) (o + 369)) else (-1, μ)
noncomputable def ut_wr (μ : kt_M) (o : Nat) (a i : Int32) (f x : Nat) (n : Int32) : Int32 × kt_M :=
  if k_wi a 1 ∧ 0 ≤ i then
    (let μ1 := q_fol μ (o + 364) (ut_ch o a) (o + 369)
     (if i < kt_i μ1 (o + 364) f ∧ i < n then kt_i μ1 x i.toNatClampNeg else -4, μ1))
  else (-1, μ)
theorem sp_folS {G : kt_G} {σ : kt_Y} {μ : kt_M} {p : Nat} (hp : kt_rn σ p) {q N s : Nat} (hq : kt_pg σ q N) (hN : N ≤ 16) (hsN : s ≤ N) (hsep : p + 4 ≤ q ∨ q + 7 + 4 * N ≤ p) {a : Nat} (ha : kt_k σ a = some (1, 8)) (hap : a + 1 ≤ p ∨ p + 4 ≤ a) (hs : kt_i μ q 3 = nI s) (hac : kt_ac μ q) : kt_F G yX7_follow cX7_follow 6 none 4 [.ref p, .ref q, .ref a] σ μ (fun r μ2 => r = none ∧ μ2 = q_fol μ p q a) := by
  unfold q_fol
  rw [kt_seal_eq]
  exact sp_follow hp hq hN hsN hsep ha hap hs hac
set_option maxHeartbeats 4000000 in
set_option maxRecDepth 100000 in
theorem sp_block {G : kt_G} {σ : kt_Y} {μ : kt_M} {o : Nat} (hp : kt_kt σ o) {s0 s1 : Nat} (hg : kp μ (o + 42) 8 s0) (hc : kp μ (o + 81) 16 s1) {a b w : Int32} : kt_F G yX9_block cX9_block 5 (some .int) 3 [.ref o, .int a, .int b, .int w] σ μ (fun r μ2 => r = some (.int (ut_block μ o a b w)) ∧ μ2 = μ) := by
  refine kt_F.of (by decide) (Nat.le_of_ble_eq_true rfl) (fun X hX hr => ?_)
  have hp0 := hp
  obtain ⟨hk0, hr0, hr1, hr2, hr3, hr4, hr5, hr6, hr7, hr8, hr9, hr10, hr11, hr12, hk152, hk153, hk369, hk370, hk371, hrd, hdr, hor, hcu, hfw, hpt, hrn, hdi, him, hsh⟩ := hp
  obtain ⟨N, t, hpg, hN, hkp, hlo, hhi⟩ := ut_chf hor hcu hg hc a
  refine kr_iload_n (i := 1) hX dX9_block_0 rfl rfl ?_
  refine kr_iconst (v := 1) hX dX9_block_1 (by decide) ?_
  refine kr_dS [_, _] hX km_9_92 dX9_block_2 (sp_within) rfl rfl (by decide) (Nat.le_of_ble_eq_true rfl) (Nat.le_refl _) (Nat.le_refl _) ?_
  refine kr_if_eq (tgt := 29) hX dX9_block_5 (by decide) (fun c_5 => ?_) (fun c_5 => ?_)
  · skip
    refine kr_iconst (v := (-1)) hX dX9_block_29 (by decide) ?_
    refine kr_iret hX hr dX9_block_30 ⟨rfl, ?_⟩
    simp only [kt_f_0, Classical.not_not] at c_5
    refine ⟨?_, rfl⟩
    unfold ut_block
    rw [if_neg (fun h => c_5 h.1)]
  · skip
    refine kr_iload_n (i := 3) hX dX9_block_8 rfl rfl ?_
    refine kr_bipush (v := 7) hX dX9_block_9 (by decide) ?_
    refine kr_dS [_, _] hX km_9_92 dX9_block_11 (sp_within) rfl rfl (by decide) (Nat.le_of_ble_eq_true rfl) (Nat.le_refl _) (Nat.le_refl _) ?_
    refine kr_if_eq (tgt := 29) hX dX9_block_14 (by decide) (fun c_14 => ?_) (fun c_14 => ?_)
    · skip
      refine kr_iconst (v := (-1)) hX dX9_block_29 (by decide) ?_
      refine kr_iret hX hr dX9_block_30 ⟨rfl, ?_⟩
      simp only [kt_f_0, Classical.not_not] at c_5
      refine ⟨?_, rfl⟩
      unfold ut_block
      simp only [kt_f_0, Classical.not_not] at c_14
      rw [if_neg (fun h => c_14 h.2.1)]
    · skip
      refine kr_aload_n (i := 0) hX dX9_block_17 rfl rfl ?_
      refine kr_iload_n (i := 1) hX dX9_block_18 rfl rfl ?_
      refine kr_dV (c1 := 9) [_] hX km_9_123 dX9_block_19 (sp_chosen hp0) rfl rfl ⟨_, _, rfl⟩ (by decide) (Nat.le_of_ble_eq_true rfl) (Nat.le_refl _) (Nat.le_refl _) (by first | exact hpg.1 | first | exact hk0 | exact hrd.1 | exact hdr.1 | exact hor.1 | exact hcu.1 | exact hfw.1 | exact hpt.1 | exact hrn.1 | exact hdi | assumption | exact (hpg.at_ hkp.1 hkp.2.1 hN b).1) ?_
      refine kr_iload_n (i := 2) hX dX9_block_22 rfl rfl ?_
      refine kr_dV (c1 := 4) [_] hX km_9_156 dX9_block_23 (sp_has hpg hN hkp.1 hkp.2.1) rfl rfl ⟨_, _, rfl⟩ (by decide) (Nat.le_of_ble_eq_true rfl) (Nat.le_refl _) (Nat.le_refl _) (by first | exact hpg.1 | first | exact hk0 | exact hrd.1 | exact hdr.1 | exact hor.1 | exact hcu.1 | exact hfw.1 | exact hpt.1 | exact hrn.1 | exact hdi | assumption | exact (hpg.at_ hkp.1 hkp.2.1 hN b).1) ?_
      refine kr_if_ne (tgt := 31) hX dX9_block_26 (by decide) (fun c_26 => ?_) (fun c_26 => ?_)
      · skip
        refine kr_aload_n (i := 0) hX dX9_block_31 rfl rfl ?_
        refine kr_iload_n (i := 1) hX dX9_block_32 rfl rfl ?_
        refine kr_dV (c1 := 9) [_] hX km_9_123 dX9_block_33 (sp_chosen hp0) rfl rfl ⟨_, _, rfl⟩ (by decide) (Nat.le_of_ble_eq_true rfl) (Nat.le_refl _) (Nat.le_refl _) (by first | exact hpg.1 | first | exact hk0 | exact hrd.1 | exact hdr.1 | exact hor.1 | exact hcu.1 | exact hfw.1 | exact hpt.1 | exact hrn.1 | exact hdi | assumption | exact (hpg.at_ hkp.1 hkp.2.1 hN b).1) ?_
        refine kr_iload_n (i := 2) hX dX9_block_36 rfl rfl ?_
        refine kr_dV (c1 := 4) [_] hX km_9_159 dX9_block_37 (sp_at hpg hN hkp.1 hkp.2.1) rfl rfl ⟨_, _, rfl⟩ (by decide) (Nat.le_of_ble_eq_true rfl) (Nat.le_refl _) (Nat.le_refl _) (by first | exact hpg.1 | first | exact hk0 | exact hrd.1 | exact hdr.1 | exact hor.1 | exact hcu.1 | exact hfw.1 | exact hpt.1 | exact hrn.1 | exact hdi | assumption | exact (hpg.at_ hkp.1 hkp.2.1 hN b).1) ?_
        refine kr_astore hX dX9_block_40 (by decide) rfl rfl ?_
        refine kr_iload_n (i := 3) hX dX9_block_42 rfl rfl ?_
        by_cases c_43_0 : w = 0
        · skip
          refine kr_tabIn (tgt := 88) (off := 45) hX dX9_block_43 (by rw [c_43_0]; decide) (by rw [c_43_0]; decide) (by rw [c_43_0]; rfl) (by decide) ?_
          refine kr_aload hX dX9_block_88 rfl ?_
          refine kr_geti (c0 := 0) (k := 0) hX ⟨_, kf_9_163⟩ dX9_block_90 rfl (by first | exact hpg.1 | first | exact hk0 | exact hrd.1 | exact hdr.1 | exact hor.1 | exact hcu.1 | exact hfw.1 | exact hpt.1 | exact hrn.1 | exact hdi | assumption | exact (hpg.at_ hkp.1 hkp.2.1 hN b).1) ?_
          refine kr_iret hX hr dX9_block_93 ⟨rfl, ?_⟩
          simp only [kt_f_0, Classical.not_not] at c_5 c_14 c_26
          refine ⟨?_, rfl⟩
          rw [show ut_block μ o a b w = _ from if_pos ⟨c_5, c_14, c_26⟩]
          rw [show ut_bw μ _ w = _ from if_pos c_43_0]
        by_cases c_43_1 : w = 1
        · skip
          refine kr_tabIn (tgt := 94) (off := 51) hX dX9_block_43 (by rw [c_43_1]; decide) (by rw [c_43_1]; decide) (by rw [c_43_1]; rfl) (by decide) ?_
          refine kr_aload hX dX9_block_94 rfl ?_
          refine kr_geti (c0 := 0) (k := 4) hX ⟨_, kf_9_168⟩ dX9_block_96 rfl (by first | exact hpg.1 | first | exact hk0 | exact hrd.1 | exact hdr.1 | exact hor.1 | exact hcu.1 | exact hfw.1 | exact hpt.1 | exact hrn.1 | exact hdi | assumption | exact (hpg.at_ hkp.1 hkp.2.1 hN b).1) ?_
          refine kr_iret hX hr dX9_block_99 ⟨rfl, ?_⟩
          simp only [kt_f_0, Classical.not_not] at c_5 c_14 c_26
          refine ⟨?_, rfl⟩
          rw [show ut_block μ o a b w = _ from if_pos ⟨c_5, c_14, c_26⟩]
          rw [show ut_bw μ _ w = _ from (if_neg c_43_0).trans (if_pos c_43_1)]
        by_cases c_43_2 : w = 2
        · skip
          refine kr_tabIn (tgt := 100) (off := 57) hX dX9_block_43 (by rw [c_43_2]; decide) (by rw [c_43_2]; decide) (by rw [c_43_2]; rfl) (by decide) ?_
          refine kr_aload hX dX9_block_100 rfl ?_
          refine kr_iconst (v := 0) hX dX9_block_102 (by decide) ?_
          refine kr_dV (c1 := 0) [_] hX km_9_171 dX9_block_103 (sp_hasEdge (hpg.at_ hkp.1 hkp.2.1 hN b)) rfl rfl ⟨_, _, rfl⟩ (by decide) (Nat.le_of_ble_eq_true rfl) (Nat.le_refl _) (Nat.le_refl _) (by first | exact hpg.1 | first | exact hk0 | exact hrd.1 | exact hdr.1 | exact hor.1 | exact hcu.1 | exact hfw.1 | exact hpt.1 | exact hrn.1 | exact hdi | assumption | exact (hpg.at_ hkp.1 hkp.2.1 hN b).1) ?_
          refine kr_if_eq (tgt := 118) hX dX9_block_106 (by decide) (fun c_106 => ?_) (fun c_106 => ?_)
          · skip
            refine kr_bipush (v := (-4)) hX dX9_block_118 (by decide) ?_
            refine kr_iret hX hr dX9_block_120 ⟨rfl, ?_⟩
            simp only [kt_f_0, Classical.not_not] at c_5 c_14 c_26
            refine ⟨?_, rfl⟩
            rw [show ut_block μ o a b w = _ from if_pos ⟨c_5, c_14, c_26⟩]
            simp only [kt_f_0, Classical.not_not] at c_106
            rw [show ut_bw μ _ w = _ from (if_neg c_43_0).trans ((if_neg c_43_1).trans ((if_pos c_43_2).trans (if_neg c_106)))]
          · skip
            refine kr_aload hX dX9_block_109 rfl ?_
            refine kr_iconst (v := 0) hX dX9_block_111 (by decide) ?_
            refine kr_dV (c1 := 0) [_] hX km_9_174 dX9_block_112 (sp_target (hpg.at_ hkp.1 hkp.2.1 hN b)) rfl rfl ⟨_, _, rfl⟩ (by decide) (Nat.le_of_ble_eq_true rfl) (Nat.le_refl _) (Nat.le_refl _) (by first | exact hpg.1 | first | exact hk0 | exact hrd.1 | exact hdr.1 | exact hor.1 | exact hcu.1 | exact hfw.1 | exact hpt.1 | exact hrn.1 | exact hdi | assumption | exact (hpg.at_ hkp.1 hkp.2.1 hN b).1) ?_
            refine kr_goto (tgt := 120) hX dX9_block_115 (by decide) ?_
            refine kr_iret hX hr dX9_block_120 ⟨rfl, ?_⟩
            simp only [kt_f_0, Classical.not_not] at c_5 c_14 c_26
            refine ⟨?_, rfl⟩
            rw [show ut_block μ o a b w = _ from if_pos ⟨c_5, c_14, c_26⟩]
            simp only [kt_f_0, Classical.not_not] at c_106
            rw [show ut_bw μ _ w = _ from (if_neg c_43_0).trans ((if_neg c_43_1).trans ((if_pos c_43_2).trans (if_pos c_106)))]
            rfl
        by_cases c_43_3 : w = 3
        · skip
          refine kr_tabIn (tgt := 121) (off := 78) hX dX9_block_43 (by rw [c_43_3]; decide) (by rw [c_43_3]; decide) (by rw [c_43_3]; rfl) (by decide) ?_
          refine kr_aload hX dX9_block_121 rfl ?_
          refine kr_iconst (v := 1) hX dX9_block_123 (by decide) ?_
          refine kr_dV (c1 := 0) [_] hX km_9_171 dX9_block_124 (sp_hasEdge (hpg.at_ hkp.1 hkp.2.1 hN b)) rfl rfl ⟨_, _, rfl⟩ (by decide) (Nat.le_of_ble_eq_true rfl) (Nat.le_refl _) (Nat.le_refl _) (by first | exact hpg.1 | first | exact hk0 | exact hrd.1 | exact hdr.1 | exact hor.1 | exact hcu.1 | exact hfw.1 | exact hpt.1 | exact hrn.1 | exact hdi | assumption | exact (hpg.at_ hkp.1 hkp.2.1 hN b).1) ?_
          refine kr_if_eq (tgt := 139) hX dX9_block_127 (by decide) (fun c_127 => ?_) (fun c_127 => ?_)
          · skip
            refine kr_bipush (v := (-4)) hX dX9_block_139 (by decide) ?_
            refine kr_iret hX hr dX9_block_141 ⟨rfl, ?_⟩
            simp only [kt_f_0, Classical.not_not] at c_5 c_14 c_26
            refine ⟨?_, rfl⟩
            rw [show ut_block μ o a b w = _ from if_pos ⟨c_5, c_14, c_26⟩]
            simp only [kt_f_0, Classical.not_not] at c_127
            rw [show ut_bw μ _ w = _ from (if_neg c_43_0).trans ((if_neg c_43_1).trans ((if_neg c_43_2).trans ((if_pos c_43_3).trans (if_neg c_127))))]
          · skip
            refine kr_aload hX dX9_block_130 rfl ?_
            refine kr_iconst (v := 1) hX dX9_block_132 (by decide) ?_
            refine kr_dV (c1 := 0) [_] hX km_9_174 dX9_block_133 (sp_target (hpg.at_ hkp.1 hkp.2.1 hN b)) rfl rfl ⟨_, _, rfl⟩ (by decide) (Nat.le_of_ble_eq_true rfl) (Nat.le_refl _) (Nat.le_refl _) (by first | exact hpg.1 | first | exact hk0 | exact hrd.1 | exact hdr.1 | exact hor.1 | exact hcu.1 | exact hfw.1 | exact hpt.1 | exact hrn.1 | exact hdi | assumption | exact (hpg.at_ hkp.1 hkp.2.1 hN b).1) ?_
            refine kr_goto (tgt := 141) hX dX9_block_136 (by decide) ?_
            refine kr_iret hX hr dX9_block_141 ⟨rfl, ?_⟩
            simp only [kt_f_0, Classical.not_not] at c_5 c_14 c_26
            refine ⟨?_, rfl⟩
            rw [show ut_block μ o a b w = _ from if_pos ⟨c_5, c_14, c_26⟩]
            simp only [kt_f_0, Classical.not_not] at c_127
            rw [show ut_bw μ _ w = _ from (if_neg c_43_0).trans ((if_neg c_43_1).trans ((if_neg c_43_2).trans ((if_pos c_43_3).trans (if_pos c_127))))]
            rfl
        by_cases c_43_4 : w = 4
        · skip
          refine kr_tabIn (tgt := 148) (off := 105) hX dX9_block_43 (by rw [c_43_4]; decide) (by rw [c_43_4]; decide) (by rw [c_43_4]; rfl) (by decide) ?_
          refine kr_aload hX dX9_block_148 rfl ?_
          refine kr_dV (c1 := 0) [] hX km_9_180 dX9_block_150 (sp_isTest (hpg.at_ hkp.1 hkp.2.1 hN b)) rfl rfl ⟨_, _, rfl⟩ (by decide) (Nat.le_of_ble_eq_true rfl) (Nat.le_refl _) (Nat.le_refl _) (by first | exact hpg.1 | first | exact hk0 | exact hrd.1 | exact hdr.1 | exact hor.1 | exact hcu.1 | exact hfw.1 | exact hpt.1 | exact hrn.1 | exact hdi | assumption | exact (hpg.at_ hkp.1 hkp.2.1 hN b).1) ?_
          refine kr_if_eq (tgt := 165) hX dX9_block_153 (by decide) (fun c_153 => ?_) (fun c_153 => ?_)
          · skip
            refine kr_bipush (v := (-4)) hX dX9_block_165 (by decide) ?_
            refine kr_iret hX hr dX9_block_167 ⟨rfl, ?_⟩
            simp only [kt_f_0, Classical.not_not] at c_5 c_14 c_26
            refine ⟨?_, rfl⟩
            rw [show ut_block μ o a b w = _ from if_pos ⟨c_5, c_14, c_26⟩]
            simp only [kt_f_0, Classical.not_not] at c_153
            rw [show ut_bw μ _ w = _ from (if_neg c_43_0).trans ((if_neg c_43_1).trans ((if_neg c_43_2).trans ((if_neg c_43_3).trans ((if_neg (by rw [c_43_4]; decide)).trans (if_neg c_153)))))]
          · skip
            refine kr_aload hX dX9_block_156 rfl ?_
            refine kr_iload_n (i := 3) hX dX9_block_158 rfl rfl ?_
            refine kr_dV (c1 := 0) [_] hX km_9_184 dX9_block_159 (sp_testProp (hpg.at_ hkp.1 hkp.2.1 hN b) (k_riv_at hkp hN (by simp only [kt_f_0, Classical.not_not] at c_26; exact c_26))) rfl rfl ⟨_, _, rfl⟩ (by decide) (Nat.le_of_ble_eq_true rfl) (Nat.le_refl _) (Nat.le_refl _) (by first | exact hpg.1 | first | exact hk0 | exact hrd.1 | exact hdr.1 | exact hor.1 | exact hcu.1 | exact hfw.1 | exact hpt.1 | exact hrn.1 | exact hdi | assumption | exact (hpg.at_ hkp.1 hkp.2.1 hN b).1) ?_
            refine kr_goto (tgt := 167) hX dX9_block_162 (by decide) ?_
            refine kr_iret hX hr dX9_block_167 ⟨rfl, ?_⟩
            simp only [kt_f_0, Classical.not_not] at c_5 c_14 c_26
            refine ⟨?_, rfl⟩
            rw [show ut_block μ o a b w = _ from if_pos ⟨c_5, c_14, c_26⟩]
            simp only [kt_f_0, Classical.not_not] at c_153
            rw [show ut_bw μ _ w = _ from (if_neg c_43_0).trans ((if_neg c_43_1).trans ((if_neg c_43_2).trans ((if_neg c_43_3).trans ((if_neg (by rw [c_43_4]; decide)).trans (if_pos c_153)))))]
        by_cases c_43_5 : w = 5
        · skip
          refine kr_tabIn (tgt := 148) (off := 105) hX dX9_block_43 (by rw [c_43_5]; decide) (by rw [c_43_5]; decide) (by rw [c_43_5]; rfl) (by decide) ?_
          refine kr_aload hX dX9_block_148 rfl ?_
          refine kr_dV (c1 := 0) [] hX km_9_180 dX9_block_150 (sp_isTest (hpg.at_ hkp.1 hkp.2.1 hN b)) rfl rfl ⟨_, _, rfl⟩ (by decide) (Nat.le_of_ble_eq_true rfl) (Nat.le_refl _) (Nat.le_refl _) (by first | exact hpg.1 | first | exact hk0 | exact hrd.1 | exact hdr.1 | exact hor.1 | exact hcu.1 | exact hfw.1 | exact hpt.1 | exact hrn.1 | exact hdi | assumption | exact (hpg.at_ hkp.1 hkp.2.1 hN b).1) ?_
          refine kr_if_eq (tgt := 165) hX dX9_block_153 (by decide) (fun c_153 => ?_) (fun c_153 => ?_)
          · skip
            refine kr_bipush (v := (-4)) hX dX9_block_165 (by decide) ?_
            refine kr_iret hX hr dX9_block_167 ⟨rfl, ?_⟩
            simp only [kt_f_0, Classical.not_not] at c_5 c_14 c_26
            refine ⟨?_, rfl⟩
            rw [show ut_block μ o a b w = _ from if_pos ⟨c_5, c_14, c_26⟩]
            simp only [kt_f_0, Classical.not_not] at c_153
            rw [show ut_bw μ _ w = _ from (if_neg c_43_0).trans ((if_neg c_43_1).trans ((if_neg c_43_2).trans ((if_neg c_43_3).trans ((if_neg (by rw [c_43_5]; decide)).trans (if_neg c_153)))))]
          · skip
            refine kr_aload hX dX9_block_156 rfl ?_
            refine kr_iload_n (i := 3) hX dX9_block_158 rfl rfl ?_
            refine kr_dV (c1 := 0) [_] hX km_9_184 dX9_block_159 (sp_testProp (hpg.at_ hkp.1 hkp.2.1 hN b) (k_riv_at hkp hN (by simp only [kt_f_0, Classical.not_not] at c_26; exact c_26))) rfl rfl ⟨_, _, rfl⟩ (by decide) (Nat.le_of_ble_eq_true rfl) (Nat.le_refl _) (Nat.le_refl _) (by first | exact hpg.1 | first | exact hk0 | exact hrd.1 | exact hdr.1 | exact hor.1 | exact hcu.1 | exact hfw.1 | exact hpt.1 | exact hrn.1 | exact hdi | assumption | exact (hpg.at_ hkp.1 hkp.2.1 hN b).1) ?_
            refine kr_goto (tgt := 167) hX dX9_block_162 (by decide) ?_
            refine kr_iret hX hr dX9_block_167 ⟨rfl, ?_⟩
            simp only [kt_f_0, Classical.not_not] at c_5 c_14 c_26
            refine ⟨?_, rfl⟩
            rw [show ut_block μ o a b w = _ from if_pos ⟨c_5, c_14, c_26⟩]
            simp only [kt_f_0, Classical.not_not] at c_153
            rw [show ut_bw μ _ w = _ from (if_neg c_43_0).trans ((if_neg c_43_1).trans ((if_neg c_43_2).trans ((if_neg c_43_3).trans ((if_neg (by rw [c_43_5]; decide)).trans (if_pos c_153)))))]
        by_cases c_43_6 : w = 6
        · skip
          refine kr_tabIn (tgt := 148) (off := 105) hX dX9_block_43 (by rw [c_43_6]; decide) (by rw [c_43_6]; decide) (by rw [c_43_6]; rfl) (by decide) ?_
          refine kr_aload hX dX9_block_148 rfl ?_
          refine kr_dV (c1 := 0) [] hX km_9_180 dX9_block_150 (sp_isTest (hpg.at_ hkp.1 hkp.2.1 hN b)) rfl rfl ⟨_, _, rfl⟩ (by decide) (Nat.le_of_ble_eq_true rfl) (Nat.le_refl _) (Nat.le_refl _) (by first | exact hpg.1 | first | exact hk0 | exact hrd.1 | exact hdr.1 | exact hor.1 | exact hcu.1 | exact hfw.1 | exact hpt.1 | exact hrn.1 | exact hdi | assumption | exact (hpg.at_ hkp.1 hkp.2.1 hN b).1) ?_
          refine kr_if_eq (tgt := 165) hX dX9_block_153 (by decide) (fun c_153 => ?_) (fun c_153 => ?_)
          · skip
            refine kr_bipush (v := (-4)) hX dX9_block_165 (by decide) ?_
            refine kr_iret hX hr dX9_block_167 ⟨rfl, ?_⟩
            simp only [kt_f_0, Classical.not_not] at c_5 c_14 c_26
            refine ⟨?_, rfl⟩
            rw [show ut_block μ o a b w = _ from if_pos ⟨c_5, c_14, c_26⟩]
            simp only [kt_f_0, Classical.not_not] at c_153
            rw [show ut_bw μ _ w = _ from (if_neg c_43_0).trans ((if_neg c_43_1).trans ((if_neg c_43_2).trans ((if_neg c_43_3).trans ((if_neg (by rw [c_43_6]; decide)).trans (if_neg c_153)))))]
          · skip
            refine kr_aload hX dX9_block_156 rfl ?_
            refine kr_iload_n (i := 3) hX dX9_block_158 rfl rfl ?_
            refine kr_dV (c1 := 0) [_] hX km_9_184 dX9_block_159 (sp_testProp (hpg.at_ hkp.1 hkp.2.1 hN b) (k_riv_at hkp hN (by simp only [kt_f_0, Classical.not_not] at c_26; exact c_26))) rfl rfl ⟨_, _, rfl⟩ (by decide) (Nat.le_of_ble_eq_true rfl) (Nat.le_refl _) (Nat.le_refl _) (by first | exact hpg.1 | first | exact hk0 | exact hrd.1 | exact hdr.1 | exact hor.1 | exact hcu.1 | exact hfw.1 | exact hpt.1 | exact hrn.1 | exact hdi | assumption | exact (hpg.at_ hkp.1 hkp.2.1 hN b).1) ?_
            refine kr_goto (tgt := 167) hX dX9_block_162 (by decide) ?_
            refine kr_iret hX hr dX9_block_167 ⟨rfl, ?_⟩
            simp only [kt_f_0, Classical.not_not] at c_5 c_14 c_26
            refine ⟨?_, rfl⟩
            rw [show ut_block μ o a b w = _ from if_pos ⟨c_5, c_14, c_26⟩]
            simp only [kt_f_0, Classical.not_not] at c_153
            rw [show ut_bw μ _ w = _ from (if_neg c_43_0).trans ((if_neg c_43_1).trans ((if_neg c_43_2).trans ((if_neg c_43_3).trans ((if_neg (by rw [c_43_6]; decide)).trans (if_pos c_153)))))]
        by_cases c_43_7 : w = 7
        · skip
          refine kr_tabIn (tgt := 142) (off := 99) hX dX9_block_43 (by rw [c_43_7]; decide) (by rw [c_43_7]; decide) (by rw [c_43_7]; rfl) (by decide) ?_
          refine kr_aload hX dX9_block_142 rfl ?_
          refine kr_geti (c0 := 0) (k := 10) hX ⟨_, kf_9_177⟩ dX9_block_144 rfl (by first | exact hpg.1 | first | exact hk0 | exact hrd.1 | exact hdr.1 | exact hor.1 | exact hcu.1 | exact hfw.1 | exact hpt.1 | exact hrn.1 | exact hdi | assumption | exact (hpg.at_ hkp.1 hkp.2.1 hN b).1) ?_
          refine kr_iret hX hr dX9_block_147 ⟨rfl, ?_⟩
          simp only [kt_f_0, Classical.not_not] at c_5 c_14 c_26
          refine ⟨?_, rfl⟩
          rw [show ut_block μ o a b w = _ from if_pos ⟨c_5, c_14, c_26⟩]
          rw [show ut_bw μ _ w = _ from (if_neg c_43_0).trans ((if_neg c_43_1).trans ((if_neg c_43_2).trans ((if_neg c_43_3).trans (if_pos c_43_7))))]
        refine kr_tabOut (tgt := 148) hX dX9_block_43 (by have q_0 := kt_ne c_43_0 (z := 0) (by decide); have q_1 := kt_ne c_43_1 (z := 1) (by decide); have q_2 := kt_ne c_43_2 (z := 2) (by decide); have q_3 := kt_ne c_43_3 (z := 3) (by decide); have q_4 := kt_ne c_43_4 (z := 4) (by decide); have q_5 := kt_ne c_43_5 (z := 5) (by decide); have q_6 := kt_ne c_43_6 (z := 6) (by decide); have q_7 := kt_ne c_43_7 (z := 7) (by decide); omega) (by decide) ?_
        refine kr_aload hX dX9_block_148 rfl ?_
        refine kr_dV (c1 := 0) [] hX km_9_180 dX9_block_150 (sp_isTest (hpg.at_ hkp.1 hkp.2.1 hN b)) rfl rfl ⟨_, _, rfl⟩ (by decide) (Nat.le_of_ble_eq_true rfl) (Nat.le_refl _) (Nat.le_refl _) (by first | exact hpg.1 | first | exact hk0 | exact hrd.1 | exact hdr.1 | exact hor.1 | exact hcu.1 | exact hfw.1 | exact hpt.1 | exact hrn.1 | exact hdi | assumption | exact (hpg.at_ hkp.1 hkp.2.1 hN b).1) ?_
        refine kr_if_eq (tgt := 165) hX dX9_block_153 (by decide) (fun c_153 => ?_) (fun c_153 => ?_)
        · skip
          refine kr_bipush (v := (-4)) hX dX9_block_165 (by decide) ?_
          refine kr_iret hX hr dX9_block_167 ⟨rfl, ?_⟩
          simp only [kt_f_0, Classical.not_not] at c_5 c_14 c_26
          refine ⟨?_, rfl⟩
          rw [show ut_block μ o a b w = _ from if_pos ⟨c_5, c_14, c_26⟩]
          simp only [kt_f_0, Classical.not_not] at c_153
          rw [show ut_bw μ _ w = _ from (if_neg c_43_0).trans ((if_neg c_43_1).trans ((if_neg c_43_2).trans ((if_neg c_43_3).trans ((if_neg c_43_7).trans (if_neg c_153)))))]
        · skip
          refine kr_aload hX dX9_block_156 rfl ?_
          refine kr_iload_n (i := 3) hX dX9_block_158 rfl rfl ?_
          refine kr_dV (c1 := 0) [_] hX km_9_184 dX9_block_159 (sp_testProp (hpg.at_ hkp.1 hkp.2.1 hN b) (k_riv_at hkp hN (by simp only [kt_f_0, Classical.not_not] at c_26; exact c_26))) rfl rfl ⟨_, _, rfl⟩ (by decide) (Nat.le_of_ble_eq_true rfl) (Nat.le_refl _) (Nat.le_refl _) (by first | exact hpg.1 | first | exact hk0 | exact hrd.1 | exact hdr.1 | exact hor.1 | exact hcu.1 | exact hfw.1 | exact hpt.1 | exact hrn.1 | exact hdi | assumption | exact (hpg.at_ hkp.1 hkp.2.1 hN b).1) ?_
          refine kr_goto (tgt := 167) hX dX9_block_162 (by decide) ?_
          refine kr_iret hX hr dX9_block_167 ⟨rfl, ?_⟩
          simp only [kt_f_0, Classical.not_not] at c_5 c_14 c_26
          refine ⟨?_, rfl⟩
          rw [show ut_block μ o a b w = _ from if_pos ⟨c_5, c_14, c_26⟩]
          simp only [kt_f_0, Classical.not_not] at c_153
          rw [show ut_bw μ _ w = _ from (if_neg c_43_0).trans ((if_neg c_43_1).trans ((if_neg c_43_2).trans ((if_neg c_43_3).trans ((if_neg c_43_7).trans (if_pos c_153)))))]
      · skip
        refine kr_iconst (v := (-1)) hX dX9_block_29 (by decide) ?_
        refine kr_iret hX hr dX9_block_30 ⟨rfl, ?_⟩
        simp only [kt_f_0, Classical.not_not] at c_5
        refine ⟨?_, rfl⟩
        unfold ut_block
        simp only [kt_f_0, Classical.not_not] at c_14
        simp only [kt_f_0, Classical.not_not] at c_26
        rw [if_neg (fun h => c_26 h.2.2)]

set_option maxHeartbeats 4000000 in
set_option maxRecDepth 100000 in
theorem sp_uact {G : kt_G} {σ : kt_Y} {μ : kt_M} {o : Nat} (hp : kt_kt σ o) {s0 s1 : Nat} (hg : kp μ (o + 42) 8 s0) (hc : kp μ (o + 81) 16 s1) {a b i w : Int32} : kt_F G yX9_act cX9_act 5 (some .int) 2 [.ref o, .int a, .int b, .int i, .int w] σ μ (fun r μ2 => r = some (.int (ut_act μ o a b i w)) ∧ μ2 = μ) := by
  refine kt_F.of (by decide) (Nat.le_of_ble_eq_true rfl) (fun X hX hr => ?_)
  have hp0 := hp
  obtain ⟨hk0, hr0, hr1, hr2, hr3, hr4, hr5, hr6, hr7, hr8, hr9, hr10, hr11, hr12, hk152, hk153, hk369, hk370, hk371, hrd, hdr, hor, hcu, hfw, hpt, hrn, hdi, him, hsh⟩ := hp
  obtain ⟨N, t, hpg, hN, hkp, hlo, hhi⟩ := ut_chf hor hcu hg hc a
  refine kr_iload_n (i := 1) hX dX9_act_0 rfl rfl ?_
  refine kr_iconst (v := 1) hX dX9_act_1 (by decide) ?_
  refine kr_dS [_, _] hX km_9_92 dX9_act_2 (sp_within) rfl rfl (by decide) (Nat.le_of_ble_eq_true rfl) (Nat.le_refl _) (Nat.le_refl _) ?_
  refine kr_if_eq (tgt := 33) hX dX9_act_5 (by decide) (fun c_5 => ?_) (fun c_5 => ?_)
  · skip
    refine kr_iconst (v := (-1)) hX dX9_act_33 (by decide) ?_
    refine kr_iret hX hr dX9_act_34 ⟨rfl, ?_⟩
    simp only [kt_f_0, Classical.not_not] at c_5
    refine ⟨?_, rfl⟩
    unfold ut_act
    rw [if_neg (fun h => c_5 h.1)]
  · skip
    refine kr_iload hX dX9_act_8 rfl ?_
    refine kr_iconst (v := 2) hX dX9_act_10 (by decide) ?_
    refine kr_dS [_, _] hX km_9_92 dX9_act_11 (sp_within) rfl rfl (by decide) (Nat.le_of_ble_eq_true rfl) (Nat.le_refl _) (Nat.le_refl _) ?_
    refine kr_if_eq (tgt := 33) hX dX9_act_14 (by decide) (fun c_14 => ?_) (fun c_14 => ?_)
    · skip
      refine kr_iconst (v := (-1)) hX dX9_act_33 (by decide) ?_
      refine kr_iret hX hr dX9_act_34 ⟨rfl, ?_⟩
      simp only [kt_f_0, Classical.not_not] at c_5
      refine ⟨?_, rfl⟩
      unfold ut_act
      simp only [kt_f_0, Classical.not_not] at c_14
      rw [if_neg (fun h => c_14 h.2.1)]
    · skip
      refine kr_aload_n (i := 0) hX dX9_act_17 rfl rfl ?_
      refine kr_iload_n (i := 1) hX dX9_act_18 rfl rfl ?_
      refine kr_dV (c1 := 9) [_] hX km_9_123 dX9_act_19 (sp_chosen hp0) rfl rfl ⟨_, _, rfl⟩ (by decide) (Nat.le_of_ble_eq_true rfl) (Nat.le_refl _) (Nat.le_refl _) (by first | exact hpg.1 | first | exact hk0 | exact hrd.1 | exact hdr.1 | exact hor.1 | exact hcu.1 | exact hfw.1 | exact hpt.1 | exact hrn.1 | exact hdi | assumption | exact (hpg.at_ hkp.1 hkp.2.1 hN b).1) ?_
      refine kr_iload_n (i := 2) hX dX9_act_22 rfl rfl ?_
      refine kr_dV (c1 := 4) [_] hX km_9_156 dX9_act_23 (sp_has hpg hN hkp.1 hkp.2.1) rfl rfl ⟨_, _, rfl⟩ (by decide) (Nat.le_of_ble_eq_true rfl) (Nat.le_refl _) (Nat.le_refl _) (by first | exact hpg.1 | first | exact hk0 | exact hrd.1 | exact hdr.1 | exact hor.1 | exact hcu.1 | exact hfw.1 | exact hpt.1 | exact hrn.1 | exact hdi | assumption | exact (hpg.at_ hkp.1 hkp.2.1 hN b).1) ?_
      refine kr_if_eq (tgt := 33) hX dX9_act_26 (by decide) (fun c_26 => ?_) (fun c_26 => ?_)
      · skip
        refine kr_iconst (v := (-1)) hX dX9_act_33 (by decide) ?_
        refine kr_iret hX hr dX9_act_34 ⟨rfl, ?_⟩
        simp only [kt_f_0, Classical.not_not] at c_5
        refine ⟨?_, rfl⟩
        unfold ut_act
        simp only [kt_f_0, Classical.not_not] at c_14
        simp only [kt_f_0, Classical.not_not] at c_26
        rw [if_neg (fun h => c_26 h.2.2.1)]
      · skip
        refine kr_iload_n (i := 3) hX dX9_act_29 rfl rfl ?_
        refine kr_if_ge (tgt := 35) hX dX9_act_30 (by decide) (fun c_30 => ?_) (fun c_30 => ?_)
        · skip
          refine kr_aload_n (i := 0) hX dX9_act_35 rfl rfl ?_
          refine kr_iload_n (i := 1) hX dX9_act_36 rfl rfl ?_
          refine kr_dV (c1 := 9) [_] hX km_9_123 dX9_act_37 (sp_chosen hp0) rfl rfl ⟨_, _, rfl⟩ (by decide) (Nat.le_of_ble_eq_true rfl) (Nat.le_refl _) (Nat.le_refl _) (by first | exact hpg.1 | first | exact hk0 | exact hrd.1 | exact hdr.1 | exact hor.1 | exact hcu.1 | exact hfw.1 | exact hpt.1 | exact hrn.1 | exact hdi | assumption | exact (hpg.at_ hkp.1 hkp.2.1 hN b).1) ?_
          refine kr_iload_n (i := 2) hX dX9_act_40 rfl rfl ?_
          refine kr_dV (c1 := 4) [_] hX km_9_159 dX9_act_41 (sp_at hpg hN hkp.1 hkp.2.1) rfl rfl ⟨_, _, rfl⟩ (by decide) (Nat.le_of_ble_eq_true rfl) (Nat.le_refl _) (Nat.le_refl _) (by first | exact hpg.1 | first | exact hk0 | exact hrd.1 | exact hdr.1 | exact hor.1 | exact hcu.1 | exact hfw.1 | exact hpt.1 | exact hrn.1 | exact hdi | assumption | exact (hpg.at_ hkp.1 hkp.2.1 hN b).1) ?_
          refine kr_iload_n (i := 3) hX dX9_act_44 rfl rfl ?_
          refine kr_iload hX dX9_act_45 rfl ?_
          refine kr_dV (c1 := 0) [_, _] hX km_9_187 dX9_act_47 (sp_actProp (hpg.at_ hkp.1 hkp.2.1 hN b) (k_ac4 hkp b)) rfl rfl ⟨_, _, rfl⟩ (by decide) (Nat.le_of_ble_eq_true rfl) (Nat.le_refl _) (Nat.le_refl _) (by first | exact hpg.1 | first | exact hk0 | exact hrd.1 | exact hdr.1 | exact hor.1 | exact hcu.1 | exact hfw.1 | exact hpt.1 | exact hrn.1 | exact hdi | assumption | exact (hpg.at_ hkp.1 hkp.2.1 hN b).1) ?_
          refine kr_iret hX hr dX9_act_50 ⟨rfl, ?_⟩
          simp only [kt_f_0, Classical.not_not] at c_5 c_14 c_26
          refine ⟨?_, rfl⟩
          rw [show ut_act μ o a b i w = _ from if_pos ⟨c_5, c_14, c_26, c_30⟩]
          rfl
        · skip
          refine kr_iconst (v := (-1)) hX dX9_act_33 (by decide) ?_
          refine kr_iret hX hr dX9_act_34 ⟨rfl, ?_⟩
          simp only [kt_f_0, Classical.not_not] at c_5
          refine ⟨?_, rfl⟩
          unfold ut_act
          simp only [kt_f_0, Classical.not_not] at c_14
          simp only [kt_f_0, Classical.not_not] at c_26
          rw [if_neg (fun h => c_30 h.2.2.2)]

set_option maxHeartbeats 4000000 in
set_option maxRecDepth 100000 in
theorem sp_ran {G : kt_G} {σ : kt_Y} {μ : kt_M} {o : Nat} (hp : kt_kt σ o) {s0 s1 : Nat} (hg : kp μ (o + 42) 8 s0) (hc : kp μ (o + 81) 16 s1) {a w : Int32} : kt_F G yX9_ran cX9_ran 3 (some .int) 5 [.ref o, .int a, .int w] σ μ (fun r μ2 => r = some (.int (ut_ran μ o a w).1) ∧ μ2 = (ut_ran μ o a w).2) := by
  refine kt_F.of (by decide) (Nat.le_of_ble_eq_true rfl) (fun X hX hr => ?_)
  have hp0 := hp
  obtain ⟨hk0, hr0, hr1, hr2, hr3, hr4, hr5, hr6, hr7, hr8, hr9, hr10, hr11, hr12, hk152, hk153, hk369, hk370, hk371, hrd, hdr, hor, hcu, hfw, hpt, hrn, hdi, him, hsh⟩ := hp
  obtain ⟨N, t, hpg, hN, hkp, hlo, hhi⟩ := ut_chf hor hcu hg hc a
  refine kr_iload_n (i := 1) hX dX9_ran_0 rfl rfl ?_
  refine kr_iconst (v := 1) hX dX9_ran_1 (by decide) ?_
  refine kr_dS [_, _] hX km_9_92 dX9_ran_2 (sp_within) rfl rfl (by decide) (Nat.le_of_ble_eq_true rfl) (Nat.le_refl _) (Nat.le_refl _) ?_
  refine kr_if_eq (tgt := 17) hX dX9_ran_5 (by decide) (fun c_5 => ?_) (fun c_5 => ?_)
  · skip
    refine kr_iconst (v := (-1)) hX dX9_ran_17 (by decide) ?_
    refine kr_iret hX hr dX9_ran_18 ⟨rfl, ?_⟩
    simp only [kt_f_0, Classical.not_not] at c_5
    unfold ut_ran
    rw [if_neg (fun h => c_5 h.1)]
    exact ⟨rfl, rfl⟩
  · skip
    refine kr_iload_n (i := 2) hX dX9_ran_8 rfl rfl ?_
    refine kr_bipush (v := 9) hX dX9_ran_9 (by decide) ?_
    refine kr_dS [_, _] hX km_9_92 dX9_ran_11 (sp_within) rfl rfl (by decide) (Nat.le_of_ble_eq_true rfl) (Nat.le_refl _) (Nat.le_refl _) ?_
    refine kr_if_ne (tgt := 19) hX dX9_ran_14 (by decide) (fun c_14 => ?_) (fun c_14 => ?_)
    · skip
      refine kr_aload_n (i := 0) hX dX9_ran_19 rfl rfl ?_
      refine kr_getr (c0 := 9) (k := 8) hX ⟨_, kf_9_56⟩ dX9_ran_20 rfl (by first | exact hpg.1 | first | exact hk0 | exact hrd.1 | exact hdr.1 | exact hor.1 | exact hcu.1 | exact hfw.1 | exact hpt.1 | exact hrn.1 | exact hdi | assumption) (by assumption) ?_
      refine kr_aload_n (i := 0) hX dX9_ran_23 rfl rfl ?_
      refine kr_iload_n (i := 1) hX dX9_ran_24 rfl rfl ?_
      refine kr_dV (c1 := 9) [_] hX km_9_123 dX9_ran_25 (sp_chosen hp0) rfl rfl ⟨_, _, rfl⟩ (by decide) (Nat.le_of_ble_eq_true rfl) (Nat.le_refl _) (Nat.le_refl _) (by first | exact hpg.1 | first | exact hk0 | exact hrd.1 | exact hdr.1 | exact hor.1 | exact hcu.1 | exact hfw.1 | exact hpt.1 | exact hrn.1 | exact hdi | assumption) ?_
      refine kr_aload_n (i := 0) hX dX9_ran_28 rfl rfl ?_
      refine kr_getr (c0 := 9) (k := 10) hX ⟨_, kf_9_67⟩ dX9_ran_29 rfl (by first | exact hpg.1 | first | exact hk0 | exact hrd.1 | exact hdr.1 | exact hor.1 | exact hcu.1 | exact hfw.1 | exact hpt.1 | exact hrn.1 | exact hdi | assumption) (by assumption) ?_
      refine kr_dV (c1 := 7) [_, _] hX km_9_251 dX9_ran_32 (sp_folS hrn hpg hN hkp.2.1 (by omega) hk369 (by omega) hkp.1 hkp.2.2.1) rfl rfl ⟨_, _, rfl⟩ (by decide) (Nat.le_of_ble_eq_true rfl) (Nat.le_refl _) (Nat.le_refl _) (by first | exact hpg.1 | first | exact hk0 | exact hrd.1 | exact hdr.1 | exact hor.1 | exact hcu.1 | exact hfw.1 | exact hpt.1 | exact hrn.1 | exact hdi | assumption) ?_
      refine kr_aload_n (i := 0) hX dX9_ran_35 rfl rfl ?_
      refine kr_getr (c0 := 9) (k := 8) hX ⟨_, kf_9_56⟩ dX9_ran_36 rfl (by first | exact hpg.1 | first | exact hk0 | exact hrd.1 | exact hdr.1 | exact hor.1 | exact hcu.1 | exact hfw.1 | exact hpt.1 | exact hrn.1 | exact hdi | assumption) (by assumption) ?_
      refine kr_iload_n (i := 2) hX dX9_ran_39 rfl rfl ?_
      refine kr_dV (c1 := 7) [_] hX km_9_255 dX9_ran_40 (sp_runp hrn q_fol_8) rfl rfl ⟨_, _, rfl⟩ (by decide) (Nat.le_of_ble_eq_true rfl) (Nat.le_refl _) (Nat.le_refl _) (by first | exact hpg.1 | first | exact hk0 | exact hrd.1 | exact hdr.1 | exact hor.1 | exact hcu.1 | exact hfw.1 | exact hpt.1 | exact hrn.1 | exact hdi | assumption) ?_
      refine kr_iret hX hr dX9_ran_43 ⟨rfl, ?_⟩
      simp only [kt_f_0, Classical.not_not] at c_5 c_14
      rw [show ut_ran μ o a w = _ from if_pos ⟨c_5, c_14⟩]
      exact ⟨rfl, rfl⟩
    · skip
      refine kr_iconst (v := (-1)) hX dX9_ran_17 (by decide) ?_
      refine kr_iret hX hr dX9_ran_18 ⟨rfl, ?_⟩
      simp only [kt_f_0, Classical.not_not] at c_5 c_14
      rw [show ut_ran μ o a w = _ from if_neg (fun h => c_14 h.2)]
      exact ⟨rfl, rfl⟩

set_option maxHeartbeats 4000000 in
set_option maxRecDepth 100000 in
theorem sp_wrote {G : kt_G} {σ : kt_Y} {μ : kt_M} {o : Nat} (hp : kt_kt σ o) {s0 s1 : Nat} (hg : kp μ (o + 42) 8 s0) (hc : kp μ (o + 81) 16 s1) {a i : Int32} : kt_F G yX9_wrote cX9_wrote 3 (some .int) 5 [.ref o, .int a, .int i] σ μ (fun r μ2 => r = some (.int (ut_wr μ o a i 6 (o + 364 + 3) 240).1) ∧ μ2 = (ut_wr μ o a i 6 (o + 364 + 3) 240).2) := by
  refine kt_F.of (by decide) (Nat.le_of_ble_eq_true rfl) (fun X hX hr => ?_)
  have hp0 := hp
  obtain ⟨hk0, hr0, hr1, hr2, hr3, hr4, hr5, hr6, hr7, hr8, hr9, hr10, hr11, hr12, hk152, hk153, hk369, hk370, hk371, hrd, hdr, hor, hcu, hfw, hpt, hrn, hdi, him, hsh⟩ := hp
  obtain ⟨N, t, hpg, hN, hkp, hlo, hhi⟩ := ut_chf hor hcu hg hc a
  obtain ⟨wk0, wr0, wr1, wr2, wk1, wk2, wk3⟩ := id hrn
  refine kr_iload_n (i := 1) hX dX9_wrote_0 rfl rfl ?_
  refine kr_iconst (v := 1) hX dX9_wrote_1 (by decide) ?_
  refine kr_dS [_, _] hX km_9_92 dX9_wrote_2 (sp_within) rfl rfl (by decide) (Nat.le_of_ble_eq_true rfl) (Nat.le_refl _) (Nat.le_refl _) ?_
  refine kr_if_eq (tgt := 12) hX dX9_wrote_5 (by decide) (fun c_5 => ?_) (fun c_5 => ?_)
  · skip
    refine kr_iconst (v := (-1)) hX dX9_wrote_12 (by decide) ?_
    refine kr_iret hX hr dX9_wrote_13 ⟨rfl, ?_⟩
    simp only [kt_f_0, Classical.not_not] at c_5
    unfold ut_wr
    rw [if_neg (fun h => c_5 h.1)]
    exact ⟨rfl, rfl⟩
  · skip
    refine kr_iload_n (i := 2) hX dX9_wrote_8 rfl rfl ?_
    refine kr_if_ge (tgt := 14) hX dX9_wrote_9 (by decide) (fun c_9 => ?_) (fun c_9 => ?_)
    · skip
      refine kr_aload_n (i := 0) hX dX9_wrote_14 rfl rfl ?_
      refine kr_getr (c0 := 9) (k := 8) hX ⟨_, kf_9_56⟩ dX9_wrote_15 rfl (by first | exact hpg.1 | first | exact hk0 | exact hrd.1 | exact hdr.1 | exact hor.1 | exact hcu.1 | exact hfw.1 | exact hpt.1 | exact hrn.1 | exact hdi | assumption) (by assumption) ?_
      refine kr_aload_n (i := 0) hX dX9_wrote_18 rfl rfl ?_
      refine kr_iload_n (i := 1) hX dX9_wrote_19 rfl rfl ?_
      refine kr_dV (c1 := 9) [_] hX km_9_123 dX9_wrote_20 (sp_chosen hp0) rfl rfl ⟨_, _, rfl⟩ (by decide) (Nat.le_of_ble_eq_true rfl) (Nat.le_refl _) (Nat.le_refl _) (by first | exact hpg.1 | first | exact hk0 | exact hrd.1 | exact hdr.1 | exact hor.1 | exact hcu.1 | exact hfw.1 | exact hpt.1 | exact hrn.1 | exact hdi | assumption) ?_
      refine kr_aload_n (i := 0) hX dX9_wrote_23 rfl rfl ?_
      refine kr_getr (c0 := 9) (k := 10) hX ⟨_, kf_9_67⟩ dX9_wrote_24 rfl (by first | exact hpg.1 | first | exact hk0 | exact hrd.1 | exact hdr.1 | exact hor.1 | exact hcu.1 | exact hfw.1 | exact hpt.1 | exact hrn.1 | exact hdi | assumption) (by assumption) ?_
      refine kr_dV (c1 := 7) [_, _] hX km_9_251 dX9_wrote_27 (sp_folS hrn hpg hN hkp.2.1 (by omega) hk369 (by omega) hkp.1 hkp.2.2.1) rfl rfl ⟨_, _, rfl⟩ (by decide) (Nat.le_of_ble_eq_true rfl) (Nat.le_refl _) (Nat.le_refl _) (by first | exact hpg.1 | first | exact hk0 | exact hrd.1 | exact hdr.1 | exact hor.1 | exact hcu.1 | exact hfw.1 | exact hpt.1 | exact hrn.1 | exact hdi | assumption) ?_
      refine kr_iload_n (i := 2) hX dX9_wrote_30 rfl rfl ?_
      refine kr_aload_n (i := 0) hX dX9_wrote_31 rfl rfl ?_
      refine kr_getr (c0 := 9) (k := 8) hX ⟨_, kf_9_56⟩ dX9_wrote_32 rfl (by first | exact hpg.1 | first | exact hk0 | exact hrd.1 | exact hdr.1 | exact hor.1 | exact hcu.1 | exact hfw.1 | exact hpt.1 | exact hrn.1 | exact hdi | assumption) (by assumption) ?_
      refine kr_geti (c0 := 7) (k := 6) hX ⟨_, kf_9_257⟩ dX9_wrote_35 rfl (by first | exact hpg.1 | first | exact hk0 | exact hrd.1 | exact hdr.1 | exact hor.1 | exact hcu.1 | exact hfw.1 | exact hpt.1 | exact hrn.1 | exact hdi | assumption) ?_
      refine kr_icmp_ge (tgt := 65) hX dX9_wrote_38 (by decide) (fun c_38 => ?_) (fun c_38 => ?_)
      · skip
        refine kr_bipush (v := (-4)) hX dX9_wrote_65 (by decide) ?_
        refine kr_iret hX hr dX9_wrote_67 ⟨rfl, ?_⟩
        simp only [kt_f_0, Classical.not_not] at c_5
        unfold ut_wr
        rw [if_pos ⟨c_5, c_9⟩]
        dsimp only
        rw [if_neg (fun h => absurd h.1 (Int32.not_lt.mpr c_38))]
        exact ⟨rfl, rfl⟩
      · skip
        refine kr_iload_n (i := 2) hX dX9_wrote_41 rfl rfl ?_
        refine kr_aload_n (i := 0) hX dX9_wrote_42 rfl rfl ?_
        refine kr_getr (c0 := 9) (k := 8) hX ⟨_, kf_9_56⟩ dX9_wrote_43 rfl (by first | exact hpg.1 | first | exact hk0 | exact hrd.1 | exact hdr.1 | exact hor.1 | exact hcu.1 | exact hfw.1 | exact hpt.1 | exact hrn.1 | exact hdi | assumption) (by assumption) ?_
        refine kr_getr (c0 := 7) (k := 2) hX ⟨_, kf_9_260⟩ dX9_wrote_46 rfl (by first | exact hpg.1 | first | exact hk0 | exact hrd.1 | exact hdr.1 | exact hor.1 | exact hcu.1 | exact hfw.1 | exact hpt.1 | exact hrn.1 | exact hdi | assumption) (by assumption) ?_
        refine kr_alen (t := 0) (n := 240) (v := 240) hX dX9_wrote_49 (by first | exact hpg.1 | first | exact hk0 | exact hrd.1 | exact hdr.1 | exact hor.1 | exact hcu.1 | exact hfw.1 | exact hpt.1 | exact hrn.1 | exact hdi | assumption) (by decide) (by decide) ?_
        refine kr_icmp_ge (tgt := 65) hX dX9_wrote_50 (by decide) (fun c_50 => ?_) (fun c_50 => ?_)
        · skip
          refine kr_bipush (v := (-4)) hX dX9_wrote_65 (by decide) ?_
          refine kr_iret hX hr dX9_wrote_67 ⟨rfl, ?_⟩
          simp only [kt_f_0, Classical.not_not] at c_5
          unfold ut_wr
          rw [if_pos ⟨c_5, c_9⟩]
          dsimp only
          rw [if_neg (fun h => absurd h.2 (Int32.not_lt.mpr c_50))]
          exact ⟨rfl, rfl⟩
        · skip
          refine kr_aload_n (i := 0) hX dX9_wrote_53 rfl rfl ?_
          refine kr_getr (c0 := 9) (k := 8) hX ⟨_, kf_9_56⟩ dX9_wrote_54 rfl (by first | exact hpg.1 | first | exact hk0 | exact hrd.1 | exact hdr.1 | exact hor.1 | exact hcu.1 | exact hfw.1 | exact hpt.1 | exact hrn.1 | exact hdi | assumption) (by assumption) ?_
          refine kr_getr (c0 := 7) (k := 2) hX ⟨_, kf_9_260⟩ dX9_wrote_57 rfl (by first | exact hpg.1 | first | exact hk0 | exact hrd.1 | exact hdr.1 | exact hor.1 | exact hcu.1 | exact hfw.1 | exact hpt.1 | exact hrn.1 | exact hdi | assumption) (by assumption) ?_
          refine kr_iload_n (i := 2) hX dX9_wrote_60 rfl rfl ?_
          refine kr_iald hX dX9_wrote_61 (by first | exact hpg.1 | first | exact hk0 | exact hrd.1 | exact hdr.1 | exact hor.1 | exact hcu.1 | exact hfw.1 | exact hpt.1 | exact hrn.1 | exact hdi | assumption) (by exact vp_in_iff.mpr (by have h5 := c_9; have h6 := c_50; simp only [Int32.le_iff_toInt_le, Int32.lt_iff_toInt_lt, ki_0, show (240 : Int32).toInt = 240 from by decide] at h5 h6 ⊢; omega)) ?_
          refine kr_goto (tgt := 67) hX dX9_wrote_62 (by decide) ?_
          refine kr_iret hX hr dX9_wrote_67 ⟨rfl, ?_⟩
          simp only [kt_f_0, Classical.not_not] at c_5
          unfold ut_wr
          rw [if_pos ⟨c_5, c_9⟩]
          dsimp only
          rw [if_pos ⟨Int32.not_le.mp c_38, Int32.not_le.mp c_50⟩]
          exact ⟨rfl, rfl⟩
    · skip
      refine kr_iconst (v := (-1)) hX dX9_wrote_12 (by decide) ?_
      refine kr_iret hX hr dX9_wrote_13 ⟨rfl, ?_⟩
      simp only [kt_f_0, Classical.not_not] at c_5
      unfold ut_wr
      rw [if_neg (fun h => c_9 h.2)]
      exact ⟨rfl, rfl⟩

set_option maxHeartbeats 4000000 in
set_option maxRecDepth 100000 in
theorem sp_path {G : kt_G} {σ : kt_Y} {μ : kt_M} {o : Nat} (hp : kt_kt σ o) {s0 s1 : Nat} (hg : kp μ (o + 42) 8 s0) (hc : kp μ (o + 81) 16 s1) {a i : Int32} : kt_F G yX9_path cX9_path 3 (some .int) 5 [.ref o, .int a, .int i] σ μ (fun r μ2 => r = some (.int (ut_wr μ o a i 3 (o + 364 + 2) 60).1) ∧ μ2 = (ut_wr μ o a i 3 (o + 364 + 2) 60).2) := by
  refine kt_F.of (by decide) (Nat.le_of_ble_eq_true rfl) (fun X hX hr => ?_)
  have hp0 := hp
  obtain ⟨hk0, hr0, hr1, hr2, hr3, hr4, hr5, hr6, hr7, hr8, hr9, hr10, hr11, hr12, hk152, hk153, hk369, hk370, hk371, hrd, hdr, hor, hcu, hfw, hpt, hrn, hdi, him, hsh⟩ := hp
  obtain ⟨N, t, hpg, hN, hkp, hlo, hhi⟩ := ut_chf hor hcu hg hc a
  obtain ⟨wk0, wr0, wr1, wr2, wk1, wk2, wk3⟩ := id hrn
  refine kr_iload_n (i := 1) hX dX9_path_0 rfl rfl ?_
  refine kr_iconst (v := 1) hX dX9_path_1 (by decide) ?_
  refine kr_dS [_, _] hX km_9_92 dX9_path_2 (sp_within) rfl rfl (by decide) (Nat.le_of_ble_eq_true rfl) (Nat.le_refl _) (Nat.le_refl _) ?_
  refine kr_if_eq (tgt := 12) hX dX9_path_5 (by decide) (fun c_5 => ?_) (fun c_5 => ?_)
  · skip
    refine kr_iconst (v := (-1)) hX dX9_path_12 (by decide) ?_
    refine kr_iret hX hr dX9_path_13 ⟨rfl, ?_⟩
    simp only [kt_f_0, Classical.not_not] at c_5
    unfold ut_wr
    rw [if_neg (fun h => c_5 h.1)]
    exact ⟨rfl, rfl⟩
  · skip
    refine kr_iload_n (i := 2) hX dX9_path_8 rfl rfl ?_
    refine kr_if_ge (tgt := 14) hX dX9_path_9 (by decide) (fun c_9 => ?_) (fun c_9 => ?_)
    · skip
      refine kr_aload_n (i := 0) hX dX9_path_14 rfl rfl ?_
      refine kr_getr (c0 := 9) (k := 8) hX ⟨_, kf_9_56⟩ dX9_path_15 rfl (by first | exact hpg.1 | first | exact hk0 | exact hrd.1 | exact hdr.1 | exact hor.1 | exact hcu.1 | exact hfw.1 | exact hpt.1 | exact hrn.1 | exact hdi | assumption) (by assumption) ?_
      refine kr_aload_n (i := 0) hX dX9_path_18 rfl rfl ?_
      refine kr_iload_n (i := 1) hX dX9_path_19 rfl rfl ?_
      refine kr_dV (c1 := 9) [_] hX km_9_123 dX9_path_20 (sp_chosen hp0) rfl rfl ⟨_, _, rfl⟩ (by decide) (Nat.le_of_ble_eq_true rfl) (Nat.le_refl _) (Nat.le_refl _) (by first | exact hpg.1 | first | exact hk0 | exact hrd.1 | exact hdr.1 | exact hor.1 | exact hcu.1 | exact hfw.1 | exact hpt.1 | exact hrn.1 | exact hdi | assumption) ?_
      refine kr_aload_n (i := 0) hX dX9_path_23 rfl rfl ?_
      refine kr_getr (c0 := 9) (k := 10) hX ⟨_, kf_9_67⟩ dX9_path_24 rfl (by first | exact hpg.1 | first | exact hk0 | exact hrd.1 | exact hdr.1 | exact hor.1 | exact hcu.1 | exact hfw.1 | exact hpt.1 | exact hrn.1 | exact hdi | assumption) (by assumption) ?_
      refine kr_dV (c1 := 7) [_, _] hX km_9_251 dX9_path_27 (sp_folS hrn hpg hN hkp.2.1 (by omega) hk369 (by omega) hkp.1 hkp.2.2.1) rfl rfl ⟨_, _, rfl⟩ (by decide) (Nat.le_of_ble_eq_true rfl) (Nat.le_refl _) (Nat.le_refl _) (by first | exact hpg.1 | first | exact hk0 | exact hrd.1 | exact hdr.1 | exact hor.1 | exact hcu.1 | exact hfw.1 | exact hpt.1 | exact hrn.1 | exact hdi | assumption) ?_
      refine kr_iload_n (i := 2) hX dX9_path_30 rfl rfl ?_
      refine kr_aload_n (i := 0) hX dX9_path_31 rfl rfl ?_
      refine kr_getr (c0 := 9) (k := 8) hX ⟨_, kf_9_56⟩ dX9_path_32 rfl (by first | exact hpg.1 | first | exact hk0 | exact hrd.1 | exact hdr.1 | exact hor.1 | exact hcu.1 | exact hfw.1 | exact hpt.1 | exact hrn.1 | exact hdi | assumption) (by assumption) ?_
      refine kr_geti (c0 := 7) (k := 3) hX ⟨_, kf_9_263⟩ dX9_path_35 rfl (by first | exact hpg.1 | first | exact hk0 | exact hrd.1 | exact hdr.1 | exact hor.1 | exact hcu.1 | exact hfw.1 | exact hpt.1 | exact hrn.1 | exact hdi | assumption) ?_
      refine kr_icmp_ge (tgt := 65) hX dX9_path_38 (by decide) (fun c_38 => ?_) (fun c_38 => ?_)
      · skip
        refine kr_bipush (v := (-4)) hX dX9_path_65 (by decide) ?_
        refine kr_iret hX hr dX9_path_67 ⟨rfl, ?_⟩
        simp only [kt_f_0, Classical.not_not] at c_5
        unfold ut_wr
        rw [if_pos ⟨c_5, c_9⟩]
        dsimp only
        rw [if_neg (fun h => absurd h.1 (Int32.not_lt.mpr c_38))]
        exact ⟨rfl, rfl⟩
      · skip
        refine kr_iload_n (i := 2) hX dX9_path_41 rfl rfl ?_
        refine kr_aload_n (i := 0) hX dX9_path_42 rfl rfl ?_
        refine kr_getr (c0 := 9) (k := 8) hX ⟨_, kf_9_56⟩ dX9_path_43 rfl (by first | exact hpg.1 | first | exact hk0 | exact hrd.1 | exact hdr.1 | exact hor.1 | exact hcu.1 | exact hfw.1 | exact hpt.1 | exact hrn.1 | exact hdi | assumption) (by assumption) ?_
        refine kr_getr (c0 := 7) (k := 1) hX ⟨_, kf_9_266⟩ dX9_path_46 rfl (by first | exact hpg.1 | first | exact hk0 | exact hrd.1 | exact hdr.1 | exact hor.1 | exact hcu.1 | exact hfw.1 | exact hpt.1 | exact hrn.1 | exact hdi | assumption) (by assumption) ?_
        refine kr_alen (t := 0) (n := 60) (v := 60) hX dX9_path_49 (by first | exact hpg.1 | first | exact hk0 | exact hrd.1 | exact hdr.1 | exact hor.1 | exact hcu.1 | exact hfw.1 | exact hpt.1 | exact hrn.1 | exact hdi | assumption) (by decide) (by decide) ?_
        refine kr_icmp_ge (tgt := 65) hX dX9_path_50 (by decide) (fun c_50 => ?_) (fun c_50 => ?_)
        · skip
          refine kr_bipush (v := (-4)) hX dX9_path_65 (by decide) ?_
          refine kr_iret hX hr dX9_path_67 ⟨rfl, ?_⟩
          simp only [kt_f_0, Classical.not_not] at c_5
          unfold ut_wr
          rw [if_pos ⟨c_5, c_9⟩]
          dsimp only
          rw [if_neg (fun h => absurd h.2 (Int32.not_lt.mpr c_50))]
          exact ⟨rfl, rfl⟩
        · skip
          refine kr_aload_n (i := 0) hX dX9_path_53 rfl rfl ?_
          refine kr_getr (c0 := 9) (k := 8) hX ⟨_, kf_9_56⟩ dX9_path_54 rfl (by first | exact hpg.1 | first | exact hk0 | exact hrd.1 | exact hdr.1 | exact hor.1 | exact hcu.1 | exact hfw.1 | exact hpt.1 | exact hrn.1 | exact hdi | assumption) (by assumption) ?_
          refine kr_getr (c0 := 7) (k := 1) hX ⟨_, kf_9_266⟩ dX9_path_57 rfl (by first | exact hpg.1 | first | exact hk0 | exact hrd.1 | exact hdr.1 | exact hor.1 | exact hcu.1 | exact hfw.1 | exact hpt.1 | exact hrn.1 | exact hdi | assumption) (by assumption) ?_
          refine kr_iload_n (i := 2) hX dX9_path_60 rfl rfl ?_
          refine kr_iald hX dX9_path_61 (by first | exact hpg.1 | first | exact hk0 | exact hrd.1 | exact hdr.1 | exact hor.1 | exact hcu.1 | exact hfw.1 | exact hpt.1 | exact hrn.1 | exact hdi | assumption) (by exact vp_in_iff.mpr (by have h5 := c_9; have h6 := c_50; simp only [Int32.le_iff_toInt_le, Int32.lt_iff_toInt_lt, ki_0, show (60 : Int32).toInt = 60 from by decide] at h5 h6 ⊢; omega)) ?_
          refine kr_goto (tgt := 67) hX dX9_path_62 (by decide) ?_
          refine kr_iret hX hr dX9_path_67 ⟨rfl, ?_⟩
          simp only [kt_f_0, Classical.not_not] at c_5
          unfold ut_wr
          rw [if_pos ⟨c_5, c_9⟩]
          dsimp only
          rw [if_pos ⟨Int32.not_le.mp c_38, Int32.not_le.mp c_50⟩]
          exact ⟨rfl, rfl⟩
    · skip
      refine kr_iconst (v := (-1)) hX dX9_path_12 (by decide) ?_
      refine kr_iret hX hr dX9_path_13 ⟨rfl, ?_⟩
      simp only [kt_f_0, Classical.not_not] at c_5
      unfold ut_wr
      rw [if_neg (fun h => c_9 h.2)]
      exact ⟨rfl, rfl⟩


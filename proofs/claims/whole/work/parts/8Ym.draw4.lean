/-- the end of a block is drawn -/
theorem pu_dend {n m p b kb N na : Nat} {μ ν : kt_M} {f : Nat → Nat × Nat × Nat} (hb : b < 8) (hkb : kb + 4 ≤ p) (hN : 0 < N) (hN8 : N ≤ 8) (hn : 10 ≤ n) (hna : na ≤ 4) (hs : kt_i μ p 0 = kt_i ν m 28) (h6 : kt_i μ kb 6 = 0) (h : AC μ ν kb (m + 1) (321 * 0 + 1 + 20 * b) na f) : ∃ D ν1, x_drawsEnd n m ν (nI (321 * 0 + 1 + 20 * b)) (nI N) = some ((), ν1) ∧ WB D N ∧ db_or D = b ∧ CB (kt_si (d_aimL p kb (nI N) (k_ne (d_end μ p kb) kb) 0 (d_end μ p kb)) kb 10 (nI b)) kb D ∧ MB (kt_si ν1 (m + 1) (321 * 0 + 1 + 20 * b + 19) (nI b)) m 0 b D ∧ kt_i (d_aimL p kb (nI N) (k_ne (d_end μ p kb) kb) 0 (d_end μ p kb)) p 0 = kt_i ν1 m 28 ∧ (∀ y z, ¬ (y = m ∧ z = 28) → ¬ (y = m + 1 ∧ 321 * 0 + 1 + 20 * b + 13 ≤ z ∧ z < 321 * 0 + 1 + 20 * b + 19) → kt_i ν1 y z = kt_i ν y z) := by
  obtain ⟨g, en, lf, rv, rt, ν3, ⟨g1, g2, g3, g4, g5, g6, g7, g8, g9⟩, e1, e2, e3, e4, e5, e6, ⟨v13, v14, v15, v16, v17, v18⟩, e8⟩ := pu_dend0 (n := n) (m := m) (c := 321 * 0 + 1 + 20 * b) (N := nI N) (by omega) hkb hs h6
  have hne : k_ne (d_end μ p kb) kb = if g = 0 then 0 else if g = 1 then 1 else 2 := by
    unfold k_ne
    rw [e3, kb_ed_nI (D := (na, f, en, (0, 0), (lf, rv, rt), b)) g5 rfl, nI_clamp (by have := db_ne_le (na, f, en, (0, 0), (lf, rv, rt), b); omega)]
    show (if en = 0 then 0 else if en = 1 then 1 else 2) = _
    by_cases q0 : g = 0
    · rw [if_pos q0, if_pos (g2 q0)]
    · by_cases q1 : g = 1
      · rw [if_neg q0, if_pos q1, if_neg (by have := g3 q1; omega), if_pos (g3 q1)]
      · rw [if_neg q0, if_neg q1, if_neg (by omega), if_neg (by omega)]
  have hle : k_ne (d_end μ p kb) kb ≤ 2 := by rw [hne]; split; decide; split; decide; decide
  have hx1 : 1 ≤ en → 0 < k_ne (d_end μ p kb) kb := fun q => by rw [hne, if_neg (fun z => by have := g2 z; omega)]; split <;> decide
  have hx2 : 2 ≤ en → 1 < k_ne (d_end μ p kb) kb := fun q => by rw [hne, if_neg (fun z => by have := g2 z; omega), if_neg (fun z => by have := g3 z; omega)]; decide
  have hy1 : ¬ 1 ≤ en → k_ne (d_end μ p kb) kb = 0 := fun q => by rw [hne, if_pos (by omega)]
  have hy2 : ¬ 2 ≤ en → k_ne (d_end μ p kb) kb ≤ 1 := fun q => by
    rw [hne]
    by_cases q0 : g = 0
    · rw [if_pos q0]; decide
    · rw [if_neg q0, if_pos (by omega)]; decide
  obtain ⟨ν1, a1, a2, a3, a4, a5⟩ := pu_daims (n := n) (m := m) (c := 321 * 0 + 1 + 20 * b) (kb := kb) (N := N) (by omega) hkb hN (by omega) g1 hne n 0 (d_end μ p kb) ν3 (by omega) (by omega) e2
  rw [Nat.sub_zero] at a2 a3 a4
  obtain ⟨t0, ht0⟩ : ∃ t0, 1 ≤ en → t0 < N ∧ kt_i (d_aimL p kb (nI N) (k_ne (d_end μ p kb) kb) 0 (d_end μ p kb)) kb 8 = nI t0 ∧ kt_i ν1 (m + 1) (321 * 0 + 1 + 20 * b + 14) = nI t0 := by
    by_cases q : 1 ≤ en
    · obtain ⟨t, t1, t2, t3⟩ := a3 0 (by decide) (hx1 q)
      exact ⟨t, fun _ => ⟨t1, t2, t3⟩⟩
    · exact ⟨0, fun z => absurd z q⟩
  obtain ⟨t1, ht1⟩ : ∃ t1, 2 ≤ en → t1 < N ∧ kt_i (d_aimL p kb (nI N) (k_ne (d_end μ p kb) kb) 0 (d_end μ p kb)) kb 9 = nI t1 ∧ kt_i ν1 (m + 1) (321 * 0 + 1 + 20 * b + 15) = nI t1 := by
    by_cases q : 2 ≤ en
    · obtain ⟨t, t1, t2, t3⟩ := a3 1 (by decide) (hx2 q)
      exact ⟨t, fun _ => ⟨t1, t2, t3⟩⟩
    · exact ⟨0, fun z => absurd z q⟩
  have hcl : ∀ y z, y ≠ p → ¬ (y = kb ∧ 8 ≤ z ∧ z ≤ 10) → kt_i (kt_si (d_aimL p kb (nI N) (k_ne (d_end μ p kb) kb) 0 (d_end μ p kb)) kb 10 (nI b)) y z = kt_i (d_end μ p kb) y z := fun y z q1 q2 => by
    rw [kt_i_si, if_neg (by omega), a4 y z q1 (by omega)]
  have hcl2 : ∀ y z, y ≠ p → ¬ (y = kb ∧ 4 ≤ z ∧ z ≤ 10) → kt_i (kt_si (d_aimL p kb (nI N) (k_ne (d_end μ p kb) kb) 0 (d_end μ p kb)) kb 10 (nI b)) y z = kt_i μ y z := fun y z q1 q2 => by
    rw [hcl y z q1 (by omega), e6 y z q1 (by omega)]
  have hmo : ∀ w, w < 19 → ¬ (14 ≤ w ∧ w < 14 + k_ne (d_end μ p kb) kb) → kt_i (kt_si ν1 (m + 1) (321 * 0 + 1 + 20 * b + 19) (nI b)) (m + 1) (321 * 0 + 1 + 20 * b + w) = kt_i ν3 (m + 1) (321 * 0 + 1 + 20 * b + w) := fun w q1 q2 => by
    rw [kt_i_sik (by omega), a5 _ _ (by omega) (by omega)]
  have hmo2 : ∀ w, w < 13 → kt_i (kt_si ν1 (m + 1) (321 * 0 + 1 + 20 * b + 19) (nI b)) (m + 1) (321 * 0 + 1 + 20 * b + w) = kt_i ν (m + 1) (321 * 0 + 1 + 20 * b + w) := fun w q1 => by
    rw [hmo w (by omega) (by omega), e8 _ _ (by omega) (by omega)]
  refine ⟨(na, f, en, (t0, t1), (lf, rv, rt), b), ν1, e1.trans a1, ⟨hna, fun i hi => (h.2.2 i hi).2, g5, fun q => (ht0 q).1, fun q => ⟨(ht1 q).1, g6, g7, g8, g9⟩, hb⟩, rfl, ⟨?_, fun i hi => ?_, ?_, fun q => ?_, fun q => ⟨?_, ?_, ?_, ?_⟩, kt_i_sie, ?_⟩, ⟨?_, fun i hi => ⟨?_, ?_, ?_⟩, ?_, ?_, ?_, ?_, ?_, ?_, kt_i_sie⟩, a2, fun y z q1 q2 => ?_⟩
  · rw [hcl2 _ _ (by omega) (by omega)]; exact h.1
  · rw [hcl2 _ _ (by omega) (by omega), hcl2 _ _ (by omega) (by omega), hcl2 _ _ (by omega) (by omega)]; exact (h.2.2 i hi).1.1
  · rw [hcl _ _ (by omega) (by omega)]; exact e3
  · rw [kt_i_sik (by decide)]; exact (ht0 q).2.1
  · rw [kt_i_sik (by decide)]; exact (ht1 q).2.1
  · rw [hcl _ _ (by omega) (by omega)]; exact (e4 q).1
  · rw [hcl _ _ (by omega) (by omega)]; exact (e4 q).2.1
  · rw [hcl _ _ (by omega) (by omega)]; exact (e4 q).2.2
  · rw [hcl _ _ (by omega) (by omega)]; exact e5
  · show kt_i _ (m + 1) (321 * 0 + 1 + 20 * b + 0) = _
    rw [hmo2 0 (by decide)]; exact h.2.1
  · have hi : i < na := hi
    show kt_i _ (m + 1) (321 * 0 + 1 + 20 * b + (1 + 3 * i)) = _
    rw [hmo2 _ (by omega)]; exact (h.2.2 i hi).1.2.1
  · have hi : i < na := hi
    show kt_i _ (m + 1) (321 * 0 + 1 + 20 * b + (1 + 3 * i + 1)) = _
    rw [hmo2 _ (by omega)]; exact (h.2.2 i hi).1.2.2.1
  · have hi : i < na := hi
    show kt_i _ (m + 1) (321 * 0 + 1 + 20 * b + (1 + 3 * i + 2)) = _
    rw [hmo2 _ (by omega)]; exact (h.2.2 i hi).1.2.2.2
  · show kt_i _ (m + 1) (321 * 0 + 1 + 20 * b + 13) = nI en
    rw [hmo 13 (by decide) (by omega)]; exact v13
  · show kt_i _ (m + 1) (321 * 0 + 1 + 20 * b + 14) = if 1 ≤ en then nI t0 else -4
    by_cases q : 1 ≤ en
    · rw [if_pos q, kt_i_sik (by omega)]; exact (ht0 q).2.2
    · rw [if_neg q, hmo 14 (by decide) (by have := hy1 q; omega)]; exact v14
  · show kt_i _ (m + 1) (321 * 0 + 1 + 20 * b + 15) = if 2 ≤ en then nI t1 else -4
    by_cases q : 2 ≤ en
    · rw [if_pos q, kt_i_sik (by omega)]; exact (ht1 q).2.2
    · rw [if_neg q, hmo 15 (by decide) (by have := hy2 q; omega)]; exact v15
  · show kt_i _ (m + 1) (321 * 0 + 1 + 20 * b + 16) = _
    rw [hmo 16 (by decide) (by omega)]; exact v16
  · show kt_i _ (m + 1) (321 * 0 + 1 + 20 * b + 17) = _
    rw [hmo 17 (by decide) (by omega)]; exact v17
  · show kt_i _ (m + 1) (321 * 0 + 1 + 20 * b + 18) = _
    rw [hmo 18 (by decide) (by omega)]; exact v18
  · rw [a5 y z q1 (by omega), e8 y z q1 (by omega)]
theorem d_act_6 {μ : kt_M} {p b : Nat} (hne : b + 4 ≤ p) : kt_i (d_act μ p b) b 6 = kt_i μ b 6 := by
  unfold d_act m_add
  rw [kt_i_sik (by decide), kt_i_sin (by omega), kt_i_sin (by omega), kt_i_sin (by omega), d_opn_out (by omega), d_nx_out (by omega), d_nx_out (by omega)]
theorem d_actsL_6 {p b : Nat} (hne : b + 4 ≤ p) : ∀ (n : Nat) (μ : kt_M), kt_i (d_actsL p b n μ) b 6 = kt_i μ b 6
  | 0, _ => rfl
  | n + 1, μ => by rw [d_actsL, d_actsL_6 hne n, d_act_6 hne]
/-- a block is drawn -/
theorem pu_dblk {n m o i N : Nat} {μ ν : kt_M} (hi : i < N) (hN8 : N ≤ 8) (hn : 10 ≤ n) (hs : kt_i μ (o + 368) 0 = kt_i ν m 28) (K28 : Int32 → Int32 → kt_M → Option (Int32 × kt_M)) : ∃ D ν1, x_draw_B28 n m K28 (nI N) (nI i) ν = K28 (nI N) (nI (i + 1)) ν1 ∧ WB D N ∧ db_or D = i ∧ CB (kt_si (d_blk (p_grw μ (o + 42) i) (o + 368) (o + 42 + 7 + 4 * i) (nI N)) (o + 42 + 7 + 4 * i) 10 (nI i)) (o + 42 + 7 + 4 * i) D ∧ MB ν1 m 0 i D ∧ kt_i (d_blk (p_grw μ (o + 42) i) (o + 368) (o + 42 + 7 + 4 * i) (nI N)) (o + 368) 0 = kt_i ν1 m 28 ∧ (∀ y z, ¬ (y = m ∧ z = 28) → ¬ (y = m + 1 ∧ 321 * 0 + 1 + 20 * i ≤ z ∧ z < 321 * 0 + 1 + 20 * i + 20) → kt_i ν1 y z = kt_i ν y z) := by
  have hsg : kt_i (p_grw μ (o + 42) i) (o + 368) 0 = kt_i μ (o + 368) 0 := p_grw_out (by omega)
  have hg0 : kt_i (p_grw μ (o + 42) i) (o + 42 + 7 + 4 * i) 0 = 0 := by unfold p_grw; rw [kt_i_sin (by omega), m_wipe_0]
  have hg6 : kt_i (p_grw μ (o + 42) i) (o + 42 + 7 + 4 * i) 6 = 0 := by unfold p_grw; rw [kt_i_sin (by omega), m_wipe_6]
  generalize p_grw μ (o + 42) i = μg at hsg hg0 hg6
  obtain ⟨k, hk, ek⟩ := dv_ex (kt_i μg (o + 368) 0) (k := 4) (by decide) (by decide)
  have c1 : d_val μg (o + 368) 4 = nI k := (d_val_e (k := 4) (by decide) (by decide)).trans ek
  have hblk : d_blk μg (o + 368) (o + 42 + 7 + 4 * i) (nI N) = d_aimL (o + 368) (o + 42 + 7 + 4 * i) (nI N) (k_ne (d_end (d_actsL (o + 368) (o + 42 + 7 + 4 * i) k (d_nx μg (o + 368))) (o + 368) (o + 42 + 7 + 4 * i)) (o + 42 + 7 + 4 * i)) 0 (d_end (d_actsL (o + 368) (o + 42 + 7 + 4 * i) k (d_nx μg (o + 368))) (o + 368) (o + 42 + 7 + 4 * i)) := by
    unfold d_blk d_blk0
    rw [kt_seal_eq, c1, nI_clamp (by omega)]
  rw [hblk]
  have hAC : AC (d_nx μg (o + 368)) (kt_si (kt_si ν m 28 (k_sd (kt_i ν m 28))) (m + 1) (321 * 0 + 1 + 20 * i) 0) (o + 42 + 7 + 4 * i) (m + 1) (321 * 0 + 1 + 20 * i) 0 (fun _ => (0, 0, 0)) := ⟨by rw [d_nx_out (by omega), hg0]; rfl, by rw [kt_i_sie]; rfl, fun j hj => absurd hj (by omega)⟩
  obtain ⟨f, ν1, a1, a2, a3, a4⟩ := pu_dacts (n := n) (m := m) (p := o + 368) (c := 321 * 0 + 1 + 20 * i) (kb := o + 42 + 7 + 4 * i) (k := k) (l2 := nI N) (l3 := nI i) (by omega) (by omega) (by omega) K28 n 0 (d_nx μg (o + 368)) (kt_si (kt_si ν m 28 (k_sd (kt_i ν m 28))) (m + 1) (321 * 0 + 1 + 20 * i) 0) (fun _ => (0, 0, 0)) (by omega) (by omega) (by rw [d_nx_e, hsg, kt_i_sin (by omega), kt_i_sie, hs]) hAC
  rw [Nat.sub_zero] at a2 a3
  obtain ⟨D, ν2, b1, b2, b3, b4, b5, b6, b7⟩ := pu_dend (n := n) (m := m) (p := o + 368) (b := i) (kb := o + 42 + 7 + 4 * i) (N := N) (na := k) (by omega) (by omega) (by omega) hN8 hn (by omega) a3 (by rw [d_actsL_6 (by omega), d_nx_out (by omega), hg6]) a2
  have ek2 : k_dr (k_sd (kt_i ν m 28)) - k_dr (k_sd (kt_i ν m 28)) / 4 * 4 = nI k := by rw [← hs, ← hsg]; exact ek
  refine ⟨D, kt_si ν2 (m + 1) (321 * 0 + 1 + 20 * i + 19) (nI i), ?_, b2, b3, b4, b5, ?_, fun y z q1 q2 => ?_⟩
  · unfold x_draw_B28
    rw [if_neg (fun q => by have := (nI_leI (by omega) (by omega)).mp q; omega), kq_b1_s (show x_at n 0 (nI i) 0 = some (nI (321 * 0 + 1 + 20 * i)) from pu_at (p := 0) (w := 0)), kq_b2_s pu_gets, kq_ck_t (pu_kin (by omega) (by decide)), nI_clamp (by omega), ek2]
    simp only [kq_lt]
    rw [show (0 : Int32) = nI 0 from rfl] at a1 ⊢
    rw [a1]
    unfold x_draw_B60
    rw [if_pos ((nI_leI (by omega) (by omega)).mpr (Nat.le_refl _)), kq_b2_s b1, show nI (321 * 0 + 1 + 20 * i) + 19 = nI (321 * 0 + 1 + 20 * i + 19) from nI_add _ 19, kq_ck_t (pu_kin (by omega) (by decide)), nI_clamp (by omega), nI_1]
    simp only [kq_lt]
  · rw [kt_i_sin (by omega)]; exact b6
  · rw [kt_i_si, if_neg (by omega), b7 y z q1 (by omega), a4 y z q1 (by omega), kt_i_si, if_neg (by omega), kt_i_si, if_neg q1]
theorem ut_drL_out {o x k : Nat} {c : Int32} (h : x ≠ o + 42 ∧ x ≠ o + 368 ∧ (x < o + 49 ∨ o + 81 ≤ x)) : ∀ (n i : Nat) (μ : kt_M), i + n ≤ 8 → kt_i (ut_drL o c n i μ) x k = kt_i μ x k
  | 0, _, _, _ => rfl
  | n + 1, i, μ, hi => by rw [ut_drL, ut_drL_out h n (i + 1) _ (by omega), d_blk_out (by omega), p_grw_out (by omega)]
/-- all blocks are drawn -/
theorem pu_dL {n m o N : Nat} (hN8 : N ≤ 8) (hn : 10 ≤ n) (hom : o + 522 ≤ m) : ∀ (fu i : Nat) (μ ν : kt_M) (Q : Nat → DB), i ≤ N → N < i + fu → kt_i μ (o + 368) 0 = kt_i ν m 28 → (∀ j, j < i → WB (Q j) N ∧ db_or (Q j) = j ∧ CB (kt_si μ (o + 42 + 7 + 4 * j) 10 (nI j)) (o + 42 + 7 + 4 * j) (Q j) ∧ MB ν m 0 j (Q j)) → ∃ (Q' : Nat → DB) (ν1 : kt_M), x_draw_L28 n m fu (nI N) (nI i) ν = kq_b2 (x_anew n m ν1) (fun _ w => kq_b2 (x_summed n m w 0 2) (fun r w2 => some (r, w2))) ∧ (∀ j, j < N → WB (Q' j) N ∧ db_or (Q' j) = j ∧ CB (kt_si (ut_drL o (nI N) (N - i) i μ) (o + 42 + 7 + 4 * j) 10 (nI j)) (o + 42 + 7 + 4 * j) (Q' j) ∧ MB ν1 m 0 j (Q' j)) ∧ (∀ y z, ¬ (y = m ∧ z = 28) → ¬ (y = m + 1 ∧ 1 ≤ z ∧ z < 321) → kt_i ν1 y z = kt_i ν y z)
  | 0, i, μ, ν, Q, h1, h2, hs, h => by omega
  | fu + 1, i, μ, ν, Q, h1, h2, hs, h => by
    rw [x_draw_L28]
    by_cases e : i = N
    · refine ⟨Q, ν, ?_, fun j hj => by rw [e, Nat.sub_self]; exact h j (by omega), fun _ _ _ _ => rfl⟩
      unfold x_draw_B28
      rw [if_pos ((nI_leI (by omega) (by omega)).mpr (by omega))]
    · obtain ⟨D, ν1, a1, a2, a3, a4, a5, a6, a7⟩ := pu_dblk (n := n) (m := m) (o := o) (i := i) (N := N) (by omega) hN8 hn hs (x_draw_L28 n m fu)
      rw [a1, show N - i = (N - (i + 1)) + 1 by omega, ut_drL]
      obtain ⟨Q', ν2, b1, b2, b3⟩ := pu_dL (n := n) (m := m) (o := o) hN8 hn hom fu (i + 1) (d_blk (p_grw μ (o + 42) i) (o + 368) (o + 42 + 7 + 4 * i) (nI N)) ν1 (fun j => if j = i then D else Q j) (by omega) (by omega) a6 (fun j hj => by
        by_cases e2 : j = i
        · subst e2; simp only [if_pos]; exact ⟨a2, a3, a4, a5⟩
        · simp only [if_neg e2]
          obtain ⟨c1, c2, c3, c4⟩ := h j (by omega)
          refine ⟨c1, c2, c3.ext (fun y z q1 q2 => ?_), c4.tr c1 (fun w hw => by unfold mr; exact a7 _ _ (by omega) (by omega))⟩
          rw [kt_i_si, kt_i_si]
          split
          · rfl
          · rw [d_blk_out (by omega), p_grw_out (by omega)])
      exact ⟨Q', ν2, b1, b2, fun y z q1 q2 => by rw [b3 y z q1 q2, a7 y z q1 (by omega)]⟩
theorem k_totL_ext {μ μ' : kt_M} {q : Nat} {w : Int32} : ∀ (n i : Nat) (a : Int32), (∀ b, i ≤ b → b < i + n → kt_i μ' (q + 7 + 4 * b) 0 = kt_i μ (q + 7 + 4 * b) 0 ∧ kt_i μ' (q + 7 + 4 * b) 4 = kt_i μ (q + 7 + 4 * b) 4) → k_totL μ' q w n i a = k_totL μ q w n i a
  | 0, _, _, _ => rfl
  | n + 1, i, a, h => by
    rw [k_totL, k_totL]
    have e : k_tot μ' (q + 7 + 4 * i) w = k_tot μ (q + 7 + 4 * i) w := by
      unfold k_tot
      rw [(h i (by omega) (by omega)).1, (h i (by omega) (by omega)).2]
    rw [e, k_totL_ext n (i + 1) _ (fun b b1 b2 => h b (by omega) (by omega))]
theorem st_draw {μ : kt_M} {o m : Nat} (h : kInv μ o m) (a1 : Int32) (a2 : Int32) : ∃ (n : Nat) (μ1 : kt_M), x_draw n m (ut_draw μ o a1 a2).2 a1 a2 = some ((ut_draw μ o a1 a2).1, μ1) ∧ kInv μ1 o m := by
  obtain ⟨P0, P1, PI, L, lim, h⟩ := h
  have hom := h.1
  obtain ⟨fu, hfu⟩ : ∃ fu : Nat, 1000 ≤ fu := ⟨4000, by decide⟩
  refine ⟨fu, ?_⟩
  unfold x_draw
  rw [kq_b1_s (show x_in fu (Int32.toInt64 a2) 1 8 = _ from pu_in (lo := 1) (hi := 8) rfl rfl)]
  by_cases hg : ¬ a2 < 1 ∧ a2 ≤ 8
  · have hg2 : 1 ≤ a2 ∧ a2 ≤ 8 := ⟨Int32.not_lt.mp hg.1, hg.2⟩
    obtain ⟨N, hN, rfl⟩ := nI_of (x := a2) (by rw [Int32.not_lt]; exact Int32.le_trans (by decide) hg2.1)
    have hN8 : N ≤ 8 := (nI_leI (b := 8) hN (by decide)).mp hg2.2
    have hN1 : 1 ≤ N := (nI_leI (a := 1) (by decide) hN).mp hg2.1
    obtain ⟨μ', hμ'⟩ : ∃ μ', μ' = ut_drL o (nI N) N 0 (kt_si (kt_si μ (o + 368) 0 a1) (o + 42) 3 0) := ⟨_, rfl⟩
    have hu : ut_draw μ o a1 (nI N) = (k_totL (ut_new μ' o N) (o + 42) 2 N 0 0, ut_new μ' o N) := by
      have : ut_draw μ o a1 (nI N) = _ := if_pos hg
      rw [this]; unfold ut_dr0; rw [nI_clamp hN, ← hμ']
    rw [hu]
    dsimp only
    rw [kt_f_t hg2, if_neg (show ¬ (1 : Int32) = 0 by decide)]
    simp only [kq_lt]
    rw [show Int32.toNatClampNeg 0 = 0 from rfl]
    have hco : ∀ y z, (y ≠ o + 42 ∧ y ≠ o + 368 ∧ (y < o + 49 ∨ o + 81 ≤ y)) → kt_i μ' y z = kt_i μ y z := fun y z q => by
      rw [hμ', ut_drL_out q _ _ _ (by omega), kt_i_sin q.1, kt_i_sin q.2.1]
    have hnm : ∀ y k, m ≤ y → kt_i (ut_new μ' o N) y k = kt_i μ y k := fun y k hy => by
      unfold ut_new
      rw [kt_i_sin (by omega), kt_i_sin (by omega), kt_i_sin (by omega), m_pcpL_out _ _ _ (by omega), kt_i_sin (by omega), m_orgL_far _ _ _ (fun c c1 c2 => by omega), hco _ _ (by omega)]
    obtain ⟨Q, ν1, b1, b2, b3⟩ := pu_dL (n := fu) (m := m) (o := o) (N := N) hN8 (by omega) hom fu 0 (kt_si (kt_si μ (o + 368) 0 a1) (o + 42) 3 0) (kt_si (kt_si (ut_new μ' o N) m 28 a1) (m + 1) 0 (nI N)) (fun _ => (0, fun _ => (0, 0, 0), 0, (0, 0), (0, 0, 0), 0)) (by omega) (by omega) (by rw [kt_i_sin (by omega), kt_i_sie, kt_i_sin (by omega), kt_i_sie]) (fun j hj => absurd hj (by omega))
    rw [Nat.sub_zero, ← hμ'] at b2
    rw [show x_draw_L28 fu m fu (nI N) 0 (kt_si (kt_si (ut_new μ' o N) m 28 a1) (m + 1) 0 (nI N)) = _ from b1]
    obtain ⟨μ1, e1, e2, e3, e4⟩ := pu_anew (n := fu) (m := m) (μ := ν1) (by omega)
    rw [kq_b2_s e1]
    have hWO : WO (N, Q) := ⟨⟨hN8, fun b hb => (b2 b hb).1⟩, fun b hb => (b2 b hb).2.1⟩
    have hP := hWO.1.up
    have hC3 : kt_i μ' (o + 42) 3 = nI N := by
      have hd := ut_drL_d (o := o) (m := nI N) N 0 (kt_si (kt_si μ (o + 368) 0 a1) (o + 42) 3 0) (by omega) ⟨kt_i_sie, by rw [kt_i_sin (by omega), kt_i_sin (by omega)]; exact h.2.2.2.2.1.2.1.1, fun b hb => absurd hb (by omega)⟩
      rw [hμ']
      have := hd.1
      rwa [Nat.zero_add] at this
    have hC : CP (m_orgL (o + 42) N 0 μ') (o + 42) (N, Q) := cp_org (P := (N, Q)) hC3 (fun b hb => (b2 b hb).2.2.1)
    have hM0 : MP ν1 m 0 (N, Q) := ⟨by rw [b3 _ _ (by omega) (by omega)]; exact kt_i_sie, fun b hb => (b2 b hb).2.2.2⟩
    have hM1 : MP μ1 m 0 (N, Q) := hM0.far hP (fun j j1 j2 => e2 _ _ (by omega) (by omega))
    have hν1 : ∀ y z, y < m → kt_i μ1 y z = kt_i (ut_new μ' o N) y z := fun y z hy => by
      rw [e2 _ _ (by omega) (by omega), b3 _ _ (by omega) (by omega), kt_i_sin (by omega), kt_i_sin (by omega)]
    have hCn : ∀ y z, o + 42 ≤ y → y < o + 81 → kt_i (ut_new μ' o N) y z = kt_i (m_orgL (o + 42) N 0 μ') y z := fun y z q1 q2 => by
      unfold ut_new
      rw [kt_i_sin (by omega), kt_i_sin (by omega), kt_i_sin (by omega), m_pcpL_out _ _ _ (by omega), kt_i_sin (by omega)]
    have hC1 : CP μ1 (o + 42) (N, Q) := hC.ext (N := 8) hN8 (fun y z q1 q2 => by rw [hν1 y z (by omega), hCn y z q1 (by omega)])
    have hsum : x_summed fu m μ1 0 2 = some (k_totL (ut_new μ' o N) (o + 42) 2 N 0 0, μ1) := by
      unfold x_summed
      have := pu_sum (n := fu) (m := m) (p := 0) (q := o + 42) (w := 2) hP hC1 hM1 (by decide) (by decide) (by decide) fu 0 0 (by omega) (by show N < 0 + fu; omega)
      refine (show x_summed_L5 fu m fu 0 2 0 0 μ1 = _ from this).trans (pu_pair ?_ rfl)
      show k_totL μ1 (o + 42) (nI 2) (N - 0) 0 0 = _
      rw [Nat.sub_zero]
      exact k_totL_ext N 0 0 (fun b c1 c2 => ⟨hν1 _ _ (by omega), hν1 _ _ (by omega)⟩)
    rw [kq_b2_s hsum]
    refine ⟨μ1, rfl, h.new (P := (N, Q)) (μ' := μ') hWO hC (fun y k hy hm => hco y k (by unfold kRc at hy; omega)) hM1 (hM0.cop hP e3) e4 hν1 (fun y k hy hr => ?_)⟩
    unfold kRc at hr
    rw [e2 _ _ (by omega) (by omega), b3 _ _ (by omega) (by omega), kt_i_sin (by omega), kt_i_si, if_neg (by omega), hnm _ _ hy]
  · have hu : ut_draw μ o a1 a2 = _ := if_neg hg
    rw [hu]; clear hu
    rw [kt_f_f (fun q => hg ⟨Int32.not_lt.mpr q.1, q.2⟩)]
    exact ⟨μ, if_pos rfl, h.inv⟩

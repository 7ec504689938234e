/-! PURE: saved -/
theorem pu_gets {n m : Nat} {ν : kt_M} : x_gets n m ν = some (k_dr (k_sd (kt_i ν m 28)), kt_si ν m 28 (k_sd (kt_i ν m 28))) := by
  unfold x_gets
  simp only [kq_lt]
  rw [kt_i_sie]
  rfl
theorem d_val_e {μ : kt_M} {p k : Nat} (h0 : 0 < k) (hk : k < 2 ^ 31) : d_val μ p (nI k) = k_rem (k_dr (k_sd (kt_i μ p 0))) (nI k) := if_neg (nI_nle h0 hk)
/-- the inputs are drawn -/
theorem pu_tri {n m o : Nat} (hom : o + 522 ≤ m) {l2 l3 l4 : Int32} (K54 : Int32 → Int32 → Int32 → kt_M → Option (Int32 × kt_M)) : ∀ (fu i : Nat) (μ ν : kt_M), i ≤ 8 → 8 < i + fu → kt_i μ (o + 368) 0 = kt_i ν m 28 → (∀ j, j < i → ∃ x, x ≤ 51 ∧ kt_i μ (o + 370) j = nI x ∧ kt_i ν (m + 3) j = nI x) → ∃ ν1, x_saved_L63 n m K54 fu l2 l3 l4 (nI i) ν = x_saved_B63 n m K54 (fun _ _ _ _ _ => none) l2 l3 l4 8 ν1 ∧ kt_i (ut_tri o (8 - i) i μ) (o + 368) 0 = kt_i ν1 m 28 ∧ (∀ j, j < 8 → ∃ x, x ≤ 51 ∧ kt_i (ut_tri o (8 - i) i μ) (o + 370) j = nI x ∧ kt_i ν1 (m + 3) j = nI x) ∧ ∀ y z, ¬ (y = m ∧ z = 28) → ¬ (y = m + 3 ∧ z < 8) → kt_i ν1 y z = kt_i ν y z
  | 0, i, μ, ν, h1, h2, hs, hin => by omega
  | fu + 1, i, μ, ν, h1, h2, hs, hin => by
    rw [x_saved_L63]
    by_cases e : i = 8
    · subst e
      refine ⟨ν, ?_, hs, hin, fun _ _ _ _ => rfl⟩
      unfold x_saved_B63
      rw [if_pos (by decide), if_pos (by decide)]
    · obtain ⟨x, hx, ex⟩ := d_val_nI (μ := μ) (p := o + 368) (k := 52) (by decide) (by decide)
      have ex2 : k_rem (k_dr (k_sd (kt_i ν m 28))) (nI 52) = nI x := by rw [← ex, d_val_e (by decide) (by decide), hs]
      have hst : x_saved_B63 n m K54 (x_saved_L63 n m K54 fu) l2 l3 l4 (nI i) ν = x_saved_L63 n m K54 fu l2 l3 l4 (nI (i + 1)) (kt_si (kt_si ν m 28 (k_sd (kt_i ν m 28))) (m + 3) i (nI x)) := by
        unfold x_saved_B63
        rw [if_neg (fun q => by have := (nI_leI (a := 8) (by decide) (by omega)).mp q; omega), kq_b2_s pu_gets, kq_ck_t (pu_kin (by omega) (by decide)), nI_clamp (by omega), nI_1]
        simp only [kq_lt]
        rw [← ex2]; rfl
      rw [hst, show 8 - i = (8 - (i + 1)) + 1 by omega, ut_tri, show d_val μ (o + 368) 52 = nI x from ex]
      obtain ⟨ν1, a1, a2, a3, a4⟩ := pu_tri (n := n) (m := m) hom (l2 := l2) (l3 := l3) (l4 := l4) K54 fu (i + 1) (kt_si (d_nx μ (o + 368)) (o + 370) i (nI x)) (kt_si (kt_si ν m 28 (k_sd (kt_i ν m 28))) (m + 3) i (nI x)) (by omega) (by omega) (by
        unfold d_nx
        rw [kt_i_sin (by omega), kt_i_sie, kt_i_sin (by omega), kt_i_sie, hs]) (fun j hj => by
        by_cases e2 : j = i
        · subst e2; exact ⟨x, by omega, kt_i_sie, kt_i_sie⟩
        · rw [kt_i_sik e2, d_nx_out (by omega), kt_i_sik e2, kt_i_sin (by omega)]; exact hin j (by omega))
      exact ⟨ν1, a1, a2, a3, fun y z q1 q2 => by rw [a4 y z q1 q2, kt_i_si, if_neg (by omega), kt_i_si, if_neg q1]⟩
/-- the rounds -/
theorem pu_svL {n m o N : Nat} {P0 P1 : DP} (hn : 100 ≤ n) (hom : o + 522 ≤ m) (hN : N ≤ 10) (h0 : WP P0 8) (h1 : WP P1 16) : ∀ (fu r i : Nat) (μ ν : kt_M) (c : Int32), i + r = N → r < fu → kt_i μ (o + 368) 0 = kt_i ν m 28 → CP μ (o + 42) P0 → CP μ (o + 81) P1 → MP ν m 0 P0 → MP ν m 1 P1 → ∃ ν1, x_saved_L54 n m fu (nI N) c (nI i) ν = x_saved_L113 n m n (ut_svL o r μ c).1 0 ν1 ∧ (∀ y z, ¬ (y = m ∧ 22 ≤ z ∧ z ≤ 28) → ¬ (y = m + 3 ∧ z < 8) → y ≠ m + 12 → y ≠ m + 13 → y ≠ m + 14 → kt_i ν1 y z = kt_i ν y z)
  | 0, r, i, μ, ν, c, hr, hf, hs, hC0, hC1, hM0, hM1 => by omega
  | fu + 1, 0, i, μ, ν, c, hr, hf, hs, hC0, hC1, hM0, hM1 => by
    refine ⟨ν, ?_, fun _ _ _ _ _ _ _ => rfl⟩
    rw [x_saved_L54]
    unfold x_saved_B54
    rw [if_pos ((nI_leI (by omega) (by omega)).mpr (by omega))]; rfl
  | fu + 1, r + 1, i, μ, ν, c, hr, hf, hs, hC0, hC1, hM0, hM1 => by
    rw [x_saved_L54]
    unfold x_saved_B54
    rw [if_neg (fun q => by have := (nI_leI (by omega) (by omega)).mp q; omega), show (0 : Int32) = nI 0 from rfl]
    obtain ⟨ν1, a1, a2, a3, a4⟩ := pu_tri (n := n) (m := m) hom (l2 := nI N) (l3 := c) (l4 := nI i) (x_saved_L54 n m fu) n 0 μ ν (by decide) (by omega) hs (fun j hj => absurd hj (by omega))
    rw [a1, Nat.sub_zero] at *
    unfold x_saved_B63
    rw [if_pos (by decide)]
    have hT : ∀ y z, y ≠ o + 368 → y ≠ o + 370 → kt_i (ut_tri o 8 0 μ) y z = kt_i μ y z := fun y z q1 q2 => ut_tri_out ⟨q1, q2⟩ _ _ _
    have hs1 : ut_sv1 μ o = r_fol (ut_tri o 8 0 μ) (o + 364) (o + 42) (o + 370) := by unfold ut_sv1 q_fol; rw [kt_seal_eq, kt_seal_eq]
    have hs2 : ut_sv2 μ o = r_fol (ut_sv1 μ o) (o + 364) (o + 81) (o + 370) := by unfold ut_sv2 q_fol; rw [kt_seal_eq]
    have h1o : ∀ y z, (y < o + 364 ∨ o + 368 ≤ y) → kt_i (ut_sv1 μ o) y z = kt_i (ut_tri o 8 0 μ) y z := fun y z q => by unfold ut_sv1; rw [q_fol_out (by omega), kt_seal_eq]
    have h2o : ∀ y z, (y < o + 364 ∨ o + 368 ≤ y) → kt_i (ut_sv2 μ o) y z = kt_i (ut_tri o 8 0 μ) y z := fun y z q => by unfold ut_sv2; rw [q_fol_out (by omega), h1o y z q]
    have hp0 := h0.1
    have hp1 := h1.1
    obtain ⟨s2, c2, d2, ν2, b1, b2, -, -, -, -, -, b8⟩ := pu_runs (n := n) (m := m) (p := o + 364) (a := o + 370) (q := o + 42) (N := 8) (pg := 0) (μ := ut_tri o 8 0 μ) (ν := ν1) h0 (by decide) (by decide) (by omega) (by omega) hn (hC0.ext hp0 (fun y z q1 q2 => hT y z (by omega) (by omega))) (hM0.ext (fun j => a4 _ j (by omega) (by omega))) a3
    rw [← hs1] at b2
    have ht1 : x_testsOf n m ν1 0 = some (kt_i ν2 m 24, ν2) := by
      unfold x_testsOf
      rw [kq_b2_s (show x_runs n m ν1 0 = _ from b1)]
    rw [kq_b2_s ht1]
    obtain ⟨s3, c3, d3, ν3, e1, e2, -, -, -, -, -, e8⟩ := pu_runs (n := n) (m := m) (p := o + 364) (a := o + 370) (q := o + 81) (N := 16) (pg := 1) (μ := ut_sv1 μ o) (ν := ν2) h1 (by decide) (by decide) (by omega) (by omega) hn (hC1.ext hp1 (fun y z q1 q2 => by rw [h1o y z (by omega), hT y z (by omega) (by omega)])) (hM1.ext (fun j => by rw [b8 _ j (by omega) (by omega) (by omega) (by omega), a4 _ j (by omega) (by omega)])) (fun j hj => by rw [h1o _ _ (by omega), b8 _ _ (by omega) (by omega) (by omega) (by omega)]; exact a3 j hj)
    rw [← hs2] at e2
    have ht2 : x_testsOf n m ν2 1 = some (kt_i ν3 m 24, ν3) := by
      unfold x_testsOf
      rw [kq_b2_s (show x_runs n m ν2 1 = _ from e1)]
    rw [kq_b2_s ht2, nI_1]
    have hc : c + (kt_i ν2 m 24 - kt_i ν3 m 24) = c + kt_i (ut_sv1 μ o) (o + 364) 5 - kt_i (ut_sv2 μ o) (o + 364) 5 := by
      rw [b2.2.2.1, e2.2.2.1, Int32.sub_eq_add_neg, Int32.sub_eq_add_neg, Int32.add_assoc]
    rw [hc, ut_svL]
    obtain ⟨ν4, f1, f2⟩ := pu_svL (n := n) (m := m) hn hom hN h0 h1 fu r (i + 1) (ut_sv2 μ o) ν3 (c + kt_i (ut_sv1 μ o) (o + 364) 5 - kt_i (ut_sv2 μ o) (o + 364) 5) (by omega) (by omega) (by rw [h2o _ _ (by omega), e8 _ _ (by omega) (by omega) (by omega) (by omega), b8 _ _ (by omega) (by omega) (by omega) (by omega)]; exact a2) (hC0.ext hp0 (fun y z q1 q2 => by rw [h2o y z (by omega), hT y z (by omega) (by omega)])) (hC1.ext hp1 (fun y z q1 q2 => by rw [h2o y z (by omega), hT y z (by omega) (by omega)])) (hM0.ext (fun j => by rw [e8 _ j (by omega) (by omega) (by omega) (by omega), b8 _ j (by omega) (by omega) (by omega) (by omega), a4 _ j (by omega) (by omega)])) (hM1.ext (fun j => by rw [e8 _ j (by omega) (by omega) (by omega) (by omega), b8 _ j (by omega) (by omega) (by omega) (by omega), a4 _ j (by omega) (by omega)]))
    exact ⟨ν4, f1, fun y z q1 q2 q3 q4 q5 => by rw [f2 y z q1 q2 q3 q4 q5, e8 y z (by omega) q3 q4 q5, b8 y z (by omega) q3 q4 q5, a4 y z (by omega) q2]⟩
theorem pu_L113 {n m : Nat} {c : Int32} : ∀ (fu i : Nat) (ν : kt_M), i ≤ 8 → 8 < i + fu → ∃ ν1, x_saved_L113 n m fu c (nI i) ν = some (c, ν1) ∧ (∀ j, i ≤ j → j < 8 → kt_i ν1 (m + 3) j = kt_i ν (m + 15) j) ∧ ∀ y z, ¬ (y = m + 3 ∧ i ≤ z ∧ z < 8) → kt_i ν1 y z = kt_i ν y z
  | 0, i, ν, h1, h2 => by omega
  | fu + 1, i, ν, h1, h2 => by
    rw [x_saved_L113]
    unfold x_saved_B113
    by_cases e : i = 8
    · subst e
      exact ⟨ν, by rw [if_pos (by decide)], fun j q1 q2 => absurd q2 (by omega), fun _ _ _ => rfl⟩
    · rw [if_neg (fun q => by have := (nI_leI (a := 8) (by decide) (by omega)).mp q; omega), kq_ck_t (pu_kin (by omega) (by decide)), kq_ck_t (pu_kin (by omega) (by decide)), nI_clamp (by omega), nI_1]
      simp only [kq_lt]
      obtain ⟨ν1, a1, a2, a3⟩ := pu_L113 (n := n) (m := m) (c := c) fu (i + 1) (kt_si ν (m + 3) i (kt_i ν (m + 15) i)) (by omega) (by omega)
      refine ⟨ν1, a1, fun j q1 q2 => ?_, fun y z q => ?_⟩
      · by_cases e2 : j = i
        · rw [e2, a3 _ _ (by omega), kt_i_sie]
        · rw [a2 j (by omega) q2, kt_i_sin (by omega)]
      · rw [a3 y z (by omega), kt_i_si, if_neg (by omega)]
theorem pu_L24 {n m : Nat} {l2 l3 : Int32} : ∀ (fu i : Nat) (ν : kt_M), i ≤ 8 → 8 < i + fu → ∃ ν1, x_saved_L24 n m fu l2 l3 (nI i) ν = x_saved_L54 n m n l2 l3 0 ν1 ∧ (∀ j, i ≤ j → j < 8 → kt_i ν1 (m + 15) j = kt_i ν (m + 3) j) ∧ ∀ y z, ¬ (y = m + 15 ∧ i ≤ z ∧ z < 8) → kt_i ν1 y z = kt_i ν y z
  | 0, i, ν, h1, h2 => by omega
  | fu + 1, i, ν, h1, h2 => by
    rw [x_saved_L24]
    unfold x_saved_B24
    by_cases e : i = 8
    · subst e
      exact ⟨ν, by rw [if_pos (by decide)], fun j q1 q2 => absurd q2 (by omega), fun _ _ _ => rfl⟩
    · rw [if_neg (fun q => by have := (nI_leI (a := 8) (by decide) (by omega)).mp q; omega), kq_ck_t (pu_kin (by omega) (by decide)), kq_ck_t (pu_kin (by omega) (by decide)), nI_clamp (by omega), nI_1]
      simp only [kq_lt]
      obtain ⟨ν1, a1, a2, a3⟩ := pu_L24 (n := n) (m := m) (l2 := l2) (l3 := l3) fu (i + 1) (kt_si ν (m + 15) i (kt_i ν (m + 3) i)) (by omega) (by omega)
      refine ⟨ν1, a1, fun j q1 q2 => ?_, fun y z q => ?_⟩
      · by_cases e2 : j = i
        · rw [e2, a3 _ _ (by omega), kt_i_sie]
        · rw [a2 j (by omega) q2, kt_i_sin (by omega)]
      · rw [a3 y z (by omega), kt_i_si, if_neg (by omega)]
theorem ut_svL_out {o x k : Nat} (h : (x < o + 364 ∨ o + 368 < x) ∧ x ≠ o + 370) : ∀ (r : Nat) (μ : kt_M) (c : Int32), kt_i (ut_svL o r μ c).2 x k = kt_i μ x k
  | 0, _, _ => rfl
  | r + 1, μ, c => by
    rw [ut_svL, ut_svL_out h r]
    unfold ut_sv2 ut_sv1
    rw [q_fol_out (by omega), q_fol_out (by omega), kt_seal_eq, ut_tri_out (by omega)]
theorem st_saved {μ : kt_M} {o m : Nat} (h : kInv μ o m) (a1 : Int32) (a2 : Int32) : ∃ (n : Nat) (μ1 : kt_M), x_saved n m (ut_saved μ o a1 a2).2 a1 a2 = some ((ut_saved μ o a1 a2).1, μ1) ∧ kInv μ1 o m := by
  obtain ⟨P0, P1, PI, L, lim, h⟩ := h
  have hom := h.1
  obtain ⟨fu, hfu⟩ : ∃ fu : Nat, 100 ≤ fu := ⟨4000, by decide⟩
  refine ⟨fu, ?_⟩
  unfold x_saved
  rw [kq_b1_s (show x_in fu (Int32.toInt64 a2) 1 10 = _ from pu_in (lo := 1) (hi := 10) rfl rfl)]
  by_cases hg : ¬ a2 < 1 ∧ a2 ≤ 10
  · have hu : ut_saved μ o a1 a2 = _ := if_pos hg
    rw [hu]; clear hu
    have hg2 : 1 ≤ a2 ∧ a2 ≤ 10 := ⟨Int32.not_lt.mp hg.1, hg.2⟩
    rw [kt_f_t hg2, if_neg (show ¬ (1 : Int32) = 0 by decide)]
    simp only [kq_lt]
    obtain ⟨N, hN, rfl⟩ := nI_of (x := a2) (by rw [Int32.not_lt]; exact Int32.le_trans (by decide) hg2.1)
    have hN2 : N ≤ 10 := (nI_leI (b := 10) hN (by decide)).mp hg2.2
    rw [nI_clamp hN]
    have hout : ∀ y z, ((y < o + 364 ∨ o + 368 < y) ∧ y ≠ o + 370) → kt_i (ut_svL o N (kt_si μ (o + 368) 0 a1) 0).2 y z = kt_i μ y z := fun y z q => by rw [ut_svL_out q, kt_i_sin (by omega)]
    obtain ⟨ν1, b1, b2, b3⟩ := pu_L24 (n := fu) (m := m) (l2 := nI N) (l3 := 0) fu 0 (kt_si (ut_svL o N (kt_si μ (o + 368) 0 a1) 0).2 m 28 a1) (by decide) (by omega)
    obtain ⟨hW0, hC0, hM0⟩ := h.2.1
    obtain ⟨hW1, hC1, hM1⟩ := h.2.2.1
    have hν1 : ∀ y z, o + 371 ≤ y → ¬ (y = m ∧ z = 28) → y ≠ m + 15 → kt_i ν1 y z = kt_i μ y z := fun y z q1 q2 q3 => by
      rw [b3 y z (by omega), kt_i_si, if_neg q2, hout y z (by omega)]
    obtain ⟨ν2, c1, c2⟩ := pu_svL (n := fu) (m := m) (o := o) (N := N) hfu hom hN2 hW0.1 hW1 fu N 0 (kt_si μ (o + 368) 0 a1) ν1 0 (by omega) (by omega) (by rw [kt_i_sie, b3 _ _ (by omega), kt_i_sie]) (hC0.ext hW0.1.1 (fun y z q1 q2 => kt_i_sin (by omega))) (hC1.ext hW1.1 (fun y z q1 q2 => kt_i_sin (by omega))) (hM0.ext (fun j => hν1 _ j (by omega) (by omega) (by omega))) (hM1.ext (fun j => hν1 _ j (by omega) (by omega) (by omega)))
    obtain ⟨ν3, d1, d2, d3⟩ := pu_L113 (n := fu) (m := m) (c := (ut_svL o N (kt_si μ (o + 368) 0 a1) 0).1) fu 0 ν2 (by decide) (by omega)
    rw [show nI 0 = (0 : Int32) from rfl] at b1 c1 d1
    refine ⟨ν3, b1.trans (c1.trans d1), (h.ext (fun y k hy => ?_)).inv⟩
    unfold kCel at hy
    by_cases e : y = m + 3 ∧ k < 8
    · rw [e.1, d2 k (by omega) e.2, c2 _ _ (by omega) (by omega) (by omega) (by omega) (by omega), b2 k (by omega) e.2, kt_i_sin (by omega), hout _ _ (by omega)]
    · rw [d3 y k (by omega), c2 y k (by omega) e (by omega) (by omega) (by omega), b3 y k (by omega), kt_i_si, if_neg (by omega), hout y k (by omega)]
  · have hu : ut_saved μ o a1 a2 = _ := if_neg hg
    rw [hu]; clear hu
    rw [kt_f_f (fun q => hg ⟨Int32.not_lt.mpr q.1, q.2⟩)]
    exact ⟨μ, if_pos rfl, h.inv⟩

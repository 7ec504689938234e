/-! PURE: programs that are copied or aimed anew -/
def kRc (o m y k : Nat) : Prop := (y = o ∧ (k = 13 ∨ k = 14)) ∨ (y = o + 1 ∧ (k = 1 ∨ k = 2)) ∨ y = o + 2 ∨ y = o + 369 ∨ (o + 514 ≤ y ∧ y < o + 522) ∨ (y = m ∧ (k = 4 ∨ k = 6 ∨ k = 11 ∨ k = 33)) ∨ y = m + 3 ∨ y = m + 5 ∨ y = m + 16 ∨ y = m + 17 ∨ y = m + 18
theorem kIS.prg {μ μ' : kt_M} {o m : Nat} {P0 P1 Q0 Q1 : DP} {PI QI : Nat → DP} {L lim : Nat} (h : kIS μ o m P0 P1 PI L lim) (he : ∀ y k, kRc o m y k → kt_i μ' y k = kt_i μ y k) (hA : WO Q0 ∧ CP μ' (o + 42) Q0 ∧ MP μ' m 0 Q0) (hB : WP Q1 16 ∧ CP μ' (o + 81) Q1 ∧ MP μ' m 1 Q1) (hI : ∀ k, k < 2 → WP (QI k) 16 ∧ CP μ' (o + 372 + 71 * k) (QI k) ∧ (kt_i μ' (o + 153) k = 1 → MP μ' m (2 + k) (QI k))) (hN : NW μ' (o + 3) ∧ NW μ' (o + 42) ∧ NW μ' (o + 81) ∧ ∀ k, k < 2 → NW μ' (o + 372 + 71 * k)) (hn : kf_n μ' (o + 154)) (hAN : ¬ kt_i μ' o 15 = 0 → AN μ' o Q1) (hK : kt_01 μ' (o + 153) ∧ ∀ k, k < 2 → kt_i μ' (m + 4) k = kt_i μ' (o + 153) k) : kIS μ' o m Q0 Q1 QI L lim :=
  ⟨h.1, hA, hB, hI, hN, hn, hAN, hK, h.lm.ext (fun y k hy => he y k (by unfold kRc; omega)), h.rd.ext (fun y k hy => he y k (by unfold kRc; omega)), by rw [he (o + 1) 2 (by unfold kRc; omega), he m 11 (by unfold kRc; omega)]; exact h.fl, by rw [he o 14 (by unfold kRc; omega), he m 33 (by unfold kRc; omega)]; exact h.to, h.inp.ext (fun y k hy => he y k (by unfold kRc; omega)), h.shs.ext (fun y k hy => he y k (by unfold kRc; omega))⟩
theorem MB.tr {μ μ' : kt_M} {m p b p' b' s : Nat} {D : DB} (h : MB μ m p b D) (hD : WB D s) (he : ∀ w, w < 20 → mr μ' m p' b' w = mr μ m p b w) : MB μ' m p' b' D := by
  obtain ⟨m1, m2, m3, m4, m5, m6, m7, m8, m9⟩ := h
  have hn := hD.1
  refine ⟨by rw [he _ (by omega)]; exact m1, fun i hi => ⟨by rw [he _ (by omega)]; exact (m2 i hi).1, by rw [he _ (by omega)]; exact (m2 i hi).2.1, by rw [he _ (by omega)]; exact (m2 i hi).2.2⟩, by rw [he _ (by omega)]; exact m3, by rw [he _ (by omega)]; exact m4, by rw [he _ (by omega)]; exact m5, by rw [he _ (by omega)]; exact m6, by rw [he _ (by omega)]; exact m7, by rw [he _ (by omega)]; exact m8, by rw [he _ (by omega)]; exact m9⟩
theorem pu_321 {a b : Nat} : 321 * nI a + nI b = nI (321 * a + b) := by rw [show (321 : Int32) = nI 321 from rfl, nI_mul, nI_add]
theorem pu_copL {n m a b : Nat} (ha : a < 4) (hb : b < 4) (hab : a ≠ b) : ∀ (k i : Nat) (μ : kt_M), i ≤ 321 → 321 < i + k → ∃ μ1, x_copies_L2 n m k (nI a) (nI b) (nI i) μ = some ((), μ1) ∧ ∀ y j, kt_i μ1 y j = if y = m + 1 ∧ 321 * b + i ≤ j ∧ j < 321 * b + 321 then kt_i μ (m + 1) (321 * a + (j - 321 * b)) else kt_i μ y j
  | 0, i, μ, h1, h2 => by omega
  | k + 1, i, μ, h1, h2 => by
    rw [x_copies_L2]
    unfold x_copies_B2
    by_cases e : i = 321
    · subst e
      rw [if_pos (by decide)]
      exact ⟨μ, rfl, fun y j => by rw [if_neg (by omega)]⟩
    · rw [if_neg (fun q => by have := (nI_leI (a := 321) (by decide) (by omega)).mp q; omega), pu_321, pu_321, kq_ck_t (pu_kin (by omega) (by decide)), kq_ck_t (pu_kin (by omega) (by decide)), nI_clamp (by omega), nI_clamp (by omega), nI_1]
      simp only [kq_lt]
      obtain ⟨μ1, a1, a2⟩ := pu_copL (n := n) (m := m) ha hb hab k (i + 1) (kt_si μ (m + 1) (321 * b + i) (kt_i μ (m + 1) (321 * a + i))) (by omega) (by omega)
      refine ⟨μ1, a1, fun y j => ?_⟩
      rw [a2]
      by_cases c : y = m + 1 ∧ 321 * b + i ≤ j ∧ j < 321 * b + 321
      · rw [if_pos c]
        by_cases c2 : j = 321 * b + i
        · rw [if_neg (by omega), kt_i_si, if_pos ⟨c.1, c2⟩, show j - 321 * b = i by omega]
        · rw [if_pos (by omega), kt_i_sik (by omega)]
      · rw [if_neg c, if_neg (by omega), kt_i_si, if_neg (by omega)]
theorem pu_cop {n m a b : Nat} {μ : kt_M} (ha : a < 4) (hb : b < 4) (hab : a ≠ b) (hn : 330 ≤ n) : ∃ μ1, x_copies n m μ (nI a) (nI b) = some ((), μ1) ∧ (∀ y j, ¬ (y = m + 1 ∧ 321 * b ≤ j ∧ j < 321 * b + 321) → kt_i μ1 y j = kt_i μ y j) ∧ ∀ j, j < 321 → kt_i μ1 (m + 1) (321 * b + j) = kt_i μ (m + 1) (321 * a + j) := by
  obtain ⟨μ1, a1, a2⟩ := pu_copL (n := n) (m := m) ha hb hab n 0 μ (by omega) (by omega)
  refine ⟨μ1, a1, fun y j h => by rw [a2, if_neg (by omega)], fun j hj => ?_⟩
  rw [a2, if_pos (by omega), show 321 * b + j - 321 * b = j by omega]
theorem MP.cop {μ μ' : kt_M} {m a b : Nat} {P : DP} (h : MP μ m a P) (hP : WP P 16) (he : ∀ j, j < 321 → kt_i μ' (m + 1) (321 * b + j) = kt_i μ (m + 1) (321 * a + j)) : MP μ' m b P := by
  refine ⟨(he 0 (by omega)).trans h.1, fun i hi => (h.2 i hi).tr (hP.2 i hi) (fun w hw => ?_)⟩
  have := hP.1
  unfold mr
  rw [show 321 * b + 1 + 20 * i + w = 321 * b + (1 + 20 * i + w) by omega, he _ (by omega), show 321 * a + (1 + 20 * i + w) = 321 * a + 1 + 20 * i + w by omega]
theorem MP.far {μ μ' : kt_M} {m p : Nat} {P : DP} (h : MP μ m p P) (hP : WP P 16) (he : ∀ j, 321 * p ≤ j → j < 321 * p + 321 → kt_i μ' (m + 1) j = kt_i μ (m + 1) j) : MP μ' m p P := h.cop hP (fun j hj => he _ (by omega) (by omega))
theorem CB.sm {μ μ' : kt_M} {k k' s : Nat} {D : DB} (h : CB μ k D) (hD : WB D s) (hs : k_same μ' k' μ k) : CB μ' k' D := by
  obtain ⟨c1, c2, c3, c4, c5, c6, c7⟩ := h
  have hn := hD.1
  have h0 : ∀ j, k_cell 0 j → kt_i μ' k' j = kt_i μ k j := fun j hj => hs 0 j hj
  refine ⟨by rw [h0 _ (by unfold k_cell; omega)]; exact c1, fun i hi => ⟨by rw [hs 1 i (by unfold k_cell; omega)]; exact (c2 i hi).1, by rw [hs 2 i (by unfold k_cell; omega)]; exact (c2 i hi).2.1, fun q => by rw [hs 3 i (by unfold k_cell; omega)]; exact (c2 i hi).2.2 q⟩, by rw [h0 _ (by unfold k_cell; omega)]; exact c3, fun q => by rw [h0 _ (by unfold k_cell; omega)]; exact c4 q, fun q => ⟨by rw [h0 _ (by unfold k_cell; omega)]; exact (c5 q).1, by rw [h0 _ (by unfold k_cell; omega)]; exact (c5 q).2.1, by rw [h0 _ (by unfold k_cell; omega)]; exact (c5 q).2.2.1, by rw [h0 _ (by unfold k_cell; omega)]; exact (c5 q).2.2.2⟩, by rw [h0 _ (by unfold k_cell; omega)]; exact c6, by rw [h0 _ (by unfold k_cell; omega)]; exact c7⟩
theorem cp_cop {μ : kt_M} {p q : Nat} {P : DP} (hC : CP μ q P) (hP : WP P 16) (hsep : p + 71 ≤ q ∨ q + 71 ≤ p ∨ (q + 39 ≤ p ∧ P.1 ≤ 8)) : CP (m_pcpL p q P.1 0 (kt_si μ p 3 0)) p P ∧ ∀ y k, y ≠ p → (y < p + 7 ∨ p + 71 ≤ y) → kt_i (m_pcpL p q P.1 0 (kt_si μ p 3 0)) y k = kt_i μ y k := by
  have hs := hP.1
  refine ⟨⟨m_pcpL_30, fun b hb => ?_⟩, fun y k h1 h2 => by rw [m_pcpL_far _ _ _ h1 (by omega), kt_i_sin h1]⟩
  refine (CB.ext (hC.2 b hb) (μ' := kt_si μ p 3 0) (fun x j h1 h2 => kt_i_sin (by omega))).sm (hP.2 b hb) (m_pcpL_same (N := P.1) (M := P.1) (by omega) P.1 0 _ b (by omega) (by omega) (by omega) (by omega))
theorem pu_im {o k : Nat} (hk : k < 2) : ut_im o (nI k) = o + 372 + 71 * k := by unfold ut_im; rw [nI_clamp (by omega)]
theorem st_keep {μ : kt_M} {o m : Nat} (h : kInv μ o m) (a1 : Int32) : ∃ (n : Nat) (μ1 : kt_M), x_keep n m (ut_keep μ o a1).2 a1 = some ((ut_keep μ o a1).1, μ1) ∧ kInv μ1 o m := by
  obtain ⟨P0, P1, PI, L, lim, h⟩ := h
  have hom := h.1
  refine ⟨4000, ?_⟩
  by_cases hg : k_wi a1 1
  · obtain ⟨k, hk, rfl⟩ := k_wi_nI (n := 2) hg (by decide) (by decide)
    obtain ⟨hP, hC, hM⟩ := h.2.2.1
    have hs := hP.1
    obtain ⟨hcp, hfar⟩ := cp_cop (p := o + 372 + 71 * k) hC hP (by omega)
    have hu : ut_keep μ o (nI k) = (kt_i μ (o + 153) k, kt_si (m_pcpL (o + 372 + 71 * k) (o + 81) P1.1 0 (kt_si μ (o + 372 + 71 * k) 3 0)) (o + 153) k 1) := by
      unfold ut_keep; rw [if_pos hg, pu_im hk, hC.1, nI_clamp (by omega), nI_clamp (by omega)]
    rw [hu]
    dsimp only
    have hf : ∀ y j, ¬ (y = o + 153 ∧ j = k) → (y < o + 372 + 71 * k ∨ o + 372 + 71 * k + 71 ≤ y ∨ y = o + 372 + 71 * k + 1) → kt_i (kt_si (m_pcpL (o + 372 + 71 * k) (o + 81) P1.1 0 (kt_si μ (o + 372 + 71 * k) 3 0)) (o + 153) k 1) y j = kt_i μ y j := fun y j q1 q2 => by
      rw [kt_i_si, if_neg q1, hfar _ _ (by omega) (by omega)]
    have hk1 : kt_i (kt_si (m_pcpL (o + 372 + 71 * k) (o + 81) P1.1 0 (kt_si μ (o + 372 + 71 * k) 3 0)) (o + 153) k 1) (o + 153) k = 1 := kt_i_sie
    replace hcp : CP (kt_si (m_pcpL (o + 372 + 71 * k) (o + 81) P1.1 0 (kt_si μ (o + 372 + 71 * k) 3 0)) (o + 153) k 1) (o + 372 + 71 * k) P1 := hcp.ext hs (fun x j h1 h2 => kt_i_sin (by omega))
    generalize kt_si (m_pcpL (o + 372 + 71 * k) (o + 81) P1.1 0 (kt_si μ (o + 372 + 71 * k) 3 0)) (o + 153) k 1 = μc at hf hk1 hcp
    clear hfar hu
    obtain ⟨g1, g2⟩ := h.kp
    unfold x_keep
    rw [kq_b1_s (pu_wi (h := 1) (hi := 1) rfl), if_neg (kz.f.t hg), kq_ck_t (pu_kin hk (by decide)), nI_clamp (by omega), hf (m + 4) k (by omega) (by omega), g2 k hk, kq_b1_s (pu_flag (g1 k)), kq_ck_t (pu_kin hk (by decide))]
    simp only [kq_lt]
    obtain ⟨μ1, c1, c2, c3⟩ := pu_cop (n := 4000) (m := m) (a := 1) (b := 2 + k) (μ := kt_si μc (m + 4) k 1) (by decide) (by omega) (by omega) (by decide)
    rw [show (2 : Int32) + nI k = nI (2 + k) by rw [show (2 : Int32) = nI 2 from rfl, nI_add], kq_b2_s (show x_copies 4000 m (kt_si μc (m + 4) k 1) 1 (nI (2 + k)) = _ from c1)]
    have hv : ∀ y j, y ≠ m + 1 → ¬ (y = m + 4 ∧ j = k) → kt_i μ1 y j = kt_i μc y j := fun y j q1 q2 => by rw [c2 y j (fun z => q1 z.1), kt_i_si, if_neg q2]
    have hw : ∀ y j, y ≠ m + 1 → ¬ (y = m + 4 ∧ j = k) → ¬ (y = o + 153 ∧ j = k) → (y < o + 372 + 71 * k ∨ o + 372 + 71 * k + 71 ≤ y ∨ y = o + 372 + 71 * k + 1) → kt_i μ1 y j = kt_i μ y j := fun y j q1 q2 q3 q4 => by rw [hv y j q1 q2, hf y j q3 q4]
    have hMf : ∀ p (P : DP), p ≠ 2 + k → p < 4 → WP P 16 → MP μ m p P → MP μ1 m p P := fun p P q1 q2 hP hM => hM.far hP (fun j j1 j2 => by
      rw [c2 _ _ (by omega), kt_i_sin (by omega), hf _ _ (by omega) (by omega)])
    have hM2 : MP μ1 m (2 + k) P1 := hM.cop hP (fun j hj => by rw [c3 j hj, kt_i_sin (by omega), hf _ _ (by omega) (by omega)])
    refine ⟨μ1, rfl, (h.prg (Q0 := P0) (Q1 := P1) (QI := fun j => if j = k then P1 else PI j) (fun y j hy => ?_) ⟨h.2.1.1, h.2.1.2.1.ext h.2.1.1.1.1 (fun y j q1 q2 => hw y j (by omega) (by omega) (by omega) (by omega)), hMf 0 P0 (by omega) (by omega) h.2.1.1.1.up h.2.1.2.2⟩ ⟨hP, hC.ext hs (fun y j q1 q2 => hw y j (by omega) (by omega) (by omega) (by omega)), hMf 1 P1 (by omega) (by omega) hP hM⟩ (fun j hj => ?_) ?_ (h.2.2.2.2.2.1.far (fun y j q1 q2 => hw y j (by omega) (by omega) (by omega) (by omega))) (fun q => ?_) ⟨fun j => ?_, fun j hj => ?_⟩).inv⟩
    · unfold kRc at hy; exact hw y j (by omega) (by omega) (by omega) (by omega)
    · by_cases e : j = k
      · subst e
        rw [if_pos rfl]
        exact ⟨hP, hcp.ext hs (fun y i q1 q2 => hv y i (by omega) (by omega)), fun _ => hM2⟩
      · rw [if_neg e]
        obtain ⟨i1, i2, i3⟩ := h.2.2.2.1 j hj
        refine ⟨i1, i2.ext i1.1 (fun y i q1 q2 => hw y i (by omega) (by omega) (by omega) (by omega)), fun q => hMf _ _ (by omega) (by omega) i1 (i3 (by rw [← hw (o + 153) j (by omega) (by omega) (by omega) (by omega)]; exact q))⟩
    · obtain ⟨d1, d2, d3, d4⟩ := h.2.2.2.2.1
      exact ⟨d1.ext (fun j => hw _ j (by omega) (by omega) (by omega) (by omega)), d2.ext (fun j => hw _ j (by omega) (by omega) (by omega) (by omega)), d3.ext (fun j => hw _ j (by omega) (by omega) (by omega) (by omega)), fun j hj => (d4 j hj).ext (fun i => hw _ i (by omega) (by omega) (by omega) (by omega))⟩
    · exact (h.2.2.2.2.2.2.1 (by rw [← hw o 15 (by omega) (by omega) (by omega) (by omega)]; exact q)).ext (fun y j q1 q2 => hw y j (by omega) (by omega) (by omega) (by omega))
    · by_cases e : j = k
      · subst e; rw [hv _ _ (by omega) (by omega), hk1]; exact Or.inr rfl
      · rw [hw _ _ (by omega) (by omega) (by omega) (by omega)]; exact g1 j
    · by_cases e : j = k
      · subst e; rw [hv (o + 153) _ (by omega) (by omega), hk1, c2 _ _ (by omega), kt_i_sie]
      · rw [hw _ _ (by omega) (by omega) (by omega) (by omega), hw _ _ (by omega) (by omega) (by omega) (by omega)]; exact g2 j hj
  · have hu : ut_keep μ o a1 = (-1, μ) := if_neg hg
    rw [hu]
    unfold x_keep
    refine ⟨μ, ?_, h.inv⟩
    rw [kq_b1_s (pu_wi (h := 1) (hi := 1) rfl), if_pos (kz.f.n hg)]
theorem st_back {μ : kt_M} {o m : Nat} (h : kInv μ o m) (a1 : Int32) : ∃ (n : Nat) (μ1 : kt_M), x_back n m (ut_back μ o a1).2 a1 = some ((ut_back μ o a1).1, μ1) ∧ kInv μ1 o m := by
  obtain ⟨P0, P1, PI, L, lim, h⟩ := h
  have hom := h.1
  refine ⟨4000, ?_⟩
  by_cases hg : k_wi a1 1
  · obtain ⟨k, hk, rfl⟩ := k_wi_nI (n := 2) hg (by decide) (by decide)
    obtain ⟨hP, hC, hM⟩ := h.2.2.2.1 k hk
    obtain ⟨g1, g2⟩ := h.kp
    have hs := hP.1
    by_cases hz : kt_i μ (o + 153) k = 0
    · have hu : ut_back μ o (nI k) = (-2, μ) := by
        unfold ut_back; rw [if_pos hg, nI_clamp (by omega), if_pos hz]
      rw [hu]
      unfold x_back
      refine ⟨μ, ?_, h.inv⟩
      rw [kq_b1_s (pu_wi (h := 1) (hi := 1) rfl), if_neg (kz.f.t hg), kq_ck_t (pu_kin hk (by decide)), nI_clamp (by omega), g2 k hk, if_pos hz]
    · replace hM := hM ((g1 k).resolve_left hz)
      obtain ⟨hcp, hfar⟩ := cp_cop (p := o + 81) hC hP (by omega)
      have hu : ut_back μ o (nI k) = (nI (PI k).1, kt_si (m_pcpL (o + 81) (o + 372 + 71 * k) (PI k).1 0 (kt_si μ (o + 81) 3 0)) o 15 0) := by
        unfold ut_back; rw [if_pos hg, pu_im hk, nI_clamp (by omega), if_neg hz, hC.1, nI_clamp (by omega)]
      rw [hu]
      dsimp only
      have hf : ∀ y j, ¬ (y = o ∧ j = 15) → (y < o + 81 ∨ o + 152 ≤ y ∨ y = o + 82) → kt_i (kt_si (m_pcpL (o + 81) (o + 372 + 71 * k) (PI k).1 0 (kt_si μ (o + 81) 3 0)) o 15 0) y j = kt_i μ y j := fun y j q1 q2 => by
        rw [kt_i_si, if_neg q1, hfar _ _ (by omega) (by omega)]
      have hk1 : kt_i (kt_si (m_pcpL (o + 81) (o + 372 + 71 * k) (PI k).1 0 (kt_si μ (o + 81) 3 0)) o 15 0) o 15 = 0 := kt_i_sie
      replace hcp : CP (kt_si (m_pcpL (o + 81) (o + 372 + 71 * k) (PI k).1 0 (kt_si μ (o + 81) 3 0)) o 15 0) (o + 81) (PI k) := hcp.ext hs (fun x j h1 h2 => kt_i_sin (by omega))
      generalize kt_si (m_pcpL (o + 81) (o + 372 + 71 * k) (PI k).1 0 (kt_si μ (o + 81) 3 0)) o 15 0 = μc at hf hk1 hcp
      clear hfar hu
      unfold x_back
      rw [kq_b1_s (pu_wi (h := 1) (hi := 1) rfl), if_neg (kz.f.t hg), kq_ck_t (pu_kin hk (by decide)), nI_clamp (by omega), hf (m + 4) k (by omega) (by omega), g2 k hk, if_neg hz]
      obtain ⟨μ1, c1, c2, c3⟩ := pu_cop (n := 4000) (m := m) (a := 2 + k) (b := 1) (μ := μc) (by omega) (by decide) (by omega) (by decide)
      have hM2 : MP μ1 m 1 (PI k) := hM.cop hP (fun j hj => by rw [c3 j hj, hf _ _ (by omega) (by omega)])
      rw [show (2 : Int32) + nI k = nI (2 + k) by rw [show (2 : Int32) = nI 2 from rfl, nI_add], kq_b2_s (show x_copies 4000 m μc (nI (2 + k)) 1 = _ from c1), kq_b2_s (show x_many 4000 m μ1 1 = some (nI (PI k).1, μ1) from (pu_many (p := 1) (by decide)).trans (pu_pair hM2.1 rfl))]
      have hv : ∀ y j, y ≠ m + 1 → kt_i μ1 y j = kt_i μc y j := fun y j q1 => c2 y j (fun z => q1 z.1)
      have hw : ∀ y j, y ≠ m + 1 → ¬ (y = o ∧ j = 15) → (y < o + 81 ∨ o + 152 ≤ y ∨ y = o + 82) → kt_i μ1 y j = kt_i μ y j := fun y j q1 q3 q4 => by rw [hv y j q1, hf y j q3 q4]
      have hMf : ∀ p (P : DP), p ≠ 1 → p < 4 → WP P 16 → MP μ m p P → MP μ1 m p P := fun p P q1 q2 hP hM => hM.far hP (fun j j1 j2 => by
        rw [c2 _ _ (by omega), hf _ _ (by omega) (by omega)])
      refine ⟨μ1, rfl, (h.prg (Q0 := P0) (Q1 := PI k) (QI := PI) (fun y j hy => ?_) ⟨h.2.1.1, h.2.1.2.1.ext h.2.1.1.1.1 (fun y j q1 q2 => hw y j (by omega) (by omega) (by omega)), hMf 0 P0 (by omega) (by omega) h.2.1.1.1.up h.2.1.2.2⟩ ⟨hP, hcp.ext hs (fun y j q1 q2 => hv y j (by omega)), hM2⟩ (fun j hj => ?_) ?_ (h.2.2.2.2.2.1.far (fun y j q1 q2 => hw y j (by omega) (by omega) (by omega))) (fun q => absurd (by rw [hv _ _ (by omega), hk1]) q) ⟨fun j => ?_, fun j hj => ?_⟩).inv⟩
      · unfold kRc at hy; exact hw y j (by omega) (by omega) (by omega)
      · obtain ⟨i1, i2, i3⟩ := h.2.2.2.1 j hj
        exact ⟨i1, i2.ext i1.1 (fun y i q1 q2 => hw y i (by omega) (by omega) (by omega)), fun q => hMf _ _ (by omega) (by omega) i1 (i3 (by rw [← hw (o + 153) j (by omega) (by omega) (by omega)]; exact q))⟩
      · obtain ⟨d1, d2, d3, d4⟩ := h.2.2.2.2.1
        exact ⟨d1.ext (fun j => hw _ j (by omega) (by omega) (by omega)), d2.ext (fun j => hw _ j (by omega) (by omega) (by omega)), d3.ext (fun j => hw _ j (by omega) (by omega) (by omega)), fun j hj => (d4 j hj).ext (fun i => hw _ i (by omega) (by omega) (by omega))⟩
      · rw [hw _ _ (by omega) (by omega) (by omega)]; exact g1 j
      · rw [hw _ _ (by omega) (by omega) (by omega), hw _ _ (by omega) (by omega) (by omega)]; exact g2 j hj
  · have hu : ut_back μ o a1 = (-1, μ) := if_neg hg
    rw [hu]
    unfold x_back
    refine ⟨μ, ?_, h.inv⟩
    rw [kq_b1_s (pu_wi (h := 1) (hi := 1) rfl), if_pos (kz.f.n hg)]

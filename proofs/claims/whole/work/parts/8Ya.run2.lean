theorem RN.set {μ ν μ' ν' : kt_M} {p m s c d c' d' : Nat} (h : RN μ ν p m s c d) (hμ : ∀ y z, ¬ (y = p ∧ (z = 4 ∨ z = 6 ∨ z = 7)) → y ≠ p + 1 → y ≠ p + 3 → kt_i μ' y z = kt_i μ y z) (hν : ∀ y z, ¬ (y = m ∧ (z = 23 ∨ z = 25 ∨ z = 26)) → y ≠ m + 12 → y ≠ m + 13 → kt_i ν' y z = kt_i ν y z) (h4 : kt_i μ' p 4 = kt_i ν' m 23) (h6 : kt_i μ' p 6 = nI c' ∧ kt_i ν' m 25 = nI c') (h7 : kt_i μ' p 7 = nI d' ∧ kt_i ν' m 26 = nI d') (hv : ∀ v, v < 4 → ∃ x, x ≤ 51 ∧ kt_i μ' (p + 1) v = nI x ∧ kt_i ν' (m + 12) v = nI x) (hw : ∀ j, j < c' → kt_i μ' (p + 3) j = kt_i ν' (m + 13) j) : RN μ' ν' p m s c' d' := by
  obtain ⟨⟨a1, a2⟩, b, e, -, -, -, -, k⟩ := h
  exact ⟨⟨by rw [hμ _ _ (by omega) (by omega) (by omega)]; exact a1, by rw [hν _ _ (by omega) (by omega) (by omega)]; exact a2⟩, h4, by rw [hμ _ _ (by omega) (by omega) (by omega), hν _ _ (by omega) (by omega) (by omega)]; exact e, h6, h7, hv, hw, fun j hj => by rw [hμ _ _ (by omega) (by omega) (by omega), hν _ _ (by omega) (by omega) (by omega)]; exact k j hj⟩
/-- kinds 0 to 3: a variable gets a value -/
theorem pu_act03 {n m p a s c d ki va op : Nat} {μ ν : kt_M} (h : RN μ ν p m s c d) (hki : ki ≤ 3) (hva : va < 4) (h50 : ki < 3 → op ≤ 50) (h4 : ki = 3 → op < 4) : ∃ x, x ≤ 51 ∧ x_acts n m ν (nI ki) (nI va) (nI op) = some ((), kt_si (kt_si ν (m + 12) va (nI x)) m 23 (kt_i ν m 23 + 1)) ∧ r_act μ p a (nI ki) (nI va) (nI op) = kt_si (kt_si μ p 4 (kt_i μ p 4 + 1)) (p + 1) va (nI x) := by
  obtain ⟨x0, hx0, e1, e2⟩ := h.vle hva
  have hr : r_act μ p a (nI ki) (nI va) (nI op) = r_act2 (kt_si μ p 4 (kt_i μ p 4 + 1)) p a (nI ki) va (nI op) := by
    unfold r_act; rw [if_pos ⟨nI_pos' (by omega), nI_lt hva (by decide)⟩, nI_clamp (by omega)]
  have e1' : kt_i (kt_si μ p 4 (kt_i μ p 4 + 1)) (p + 1) va = nI x0 := by rw [kt_i_sin (by omega)]; exact e1
  have hJ : ∀ z : Int32, x_acts_J188 n m (kt_si ν (m + 12) va z) = some ((), kt_si (kt_si ν (m + 12) va z) m 23 (kt_i ν m 23 + 1)) := fun z => by
    unfold x_acts_J188; simp only [kq_lt]; rw [kt_i_sin (by omega)]
  rw [hr]
  unfold x_acts r_act2
  rw [kq_ck_t (pu_kin hva (by decide)), nI_clamp (by omega), e1', e2]
  have hc : ki = 0 ∨ ki = 1 ∨ ki = 2 ∨ ki = 3 := by omega
  rcases hc with rfl | rfl | rfl | rfl
  · have := h50 (by omega)
    refine ⟨op, by omega, ?_, ?_⟩
    · rw [if_pos (show nI 0 = 0 from rfl), kq_ck_t (pu_kin hva (by decide))]; simp only [kq_lt]; exact hJ _
    · rw [if_pos (show nI 0 = 0 from rfl)]
  · have hop := h50 (by omega)
    by_cases q : x0 = 51
    · subst q
      refine ⟨51, by decide, ?_, ?_⟩
      · rw [if_neg (show ¬ nI 1 = 0 by decide), if_pos (show nI 1 = 1 from rfl), if_pos (show nI 51 = 51 from rfl)]
        unfold x_acts_J78; rw [kq_ck_t (pu_kin hva (by decide)), nI_clamp (by omega)]; simp only [kq_lt]; exact hJ _
      · rw [if_neg (show ¬ nI 1 = 0 by decide), if_pos (show nI 1 = 1 from rfl), if_pos (show nI 51 = 51 from rfl)]; rfl
    · have hne : ¬ nI x0 = 51 := fun z => q ((nI_eq (b := 51) (by omega) (by decide)).mp z)
      obtain ⟨z, z1, z2, z3⟩ := pu_bnd_add (n := n) (show x0 ≤ 50 by omega) hop
      refine ⟨z, by omega, ?_, ?_⟩
      · rw [if_neg (show ¬ nI 1 = 0 by decide), if_pos (show nI 1 = 1 from rfl), if_neg hne, kq_b1_s z2]
        unfold x_acts_J78; rw [kq_ck_t (pu_kin hva (by decide)), nI_clamp (by omega)]; simp only [kq_lt]; exact hJ _
      · rw [if_neg (show ¬ nI 1 = 0 by decide), if_pos (show nI 1 = 1 from rfl), if_neg hne, z3]
  · have hop := h50 (by omega)
    by_cases q : x0 = 51
    · subst q
      refine ⟨51, by decide, ?_, ?_⟩
      · rw [if_neg (show ¬ nI 2 = 0 by decide), if_neg (show ¬ nI 2 = 1 by decide), if_pos (show nI 2 = 2 from rfl), if_pos (show nI 51 = 51 from rfl)]
        unfold x_acts_J106; rw [kq_ck_t (pu_kin hva (by decide)), nI_clamp (by omega)]; simp only [kq_lt]; exact hJ _
      · rw [if_neg (show ¬ nI 2 = 0 by decide), if_neg (show ¬ nI 2 = 1 by decide), if_pos (show nI 2 = 2 from rfl), if_pos (show nI 51 = 51 from rfl)]; rfl
    · have hne : ¬ nI x0 = 51 := fun z => q ((nI_eq (b := 51) (by omega) (by decide)).mp z)
      obtain ⟨z, z1, z2, z3⟩ := pu_bnd_sub (n := n) (show x0 ≤ 50 by omega) hop
      refine ⟨z, by omega, ?_, ?_⟩
      · rw [if_neg (show ¬ nI 2 = 0 by decide), if_neg (show ¬ nI 2 = 1 by decide), if_pos (show nI 2 = 2 from rfl), if_neg hne, kq_b1_s z2]
        unfold x_acts_J106; rw [kq_ck_t (pu_kin hva (by decide)), nI_clamp (by omega)]; simp only [kq_lt]; exact hJ _
      · rw [if_neg (show ¬ nI 2 = 0 by decide), if_neg (show ¬ nI 2 = 1 by decide), if_pos (show nI 2 = 2 from rfl), if_neg hne, z3]
  · have hop := h4 rfl
    obtain ⟨y0, hy0, f1, f2⟩ := h.vle hop
    refine ⟨y0, hy0, ?_, ?_⟩
    · rw [if_neg (show ¬ nI 3 = 0 by decide), if_neg (show ¬ nI 3 = 1 by decide), if_neg (show ¬ nI 3 = 2 by decide), if_pos (show nI 3 = 3 from rfl), kq_ck_t (pu_kin hop (by decide)), kq_ck_t (pu_kin hva (by decide)), nI_clamp (by omega), f2]; simp only [kq_lt]; exact hJ _
    · rw [if_neg (show ¬ nI 3 = 0 by decide), if_neg (show ¬ nI 3 = 1 by decide), if_neg (show ¬ nI 3 = 2 by decide), if_pos (show nI 3 = 3 from rfl)]
      unfold r_val
      rw [if_pos ⟨nI_pos' (by omega), nI_lt hop (by decide)⟩, nI_clamp (by omega), kt_i_sin (by omega), f1]

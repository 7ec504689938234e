/-! PURE: a run; class's at p, model's -/
def RN (μ ν : kt_M) (p m s c d : Nat) : Prop := (kt_i μ p 3 = nI s ∧ kt_i ν m 22 = nI s) ∧ kt_i μ p 4 = kt_i ν m 23 ∧ kt_i μ p 5 = kt_i ν m 24 ∧ (kt_i μ p 6 = nI c ∧ kt_i ν m 25 = nI c) ∧ (kt_i μ p 7 = nI d ∧ kt_i ν m 26 = nI d) ∧ (∀ v, v < 4 → ∃ x, x ≤ 51 ∧ kt_i μ (p + 1) v = nI x ∧ kt_i ν (m + 12) v = nI x) ∧ (∀ j, j < c → kt_i μ (p + 3) j = kt_i ν (m + 13) j) ∧ ∀ j, j < s → kt_i μ (p + 2) j = kt_i ν (m + 14) j
/-- one variable gets a value -/
theorem RN.var {μ ν : kt_M} {p m s c d v x : Nat} (h : RN μ ν p m s c d) (hx : x ≤ 51) : RN (kt_si (kt_si μ p 4 (kt_i μ p 4 + 1)) (p + 1) v (nI x)) (kt_si (kt_si ν (m + 12) v (nI x)) m 23 (kt_i ν m 23 + 1)) p m s c d := by
  obtain ⟨⟨a1, a2⟩, b, e, ⟨f1, f2⟩, ⟨g1, g2⟩, i, j, k⟩ := h
  have hμ : ∀ y z, ¬ (y = p ∧ z = 4) → ¬ (y = p + 1 ∧ z = v) → kt_i (kt_si (kt_si μ p 4 (kt_i μ p 4 + 1)) (p + 1) v (nI x)) y z = kt_i μ y z := fun y z q1 q2 => by rw [kt_i_si, if_neg q2, kt_i_si, if_neg q1]
  have hν : ∀ y z, ¬ (y = m ∧ z = 23) → ¬ (y = m + 12 ∧ z = v) → kt_i (kt_si (kt_si ν (m + 12) v (nI x)) m 23 (kt_i ν m 23 + 1)) y z = kt_i ν y z := fun y z q1 q2 => by rw [kt_i_si, if_neg q1, kt_i_si, if_neg q2]
  refine ⟨⟨by rw [hμ _ _ (by omega) (by omega)]; exact a1, by rw [hν _ _ (by omega) (by omega)]; exact a2⟩, ?_, by rw [hμ _ _ (by omega) (by omega), hν _ _ (by omega) (by omega)]; exact e, ⟨by rw [hμ _ _ (by omega) (by omega)]; exact f1, by rw [hν _ _ (by omega) (by omega)]; exact f2⟩, ⟨by rw [hμ _ _ (by omega) (by omega)]; exact g1, by rw [hν _ _ (by omega) (by omega)]; exact g2⟩, fun u hu => ?_, fun z hz => by rw [hμ _ _ (by omega) (by omega), hν _ _ (by omega) (by omega)]; exact j z hz, fun z hz => by rw [hμ _ _ (by omega) (by omega), hν _ _ (by omega) (by omega)]; exact k z hz⟩
  · rw [kt_i_sin (by omega), kt_i_sie, kt_i_sie, b]
  · by_cases q : u = v
    · subst q
      exact ⟨x, hx, kt_i_sie, by rw [kt_i_sin (by omega), kt_i_sie]⟩
    · rw [hμ _ _ (by omega) (by omega), hν _ _ (by omega) (by omega)]; exact i u hu
theorem RN.vle {μ ν : kt_M} {p m s c d v : Nat} (h : RN μ ν p m s c d) (hv : v < 4) : ∃ x, x ≤ 51 ∧ kt_i μ (p + 1) v = nI x ∧ kt_i ν (m + 12) v = nI x := h.2.2.2.2.2.1 v hv
theorem pu_bnd_add {n x y : Nat} (hx : x ≤ 50) (hy : y ≤ 50) : ∃ z, z ≤ 50 ∧ x_bounded n (nI x + nI y) = some (nI z) ∧ k_min 50 (nI x + nI y) = nI z := by
  have key : ∀ t, t ≤ 100 → ∃ z, z ≤ 50 ∧ (∀ n, x_bounded n (nI t) = some (nI z)) ∧ k_min 50 (nI t) = nI z := fun t ht => by
    by_cases c : t ≤ 50
    · refine ⟨t, c, fun n => ?_, ?_⟩
      · have h1 : ∀ t, t ≤ 50 → x_bounded 0 (nI t) = some (nI t) := by decide +kernel
        exact h1 t c
      · have h1 : ∀ t, t ≤ 50 → k_min 50 (nI t) = nI t := by decide +kernel
        exact h1 t c
    · refine ⟨50, by decide, fun n => ?_, ?_⟩
      · have h1 : ∀ t, t ≤ 100 → ¬ t ≤ 50 → x_bounded 0 (nI t) = some (nI 50) := by decide +kernel
        exact h1 t ht c
      · have h1 : ∀ t, t ≤ 100 → ¬ t ≤ 50 → k_min 50 (nI t) = nI 50 := by decide +kernel
        exact h1 t ht c
  obtain ⟨z, h1, h2, h3⟩ := key (x + y) (by omega)
  rw [nI_add]
  exact ⟨z, h1, h2 n, h3⟩
theorem pu_bnd_sub {n x y : Nat} (hx : x ≤ 50) (hy : y ≤ 50) : ∃ z, z ≤ 50 ∧ x_bounded n (nI x - nI y) = some (nI z) ∧ k_max 0 (nI x - nI y) = nI z := by
  have h1 : ∀ x, x ≤ 50 → ∀ y, y ≤ 50 → x_bounded 0 (nI x - nI y) = some (nI (x - y)) ∧ k_max 0 (nI x - nI y) = nI (x - y) := by decide +kernel
  exact ⟨x - y, by omega, (h1 x hx y hy).1, (h1 x hx y hy).2⟩

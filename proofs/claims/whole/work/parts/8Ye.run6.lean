/-- RN but for the counted tests -/
theorem RN.tst {μ ν : kt_M} {p m s c d : Nat} {x : Int32} (h : RN μ ν p m s c d) : RN (kt_si μ p 5 (kt_i μ p 5 + x)) (kt_si ν m 24 (kt_i ν m 24 + x)) p m s c d := by
  obtain ⟨⟨a1, a2⟩, b, e, ⟨f1, f2⟩, ⟨g1, g2⟩, i, j, k⟩ := h
  have hμ : ∀ y z, ¬ (y = p ∧ z = 5) → kt_i (kt_si μ p 5 (kt_i μ p 5 + x)) y z = kt_i μ y z := fun y z q => by rw [kt_i_si, if_neg q]
  have hν : ∀ y z, ¬ (y = m ∧ z = 24) → kt_i (kt_si ν m 24 (kt_i ν m 24 + x)) y z = kt_i ν y z := fun y z q => by rw [kt_i_si, if_neg q]
  exact ⟨⟨by rw [hμ _ _ (by omega)]; exact a1, by rw [hν _ _ (by omega)]; exact a2⟩, by rw [hμ _ _ (by omega), hν _ _ (by omega)]; exact b, by rw [kt_i_sie, kt_i_sie, e], ⟨by rw [hμ _ _ (by omega)]; exact f1, by rw [hν _ _ (by omega)]; exact f2⟩, ⟨by rw [hμ _ _ (by omega)]; exact g1, by rw [hν _ _ (by omega)]; exact g2⟩, fun v hv => by rw [hμ _ _ (by omega), hν _ _ (by omega)]; exact i v hv, fun z hz => by rw [hμ _ _ (by omega), hν _ _ (by omega)]; exact j z hz, fun z hz => by rw [hμ _ _ (by omega), hν _ _ (by omega)]; exact k z hz⟩
theorem RN.flg {μ ν : kt_M} {p m s c d : Nat} {x y : Int32} (h : RN μ ν p m s c d) : RN (kt_si μ p 8 x) (kt_si ν m 27 y) p m s c d := by
  obtain ⟨⟨a1, a2⟩, b, e, ⟨f1, f2⟩, ⟨g1, g2⟩, i, j, k⟩ := h
  have hμ : ∀ u z, ¬ (u = p ∧ z = 8) → kt_i (kt_si μ p 8 x) u z = kt_i μ u z := fun u z q => by rw [kt_i_si, if_neg q]
  have hν : ∀ u z, ¬ (u = m ∧ z = 27) → kt_i (kt_si ν m 27 y) u z = kt_i ν u z := fun u z q => by rw [kt_i_si, if_neg q]
  exact ⟨⟨by rw [hμ _ _ (by omega)]; exact a1, by rw [hν _ _ (by omega)]; exact a2⟩, by rw [hμ _ _ (by omega), hν _ _ (by omega)]; exact b, by rw [hμ _ _ (by omega), hν _ _ (by omega)]; exact e, ⟨by rw [hμ _ _ (by omega)]; exact f1, by rw [hν _ _ (by omega)]; exact f2⟩, ⟨by rw [hμ _ _ (by omega)]; exact g1, by rw [hν _ _ (by omega)]; exact g2⟩, fun v hv => by rw [hμ _ _ (by omega), hν _ _ (by omega)]; exact i v hv, fun z hz => by rw [hμ _ _ (by omega), hν _ _ (by omega)]; exact j z hz, fun z hz => by rw [hμ _ _ (by omega), hν _ _ (by omega)]; exact k z hz⟩

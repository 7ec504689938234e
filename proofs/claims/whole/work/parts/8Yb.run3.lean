/-- one act of both; a: where the class's inputs lie -/
theorem pu_act {n m p a s c d ki va op : Nat} {μ ν : kt_M} {oc : Int32} (h : RN μ ν p m s c d) (hki : ki ≤ 5) (hva : va < 4) (h50 : ki < 3 → op ≤ 50) (h4 : ki = 3 → op < 4) (hoc : ki < 4 → oc = nI op) (hin : ∀ i, i < 8 → ∃ x, x ≤ 51 ∧ kt_i μ a i = nI x ∧ kt_i ν (m + 3) i = nI x) (hap : a < p ∨ p + 4 ≤ a) (hc : c < 240) (hd : d < 240) : ∃ c' d' ν1, x_acts n m ν (nI ki) (nI va) (if ki < 4 then nI op else -4) = some ((), ν1) ∧ RN (r_act μ p a (nI ki) (nI va) oc) ν1 p m s c' d' ∧ c' ≤ c + 1 ∧ d' ≤ d + 1 ∧ (∀ y z, ¬ (y = m ∧ 23 ≤ z ∧ z ≤ 26) → y ≠ m + 12 → y ≠ m + 13 → kt_i ν1 y z = kt_i ν y z) := by
  by_cases c4 : ki < 4
  · rw [if_pos c4, hoc c4]
    obtain ⟨x, hx, e1, e2⟩ := pu_act03 (n := n) (a := a) h (by omega) hva h50 h4
    refine ⟨c, d, _, e1, ?_, by omega, by omega, fun y z q1 q2 q3 => ?_⟩
    · rw [e2]; exact h.var hx
    · rw [kt_i_si, if_neg (by omega), kt_i_si, if_neg (by omega)]
  · rw [if_neg c4]
    obtain ⟨x0, hx0, e1, e2⟩ := h.vle hva
    obtain ⟨⟨a1, a2⟩, b4, b5, ⟨f1, f2⟩, ⟨g1, g2⟩, hv, hw, hk⟩ := id h
    have hr : r_act μ p a (nI ki) (nI va) oc = r_act2 (kt_si μ p 4 (kt_i μ p 4 + 1)) p a (nI ki) va oc := by
      unfold r_act; rw [if_pos ⟨nI_pos' (by omega), nI_lt hva (by decide)⟩, nI_clamp (by omega)]
    rw [hr]
    have hc : ki = 4 ∨ ki = 5 := by omega
    rcases hc with rfl | rfl
    · obtain ⟨x, hx, i1, i2⟩ : ∃ x, x ≤ 51 ∧ r_in (kt_si μ p 4 (kt_i μ p 4 + 1)) p a = nI x ∧ (if (8 : Int32) ≤ nI d then (51 : Int32) else kt_i ν (m + 3) d) = nI x := by
        unfold r_in
        rw [kt_i_sik (by decide), g1, nI_clamp (by omega), kt_i_sin (by omega)]
        by_cases q : d < 8
        · obtain ⟨x, hx, i1, i2⟩ := hin d q
          refine ⟨x, hx, ?_, ?_⟩
          · rw [if_neg (fun z => by
              rcases z with z | z
              · exact absurd z (by rw [Int32.not_lt]; exact nI_pos' (by omega))
              · have := (nI_leI (a := 8) (by decide) (by omega)).mp z; omega), i1]
          · rw [if_neg (fun z => by have := (nI_leI (a := 8) (by decide) (by omega)).mp z; omega), i2]
        · refine ⟨51, by decide, ?_, ?_⟩
          · rw [if_pos (show nI d < 0 ∨ 8 ≤ nI d from Or.inr ((nI_leI (a := 8) (b := d) (by decide) (by omega)).mpr (by omega)))]; rfl
          · rw [if_pos (show 8 ≤ nI d from (nI_leI (a := 8) (b := d) (by decide) (by omega)).mpr (by omega))]; rfl
      refine ⟨c, d + 1, kt_si (kt_si (kt_si ν (m + 12) va (nI x)) m 26 (nI (d + 1))) m 23 (kt_i ν m 23 + 1), ?_, ?_, by omega, by omega, fun y z q1 q2 q3 => ?_⟩
      · have hJ : x_acts_J153 n m (nI va) (nI x) ν = some ((), kt_si (kt_si (kt_si ν (m + 12) va (nI x)) m 26 (nI (d + 1))) m 23 (kt_i ν m 23 + 1)) := by
          unfold x_acts_J153 x_acts_J188
          rw [kq_ck_t (pu_kin hva (by decide)), nI_clamp (by omega)]
          simp only [kq_lt]
          rw [kt_i_sin (show m ≠ m + 12 by omega), g2, nI_1, kt_i_sik (show (23 : Nat) ≠ 26 by decide), kt_i_sin (show m ≠ m + 12 by omega)]
        unfold x_acts
        rw [kq_ck_t (pu_kin hva (by decide)), if_neg (show ¬ nI 4 = 0 by decide), if_neg (show ¬ nI 4 = 1 by decide), if_neg (show ¬ nI 4 = 2 by decide), if_neg (show ¬ nI 4 = 3 by decide), if_pos (show nI 4 = 4 from rfl), g2]
        by_cases q : d < 8
        · rw [if_neg (fun z => by have := (nI_leI (a := 8) (by decide) (by omega)).mp z; omega)] at i2
          rw [if_neg (fun z => by have := (nI_leI (a := 8) (by decide) (by omega)).mp z; omega), kq_ck_t (pu_kin q (by decide)), nI_clamp (by omega), i2]
          exact hJ
        · rw [if_pos (show 8 ≤ nI d from (nI_leI (a := 8) (b := d) (by decide) (by omega)).mpr (by omega))] at i2
          rw [if_pos (show 8 ≤ nI d from (nI_leI (a := 8) (b := d) (by decide) (by omega)).mpr (by omega)), i2]
          exact hJ
      · have hu : r_act2 (kt_si μ p 4 (kt_i μ p 4 + 1)) p a (nI 4) va oc = kt_si (kt_si (kt_si μ p 4 (kt_i μ p 4 + 1)) (p + 1) va (nI x)) p 7 (nI (d + 1)) := by
          unfold r_act2
          rw [if_neg (show ¬ nI 4 = 0 by decide), if_neg (show ¬ nI 4 = 1 by decide), if_neg (show ¬ nI 4 = 2 by decide), if_neg (show ¬ nI 4 = 3 by decide), if_pos (show nI 4 = 4 from rfl), i1, kt_i_sik (show (7 : Nat) ≠ 4 by decide), g1, nI_1]
        rw [hu]
        refine h.set (fun y z q1 q2 q3 => by rw [kt_i_si, if_neg (by omega), kt_i_sin q2, kt_i_si, if_neg (by omega)]) (fun y z q1 q2 q3 => by rw [kt_i_si, if_neg (by omega), kt_i_si, if_neg (by omega), kt_i_sin q2]) ?_ ⟨?_, ?_⟩ ⟨kt_i_sie, ?_⟩ (fun u hu => ?_) (fun j hj => ?_)
        · rw [kt_i_sik (by decide), kt_i_sin (by omega), kt_i_sie, kt_i_sie, b4]
        · rw [kt_i_sik (by decide), kt_i_sin (by omega), kt_i_sik (by decide)]; exact f1
        · rw [kt_i_sik (by decide), kt_i_sik (by decide), kt_i_sin (by omega)]; exact f2
        · rw [kt_i_sik (by decide), kt_i_sie]
        · by_cases q : u = va
          · subst q
            exact ⟨x, hx, by rw [kt_i_sin (by omega), kt_i_sie], by rw [kt_i_sin (by omega), kt_i_sin (by omega), kt_i_sie]⟩
          · rw [kt_i_sin (by omega), kt_i_sik q, kt_i_sin (by omega), kt_i_sin (by omega), kt_i_sin (by omega), kt_i_sik q]; exact hv u hu
        · rw [kt_i_sin (by omega), kt_i_sin (by omega), kt_i_sin (by omega), kt_i_sin (by omega), kt_i_sin (by omega), kt_i_sin (by omega)]; exact hw j hj
      · rw [kt_i_si, if_neg (by omega), kt_i_si, if_neg (by omega), kt_i_sin q2]
    · refine ⟨c + 1, d, kt_si (kt_si (kt_si ν (m + 13) c (nI x0)) m 25 (nI (c + 1))) m 23 (kt_i ν m 23 + 1), ?_, ?_, by omega, by omega, fun y z q1 q2 q3 => ?_⟩
      · unfold x_acts x_acts_J188
        rw [kq_ck_t (pu_kin hva (by decide)), if_neg (show ¬ nI 5 = 0 by decide), if_neg (show ¬ nI 5 = 1 by decide), if_neg (show ¬ nI 5 = 2 by decide), if_neg (show ¬ nI 5 = 3 by decide), if_neg (show ¬ nI 5 = 4 by decide), f2, kq_ck_t (pu_kin hc (by decide)), nI_clamp (by omega), nI_clamp (by omega), e2]
        simp only [kq_lt]
        rw [kt_i_sin (show m ≠ m + 13 by omega), f2, nI_1, kt_i_sik (show (23 : Nat) ≠ 25 by decide), kt_i_sin (show m ≠ m + 13 by omega)]
      · have hu : r_act2 (kt_si μ p 4 (kt_i μ p 4 + 1)) p a (nI 5) va oc = kt_si (kt_si (kt_si μ p 4 (kt_i μ p 4 + 1)) (p + 3) c (nI x0)) p 6 (nI (c + 1)) := by
          unfold r_act2 r_out
          rw [if_neg (show ¬ nI 5 = 0 by decide), if_neg (show ¬ nI 5 = 1 by decide), if_neg (show ¬ nI 5 = 2 by decide), if_neg (show ¬ nI 5 = 3 by decide), if_neg (show ¬ nI 5 = 4 by decide), kt_i_sik (show (6 : Nat) ≠ 4 by decide), f1, if_neg (fun z => by
            rcases z with z | z
            · exact absurd z (by rw [Int32.not_lt]; exact nI_pos' (by omega))
            · have := (nI_leI (a := 240) (by decide) (by omega)).mp z; omega), nI_clamp (by omega), kt_i_sin (show p + 1 ≠ p by omega), e1, nI_1]
        rw [hu]
        refine h.set (fun y z q1 q2 q3 => by rw [kt_i_si, if_neg (by omega), kt_i_sin q3, kt_i_si, if_neg (by omega)]) (fun y z q1 q2 q3 => by rw [kt_i_si, if_neg (by omega), kt_i_si, if_neg (by omega), kt_i_sin q3]) ?_ ⟨kt_i_sie, ?_⟩ ⟨?_, ?_⟩ (fun u hu => ?_) (fun j hj => ?_)
        · rw [kt_i_sik (by decide), kt_i_sin (by omega), kt_i_sie, kt_i_sie, b4]
        · rw [kt_i_sik (by decide), kt_i_sie]
        · rw [kt_i_sik (by decide), kt_i_sin (by omega), kt_i_sik (by decide)]; exact g1
        · rw [kt_i_sik (by decide), kt_i_sik (by decide), kt_i_sin (by omega)]; exact g2
        · rw [kt_i_sin (by omega), kt_i_sin (by omega), kt_i_sin (by omega), kt_i_sin (by omega), kt_i_sin (by omega), kt_i_sin (by omega)]; exact hv u hu
        · by_cases q : j = c
          · subst q
            rw [kt_i_sin (by omega), kt_i_sie, kt_i_sin (by omega), kt_i_sin (by omega), kt_i_sie]
          · rw [kt_i_sin (by omega), kt_i_sik q, kt_i_sin (by omega), kt_i_sin (by omega), kt_i_sin (by omega), kt_i_sik q]; exact hw j (by omega)
      · rw [kt_i_si, if_neg (by omega), kt_i_si, if_neg (by omega), kt_i_sin q3]

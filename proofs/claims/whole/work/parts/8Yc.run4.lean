/-- the acts of a block -/
theorem pu_racts {n m p a s pg b kb s0 : Nat} {D : DB} (hD : WB D s0) (hpg : pg ≤ 3) (hb : b < 16) (hap : a < p ∨ p + 4 ≤ a) (hkp : kb + 4 ≤ p ∨ p + 4 ≤ kb) (K65 : Int32 → Int32 → kt_M → Option (Unit × kt_M)) : ∀ (fu i : Nat) (μ ν : kt_M) (c d : Nat), i ≤ db_na D → db_na D < i + fu → RN μ ν p m s c d → CB μ kb D → MB ν m pg b D → (∀ j, j < 8 → ∃ x, x ≤ 51 ∧ kt_i μ a j = nI x ∧ kt_i ν (m + 3) j = nI x) → c + (db_na D - i) ≤ 240 → d + (db_na D - i) ≤ 240 → ∃ c' d' ν1, x_runs_L103 n m K65 fu (nI pg) (nI b) (nI i) ν = x_runs_B103 n m K65 (fun _ _ _ _ => none) (nI pg) (nI b) (nI (db_na D)) ν1 ∧ RN (r_actsL p a kb (db_na D - i) i μ) ν1 p m s c' d' ∧ c' ≤ c + (db_na D - i) ∧ d' ≤ d + (db_na D - i) ∧ (∀ y z, ¬ (y = m ∧ 23 ≤ z ∧ z ≤ 26) → y ≠ m + 12 → y ≠ m + 13 → kt_i ν1 y z = kt_i ν y z)
  | 0, i, μ, ν, c, d, h1, h2, h, hC, hM, hin, hc, hd => by omega
  | fu + 1, i, μ, ν, c, d, h1, h2, h, hC, hM, hin, hc, hd => by
    have hna := hD.1
    rw [x_runs_L103]
    have hof : x_of n m ν (nI pg) (nI b) 0 = some (nI (db_na D), ν) := hM.of hpg hb (w := 0) (by decide) hM.1
    by_cases e : i = db_na D
    · refine ⟨c, d, ν, ?_, by rw [e, Nat.sub_self]; exact h, by omega, by omega, fun _ _ _ _ _ => rfl⟩
      rw [e]
      unfold x_runs_B103
      rw [kq_b2_s hof, kq_b2_s hof, if_pos ((nI_leI (by omega) (by omega)).mpr (Nat.le_refl _)), if_pos ((nI_leI (by omega) (by omega)).mpr (Nat.le_refl _))]
    · have hi : i < db_na D := by omega
      obtain ⟨k1, k2, k3, k4⟩ := hD.2.1 i hi
      obtain ⟨d1, d2, d3⟩ := hC.2.1 i hi
      obtain ⟨m1, m2, m3⟩ := hM.2.1 i hi
      have ew : (1 : Int32) + 3 * nI i = nI (1 + 3 * i) := by rw [show (1 : Int32) = nI 1 from rfl, show (3 : Int32) = nI 3 from rfl, nI_mul, nI_add]
      obtain ⟨c', d', ν1, a1, a2, a3, a4, a5⟩ := pu_act (n := n) (a := a) (oc := kt_i μ (kb + 3) i) h k1 k2 k3 k4 d3 hin hap (by omega) (by omega)
      have hstep : x_runs_B103 n m K65 (x_runs_L103 n m K65 fu) (nI pg) (nI b) (nI i) ν = x_runs_L103 n m K65 fu (nI pg) (nI b) (nI (i + 1)) ν1 := by
        unfold x_runs_B103
        rw [kq_b2_s hof, if_neg (fun q => by have := (nI_leI (by omega) (by omega)).mp q; omega), ew, kq_b2_s (hM.of hpg hb (by omega) m1), show nI (1 + 3 * i) + 1 = nI (1 + 3 * i + 1) from nI_add _ 1, kq_b2_s (hM.of hpg hb (by omega) m2), show nI (1 + 3 * i) + 2 = nI (1 + 3 * i + 2) from nI_add _ 2, kq_b2_s (hM.of hpg hb (by omega) m3), kq_b2_s a1, nI_1]
      rw [hstep]
      have hr : r_actsL p a kb (db_na D - i) i μ = r_actsL p a kb (db_na D - (i + 1)) (i + 1) (r_act μ p a (nI (db_ki D i)) (nI (db_va D i)) (kt_i μ (kb + 3) i)) := by
        rw [show db_na D - i = (db_na D - (i + 1)) + 1 by omega, r_actsL, d1, d2]
      rw [hr]
      obtain ⟨c2, d2', ν2, f1, f2, f3, f4, f5⟩ := pu_racts (n := n) (m := m) hD hpg hb hap hkp K65 fu (i + 1) _ ν1 c' d' (by omega) (by omega) a2 (hC.ext (fun y z q1 q2 => r_act_out (by omega))) (hM.tr hD (fun u hu => by unfold mr; exact a5 _ _ (by omega) (by omega) (by omega))) (fun j hj => by rw [r_act_out (by omega), a5 _ _ (by omega) (by omega) (by omega)]; exact hin j hj) (by omega) (by omega)
      exact ⟨c2, d2', ν2, f1, f2, by omega, by omega, fun y z q1 q2 q3 => by rw [f5 y z q1 q2 q3, a5 y z q1 q2 q3]⟩

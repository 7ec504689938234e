/-- a run of both, on the class's memory -/
theorem kIS.run {μ : kt_M} {o m : Nat} {P0 P1 : DP} {PI : Nat → DP} {L lim p : Nat} (h : kIS μ o m P0 P1 PI L lim) (hp : p < 2) : ∃ s c d ν, x_runs 4000 m (q_fol μ (o + 364) (ut_ch o (nI p)) (o + 369)) (nI p) = some ((), ν) ∧ RN (q_fol μ (o + 364) (ut_ch o (nI p)) (o + 369)) ν (o + 364) m s c d ∧ s ≤ 60 ∧ c ≤ 240 ∧ d ≤ 240 ∧ kt_i (q_fol μ (o + 364) (ut_ch o (nI p)) (o + 369)) (o + 364) 8 = kt_i ν m 27 ∧ (kt_i ν m 27 = 0 ∨ kt_i ν m 27 = 1) ∧ kIS ν o m P0 P1 PI L lim := by
  have hom := h.1
  obtain ⟨P, hP, hC, hM⟩ := h.ch hp
  have hq : ut_ch o (nI p) = o + 42 ∨ ut_ch o (nI p) = o + 81 := by unfold ut_ch; split <;> simp
  have hout : ∀ y z, (y < o + 364 ∨ o + 368 ≤ y) → kt_i (q_fol μ (o + 364) (ut_ch o (nI p)) (o + 369)) y z = kt_i μ y z := fun y z q => q_fol_out (by omega)
  have hfe : q_fol μ (o + 364) (ut_ch o (nI p)) (o + 369) = r_fol μ (o + 364) (ut_ch o (nI p)) (o + 369) := kt_seal_eq _
  obtain ⟨s, c, d, ν, e1, e2, e3, e4, e5, e6, e7, e8⟩ := pu_runs (n := 4000) (m := m) (p := o + 364) (a := o + 369) (q := ut_ch o (nI p)) (N := 16) (pg := p) (μ := μ) (ν := q_fol μ (o + 364) (ut_ch o (nI p)) (o + 369)) hP (by decide) (by omega) (by omega) (by omega) (by decide) hC (hM.ext (fun j => hout _ j (by omega))) (fun j hj => by rw [hout _ _ (by omega)]; exact h.inp j hj)
  rw [← hfe] at e2 e6
  refine ⟨s, c, d, ν, e1, e2, e3, e4, e5, e6, e7, h.ext (fun y k hy => ?_)⟩
  unfold kCel at hy
  rw [e8 y k (by omega) (by omega) (by omega) (by omega), hout y k (by omega)]
theorem st_ran {μ : kt_M} {o m : Nat} (h : kInv μ o m) (a1 : Int32) (a2 : Int32) : ∃ (n : Nat) (μ1 : kt_M), x_ran n m (ut_ran μ o a1 a2).2 a1 a2 = some ((ut_ran μ o a1 a2).1, μ1) ∧ kInv μ1 o m := by
  obtain ⟨P0, P1, PI, L, lim, h⟩ := h
  refine ⟨4000, ?_⟩
  by_cases hg : k_wi a1 1 ∧ k_wi a2 9
  · have hu : ut_ran μ o a1 a2 = _ := if_pos hg
    rw [hu]; clear hu
    dsimp only
    obtain ⟨p, hp, rfl⟩ := k_wi_nI (n := 2) hg.1 (by decide) (by decide)
    obtain ⟨w, hw, rfl⟩ := k_wi_nI (n := 10) hg.2 (by decide) (by decide)
    obtain ⟨s, c, d, ν, e1, e2, e3, e4, e5, e6, e7, e8⟩ := h.run hp
    generalize q_fol μ (o + 364) (ut_ch o (nI p)) (o + 369) = μc at e1 e2 e6
    refine ⟨ν, ?_, e8.inv⟩
    unfold x_ran
    rw [kq_b2_s pu_isProg, if_neg (kz.f.t hg.1), kq_b1_s (pu_wi (h := 9) (hi := 9) rfl), if_neg (kz.f.t hg.2), kq_b2_s e1]
    unfold ut_rp
    have hv : ∀ v, v < 4 → kq_ck (kq_in (nI v) 4) (some (kt_i ν (m + 12) (Int32.toNatClampNeg (nI v)), ν)) = some (r_val μc (o + 364) (nI v), ν) := fun v hv => by
      obtain ⟨x, hx, g1, g2⟩ := e2.val hv
      rw [kq_ck_t (pu_kin hv (by decide)), nI_clamp (by omega), g1, g2]
    obtain ⟨⟨a1, a2⟩, b, e, ⟨f1, f2⟩, ⟨g1, g2⟩, -⟩ := e2
    have hc : w = 0 ∨ w = 1 ∨ w = 2 ∨ w = 3 ∨ w = 4 ∨ w = 5 ∨ w = 6 ∨ w = 7 ∨ w = 8 ∨ w = 9 := by omega
    rcases hc with rfl | rfl | rfl | rfl | rfl | rfl | rfl | rfl | rfl | rfl
    · exact show some (kt_i ν m 22, ν) = some (kt_i μc (o + 364) 3, ν) from pu_pair (a2.trans a1.symm) rfl
    · exact show some (kt_i ν m 23, ν) = some (kt_i μc (o + 364) 4, ν) from pu_pair b.symm rfl
    · exact show some (kt_i ν m 24, ν) = some (kt_i μc (o + 364) 5, ν) from pu_pair e.symm rfl
    · exact show some (kt_i ν m 25, ν) = some (kt_i μc (o + 364) 6, ν) from pu_pair (f2.trans f1.symm) rfl
    · exact show kq_b1 (x_flag 4000 (kt_i ν m 27)) (fun r => some (r, ν)) = some (kt_i μc (o + 364) 8, ν) from (kq_b1_s (pu_flag e7)).trans (pu_pair e6.symm rfl)
    · exact hv 0 (by decide)
    · exact hv 1 (by decide)
    · exact hv 2 (by decide)
    · exact hv 3 (by decide)
    · exact show some (kt_i ν m 26, ν) = some (kt_i μc (o + 364) 7, ν) from pu_pair (g2.trans g1.symm) rfl
  · have hu : ut_ran μ o a1 a2 = _ := if_neg hg
    rw [hu]; clear hu
    refine ⟨μ, ?_, h.inv⟩
    unfold x_ran
    rw [kq_b2_s pu_isProg]
    by_cases q : k_wi a1 1
    · rw [if_neg (kz.f.t q), kq_b1_s (pu_wi (h := 9) (hi := 9) rfl), if_pos (kz.f.n (fun q2 => hg ⟨q, q2⟩))]
    · rw [if_pos (kz.f.n q)]
theorem st_wrote {μ : kt_M} {o m : Nat} (h : kInv μ o m) (a1 : Int32) (a2 : Int32) : ∃ (n : Nat) (μ1 : kt_M), x_wrote n m (ut_wr μ o a1 a2 6 (o + 364 + 3) 240).2 a1 a2 = some ((ut_wr μ o a1 a2 6 (o + 364 + 3) 240).1, μ1) ∧ kInv μ1 o m := by
  obtain ⟨P0, P1, PI, L, lim, h⟩ := h
  refine ⟨4000, ?_⟩
  by_cases hg : k_wi a1 1 ∧ 0 ≤ a2
  · have hu : ut_wr μ o a1 a2 6 (o + 364 + 3) 240 = _ := if_pos hg
    rw [hu]; clear hu
    dsimp only
    obtain ⟨p, hp, rfl⟩ := k_wi_nI (n := 2) hg.1 (by decide) (by decide)
    obtain ⟨i, hi, rfl⟩ := nI_of (x := a2) (by rw [Int32.not_lt]; exact hg.2)
    obtain ⟨s, c, d, ν, e1, e2, e3, e4, e5, e6, e7, e8⟩ := h.run hp
    generalize q_fol μ (o + 364) (ut_ch o (nI p)) (o + 369) = μc at e1 e2 e6
    refine ⟨ν, ?_, e8.inv⟩
    unfold x_wrote
    rw [kq_b2_s pu_isProg, if_neg (kz.f.t hg.1), if_pos hg.2, kq_b2_s e1]
    obtain ⟨-, -, -, ⟨f1, f2⟩, -, -, g, -⟩ := e2
    rw [f1, f2, nI_clamp hi]
    by_cases q : i < c
    · rw [if_neg (fun z => by have := (nI_leI (by omega) hi).mp z; omega), kq_ck_t (pu_kin (by omega) (by decide)), if_pos ⟨nI_lt q (by omega), nI_lt (b := 240) (by omega) (by decide)⟩, g i q]
    · rw [if_pos ((nI_leI (by omega) hi).mpr (by omega)), if_neg (fun z => q ((nI_ltI hi (by omega)).mp z.1))]
  · have hu : ut_wr μ o a1 a2 6 (o + 364 + 3) 240 = _ := if_neg hg
    rw [hu]; clear hu
    refine ⟨μ, ?_, h.inv⟩
    unfold x_wrote
    rw [kq_b2_s pu_isProg]
    by_cases q : k_wi a1 1
    · rw [if_neg (kz.f.t q), if_neg (fun q2 => hg ⟨q, q2⟩)]
    · rw [if_pos (kz.f.n q)]
theorem st_path {μ : kt_M} {o m : Nat} (h : kInv μ o m) (a1 : Int32) (a2 : Int32) : ∃ (n : Nat) (μ1 : kt_M), x_path n m (ut_wr μ o a1 a2 3 (o + 364 + 2) 60).2 a1 a2 = some ((ut_wr μ o a1 a2 3 (o + 364 + 2) 60).1, μ1) ∧ kInv μ1 o m := by
  obtain ⟨P0, P1, PI, L, lim, h⟩ := h
  refine ⟨4000, ?_⟩
  by_cases hg : k_wi a1 1 ∧ 0 ≤ a2
  · have hu : ut_wr μ o a1 a2 3 (o + 364 + 2) 60 = _ := if_pos hg
    rw [hu]; clear hu
    dsimp only
    obtain ⟨p, hp, rfl⟩ := k_wi_nI (n := 2) hg.1 (by decide) (by decide)
    obtain ⟨i, hi, rfl⟩ := nI_of (x := a2) (by rw [Int32.not_lt]; exact hg.2)
    obtain ⟨s, c, d, ν, e1, e2, e3, e4, e5, e6, e7, e8⟩ := h.run hp
    generalize q_fol μ (o + 364) (ut_ch o (nI p)) (o + 369) = μc at e1 e2 e6
    refine ⟨ν, ?_, e8.inv⟩
    unfold x_path
    rw [kq_b2_s pu_isProg, if_neg (kz.f.t hg.1), if_pos hg.2, kq_b2_s e1]
    obtain ⟨⟨f1, f2⟩, -, -, -, -, -, -, g⟩ := e2
    rw [f1, f2, nI_clamp hi]
    by_cases q : i < s
    · rw [if_neg (fun z => by have := (nI_leI (by omega) hi).mp z; omega), kq_ck_t (pu_kin (by omega) (by decide)), if_pos ⟨nI_lt q (by omega), nI_lt (b := 60) (by omega) (by decide)⟩, g i q]
    · rw [if_pos ((nI_leI (by omega) hi).mpr (by omega)), if_neg (fun z => q ((nI_ltI hi (by omega)).mp z.1))]
  · have hu : ut_wr μ o a1 a2 3 (o + 364 + 2) 60 = _ := if_neg hg
    rw [hu]; clear hu
    refine ⟨μ, ?_, h.inv⟩
    unfold x_path
    rw [kq_b2_s pu_isProg]
    by_cases q : k_wi a1 1
    · rw [if_neg (kz.f.t q), if_neg (fun q2 => hg ⟨q, q2⟩)]
    · rw [if_pos (kz.f.n q)]

/-! PURE: a test is read -/
theorem pu_J102X {n m p c : Nat} {μ ν : kt_M} (hc : c + 20 ≤ 321) (h : FT μ ν p m) : ∃ ν1, x_readTest_J102 n m (nI c) 0 ν = some ((), ν1) ∧ FD m c ν ν1 ∧ FT μ ν1 p m := by
  unfold x_readTest_J102
  rw [kq_b1_s (pu_flag (Or.inl rfl)), show nI c + 17 = nI (c + 17) from nI_add c 17, show nI c + 18 = nI (c + 18) from nI_add c 18, kq_ck_t (pu_kin (by omega) (by decide)), nI_clamp (show c + 17 < 2 ^ 31 by omega)]
  simp only [kq_lt]
  have h1 := h.set (k := c + 17) (v := 0)
  rw [if_pos trivial, kq_b2_s (pu_numX h1.n0)]
  obtain ⟨ν1, a1, a2, a3⟩ := pu_J141X (n := n) (r := 0) hc h1
  exact ⟨ν1, a1, (FD.set (by omega)).trans a2, a3⟩
theorem pu_J77X {n m p c : Nat} {μ ν : kt_M} {v : Int32} (hc : c + 20 ≤ 321) (h : FT μ ν p m) : ∃ ν1, x_readTest_J77 n m (nI c) (nI (c + 13)) v ν = some ((), ν1) ∧ FD m c ν ν1 ∧ FT μ ν1 p m := by
  unfold x_readTest_J77
  rw [kq_ck_t (pu_kin (by omega) (by decide)), nI_clamp (show c + 13 < 2 ^ 31 by omega)]
  simp only [kq_lt]
  have h1 := h.set (k := c + 13) (v := v)
  rw [kq_b2_s (pu_readsX h1.n0.2), if_neg h1.n0.1]
  obtain ⟨ν1, a1, a2, a3⟩ := pu_J102X (n := n) hc h1
  exact ⟨ν1, a1, (FD.set (by omega)).trans a2, a3⟩
/-- the right side of a test, and where it leads -/
theorem pu_rhs {n m p L s t e kb c : Nat} {μ ν : kt_M} (hn : 300 ≤ n) (hkb : p + 2 ≤ kb) (hc : c + 20 ≤ 321) (h : TK μ ν p m L s t e) : ∃ ν1, (if kt_i ν m 11 = 0 then (if kt_i ν m 9 = 1 then x_readTest_J102 n m (nI c) 1 ν else x_readTest_J102 n m (nI c) 0 ν) else x_readTest_J102 n m (nI c) 0 ν) = some ((), ν1) ∧ FD m c ν ν1 ∧ (∀ w, w < 20 → w ≠ 14 → w ≠ 15 → w ≠ 17 → w ≠ 18 → kt_i ν1 (m + 2) (c + w) = kt_i ν (m + 2) (c + w)) ∧ (((b_and (b_test4 (kt_si μ kb 6 (if kt_i μ p 4 = 1 then 1 else 0)) p kb) (fun μ => c_tgts μ p kb)).1 = 1 ∧ ∃ rv rt t0 t1 s t e, (rv ≤ 1 ∧ (rv = 0 → rt ≤ 50) ∧ (rv = 1 → rt < 4) ∧ t0 < 8 ∧ t1 < 8) ∧ (kt_i (b_and (b_test4 (kt_si μ kb 6 (if kt_i μ p 4 = 1 then 1 else 0)) p kb) (fun μ => c_tgts μ p kb)).2 kb 6 = nI rv ∧ kt_i (b_and (b_test4 (kt_si μ kb 6 (if kt_i μ p 4 = 1 then 1 else 0)) p kb) (fun μ => c_tgts μ p kb)).2 kb 7 = nI rt ∧ kt_i (b_and (b_test4 (kt_si μ kb 6 (if kt_i μ p 4 = 1 then 1 else 0)) p kb) (fun μ => c_tgts μ p kb)).2 kb 8 = nI t0 ∧ kt_i (b_and (b_test4 (kt_si μ kb 6 (if kt_i μ p 4 = 1 then 1 else 0)) p kb) (fun μ => c_tgts μ p kb)).2 kb 9 = nI t1) ∧ (kt_i ν1 (m + 2) (c + 14) = nI t0 ∧ kt_i ν1 (m + 2) (c + 15) = nI t1 ∧ kt_i ν1 (m + 2) (c + 17) = nI rv ∧ kt_i ν1 (m + 2) (c + 18) = nI rt) ∧ TK (b_and (b_test4 (kt_si μ kb 6 (if kt_i μ p 4 = 1 then 1 else 0)) p kb) (fun μ => c_tgts μ p kb)).2 ν1 p m L s t e) ∨ ((b_and (b_test4 (kt_si μ kb 6 (if kt_i μ p 4 = 1 then 1 else 0)) p kb) (fun μ => c_tgts μ p kb)).1 = 0 ∧ FT (b_and (b_test4 (kt_si μ kb 6 (if kt_i μ p 4 = 1 then 1 else 0)) p kb) (fun μ => c_tgts μ p kb)).2 ν1 p m)) ∧ (∀ y z, y ≠ p → ¬ (y = kb ∧ 6 ≤ z ∧ z ≤ 9) → kt_i (b_and (b_test4 (kt_si μ kb 6 (if kt_i μ p 4 = 1 then 1 else 0)) p kb) (fun μ => c_tgts μ p kb)).2 y z = kt_i μ y z) := by
  rw [if_pos h.2.1.2]
  have e17 : nI c + 17 = nI (c + 17) := nI_add c 17
  have e18 : nI c + 18 = nI (c + 18) := nI_add c 18
  -- the class's third and the model's
  have key : ∃ (rv : Nat) (ν3 : kt_M) (r : Int32) (S : Int32 × kt_M), rv ≤ 1 ∧ (if kt_i μ p 4 = 1 then (1 : Int32) else 0) = nI rv ∧ (if kt_i ν m 9 = 1 then x_readTest_J102 n m (nI c) 1 ν else x_readTest_J102 n m (nI c) 0 ν) = x_readTest_J141 n m (nI c) (nI (c + 18)) r ν3 ∧ FR m (kt_si ν (m + 2) (c + 17) (nI rv)) ν3 ∧ b_test4 (kt_si μ kb 6 (nI rv)) p kb = (kt_f (¬ S.1 < 0), kt_si S.2 kb 7 S.1) ∧ (∀ y z, y ≠ p → kt_i S.2 y z = kt_i (kt_si μ kb 6 (nI rv)) y z) ∧ ((∃ v s t e, (rv = 0 → v ≤ 50) ∧ (rv = 1 → v < 4) ∧ v < 100 ∧ S.1 = nI v ∧ r = nI v ∧ TK S.2 ν3 p m L s t e) ∨ (S.1 = -1 ∧ FT S.2 ν3 p m)) := by
    by_cases q : t = 1
    · have hT2 : TK (kt_si μ kb 6 (nI 1)) (kt_si ν (m + 2) (c + 17) (nI 1)) p m L s t e := (h.set).ext (fun z => kt_i_sin (by omega)) (fun z => kt_i_sin (by omega)) (fun _ _ _ => rfl) (fun _ => rfl)
      obtain ⟨ν3, r, a1, a2, a3⟩ := pu_var hn hT2
      refine ⟨1, ν3, r, a_var (kt_si μ kb 6 (nI 1)) p, by decide, if_pos ((h.tok 1 (by decide)).1.mpr q), ?_, a2, ?_, fun y z q2 => a_var_out q2, ?_⟩
      · rw [if_pos (show kt_i ν m 9 = 1 from (h.tok 1 (by decide)).2.mpr q)]
        unfold x_readTest_J102
        rw [kq_b1_s (pu_flag (Or.inr rfl)), e17, e18, kq_ck_t (pu_kin (by omega) (by decide)), nI_clamp (show c + 17 < 2 ^ 31 by omega)]
        simp only [kq_lt]
        rw [if_neg (show ¬ (1 : Int32) = 0 by decide), kq_b2_s (show x_readVariable n m (kt_si ν (m + 2) (c + 17) 1) = _ from a1)]
      · have hne : ¬ kt_i (kt_si μ kb 6 (nI 1)) p 4 = 2 := fun z => by have := (hT2.tok 2 (by decide)).1.mp z; omega
        unfold b_test4
        rw [if_neg hne]
      · rcases a3 with ⟨v, v1, v2, v3, s2, t2, e2, v4⟩ | ⟨v1, v2⟩
        · exact Or.inl ⟨v, s2, t2, e2, fun z => by omega, fun _ => v1, by omega, v2, v3, v4⟩
        · exact Or.inr ⟨v1, v2⟩
    · have hT2 : TK (kt_si μ kb 6 (nI 0)) (kt_si ν (m + 2) (c + 17) (nI 0)) p m L s t e := (h.set).ext (fun z => kt_i_sin (by omega)) (fun z => kt_i_sin (by omega)) (fun _ _ _ => rfl) (fun _ => rfl)
      obtain ⟨ν3, r, a1, a2, a3⟩ := pu_num (top := 50) hn hT2 (by decide)
      refine ⟨0, ν3, r, a_num (kt_si μ kb 6 (nI 0)) p (nI 50), by decide, if_neg (fun z => q ((h.tok 1 (by decide)).1.mp z)), ?_, a2, ?_, fun y z q2 => a_num_out q2, ?_⟩
      · rw [if_neg (show ¬ kt_i ν m 9 = 1 from fun z => q ((h.tok 1 (by decide)).2.mp z))]
        unfold x_readTest_J102
        rw [kq_b1_s (pu_flag (Or.inl rfl)), e17, e18, kq_ck_t (pu_kin (by omega) (by decide)), nI_clamp (show c + 17 < 2 ^ 31 by omega)]
        simp only [kq_lt]
        rw [if_pos trivial, kq_b2_s (show x_readNumber n m (kt_si ν (m + 2) (c + 17) 0) 50 = _ from a1)]
      · unfold b_test4
        by_cases q2 : t = 2
        · rw [if_pos (show kt_i (kt_si μ kb 6 (nI 0)) p 4 = 2 from (hT2.tok 2 (by decide)).1.mpr q2)]; rfl
        · have hne : ¬ kt_i (kt_si μ kb 6 (nI 0)) p 4 = 2 := fun z => q2 ((hT2.tok 2 (by decide)).1.mp z)
          have hn1 : ¬ kt_i (kt_si μ kb 6 (nI 0)) p 4 = 1 := fun z => q ((hT2.tok 1 (by decide)).1.mp z)
          have hv : a_var (kt_si μ kb 6 (nI 0)) p = a_num (kt_si μ kb 6 (nI 0)) p (nI 50) := by
            have e1 : a_let (kt_si μ kb 6 (nI 0)) p = -1 := if_neg (fun z => hn1 z.1)
            have e2 : a_val (kt_si μ kb 6 (nI 0)) p = -1 := if_neg hne
            unfold a_var a_num
            rw [e1, e2, if_pos (by decide), if_pos (Or.inl (by decide)), if_pos (by decide)]
          rw [if_neg hne, hv]
      · rcases a3 with ⟨v, v1, v2, v3, s2, t2, e2, v4⟩ | ⟨v1, v2⟩
        · exact Or.inl ⟨v, s2, t2, e2, fun _ => v1, fun z => by omega, by omega, v2, v3, v4⟩
        · exact Or.inr ⟨v1, v2⟩
  obtain ⟨rv, ν3, r, S, r1, r2, r3, r4, r5, r6, r7⟩ := key
  rw [r3, r2, r5]
  have hS : ∀ y z, y ≠ p → ¬ (y = kb ∧ 6 ≤ z ∧ z ≤ 7) → kt_i (kt_si S.2 kb 7 S.1) y z = kt_i μ y z := fun y z q1 q2 => by
    rw [kt_i_si, if_neg (by omega), r6 y z q1, kt_i_si, if_neg (by omega)]
  have hf3 : FD m c ν ν3 := (FD.set (by omega)).trans r4.fd
  rcases r7 with ⟨v, s2, t2, e2, v1, v2, v3, v4, v5, v6⟩ | ⟨v1, v2⟩
  · rw [kt_f_t (show ¬ S.1 < 0 by rw [v4, Int32.not_lt]; exact nI_pos' (by omega)), b_and_t (a := (1, kt_si S.2 kb 7 S.1)) (show ¬ (1 : Int32) = 0 by decide)]
    dsimp only
    have h6 : kt_i (kt_si S.2 kb 7 S.1) kb 6 = nI rv := by rw [kt_i_sik (by decide), r6 _ _ (by omega), kt_i_sie]
    have h7 : kt_i (kt_si S.2 kb 7 S.1) kb 7 = nI v := by rw [kt_i_sie, v4]
    have hT3 : TK (kt_si S.2 kb 7 S.1) ν3 p m L s2 t2 e2 := v6.ext (fun z => kt_i_sin (by omega)) (fun z => kt_i_sin (by omega)) (fun _ _ _ => rfl) (fun _ => rfl)
    generalize kt_si S.2 kb 7 S.1 = μ3 at hS h6 h7 hT3
    obtain ⟨ν4, b1, b2, b3, b4, b5, b6⟩ := pu_J141 (kb := kb) (c := c) (r := r) hn hkb hc hT3
    refine ⟨ν4, b1, hf3.trans b2, fun w w1 w2 w3 w4 w5 => ?_, ?_, fun y z q1 q2 => ?_⟩
    · rw [b3 w w1 w2 w3 w5, r4 _ _ (by omega), kt_i_sik (by omega)]
    · rcases b5 with ⟨g1, t0, t1, s5, t5, e5, g2, g3, g4, g5, g6, g7, g8⟩ | ⟨g1, g2⟩
      · refine Or.inl ⟨kt_f_t (by rw [g1]; decide), rv, v, t0, t1, s5, t5, e5, ⟨r1, v1, v2, g2, g3⟩, ⟨?_, ?_, g4, g5⟩, ⟨g6, g7, ?_, by rw [b4, v5]⟩, g8⟩
        · rw [b6 _ _ (by omega) (by omega)]; exact h6
        · rw [b6 _ _ (by omega) (by omega)]; exact h7
        · rw [b3 17 (by decide) (by decide) (by decide) (by decide), r4 _ _ (by omega), kt_i_sie]
      · exact Or.inr ⟨kt_f_f (fun z => z g1), g2⟩
    · rw [b6 y z q1 (by omega), hS y z q1 (by omega)]
  · rw [kt_f_f (show ¬ ¬ S.1 < 0 from fun z => z (by rw [v1]; decide)), b_and_f rfl]
    dsimp only
    have hF : FT (kt_si S.2 kb 7 S.1) ν3 p m := FT.ext v2 (kt_i_sin (by omega)) (kt_i_sin (by omega)) rfl rfl
    obtain ⟨ν4, b1, b2, b3⟩ := pu_J141X (n := n) (r := r) hc hF
    refine ⟨ν4, b1, hf3.trans b2, fun w w1 w2 w3 w4 w5 => ?_, Or.inr ⟨rfl, b3⟩, fun y z q1 q2 => hS y z q1 (by omega)⟩
    have hk : ∀ u, x_readTest_J141 n m (nI c) (nI (c + 18)) r ν3 = some ((), u) → kt_i u (m + 2) (c + w) = kt_i ν3 (m + 2) (c + w) := fun u hu => by
      unfold x_readTest_J141 at hu
      rw [kq_ck_t (pu_kin (by omega) (by decide)), nI_clamp (show c + 18 < 2 ^ 31 by omega)] at hu
      simp only [kq_lt] at hu
      have e14 : nI c + 14 = nI (c + 14) := nI_add c 14
      have e15 : nI c + 14 + 1 = nI (c + 15) := by rw [e14, nI_1]
      have h1 := hF.set (k := c + 18) (v := r)
      have h2 := h1.set (k := c + 14) (v := 0)
      rw [kq_b2_s (pu_numX h1.n0), e15, e14, kq_ck_t (pu_kin (by omega) (by decide)), nI_clamp (show c + 14 < 2 ^ 31 by omega), kq_b2_s (pu_numX h2.n0), kq_ck_t (pu_kin (by omega) (by decide)), nI_clamp (show c + 15 < 2 ^ 31 by omega)] at hu
      cases hu
      rw [kt_i_sik (by omega), kt_i_sik (by omega), kt_i_sik (by omega)]
    rw [hk ν4 b1, r4 _ _ (by omega), kt_i_sik (by omega)]

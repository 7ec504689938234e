theorem k_sign_ext {μ μ' : kt_M} {p : Nat} {x : Int32} (h : ∀ z, kt_i μ' p z = kt_i μ p z) (h1 : ∀ z, kt_i μ' (p + 1) z = kt_i μ (p + 1) z) : k_sign μ' p x ↔ k_sign μ p x := by
  unfold k_sign k_by k_byc
  simp only [h, h1]
/-- from the sign of a test on -/
theorem pu_sig {n m p L s t e kb c : Nat} {μ ν : kt_M} (hn : 300 ≤ n) (hkb : p + 2 ≤ kb) (hc : c + 20 ≤ 321) (h : TK μ ν p m L s t e) : ∃ ν1, (if kt_i ν m 11 = 0 then kq_b2 (x_isSign n m ν 60) (fun r_24 μ_24 => (if r_24 = 0 then kq_b2 (x_isSign n m μ_24 61) (fun r_33 μ_33 => (if r_33 = 0 then x_readTest_J44 n m (nI c) 0 μ_33 else x_readTest_J44 n m (nI c) 1 μ_33)) else x_readTest_J44 n m (nI c) 1 μ_24)) else x_readTest_J48 n m (nI c) ν) = some ((), ν1) ∧ FD m c ν ν1 ∧ (((b_and (b_test2 μ p kb) (fun μ => c_tgts μ p kb)).1 = 1 ∧ (∀ w, w < 20 → (w < 13 ∨ w = 16 ∨ w = 19) → kt_i ν1 (m + 2) (c + w) = kt_i ν (m + 2) (c + w)) ∧ ∃ en rv rt t0 t1 s t e, ((en = 2 ∨ en = 3) ∧ rv ≤ 1 ∧ (rv = 0 → rt ≤ 50) ∧ (rv = 1 → rt < 4) ∧ t0 < 8 ∧ t1 < 8) ∧ (kt_i (b_and (b_test2 μ p kb) (fun μ => c_tgts μ p kb)).2 kb 4 = nI en ∧ kt_i (b_and (b_test2 μ p kb) (fun μ => c_tgts μ p kb)).2 kb 6 = nI rv ∧ kt_i (b_and (b_test2 μ p kb) (fun μ => c_tgts μ p kb)).2 kb 7 = nI rt ∧ kt_i (b_and (b_test2 μ p kb) (fun μ => c_tgts μ p kb)).2 kb 8 = nI t0 ∧ kt_i (b_and (b_test2 μ p kb) (fun μ => c_tgts μ p kb)).2 kb 9 = nI t1) ∧ (kt_i ν1 (m + 2) (c + 13) = nI en ∧ kt_i ν1 (m + 2) (c + 14) = nI t0 ∧ kt_i ν1 (m + 2) (c + 15) = nI t1 ∧ kt_i ν1 (m + 2) (c + 17) = nI rv ∧ kt_i ν1 (m + 2) (c + 18) = nI rt) ∧ TK (b_and (b_test2 μ p kb) (fun μ => c_tgts μ p kb)).2 ν1 p m L s t e) ∨ ((b_and (b_test2 μ p kb) (fun μ => c_tgts μ p kb)).1 = 0 ∧ FT (b_and (b_test2 μ p kb) (fun μ => c_tgts μ p kb)).2 ν1 p m)) ∧ (∀ y z, y ≠ p → ¬ (y = kb ∧ (z = 4 ∨ (6 ≤ z ∧ z ≤ 9))) → kt_i (b_and (b_test2 μ p kb) (fun μ => c_tgts μ p kb)).2 y z = kt_i μ y z) := by
  rw [if_pos h.2.1.2, kq_b2_s (show x_isSign n m ν 60 = some (kt_f (k_sign μ p 60), ν) from pu_isSign (c := 60) h)]
  have e61 : x_isSign n m ν 61 = some (kt_f (k_sign μ p 61), ν) := pu_isSign (c := 61) h
  have e13 : nI c + 13 = nI (c + 13) := nI_add c 13
  have hx : k_sign μ p 61 → ¬ k_sign μ p 60 := fun z w => absurd (z.2.symm.trans w.2) (by decide)
  by_cases hok : k_sign μ p 61 ∨ k_sign μ p 60
  · obtain ⟨en, cc, n1, n2, n3, n4, n5⟩ : ∃ (en : Nat) (cc : Int32), (en = 2 ∨ en = 3) ∧ (if k_sign μ p 61 then (3 : Int32) else 2) = nI en ∧ (if k_sign μ p 61 then (61 : Int32) else 60) = cc ∧ k_sign μ p cc ∧ (if kt_f (k_sign μ p 60) = 0 then kq_b2 (x_isSign n m ν 61) (fun r_33 μ_33 => (if r_33 = 0 then x_readTest_J44 n m (nI c) 0 μ_33 else x_readTest_J44 n m (nI c) 1 μ_33)) else x_readTest_J44 n m (nI c) 1 ν) = x_readTest_J77 n m (nI c) (nI (c + 13)) (nI en) ν := by
      have hJ : ∀ w : kt_M, w = ν → x_readTest_J44 n m (nI c) 1 w = (if kt_f (k_sign μ p 60) = 0 then x_readTest_J77 n m (nI c) (nI (c + 13)) 3 ν else x_readTest_J77 n m (nI c) (nI (c + 13)) 2 ν) := fun w hw => by
        subst hw
        unfold x_readTest_J44
        rw [kq_b2_s pu_reqT]
        unfold x_readTest_J48
        rw [if_pos h.2.1.2, kq_b2_s (show x_isSign n m w 60 = some (kt_f (k_sign μ p 60), w) from pu_isSign (c := 60) h), e13]
      by_cases q : k_sign μ p 61
      · refine ⟨3, 61, Or.inr rfl, if_pos q, if_pos q, q, ?_⟩
        rw [kt_f_f (hx q), if_pos rfl, kq_b2_s e61, kt_f_t q, if_neg (by decide), hJ ν rfl, kt_f_f (hx q), if_pos rfl]; rfl
      · have q2 : k_sign μ p 60 := hok.elim (fun z => absurd z q) id
        refine ⟨2, 60, Or.inl rfl, if_neg q, if_neg q, q2, ?_⟩
        rw [kt_f_t q2, if_neg (by decide), hJ ν rfl, kt_f_t q2, if_neg (by decide)]; rfl
    rw [n5]
    unfold x_readTest_J77
    rw [kq_ck_t (pu_kin (by omega) (by decide)), nI_clamp (show c + 13 < 2 ^ 31 by omega)]
    simp only [kq_lt]
    have hT2 : TK (kt_si μ kb 4 (nI en)) (kt_si ν (m + 2) (c + 13) (nI en)) p m L s t e := (h.set).ext (fun z => kt_i_sin (by omega)) (fun z => kt_i_sin (by omega)) (fun _ _ _ => rfl) (fun _ => rfl)
    have hsg : ∀ x, k_sign (kt_si μ kb 4 (nI en)) p x ↔ k_sign μ p x := fun x => k_sign_ext (fun z => kt_i_sin (by omega)) (fun z => kt_i_sin (by omega))
    obtain ⟨ν2, b1, b2, b3⟩ := hT2.adv hn
    rw [kq_b2_s b1]
    have hcc : (if k_sign (kt_si μ kb 4 (nI en)) p 61 then (61 : Int32) else 60) = cc := by
      rw [← n3]
      by_cases q : k_sign μ p 61
      · rw [if_pos q, if_pos ((hsg 61).mpr q)]
      · rw [if_neg q, if_neg (fun z => q ((hsg 61).mp z))]
    have hbt : b_test2 μ p kb = b_test3 (kt_si μ kb 4 (nI en)) p kb cc := by
      have : b_test2 μ p kb = b_test3 (kt_si μ kb 4 (if k_sign μ p 61 then 3 else 2)) p kb (if k_sign (kt_si μ kb 4 (if k_sign μ p 61 then 3 else 2)) p 61 then 61 else 60) := rfl
      rw [this, n2, hcc]
    have hsn : a_sgn (kt_si μ kb 4 (nI en)) p cc = (kt_f (a_ok (kt_si μ kb 4 (nI en)) p), a_mem (kt_si μ kb 4 (nI en)) p) := if_pos ((hsg cc).mpr n4)
    have hmo : ∀ y z, y ≠ p → kt_i (a_mem (kt_si μ kb 4 (nI en)) p) y z = kt_i (kt_si μ kb 4 (nI en)) y z := fun y z q => a_mem_out q
    have hf2 : FD m c ν ν2 := (FD.set (by omega)).trans b2.fd
    rcases b3 with ⟨g1, s2, t2, e2, g2⟩ | ⟨g1, g2⟩
    · have hb3 : b_test3 (kt_si μ kb 4 (nI en)) p kb cc = b_test4 (kt_si (a_mem (kt_si μ kb 4 (nI en)) p) kb 6 (if kt_i (a_mem (kt_si μ kb 4 (nI en)) p) p 4 = 1 then 1 else 0)) p kb := by
        unfold b_test3
        rw [hsn, kt_f_t g1]
        exact if_neg (show ¬ (1 : Int32) = 0 by decide)
      rw [hbt, hb3]
      generalize a_mem (kt_si μ kb 4 (nI en)) p = μ3 at g2 hmo
      obtain ⟨ν4, d1, d2, d3, d4, d5⟩ := pu_rhs (kb := kb) (c := c) hn hkb hc g2
      rw [d1]
      refine ⟨ν4, rfl, hf2.trans d2, ?_, fun y z q1 q2 => ?_⟩
      · rcases d4 with ⟨k1, rv, rt, t0, t1, s5, t5, e5, ⟨o1, o2, o3, o4, o5⟩, ⟨u1, u2, u3, u4⟩, ⟨w1, w2, w3, w4⟩, k5⟩ | ⟨k1, k2⟩
        · refine Or.inl ⟨k1, fun w w1 w2 => ?_, en, rv, rt, t0, t1, s5, t5, e5, ⟨n1, o1, o2, o3, o4, o5⟩, ⟨?_, u1, u2, u3, u4⟩, ⟨?_, w1, w2, w3, w4⟩, k5⟩
          · rw [d3 w w1 (by omega) (by omega) (by omega) (by omega), b2 _ _ (by omega), kt_i_sik (by omega)]
          · rw [d5 _ _ (by omega) (by omega), hmo _ _ (by omega), kt_i_sie]
          · rw [d3 13 (by decide) (by decide) (by decide) (by decide) (by decide), b2 _ _ (by omega), kt_i_sie]
        · exact Or.inr ⟨k1, k2⟩
      · rw [d5 y z q1 (by omega), hmo y z q1, kt_i_si, if_neg (by omega)]
    · have hb3 : b_test3 (kt_si μ kb 4 (nI en)) p kb cc = (0, a_mem (kt_si μ kb 4 (nI en)) p) := by
        unfold b_test3
        rw [hsn, kt_f_f g1]
        exact if_pos rfl
      rw [hbt, hb3, b_and_f rfl, if_neg g2.n0.1]
      dsimp only
      obtain ⟨ν4, d1, d2, d3⟩ := pu_J102X (n := n) hc g2
      exact ⟨ν4, d1, hf2.trans d2, Or.inr ⟨rfl, d3⟩, fun y z q1 q2 => by rw [hmo y z q1, kt_i_si, if_neg (by omega)]⟩
  · have q61 : ¬ k_sign μ p 61 := fun z => hok (Or.inl z)
    have q60 : ¬ k_sign μ p 60 := fun z => hok (Or.inr z)
    rw [kt_f_f q60, if_pos rfl, kq_b2_s e61, kt_f_f q61, if_pos rfl]
    unfold x_readTest_J44
    rw [kq_b2_s (pu_reqF h.2.1.2 h.2.2.1.2)]
    have hT2 : TK (kt_si μ kb 4 2) ν p m L s t e := h.ext (fun z => kt_i_sin (by omega)) (fun z => kt_i_sin (by omega)) (fun _ _ _ => rfl) (fun _ => rfl)
    have hsg : ∀ x, k_sign (kt_si μ kb 4 2) p x ↔ k_sign μ p x := fun x => k_sign_ext (fun z => kt_i_sin (by omega)) (fun z => kt_i_sin (by omega))
    have hF := hT2.fail 2 2 (by decide) rfl
    unfold x_readTest_J48
    rw [if_neg hF.n0.1, e13]
    have hbt : b_test2 μ p kb = (0, m_fail (kt_si μ kb 4 2) p 2) := by
      have : b_test2 μ p kb = b_test3 (kt_si μ kb 4 (if k_sign μ p 61 then 3 else 2)) p kb (if k_sign (kt_si μ kb 4 (if k_sign μ p 61 then 3 else 2)) p 61 then 61 else 60) := rfl
      rw [this, if_neg q61, if_neg (fun z => q61 ((hsg 61).mp z))]
      unfold b_test3
      rw [show a_sgn (kt_si μ kb 4 2) p 60 = (0, m_fail (kt_si μ kb 4 2) p 2) from if_neg (fun z => q60 ((hsg 60).mp z))]
      exact if_pos rfl
    rw [hbt, b_and_f rfl]
    dsimp only
    obtain ⟨ν4, d1, d2, d3⟩ := pu_J77X (n := n) (v := 3) hc hF
    exact ⟨ν4, d1, req_fr.fd.trans d2, Or.inr ⟨rfl, d3⟩, fun y z q1 q2 => by rw [m_fail_out q1, kt_i_si, if_neg (by omega)]⟩
noncomputable def c_if (μ : kt_M) (p kb : Nat) : Int32 × kt_M := b_and (q_test μ p kb) (fun μ => c_tgts μ p kb)
/-- a test is read -/
theorem pu_test {n m p L s t e kb c : Nat} {μ ν : kt_M} (hn : 300 ≤ n) (hkb : p + 2 ≤ kb) (hc : c + 20 ≤ 321) (h : TK μ ν p m L s t e) : ∃ ν1, x_readTest n m ν (nI c) = some ((), ν1) ∧ FD m c ν ν1 ∧ (((c_if μ p kb).1 = 1 ∧ (∀ w, w < 20 → (w < 13 ∨ w = 19) → kt_i ν1 (m + 2) (c + w) = kt_i ν (m + 2) (c + w)) ∧ ∃ en lf rv rt t0 t1 s t e, ((en = 2 ∨ en = 3) ∧ lf < 4 ∧ rv ≤ 1 ∧ (rv = 0 → rt ≤ 50) ∧ (rv = 1 → rt < 4) ∧ t0 < 8 ∧ t1 < 8) ∧ (kt_i (c_if μ p kb).2 kb 4 = nI en ∧ kt_i (c_if μ p kb).2 kb 5 = nI lf ∧ kt_i (c_if μ p kb).2 kb 6 = nI rv ∧ kt_i (c_if μ p kb).2 kb 7 = nI rt ∧ kt_i (c_if μ p kb).2 kb 8 = nI t0 ∧ kt_i (c_if μ p kb).2 kb 9 = nI t1) ∧ (kt_i ν1 (m + 2) (c + 13) = nI en ∧ kt_i ν1 (m + 2) (c + 14) = nI t0 ∧ kt_i ν1 (m + 2) (c + 15) = nI t1 ∧ kt_i ν1 (m + 2) (c + 16) = nI lf ∧ kt_i ν1 (m + 2) (c + 17) = nI rv ∧ kt_i ν1 (m + 2) (c + 18) = nI rt) ∧ TK (c_if μ p kb).2 ν1 p m L s t e) ∨ ((c_if μ p kb).1 = 0 ∧ FT (c_if μ p kb).2 ν1 p m)) ∧ (∀ y z, y ≠ p → ¬ (y = kb ∧ 4 ≤ z ∧ z ≤ 9) → kt_i (c_if μ p kb).2 y z = kt_i μ y z) := by
  obtain ⟨ν1, r, a1, a2, a3⟩ := pu_var hn h
  unfold x_readTest
  rw [kq_b2_s a1, show nI c + 16 = nI (c + 16) from nI_add c 16, kq_ck_t (pu_kin (by omega) (by decide)), nI_clamp (show c + 16 < 2 ^ 31 by omega)]
  simp only [kq_lt]
  have hq : q_test μ p kb = (if 0 ≤ (a_var μ p).1 then b_test2 (kt_si (a_var μ p).2 kb 5 (a_var μ p).1) p kb else (0, kt_si (a_var μ p).2 kb 5 (a_var μ p).1)) := kt_seal_eq _
  have ho : ∀ y z, y ≠ p → kt_i (a_var μ p).2 y z = kt_i μ y z := fun y z q => a_var_out q
  unfold c_if
  rw [hq]
  rcases a3 with ⟨v, hv, ev, er, s2, t2, e2, hT⟩ | ⟨ev, hF⟩
  · rw [ev, if_pos (nI_pos' (by omega))]
    have hT2 : TK (kt_si (a_var μ p).2 kb 5 (nI v)) (kt_si ν1 (m + 2) (c + 16) r) p m L s2 t2 e2 := (hT.set).ext (fun z => kt_i_sin (by omega)) (fun z => kt_i_sin (by omega)) (fun _ _ _ => rfl) (fun _ => rfl)
    obtain ⟨ν3, d1, d2, d3, d4⟩ := pu_sig (kb := kb) (c := c) hn hkb hc hT2
    refine ⟨ν3, d1, (a2.fd.trans (FD.set (by omega))).trans d2, ?_, fun y z q1 q2 => ?_⟩
    · rcases d3 with ⟨k1, k2, en, rv, rt, t0, t1, s5, t5, e5, ⟨o0, o1, o2, o3, o4, o5⟩, ⟨u0, u1, u2, u3, u4⟩, ⟨w0, w1, w2, w3, w4⟩, k5⟩ | ⟨k1, k2⟩
      · refine Or.inl ⟨k1, fun w w1 w2 => ?_, en, v, rv, rt, t0, t1, s5, t5, e5, ⟨o0, hv, o1, o2, o3, o4, o5⟩, ⟨u0, ?_, u1, u2, u3, u4⟩, ⟨w0, w1, w2, ?_, w3, w4⟩, k5⟩
        · rw [k2 w w1 (by omega), kt_i_sik (by omega), a2 _ _ (by omega)]
        · rw [d4 _ _ (by omega) (by omega), kt_i_sie]
        · rw [k2 16 (by decide) (by decide), kt_i_sie, er]
      · exact Or.inr ⟨k1, k2⟩
    · rw [d4 y z q1 (by omega), kt_i_si, if_neg (by omega), ho y z q1]
  · rw [ev, if_neg (show ¬ (0 : Int32) ≤ -1 by decide), b_and_f rfl]
    dsimp only
    have hF2 : FT (kt_si (a_var μ p).2 kb 5 (-1)) (kt_si ν1 (m + 2) (c + 16) r) p m := (FT.ext hF (kt_i_sin (by omega)) (kt_i_sin (by omega)) rfl rfl).set
    rw [if_neg hF2.n0.1]
    unfold x_readTest_J48
    rw [if_neg hF2.n0.1, show nI c + 13 = nI (c + 13) from nI_add c 13]
    obtain ⟨ν4, d1, d2, d3⟩ := pu_J77X (n := n) (v := 3) hc hF2
    exact ⟨ν4, d1, (a2.fd.trans (FD.set (by omega))).trans d2, Or.inr ⟨rfl, d3⟩, fun y z q1 q2 => by rw [kt_i_si, if_neg (by omega), ho y z q1]⟩

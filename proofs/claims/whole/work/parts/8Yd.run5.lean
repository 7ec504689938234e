theorem RN.val {μ ν : kt_M} {p m s c d v : Nat} (h : RN μ ν p m s c d) (hv : v < 4) : ∃ x, x ≤ 51 ∧ r_val μ p (nI v) = nI x ∧ kt_i ν (m + 12) v = nI x := by
  obtain ⟨x, hx, e1, e2⟩ := h.vle hv
  refine ⟨x, hx, ?_, e2⟩
  unfold r_val
  rw [if_pos ⟨nI_pos' (by omega), nI_lt hv (by decide)⟩, nI_clamp (by omega), e1]
/-- whether a test holds -/
theorem pu_rholds {n m p s c d pg b kb s0 : Nat} {μ ν : kt_M} {D : DB} (hD : WB D s0) (ht : 2 ≤ db_en D) (hpg : pg ≤ 3) (hb : b < 16) (h : RN μ ν p m s c d) (hC : CB μ kb D) (hM : MB ν m pg b D) : x_holds n m ν (nI pg) (nI b) = some (r_hd μ p kb, ν) := by
  obtain ⟨-, -, m3, -, -, m6, m7, m8, -⟩ := id hM
  obtain ⟨-, -, c3, -, c5, -, -⟩ := hC
  obtain ⟨-, w1, w2, w3, w4⟩ := hD.2.2.2.2.1 ht
  obtain ⟨-, c5a, c5b, c5c⟩ := c5 ht
  rw [if_pos ht] at m6 m7 m8
  have hen := hD.2.2.1
  obtain ⟨x, hx, e1, e2⟩ := h.val w1
  obtain ⟨y, hy, f1, f2⟩ : ∃ y, y ≤ 51 ∧ r_rhs μ p kb = nI y ∧ (if nI (db_rv D) = 1 then kq_b2 (x_of n m ν (nI pg) (nI b) 18) (fun r_35 μ_35 => kq_ck (kq_in r_35 4) (x_holds_J50 n m (nI pg) (nI b) (nI x) (kt_i μ_35 (m + 12) (Int32.toNatClampNeg r_35)) μ_35)) else kq_b2 (x_of n m ν (nI pg) (nI b) 18) (fun r_47 μ_47 => x_holds_J50 n m (nI pg) (nI b) (nI x) r_47 μ_47)) = x_holds_J50 n m (nI pg) (nI b) (nI x) (nI y) ν := by
    have hof : x_of n m ν (nI pg) (nI b) 18 = some (nI (db_rt D), ν) := hM.of hpg hb (w := 18) (by decide) m8
    unfold r_rhs
    rw [c5b, c5c, kq_b2_s hof, kq_b2_s hof]
    have : db_rv D = 0 ∨ db_rv D = 1 := by omega
    rcases this with q | q
    · have := w3 q
      exact ⟨db_rt D, by omega, by rw [q, if_pos (show nI 0 = 0 from rfl)], by rw [q, if_neg (show ¬ nI 0 = 1 by decide)]⟩
    · obtain ⟨y, hy, g1, g2⟩ := h.val (w4 q)
      have := w4 q
      exact ⟨y, hy, by rw [q, if_neg (show ¬ nI 1 = 0 by decide)]; exact g1, by rw [q, if_pos (show nI 1 = 1 from rfl), kq_ck_t (pu_kin (by omega) (by decide)), nI_clamp (by omega), g2]⟩
  unfold x_holds
  rw [kq_b2_s (show x_of n m ν (nI pg) (nI b) 16 = some (nI (db_lf D), ν) from hM.of hpg hb (w := 16) (by decide) m6), kq_ck_t (pu_kin w1 (by decide)), kq_b2_s (show x_of n m ν (nI pg) (nI b) 17 = some (nI (db_rv D), ν) from hM.of hpg hb (w := 17) (by decide) m7), nI_clamp (by omega), e2, f2]
  unfold r_hd
  rw [c5a, e1, f1, c3]
  unfold x_holds_J50 x_holds_J70
  by_cases q1 : nI x = 51
  · rw [if_pos q1, if_pos (show nI x = 51 ∨ nI y = 51 from Or.inl q1), if_pos (show (0 : Int32) = 0 from rfl)]
  · rw [if_neg q1]
    by_cases q2 : nI y = 51
    · rw [if_pos q2, if_pos (show nI x = 51 ∨ nI y = 51 from Or.inr q2), if_pos (show (0 : Int32) = 0 from rfl)]
    · rw [if_neg q2, if_neg (show ¬ (nI x = 51 ∨ nI y = 51) from fun z => z.elim q1 q2), if_neg (show ¬ (1 : Int32) = 0 by decide), kq_b2_s (hM.en hpg hb)]
      by_cases q3 : nI (db_en D) = 2
      · rw [if_pos q3, if_pos q3]
        by_cases q4 : nI y ≤ nI x
        · rw [if_pos q4, if_pos q4]
        · rw [if_neg q4, if_neg q4]
      · rw [if_neg q3, if_neg q3]
        by_cases q4 : nI x = nI y
        · rw [if_pos q4, if_pos q4]
        · rw [if_neg q4, if_neg q4]

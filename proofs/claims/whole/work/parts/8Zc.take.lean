theorem TK.adv {n m p L s t e : Nat} {μ ν : kt_M} (hn : 300 ≤ n) (h : TK μ ν p m L s t e) : ∃ ν1, x_reads n m ν = some ((), ν1) ∧ FR m ν ν1 ∧ ((a_ok μ p ∧ ∃ s t e, TK (a_mem μ p) ν1 p m L s t e) ∨ (¬ a_ok μ p ∧ FT (a_mem μ p) ν1 p m)) := pu_adv hn h.1 h.2.1.1 h.2.1.2 h.2.2.2.1.1 h.2.2.2.1.2 h.2.2.2.2.2.2.1
theorem pu_readsX {n m : Nat} {ν : kt_M} (h : ¬ kt_i ν m 11 ≤ 0) : x_reads n m ν = some ((), ν) := by unfold x_reads; rw [if_neg h]
theorem pu_varX {n m : Nat} {ν : kt_M} (h : ¬ kt_i ν m 11 = 0 ∧ ¬ kt_i ν m 11 ≤ 0) : x_readVariable n m ν = some (0, ν) := by
  unfold x_readVariable x_readVariable_J16 x_readVariable_J38
  rw [if_neg h.1, if_neg h.1, kq_b2_s (pu_readsX h.2)]
theorem pu_numX {n m : Nat} {ν : kt_M} {a : Int32} (h : ¬ kt_i ν m 11 = 0 ∧ ¬ kt_i ν m 11 ≤ 0) : x_readNumber n m ν a = some (0, ν) := by
  unfold x_readNumber x_readNumber_J25 x_readNumber_J50 x_readNumber_J65
  rw [if_neg h.1, if_neg h.1, if_neg h.1, kq_b2_s (pu_readsX h.2)]
theorem TK.dif {m p L s t e : Nat} {μ ν : kt_M} (h : TK μ ν p m L s t e) : kt_i μ p 6 - kt_i μ p 5 = nI (e - s) ∧ kt_i ν m 7 - kt_i ν m 8 = nI (e - s) := by
  obtain ⟨a, b, ⟨c1, c2⟩, ⟨d1, d2⟩, e', f1, -⟩ := h
  rw [c1, c2, d1, d2, nI_sub f1]; exact ⟨rfl, rfl⟩
theorem TK.le {m p L s t e : Nat} {μ ν : kt_M} (h : TK μ ν p m L s t e) : L ≤ 200 ∧ s ≤ e ∧ e ≤ L ∧ t ≤ 3 ∧ (1 ≤ t → s < e) := ⟨h.1.1, h.2.2.2.2.2.1, h.2.2.2.2.2.2.1, h.2.2.2.2.2.2.2.1, h.2.2.2.2.2.2.2.2.1⟩
theorem TK.tok {m p L s t e : Nat} {μ ν : kt_M} (h : TK μ ν p m L s t e) (k : Nat) (hk : k < 1000) : (kt_i μ p 4 = nI k ↔ t = k) ∧ (kt_i ν m 9 = nI k ↔ t = k) := by
  have := h.le
  rw [h.2.2.2.2.1.1, h.2.2.2.2.1.2, nI_eq (by omega) (by omega)]
  exact ⟨Iff.rfl, Iff.rfl⟩
theorem TK.byte {n m p L s t e j : Nat} {μ ν : kt_M} (h : TK μ ν p m L s t e) (hj : s + j < L) : ∃ c, c ≤ 127 ∧ k_by μ p (kt_i μ p 5 + nI j) = nI c ∧ x_byteAt n m ν (kt_i ν m 8 + nI j) = some (nI c, ν) := by
  obtain ⟨c, c1, c2, c3⟩ := h.1.2.2.2 (s + j) hj
  refine ⟨c, c1, ?_, ?_⟩
  · rw [h.2.2.1.1, nI_add, k_by_nI h.1.2.1 h.1.1 hj]; exact c2
  · rw [h.2.2.1.2, nI_add]; exact (pu_byte h.1 hj).trans (pu_pair c3 rfl)
theorem let_4 : ∀ c, c ≤ 127 → ((0 ≤ nI c - 97 ∧ nI c - 97 < 4) ↔ (97 ≤ c ∧ c ≤ 100)) := by decide +kernel
/-- whether a variable is at hand -/
theorem pu_isVN {n m p L s t e : Nat} {μ ν : kt_M} (h : TK μ ν p m L s t e) : ∃ r, x_isVariableNow n m ν = some (r, ν) ∧ ((r = 1 ∧ ∃ v, v < 4 ∧ a_let μ p = nI v ∧ x_byteAt n m ν (kt_i ν m 8) = some (nI (v + 97), ν)) ∨ (r = 0 ∧ ¬ (0 ≤ a_let μ p ∧ a_let μ p < 4))) := by
  obtain ⟨l1, l2, l3, l4, l5⟩ := h.le
  unfold x_isVariableNow a_let
  have hno : ¬ ((0 : Int32) ≤ -1 ∧ (-1 : Int32) < 4) := by decide
  by_cases q1 : t = 1
  · rw [if_pos (show kt_i ν m 9 = 1 from (h.tok 1 (by decide)).2.mpr q1), h.dif.2]
    by_cases q2 : e - s = 1
    · obtain ⟨c, c1, c2, c3⟩ := h.byte (n := n) (j := 0) (by omega)
      rw [show kt_i ν m 8 + nI 0 = kt_i ν m 8 from Int32.add_zero _] at c3
      rw [show kt_i μ p 5 + nI 0 = kt_i μ p 5 from Int32.add_zero _] at c2
      rw [if_pos (show nI (e - s) = 1 by rw [q2]; rfl), kq_b2_s c3, kq_b1_s (pu_inad c1), if_pos (show kt_i μ p 4 = 1 ∧ kt_i μ p 6 - kt_i μ p 5 = 1 from ⟨(h.tok 1 (by decide)).1.mpr q1, by rw [h.dif.1, q2]; rfl⟩), c2]
      by_cases q3 : 97 ≤ c ∧ c ≤ 100
      · rw [if_neg (kz.f.t q3)]
        exact ⟨1, rfl, Or.inl ⟨rfl, c - 97, by omega, nI_sub (b := 97) q3.1, by rw [c3]; congr 3; omega⟩⟩
      · rw [if_pos (kz.f.n q3)]
        exact ⟨0, rfl, Or.inr ⟨rfl, fun z => q3 ((let_4 c c1).mp z)⟩⟩
    · have hne : ¬ nI (e - s) = 1 := fun z => q2 ((nI_eq (b := 1) (by omega) (by decide)).mp z)
      rw [if_neg hne, if_neg (fun z => hne (h.dif.1.symm.trans z.2))]
      exact ⟨0, rfl, Or.inr ⟨rfl, hno⟩⟩
  · rw [if_neg (show ¬ kt_i ν m 9 = 1 from fun z => q1 ((h.tok 1 (by decide)).2.mp z)), if_neg (fun z => q1 ((h.tok 1 (by decide)).1.mp z.1))]
    exact ⟨0, rfl, Or.inr ⟨rfl, hno⟩⟩
theorem TK.fail {m p L s t e : Nat} {μ ν : kt_M} (h : TK μ ν p m L s t e) (fI : Int32) (f : Nat) (hf : 1 ≤ f ∧ f ≤ 6) (hI : fI = nI f) : FT (m_fail μ p fI) (kt_si (kt_si ν m 11 fI) m 12 (nI s)) p m := by
  subst hI
  exact FT.mk' hf h.2.2.1.1 req_11 kt_i_sie
/-- a variable is taken -/
theorem pu_var {n m p L s t e : Nat} {μ ν : kt_M} (hn : 300 ≤ n) (h : TK μ ν p m L s t e) : ∃ ν1 r, x_readVariable n m ν = some (r, ν1) ∧ FR m ν ν1 ∧ ((∃ v, v < 4 ∧ (a_var μ p).1 = nI v ∧ r = nI v ∧ ∃ s t e, TK (a_var μ p).2 ν1 p m L s t e) ∨ ((a_var μ p).1 = -1 ∧ FT (a_var μ p).2 ν1 p m)) := by
  obtain ⟨r, a1, a2⟩ := pu_isVN (n := n) h
  unfold x_readVariable
  rw [if_pos h.2.1.2, kq_b2_s a1]
  rcases a2 with ⟨rfl, v, hv, ev, eb⟩ | ⟨rfl, hno⟩
  · rw [kq_b2_s pu_reqT]
    unfold x_readVariable_J16 x_readVariable_J38
    rw [if_pos h.2.1.2, kq_b2_s eb, show nI (v + 97) - 97 = nI v from (nI_sub (a := v + 97) (b := 97) (by omega)).trans (by rw [Nat.add_sub_cancel])]
    obtain ⟨ν1, b1, b2, b3⟩ := h.adv hn
    rw [kq_b2_s b1]
    have hav : a_var μ p = (if a_ok μ p then nI v else -1, a_mem μ p) := by
      unfold a_var
      rw [if_neg (fun z => z (by rw [ev]; exact ⟨nI_pos' (by omega), nI_lt (b := 4) hv (by decide)⟩)), ev]
    rw [hav]
    rcases b3 with ⟨g1, g2⟩ | ⟨g1, g2⟩
    · exact ⟨ν1, nI v, rfl, b2, Or.inl ⟨v, hv, if_pos g1, rfl, g2⟩⟩
    · exact ⟨ν1, nI v, rfl, b2, Or.inr ⟨if_neg g1, g2⟩⟩
  · rw [kq_b2_s (pu_reqF h.2.1.2 h.2.2.1.2)]
    have hF := h.fail 2 2 (by decide) rfl
    have hav : a_var μ p = (-1, m_fail μ p 2) := if_pos hno
    rw [hav]
    unfold x_readVariable_J16 x_readVariable_J38
    rw [if_neg hF.n0.1, kq_b2_s (pu_readsX hF.n0.2)]
    exact ⟨_, 0, rfl, req_fr, Or.inr ⟨rfl, hF⟩⟩
/-- a number is taken -/
theorem pu_num {n m p L s t e top : Nat} {μ ν : kt_M} (hn : 300 ≤ n) (h : TK μ ν p m L s t e) (htop : top ≤ 50) : ∃ ν1 r, x_readNumber n m ν (nI top) = some (r, ν1) ∧ FR m ν ν1 ∧ ((∃ v, v ≤ top ∧ (a_num μ p (nI top)).1 = nI v ∧ r = nI v ∧ ∃ s t e, TK (a_num μ p (nI top)).2 ν1 p m L s t e) ∨ ((a_num μ p (nI top)).1 = -1 ∧ FT (a_num μ p (nI top)).2 ν1 p m)) := by
  obtain ⟨l1, l2, l3, l4, l5⟩ := h.le
  unfold x_readNumber
  rw [if_pos h.2.1.2]
  by_cases q1 : t = 2
  · obtain ⟨d, d1, d2, d3⟩ := h.2.2.2.2.2.2.2.2.2 q1
    have hval : a_val μ p = nI d := by
      unfold a_val
      rw [if_pos (show kt_i μ p 4 = 2 from (h.tok 2 (by decide)).1.mpr q1), h.2.2.1.1, h.2.2.2.1.1, nI_clamp (by omega), nI_clamp (by omega)]
      exact d2
    have hn0 : ¬ nI d < 0 := by rw [Int32.not_lt]; exact nI_pos' (by omega)
    rw [if_pos (show kt_i ν m 9 = 2 from (h.tok 2 (by decide)).2.mpr q1)]
    unfold x_readNumber_J21
    rw [kq_b2_s pu_reqT]
    unfold x_readNumber_J25
    rw [if_pos h.2.1.2, d3]
    by_cases q2 : d ≤ top
    · have hle : nI d ≤ nI top := (nI_leI (by omega) (by omega)).mpr q2
      rw [if_neg (fun z => by have := (nI_ltI (by omega) (by omega)).mp z; omega)]
      unfold x_readNumber_J46
      rw [kq_b2_s pu_reqT]
      unfold x_readNumber_J50 x_readNumber_J65
      rw [if_pos h.2.1.2, d3]
      obtain ⟨ν1, b1, b2, b3⟩ := h.adv hn
      rw [kq_b2_s b1]
      have han : a_num μ p (nI top) = (if a_ok μ p then nI d else -1, a_mem μ p) := by
        unfold a_num
        rw [hval, if_neg (fun z => z.elim hn0 (fun w => w hle))]
      rw [han]
      rcases b3 with ⟨g1, g2⟩ | ⟨g1, g2⟩
      · exact ⟨ν1, nI d, rfl, b2, Or.inl ⟨d, q2, if_pos g1, rfl, g2⟩⟩
      · exact ⟨ν1, nI d, rfl, b2, Or.inr ⟨if_neg g1, g2⟩⟩
    · have hle : ¬ nI d ≤ nI top := fun z => q2 ((nI_leI (by omega) (by omega)).mp z)
      rw [if_pos (nI_lt (by omega) (by omega))]
      unfold x_readNumber_J46
      rw [kq_b2_s (pu_reqF h.2.1.2 h.2.2.1.2)]
      have hF := h.fail 3 3 (by decide) rfl
      unfold x_readNumber_J50 x_readNumber_J65
      rw [if_neg hF.n0.1, kq_b2_s (pu_readsX hF.n0.2)]
      have han : a_num μ p (nI top) = (-1, m_fail μ p 3) := by
        unfold a_num
        rw [hval, if_pos (Or.inr hle), if_neg hn0]
      rw [han]
      exact ⟨_, 0, rfl, req_fr, Or.inr ⟨rfl, hF⟩⟩
  · have hval : a_val μ p = -1 := if_neg (fun z => q1 ((h.tok 2 (by decide)).1.mp z))
    rw [if_neg (show ¬ kt_i ν m 9 = 2 from fun z => q1 ((h.tok 2 (by decide)).2.mp z))]
    unfold x_readNumber_J21
    rw [kq_b2_s (pu_reqF h.2.1.2 h.2.2.1.2)]
    have hF := h.fail 2 2 (by decide) rfl
    unfold x_readNumber_J25 x_readNumber_J50 x_readNumber_J65
    rw [if_neg hF.n0.1, if_neg hF.n0.1, kq_b2_s (pu_readsX hF.n0.2)]
    have han : a_num μ p (nI top) = (-1, m_fail μ p 2) := by
      unfold a_num
      rw [hval, if_pos (Or.inl (by decide)), if_pos (by decide)]
    rw [han]
    exact ⟨_, 0, rfl, req_fr, Or.inr ⟨rfl, hF⟩⟩
theorem pu_isSign {n m p L s t e c : Nat} {μ ν : kt_M} (h : TK μ ν p m L s t e) : x_isSign n m ν (nI c) = some (kt_f (k_sign μ p (nI c)), ν) := by
  obtain ⟨l1, l2, l3, l4, l5⟩ := h.le
  unfold x_isSign
  by_cases q1 : t = 3
  · obtain ⟨x, c1, c2, c3⟩ := h.byte (n := n) (j := 0) (by omega)
    rw [show kt_i ν m 8 + nI 0 = kt_i ν m 8 from Int32.add_zero _] at c3
    rw [show kt_i μ p 5 + nI 0 = kt_i μ p 5 from Int32.add_zero _] at c2
    rw [if_pos (show kt_i ν m 9 = 3 from (h.tok 3 (by decide)).2.mpr q1), kq_b2_s c3]
    by_cases q2 : nI x = nI c
    · rw [if_pos q2, kt_f_t (show k_sign μ p (nI c) from ⟨(h.tok 3 (by decide)).1.mpr q1, c2.trans q2⟩)]
    · rw [if_neg q2, kt_f_f (show ¬ k_sign μ p (nI c) from fun z => q2 (c2.symm.trans z.2))]
  · rw [if_neg (show ¬ kt_i ν m 9 = 3 from fun z => q1 ((h.tok 3 (by decide)).2.mp z)), kt_f_f (show ¬ k_sign μ p (nI c) from fun z => q1 ((h.tok 3 (by decide)).1.mp z.1))]
/-- a sign is taken -/
theorem pu_sgn {n m p L s t e c : Nat} {μ ν : kt_M} (hn : 300 ≤ n) (h : TK μ ν p m L s t e) : ∃ ν0 ν1, x_requires n m ν (kt_f (k_sign μ p (nI c))) 2 = some ((), ν0) ∧ x_reads n m ν0 = some ((), ν1) ∧ FR m ν ν1 ∧ (((a_sgn μ p (nI c)).1 = 1 ∧ ∃ s t e, TK (a_sgn μ p (nI c)).2 ν1 p m L s t e) ∨ ((a_sgn μ p (nI c)).1 = 0 ∧ FT (a_sgn μ p (nI c)).2 ν1 p m)) := by
  by_cases q : k_sign μ p (nI c)
  · rw [kt_f_t q]
    obtain ⟨ν1, b1, b2, b3⟩ := h.adv hn
    have hav : a_sgn μ p (nI c) = (kt_f (a_ok μ p), a_mem μ p) := if_pos q
    rw [hav]
    rcases b3 with ⟨g1, g2⟩ | ⟨g1, g2⟩
    · exact ⟨ν, ν1, pu_reqT, b1, b2, Or.inl ⟨kt_f_t g1, g2⟩⟩
    · exact ⟨ν, ν1, pu_reqT, b1, b2, Or.inr ⟨kt_f_f g1, g2⟩⟩
  · rw [kt_f_f q]
    have hF := h.fail 2 2 (by decide) rfl
    have hav : a_sgn μ p (nI c) = (0, m_fail μ p 2) := if_neg q
    rw [hav]
    exact ⟨_, _, pu_reqF h.2.1.2 h.2.2.1.2, pu_readsX hF.n0.2, req_fr, Or.inr ⟨rfl, hF⟩⟩

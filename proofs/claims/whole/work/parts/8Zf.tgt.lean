/-! PURE: where a block leads is read -/
theorem q_tgt_eq {μ : kt_M} {p k : Nat} {s : Int32} : q_tgt μ p k s = b_tgt μ p k s := kt_seal_eq _
theorem pu_tgt {n m p L s t e kb x : Nat} {μ ν : kt_M} (hn : 300 ≤ n) (hkb : p + 2 ≤ kb) (hx : x < 2) (h : TK μ ν p m L s t e) : ∃ ν1 r, x_readNumber n m ν 7 = some (r, ν1) ∧ FR m ν ν1 ∧ ((∃ v s t e, v < 8 ∧ r = nI v ∧ (q_tgt μ p kb (nI x)).1 = 1 ∧ kt_i (q_tgt μ p kb (nI x)).2 kb (8 + x) = nI v ∧ TK (q_tgt μ p kb (nI x)).2 ν1 p m L s t e) ∨ ((q_tgt μ p kb (nI x)).1 = 0 ∧ FT (q_tgt μ p kb (nI x)).2 ν1 p m)) ∧ (∀ y z, y ≠ p → ¬ (y = kb ∧ z = 8 + x) → kt_i (q_tgt μ p kb (nI x)).2 y z = kt_i μ y z) := by
  obtain ⟨ν1, r, a1, a2, a3⟩ := pu_num (top := 7) hn h (by decide)
  have hout : ∀ y z, y ≠ p → kt_i (a_num μ p 7).2 y z = kt_i μ y z := fun y z q => a_num_out q
  have hq : q_tgt μ p kb (nI x) = (kt_f (¬ (a_num μ p 7).1 < 0), kt_si (a_num μ p 7).2 kb (8 + x) (a_num μ p 7).1) := by
    rw [q_tgt_eq]; unfold b_tgt; rw [pu_89 hx]
  rw [hq]
  refine ⟨ν1, r, a1, a2, ?_, fun y z q1 q2 => ?_⟩
  · rcases a3 with ⟨v, v1, v2, v3, s2, t2, e2, v4⟩ | ⟨v1, v2⟩
    · have v2 : (a_num μ p 7).1 = nI v := v2
      refine Or.inl ⟨v, s2, t2, e2, by omega, v3, kt_f_t ?_, ?_, ?_⟩
      · rw [v2, Int32.not_lt]; exact nI_pos' (by omega)
      · show kt_i (kt_si _ kb (8 + x) _) kb (8 + x) = _
        rw [kt_i_sie]; exact v2
      · exact v4.ext (fun z => kt_i_sin (by omega)) (fun z => kt_i_sin (by omega)) (fun _ _ _ => rfl) (fun _ => rfl)
    · have v1 : (a_num μ p 7).1 = -1 := v1
      refine Or.inr ⟨kt_f_f ?_, ?_⟩
      · rw [v1]; decide
      · exact FT.ext v2 (kt_i_sin (by omega)) (kt_i_sin (by omega)) rfl rfl
  · show kt_i (kt_si (a_num μ p 7).2 kb (8 + x) _) y z = _
    rw [kt_i_si, if_neg q2, hout y z q1]
noncomputable def c_tgts (μ : kt_M) (p kb : Nat) : Int32 × kt_M := b_and (q_tgt μ p kb 0) (fun μ => q_tgt μ p kb 1)
/-- both targets of a test, and the right side's cell ahead of them -/
theorem pu_J141 {n m p L s t e kb c : Nat} {μ ν : kt_M} {r : Int32} (hn : 300 ≤ n) (hkb : p + 2 ≤ kb) (hc : c + 20 ≤ 321) (h : TK μ ν p m L s t e) : ∃ ν1, x_readTest_J141 n m (nI c) (nI (c + 18)) r ν = some ((), ν1) ∧ FD m c ν ν1 ∧ (∀ w, w < 20 → w ≠ 14 → w ≠ 15 → w ≠ 18 → kt_i ν1 (m + 2) (c + w) = kt_i ν (m + 2) (c + w)) ∧ kt_i ν1 (m + 2) (c + 18) = r ∧ (((c_tgts μ p kb).1 = 1 ∧ ∃ t0 t1 s t e, t0 < 8 ∧ t1 < 8 ∧ kt_i (c_tgts μ p kb).2 kb 8 = nI t0 ∧ kt_i (c_tgts μ p kb).2 kb 9 = nI t1 ∧ kt_i ν1 (m + 2) (c + 14) = nI t0 ∧ kt_i ν1 (m + 2) (c + 15) = nI t1 ∧ TK (c_tgts μ p kb).2 ν1 p m L s t e) ∨ ((c_tgts μ p kb).1 = 0 ∧ FT (c_tgts μ p kb).2 ν1 p m)) ∧ (∀ y z, y ≠ p → ¬ (y = kb ∧ (z = 8 ∨ z = 9)) → kt_i (c_tgts μ p kb).2 y z = kt_i μ y z) := by
  unfold x_readTest_J141
  rw [kq_ck_t (pu_kin (by omega) (by decide)), nI_clamp (show c + 18 < 2 ^ 31 by omega)]
  simp only [kq_lt]
  have e14 : nI c + 14 = nI (c + 14) := nI_add c 14
  have e15 : nI c + 14 + 1 = nI (c + 15) := by rw [e14, nI_1]
  obtain ⟨ν1, r1, a1, a2, a3, a4⟩ := pu_tgt (kb := kb) (x := 0) hn hkb (by decide) (h.set (k := c + 18) (v := r))
  rw [kq_b2_s a1, e15, e14, kq_ck_t (pu_kin (by omega) (by decide)), nI_clamp (show c + 14 < 2 ^ 31 by omega)]
  have a3 : (∃ v s t e, v < 8 ∧ r1 = nI v ∧ (q_tgt μ p kb 0).1 = 1 ∧ kt_i (q_tgt μ p kb 0).2 kb 8 = nI v ∧ TK (q_tgt μ p kb 0).2 ν1 p m L s t e) ∨ ((q_tgt μ p kb 0).1 = 0 ∧ FT (q_tgt μ p kb 0).2 ν1 p m) := a3
  have a4 : ∀ y z, y ≠ p → ¬ (y = kb ∧ z = 8) → kt_i (q_tgt μ p kb 0).2 y z = kt_i μ y z := a4
  rcases a3 with ⟨t0, s1, t1, e1, g1, g2, g3, g4, g5⟩ | ⟨g1, g2⟩
  · obtain ⟨ν2, r2, b1, b2, b3, b4⟩ := pu_tgt (kb := kb) (x := 1) hn hkb (by decide) (g5.set (k := c + 14) (v := r1))
    have b3 : (∃ v s t e, v < 8 ∧ r2 = nI v ∧ (q_tgt (q_tgt μ p kb 0).2 p kb 1).1 = 1 ∧ kt_i (q_tgt (q_tgt μ p kb 0).2 p kb 1).2 kb 9 = nI v ∧ TK (q_tgt (q_tgt μ p kb 0).2 p kb 1).2 ν2 p m L s t e) ∨ ((q_tgt (q_tgt μ p kb 0).2 p kb 1).1 = 0 ∧ FT (q_tgt (q_tgt μ p kb 0).2 p kb 1).2 ν2 p m) := b3
    have b4 : ∀ y z, y ≠ p → ¬ (y = kb ∧ z = 9) → kt_i (q_tgt (q_tgt μ p kb 0).2 p kb 1).2 y z = kt_i (q_tgt μ p kb 0).2 y z := b4
    have hcl : c_tgts μ p kb = (kt_f (¬ (q_tgt (q_tgt μ p kb 0).2 p kb 1).1 = 0), (q_tgt (q_tgt μ p kb 0).2 p kb 1).2) := b_and_t (by rw [g3]; decide)
    rw [hcl, kq_b2_s b1, kq_ck_t (pu_kin (by omega) (by decide)), nI_clamp (show c + 15 < 2 ^ 31 by omega)]
    dsimp only
    have hν : ∀ z, z ≠ c + 14 → z ≠ c + 15 → z ≠ c + 18 → kt_i (kt_si ν2 (m + 2) (c + 15) r2) (m + 2) z = kt_i ν (m + 2) z := fun z q1 q2 q3 => by
      rw [kt_i_sik q2, b2 _ _ (by omega), kt_i_sik q1, a2 _ _ (by omega), kt_i_sik q3]
    refine ⟨_, rfl, ((((FD.set (by omega)).trans a2.fd).trans (FD.set (by omega))).trans b2.fd).trans (FD.set (by omega)), fun w w1 w2 w3 w4 => hν _ (by omega) (by omega) (by omega), ?_, ?_, fun y z q1 q2 => ?_⟩
    · rw [kt_i_sik (by omega), b2 _ _ (by omega), kt_i_sik (by omega), a2 _ _ (by omega), kt_i_sie]
    · rcases b3 with ⟨t1', s2, t2, e2, k1, k2, k3, k4, k5⟩ | ⟨k1, k2⟩
      · refine Or.inl ⟨kt_f_t (by rw [k3]; decide), t0, t1', s2, t2, e2, g1, k1, ?_, k4, ?_, ?_, k5.set⟩
        · rw [b4 _ _ (by omega) (by omega)]; exact g4
        · rw [kt_i_sik (by omega), b2 _ _ (by omega), kt_i_sie, g2]
        · rw [kt_i_sie, k2]
      · exact Or.inr ⟨kt_f_f (fun z => z k1), k2.set⟩
    · rw [b4 y z q1 (by omega), a4 y z q1 (by omega)]
  · have hF := g2.set (k := c + 14) (v := r1)
    have hcl : c_tgts μ p kb = (0, (q_tgt μ p kb 0).2) := b_and_f g1
    rw [hcl, kq_b2_s (pu_numX hF.n0), kq_ck_t (pu_kin (by omega) (by decide)), nI_clamp (show c + 15 < 2 ^ 31 by omega)]
    dsimp only
    refine ⟨_, rfl, (((FD.set (by omega)).trans a2.fd).trans (FD.set (by omega))).trans (FD.set (by omega)), fun w w1 w2 w3 w4 => ?_, ?_, Or.inr ⟨rfl, hF.set⟩, fun y z q1 q2 => a4 y z q1 (by omega)⟩
    · rw [kt_i_sik (by omega), kt_i_sik (by omega), a2 _ _ (by omega), kt_i_sik (by omega)]
    · rw [kt_i_sik (by omega), kt_i_sik (by omega), a2 _ _ (by omega), kt_i_sie]
theorem pu_J141X {n m p c : Nat} {μ ν : kt_M} {r : Int32} (hc : c + 20 ≤ 321) (h : FT μ ν p m) : ∃ ν1, x_readTest_J141 n m (nI c) (nI (c + 18)) r ν = some ((), ν1) ∧ FD m c ν ν1 ∧ FT μ ν1 p m := by
  unfold x_readTest_J141
  rw [kq_ck_t (pu_kin (by omega) (by decide)), nI_clamp (show c + 18 < 2 ^ 31 by omega)]
  simp only [kq_lt]
  have e14 : nI c + 14 = nI (c + 14) := nI_add c 14
  have e15 : nI c + 14 + 1 = nI (c + 15) := by rw [e14, nI_1]
  have h1 := h.set (k := c + 18) (v := r)
  have h2 := h1.set (k := c + 14) (v := 0)
  rw [kq_b2_s (pu_numX h1.n0), e15, e14, kq_ck_t (pu_kin (by omega) (by decide)), nI_clamp (show c + 14 < 2 ^ 31 by omega), kq_b2_s (pu_numX h2.n0), kq_ck_t (pu_kin (by omega) (by decide)), nI_clamp (show c + 15 < 2 ^ 31 by omega)]
  exact ⟨_, rfl, ((FD.set (by omega)).trans (FD.set (by omega))).trans (FD.set (by omega)), h2.set⟩

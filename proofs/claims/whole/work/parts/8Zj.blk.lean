/-! PURE: a block is read -/
/-- what reading a block leaves -/
def FG (m c : Nat) (ν ν' : kt_M) : Prop := ∀ y z, ¬ (y = m ∧ 7 ≤ z ∧ z ≤ 12) → ¬ (y = m + 2 ∧ (z = 0 ∨ (c ≤ z ∧ z < c + 20))) → kt_i ν' y z = kt_i ν y z
theorem FD.fg {m c : Nat} {ν ν' : kt_M} (h : FD m c ν ν') : FG m c ν ν' := fun y z q q2 => h y z q (by omega)
theorem FG.trans {m c : Nat} {ν ν' ν'' : kt_M} (h : FG m c ν ν') (h2 : FG m c ν' ν'') : FG m c ν ν'' := fun y z q q2 => (h2 y z q q2).trans (h y z q q2)
/-- the outcome of a block's reading: the class's answer R, the model's memory ν1 -/
def BR (m p L kb c b : Nat) (R : Int32 × kt_M) (ν ν1 : kt_M) : Prop := (R.1 = 1 ∧ FG m c ν ν1 ∧ kt_i ν1 (m + 2) 0 = kt_i ν (m + 2) 0 + 1 ∧ BX R.2 ν1 kb (m + 2) c b ∧ ∃ s t e, TK R.2 ν1 p m L s t e) ∨ (R.1 = 0 ∧ FE m ν ν1 ∧ FT R.2 ν1 p m)
theorem pu_blast {n m p L s t e kb c b na : Nat} {μ ν : kt_M} {f : Nat → Nat × Nat × Nat} (hn : 300 ≤ n) (hkb : p + 2 ≤ kb) (hb : b < 8) (hc0 : 1 ≤ c) (hc : c + 20 ≤ 321) (hna : na ≤ 4) (h : TK μ ν p m L s t e) (hA : AC μ ν kb (m + 2) c na f) (h6 : kt_i μ kb 6 = 0) (h10 : kt_i μ kb 10 = 0) (hm : ∀ w, 14 ≤ w → w < 19 → kt_i ν (m + 2) (c + w) = -4) (hm9 : kt_i ν (m + 2) (c + 19) = nI b) (hw : k_nme μ p = if k_word μ p 6 then 6 else if k_word μ p 7 then 7 else if k_word μ p 8 then 8 else -4) : ∃ ν1, x_readBlock_J172 n m (nI c) (k_nme μ p) ν = some ((), ν1) ∧ BR m p L kb c b (b_last μ p kb) ν ν1 := by
  have hqe : q_end μ p kb = b_end μ p kb := kt_seal_eq _
  rcases pu_bend hn hkb hb hc hna h hA h6 h10 hm hm9 hw with ⟨r1, ν1, s1, t1, e1, a1, a2, a3, a4⟩ | ⟨r1, ν1, a1, a2, a3⟩
  · have hbl : b_last μ p kb = (kt_f (¬ (a_sgn (b_end μ p kb).2 p 59).1 = 0), (a_sgn (b_end μ p kb).2 p 59).2) := by
      unfold b_last
      rw [hqe, b_and_t (by rw [r1]; decide), q_sgn_eq]
    rw [hbl, a1]
    have ho : ∀ y z, y ≠ p → kt_i (a_sgn (b_end μ p kb).2 p 59).2 y z = kt_i (b_end μ p kb).2 y z := fun y z q => a_sgn_out q
    obtain ⟨ν2, ν3, g1, g2, g3, g4⟩ := pu_sgn (c := 59) hn a3
    unfold x_readBlock_J267 x_readBlock_J285
    rw [if_pos a3.2.1.2, kq_b2_s (show x_isSign n m ν1 59 = some (kt_f (k_sign (b_end μ p kb).2 p (nI 59)), ν1) from pu_isSign (c := 59) a3), kq_b2_s g1, kq_b2_s g2]
    simp only [kq_lt]
    rw [show Int32.toNatClampNeg 0 = 0 from rfl]
    refine ⟨_, rfl, ?_⟩
    rcases g4 with ⟨k1, s4, t4, e4, k2⟩ | ⟨k1, k2⟩
    · have k1 : (a_sgn (b_end μ p kb).2 p 59).1 = 1 := k1
      refine Or.inl ⟨kt_f_t (by rw [k1]; decide), fun y z q1 q2 => ?_, ?_, ?_, s4, t4, e4, k2.set⟩
      · rw [kt_i_si, if_neg (by omega), g3 y z q1, a2 y z q1 (by omega)]
      · rw [kt_i_sie, g3 _ _ (by omega), a2 _ _ (by omega) (by omega)]
      · exact a4.ext (fun y z q1 q2 => ho y z (by omega)) (fun w w1 => by rw [kt_i_sik (by omega), g3 _ _ (by omega)])
    · have k1 : (a_sgn (b_end μ p kb).2 p 59).1 = 0 := k1
      exact Or.inr ⟨kt_f_f (fun z => z k1), (a2.fe.trans (g3.fd (c := c)).fe).trans FE.set, k2.set⟩
  · have hbl : b_last μ p kb = (0, (b_end μ p kb).2) := by
      unfold b_last
      rw [hqe, b_and_f r1]
    rw [hbl]
    exact ⟨ν1, a1, Or.inr ⟨rfl, a2, a3⟩⟩
theorem act_cases (μ : kt_M) (p : Nat) : (∃ j, j < 6 ∧ k_act μ p = nI j ∧ k_nme μ p = nI j) ∨ (k_act μ p = -1 ∧ k_nme μ p = if k_word μ p 6 then 6 else if k_word μ p 7 then 7 else if k_word μ p 8 then 8 else -4) := by
  unfold k_act k_nme
  by_cases w0 : k_word μ p 0
  · exact Or.inl ⟨0, by decide, if_pos w0, if_pos w0⟩
  rw [if_neg w0, if_neg w0]
  by_cases w1 : k_word μ p 1
  · exact Or.inl ⟨1, by decide, if_pos w1, if_pos w1⟩
  rw [if_neg w1, if_neg w1]
  by_cases w2 : k_word μ p 2
  · exact Or.inl ⟨2, by decide, if_pos w2, if_pos w2⟩
  rw [if_neg w2, if_neg w2]
  by_cases w3 : k_word μ p 3
  · exact Or.inl ⟨3, by decide, if_pos w3, if_pos w3⟩
  rw [if_neg w3, if_neg w3]
  by_cases w4 : k_word μ p 4
  · exact Or.inl ⟨4, by decide, if_pos w4, if_pos w4⟩
  rw [if_neg w4, if_neg w4]
  by_cases w5 : k_word μ p 5
  · exact Or.inl ⟨5, by decide, if_pos w5, if_pos w5⟩
  rw [if_neg w5, if_neg w5]
  exact Or.inr ⟨rfl, rfl⟩
theorem q_act_eq {μ : kt_M} {p : Nat} : q_act μ p = k_act μ p := kt_seal_eq _
theorem q_bact_eq {μ : kt_M} {p k : Nat} {a : Int32} : q_bact μ p k a = b_act μ p k a := kt_seal_eq _
theorem pu_B97X {n m p : Nat} {μ ν : kt_M} {K97 : Int32 → Int32 → kt_M → Option (Unit × kt_M)} {l2 l3 : Int32} (h : FT μ ν p m) : x_readBlock_B97 n m K97 l2 l3 ν = some ((), ν) := by
  unfold x_readBlock_B97
  rw [if_neg h.n0.1]
  unfold x_readBlock_J172
  rw [if_neg h.n0.1]
  unfold x_readBlock_J195
  rw [kq_b2_s (pu_readsX h.n0.2), if_neg h.n0.2]
/-- acts, then the end -/
theorem pu_blkL {n m p L kb c b : Nat} (hn : 300 ≤ n) (hkb : p + 2 ≤ kb) (hb : b < 8) (hc0 : 1 ≤ c) (hc : c + 20 ≤ 321) : ∀ (fu k : Nat) (μ ν : kt_M) (s t e : Nat) (f : Nat → Nat × Nat × Nat), k ≤ 4 → k + 1 < fu → TK μ ν p m L s t e → AC μ ν kb (m + 2) c (4 - k) f → kt_i μ kb 6 = 0 → kt_i μ kb 10 = 0 → (∀ w, 14 ≤ w → w < 19 → kt_i ν (m + 2) (c + w) = -4) → kt_i ν (m + 2) (c + 19) = nI b → ∃ ν1, x_readBlock_L97 n m fu (nI c) (k_nme μ p) ν = some ((), ν1) ∧ BR m p L kb c b (b_blkL p kb k μ) ν ν1
  | 0, k, μ, ν, s, t, e, f, h1, h2, h, hA, h6, h10, hm, hm9 => by omega
  | fu + 1, k, μ, ν, s, t, e, f, h1, h2, h, hA, h6, h10, hm, hm9 => by
    rw [x_readBlock_L97]
    rcases act_cases μ p with ⟨j, hj, ej, en⟩ | ⟨ej, en⟩
    · have hnn : ¬ nI j = -4 := pu_ne4 (by omega)
      have hn5 : ¬ 5 < nI j := fun z => by have := (nI_ltI (a := 5) (by decide) (by omega)).mp z; omega
      have hpos : (0 : Int32) ≤ nI j := nI_pos' (by omega)
      unfold x_readBlock_B97
      rw [if_pos h.2.1.2, en, if_neg hnn, if_neg hn5, kq_ck_t (pu_kin (by omega) (by decide)), nI_clamp (show c < 2 ^ 31 by omega), hA.2.1]
      by_cases e4 : k = 0
      · subst e4
        rw [if_pos (show (4 : Int32) ≤ nI (4 - 0) by decide)]
        unfold x_readBlock_J131
        rw [kq_b2_s (pu_reqF h.2.1.2 h.2.2.1.2)]
        have hF := h.fail 5 5 (by decide) rfl
        rw [kq_b2_s (pu_readsX hF.n0.2), if_neg hF.n0.1]
        unfold x_readBlock_J152
        rw [if_neg hF.n0.1]
        obtain ⟨fu', rfl⟩ : ∃ fu', fu = fu' + 1 := ⟨fu - 1, by omega⟩
        rw [x_readBlock_L97, pu_B97X hF]
        have hbl : b_blkL p kb 0 μ = (0, m_fail μ p 5) := by
          unfold b_blkL
          rw [q_act_eq, ej, if_neg (by rw [Int32.not_lt]; exact hpos)]
        rw [hbl]
        exact ⟨_, rfl, Or.inr ⟨rfl, (req_fr.fd (c := c)).fe, hF⟩⟩
      · obtain ⟨k', rfl⟩ : ∃ k', k = k' + 1 := ⟨k - 1, by omega⟩
        rw [if_neg (show ¬ (4 : Int32) ≤ nI (4 - (k' + 1)) from fun z => by have := (nI_leI (a := 4) (by decide) (by omega)).mp z; omega)]
        unfold x_readBlock_J131
        rw [kq_b2_s pu_reqT]
        obtain ⟨ν2, a1, a2, a3, a4⟩ := pu_bact (ki := j) hn hc (show 4 - (k' + 1) < 4 by omega) hkb (by omega) h hA (fun w => x_readBlock_J152 n m (x_readBlock_L97 n m fu) (nI c) w)
        rw [a1]
        have hz6 : kt_i (b_act μ p kb (nI j)).2 kb 6 = 0 := by rw [b_act_z hkb (by decide)]; exact h6
        have hz10 : kt_i (b_act μ p kb (nI j)).2 kb 10 = 0 := by rw [b_act_z hkb (by decide)]; exact h10
        have hbl : b_blkL p kb (k' + 1) μ = if (b_act μ p kb (nI j)).1 = 0 then (0, (b_act μ p kb (nI j)).2) else b_blkL p kb k' (b_act μ p kb (nI j)).2 := by
          rw [b_blkL, q_act_eq, ej, if_pos hpos, q_bact_eq]
        rw [hbl]
        unfold x_readBlock_J152
        generalize b_act μ p kb (nI j) = B at a3 hz6 hz10
        rcases a3 with ⟨s5, t5, e5, f5, k1, k2, k3⟩ | ⟨k1, k2⟩
        · rw [if_pos k2.2.1.2, kq_b2_s (pu_name k2), if_neg (show ¬ B.1 = 0 by rw [k1]; decide)]
          rw [show 4 - (k' + 1) + 1 = 4 - k' by omega] at k3
          obtain ⟨ν3, g1, g2⟩ := pu_blkL (n := n) (m := m) (L := L) hn hkb hb hc0 hc fu k' B.2 ν2 s5 t5 e5 f5 (by omega) (by omega) k2 k3 hz6 hz10 (fun w w1 w2 => by rw [a4.2 w (by omega) (by omega)]; exact hm w w1 w2) (by rw [a4.2 19 (by decide) (by decide)]; exact hm9)
          refine ⟨ν3, g1, ?_⟩
          rcases g2 with ⟨o1, o2, o3, o4, o5⟩ | ⟨o1, o2, o3⟩
          · exact Or.inl ⟨o1, a2.fg.trans o2, by rw [o3, a2 _ _ (by omega) (by omega)], o4, o5⟩
          · exact Or.inr ⟨o1, a2.fe.trans o2, o3⟩
        · rw [if_neg k2.n0.1, if_pos k1]
          obtain ⟨fu', rfl⟩ : ∃ fu', fu = fu' + 1 := ⟨fu - 1, by omega⟩
          rw [x_readBlock_L97, pu_B97X k2]
          exact ⟨ν2, rfl, Or.inr ⟨rfl, a2.fe, k2⟩⟩
    · obtain ⟨ν1, a1, a2⟩ := pu_blast (c := c) hn hkb hb hc0 hc (show 4 - k ≤ 4 by omega) h hA h6 h10 hm hm9 en
      have hB : x_readBlock_B97 n m (x_readBlock_L97 n m fu) (nI c) (k_nme μ p) ν = x_readBlock_J172 n m (nI c) (k_nme μ p) ν := by
        unfold x_readBlock_B97
        rw [if_pos h.2.1.2]
        by_cases q : k_nme μ p = -4
        · rw [if_pos q]
        · rw [if_neg q, if_pos]
          rw [en] at q ⊢
          by_cases w6 : k_word μ p 6
          · rw [if_pos w6]; decide
          rw [if_neg w6] at q ⊢
          by_cases w7 : k_word μ p 7
          · rw [if_pos w7]; decide
          rw [if_neg w7] at q ⊢
          by_cases w8 : k_word μ p 8
          · rw [if_pos w8]; decide
          · rw [if_neg w8] at q; exact absurd rfl q
      rw [hB]
      refine ⟨ν1, a1, ?_⟩
      have hbl : b_blkL p kb k μ = b_last μ p kb := by
        cases k with
        | zero => rw [b_blkL, q_act_eq, ej, if_pos (by decide)]
        | succ k => rw [b_blkL, q_act_eq, ej, if_neg (by decide)]
      rw [hbl]
      exact a2
/-- a block at the place i -/
theorem pu_rblk {n m p L s t e q i : Nat} {μ ν : kt_M} (hn : 300 ≤ n) (hi : i < 8) (hq : p + 2 ≤ q) (h : TK μ ν p m L s t e) (h0 : kt_i ν (m + 2) 0 = nI i) : ∃ ν1, x_readBlock n m ν = some ((), ν1) ∧ BR m p L (q + 7 + 4 * i) (1 + 20 * i) i (q_blk (p_grw μ q i) p (q + 7 + 4 * i)) ν ν1 := by
  have hqb : q_blk (p_grw μ q i) p (q + 7 + 4 * i) = b_blkL p (q + 7 + 4 * i) 4 (p_grw μ q i) := kt_seal_eq _
  rw [hqb]
  have hgo : ∀ y z, y ≠ q → y ≠ q + 7 + 4 * i → kt_i (p_grw μ q i) y z = kt_i μ y z := fun y z q1 q2 => p_grw_out ⟨q1, q2⟩
  have hg0 : kt_i (p_grw μ q i) (q + 7 + 4 * i) 0 = 0 := by unfold p_grw; rw [kt_i_sin (by omega), m_wipe_0]
  have hg6 : kt_i (p_grw μ q i) (q + 7 + 4 * i) 6 = 0 := by unfold p_grw; rw [kt_i_sin (by omega), m_wipe_6]
  have hg10 : kt_i (p_grw μ q i) (q + 7 + 4 * i) 10 = 0 := by unfold p_grw m_wipe; rw [kt_i_sin (by omega), kt_i_sie]
  have hT : TK (p_grw μ q i) ν p m L s t e := h.ext (fun z => hgo _ z (by omega) (by omega)) (fun z => hgo _ z (by omega) (by omega)) (fun _ _ _ => rfl) (fun _ => rfl)
  generalize p_grw μ q i = μg at hg0 hg6 hg10 hT
  have hc8 : ¬ (8 : Int32) ≤ nI i := fun z => by have := (nI_leI (a := 8) (by decide) (by omega)).mp z; omega
  unfold x_readBlock
  rw [show Int32.toNatClampNeg 0 = 0 from rfl, h0]
  by_cases q1 : t = 1
  · rw [if_pos (show kt_i ν m 9 = 1 from (h.tok 1 (by decide)).2.mpr q1)]
    unfold x_readBlock_J21
    rw [kq_b2_s pu_reqT, if_neg hc8]
    unfold x_readBlock_J37
    rw [kq_b2_s pu_reqT, if_neg hc8]
    unfold x_readBlock_J55
    rw [if_pos (show kt_i ν m 11 ≤ 0 by rw [h.2.1.2]; decide), show (1 : Int32) + 20 * nI i = nI (1 + 20 * i) by rw [show (20 : Int32) = nI 20 from rfl, show (1 : Int32) = nI 1 from rfl, nI_mul, nI_add], kq_ck_t (pu_kin (by omega) (by decide)), nI_clamp (show 1 + 20 * i < 2 ^ 31 by omega), show nI (1 + 20 * i) + 19 = nI (1 + 20 * i + 19) from nI_add _ 19]
    simp only [kq_lt]
    rw [kq_ck_t (pu_kin (by omega) (by decide)), nI_clamp (show 1 + 20 * i + 19 < 2 ^ 31 by omega)]
    obtain ⟨ν2, b1, b2, b3⟩ := pu_noT (n := n) (m := m) (x := m + 2) (N := 321) (c := 1 + 20 * i) (ν := kt_si (kt_si ν (m + 2) (1 + 20 * i) 0) (m + 2) (1 + 20 * i + 19) (nI i)) (by omega) (by decide)
    rw [kq_b2_s b1]
    have hT2 : TK μg ν2 p m L s t e := (hT.set.set).ext (fun _ => rfl) (fun _ => rfl) (fun z _ _ => b3 _ _ (by omega)) (fun z => b3 _ _ (by omega))
    rw [kq_b2_s (pu_name hT2)]
    have hA : AC μg ν2 (q + 7 + 4 * i) (m + 2) (1 + 20 * i) 0 (fun _ => (0, 0, 0)) := ⟨by rw [hg0]; rfl, by rw [b3 _ _ (by omega), kt_i_sik (by omega), kt_i_sie]; rfl, fun j hj => absurd hj (by omega)⟩
    obtain ⟨ν3, g1, g2⟩ := pu_blkL (n := n) (m := m) (p := p) (L := L) (kb := q + 7 + 4 * i) (c := 1 + 20 * i) (b := i) hn (by omega) hi (by omega) (by omega) n 4 μg ν2 s t e _ (by decide) (by omega) hT2 hA hg6 hg10 b2 (by rw [b3 _ _ (by omega), kt_i_sie])
    refine ⟨ν3, g1, ?_⟩
    have hf2 : FG m (1 + 20 * i) ν ν2 := fun y z q1 q2 => by rw [b3 y z (by omega), kt_i_si, if_neg (by omega), kt_i_si, if_neg (by omega)]
    rcases g2 with ⟨o1, o2, o3, o4, o5⟩ | ⟨o1, o2, o3⟩
    · exact Or.inl ⟨o1, hf2.trans o2, by rw [o3, b3 _ _ (by omega), kt_i_sik (by omega), kt_i_sik (by omega)], o4, o5⟩
    · exact Or.inr ⟨o1, fun y z q1 q2 => by rw [o2 y z q1 q2, hf2 y z q1 (by omega)], o3⟩
  · rw [if_neg (show ¬ kt_i ν m 9 = 1 from fun z => q1 ((h.tok 1 (by decide)).2.mp z))]
    unfold x_readBlock_J21
    rw [kq_b2_s (pu_reqF h.2.1.2 h.2.2.1.2), if_neg hc8]
    have hF := hT.fail 2 2 (by decide) rfl
    unfold x_readBlock_J37
    rw [kq_b2_s pu_reqT, if_neg hc8]
    unfold x_readBlock_J55
    rw [if_neg hF.n0.2]
    have hno : ∀ j, ¬ k_word μg p j := fun j z => q1 ((hT.tok 1 (by decide)).1.mp z.1)
    have hbl : b_blkL p (q + 7 + 4 * i) 4 μg = (0, m_fail μg p 2) := by
      have hka : k_act μg p = -1 := by
        unfold k_act
        rw [if_neg (hno 0), if_neg (hno 1), if_neg (hno 2), if_neg (hno 3), if_neg (hno 4), if_neg (hno 5)]
      have hbe : b_end μg p (q + 7 + 4 * i) = (0, m_fail μg p 2) := (if_neg (hno 6)).trans ((if_neg (hno 7)).trans (if_neg (hno 8)))
      rw [b_blkL, q_act_eq, hka, if_neg (by decide)]
      unfold b_last
      rw [show q_end μg p (q + 7 + 4 * i) = b_end μg p (q + 7 + 4 * i) from kt_seal_eq _, hbe, b_and_f rfl]
    rw [hbl]
    exact ⟨_, rfl, Or.inr ⟨rfl, (req_fr.fd (c := 0)).fe, hF⟩⟩
/-- a ninth block -/
theorem pu_rblk8 {n m p L s t e : Nat} {μ ν : kt_M} (h : TK μ ν p m L s t e) (h0 : kt_i ν (m + 2) 0 = nI 8) : ∃ ν1, x_readBlock n m ν = some ((), ν1) ∧ FE m ν ν1 ∧ FT (m_fail μ p (if kt_i μ p 4 = 1 then 5 else 2)) ν1 p m := by
  unfold x_readBlock
  rw [show Int32.toNatClampNeg 0 = 0 from rfl, h0]
  have h8 : (8 : Int32) ≤ nI 8 := by decide
  by_cases q1 : t = 1
  · rw [if_pos (show kt_i ν m 9 = 1 from (h.tok 1 (by decide)).2.mpr q1), if_pos (show kt_i μ p 4 = 1 from (h.tok 1 (by decide)).1.mpr q1)]
    unfold x_readBlock_J21
    rw [kq_b2_s pu_reqT, if_pos h8]
    unfold x_readBlock_J37
    rw [kq_b2_s (pu_reqF h.2.1.2 h.2.2.1.2), if_pos h8]
    have hF := h.fail 5 5 (by decide) rfl
    unfold x_readBlock_J55
    rw [if_neg hF.n0.2]
    exact ⟨_, rfl, (req_fr.fd (c := 0)).fe, hF⟩
  · rw [if_neg (show ¬ kt_i ν m 9 = 1 from fun z => q1 ((h.tok 1 (by decide)).2.mp z)), if_neg (show ¬ kt_i μ p 4 = 1 from fun z => q1 ((h.tok 1 (by decide)).1.mp z))]
    unfold x_readBlock_J21
    rw [kq_b2_s (pu_reqF h.2.1.2 h.2.2.1.2), if_pos h8]
    have hF := h.fail 2 2 (by decide) rfl
    unfold x_readBlock_J37
    rw [kq_b2_s (pu_reqX hF.n0.1), if_pos h8]
    unfold x_readBlock_J55
    rw [if_neg hF.n0.2]
    exact ⟨_, rfl, (req_fr.fd (c := 0)).fe, hF⟩

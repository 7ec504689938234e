/-! PURE: an act is read -/
def FD (m c : Nat) (ν ν' : kt_M) : Prop := ∀ y z, ¬ (y = m ∧ 7 ≤ z ∧ z ≤ 12) → ¬ (y = m + 2 ∧ c ≤ z ∧ z < c + 20) → kt_i ν' y z = kt_i ν y z
theorem FD.trans {m c : Nat} {ν ν' ν'' : kt_M} (h : FD m c ν ν') (h2 : FD m c ν' ν'') : FD m c ν ν'' := fun y z q q2 => (h2 y z q q2).trans (h y z q q2)
theorem FR.fd {m c : Nat} {ν ν' : kt_M} (h : FR m ν ν') : FD m c ν ν' := fun y z q _ => h y z q
theorem FD.set {m c k : Nat} {ν : kt_M} {v : Int32} (hk : c ≤ k ∧ k < c + 20) : FD m c ν (kt_si ν (m + 2) k v) := fun y z q q2 => by rw [kt_i_si, if_neg (by omega)]
theorem TK.set {m p L s t e k : Nat} {μ ν : kt_M} {v : Int32} (h : TK μ ν p m L s t e) : TK μ (kt_si ν (m + 2) k v) p m L s t e := h.ext (fun _ => rfl) (fun _ => rfl) (fun z _ _ => kt_i_sin (by omega)) (fun z => kt_i_sin (by omega))
theorem FT.set {m p k : Nat} {μ ν : kt_M} {v : Int32} (h : FT μ ν p m) : FT μ (kt_si ν (m + 2) k v) p m := h.ext rfl rfl (kt_i_sin (by omega)) (kt_i_sin (by omega))
theorem q_var_eq {μ : kt_M} {p : Nat} : q_var μ p = a_var μ p := kt_seal_eq _
theorem q_num_eq {μ : kt_M} {p : Nat} {t : Int32} : q_num μ p t = a_num μ p t := kt_seal_eq _
theorem q_sgn_eq {μ : kt_M} {p : Nat} {t : Int32} : q_sgn μ p t = a_sgn μ p t := kt_seal_eq _
/-- the third of an act -/
theorem pu_opn {n m p L s t e ki : Nat} {μ ν : kt_M} {P : Int32} (hn : 300 ≤ n) (hki : ki ≤ 5) (h : TK μ ν p m L s t e) : ∃ ν1 r, (if 2 < nI ki then (if nI ki = 3 then kq_b2 (x_readVariable n m ν) (fun r w => x_readAct_J77 n m P r w) else x_readAct_J77 n m P (-4) ν) else kq_b2 (x_readNumber n m ν 50) (fun r w => x_readAct_J77 n m P r w)) = x_readAct_J77 n m P r ν1 ∧ FR m ν ν1 ∧ ((∃ op s t e, 0 ≤ (b_opn μ p (nI ki)).1 ∧ (ki < 4 → (b_opn μ p (nI ki)).1 = nI op) ∧ r = (if ki < 4 then nI op else -4) ∧ (ki < 3 → op ≤ 50) ∧ (ki = 3 → op < 4) ∧ TK (b_opn μ p (nI ki)).2 ν1 p m L s t e) ∨ (¬ 0 ≤ (b_opn μ p (nI ki)).1 ∧ FT (b_opn μ p (nI ki)).2 ν1 p m)) := by
  have hcs : ki < 3 ∨ ki = 3 ∨ (ki = 4 ∨ ki = 5) := by omega
  rcases hcs with q | q | q
  · have h2 : ¬ 2 < nI ki := fun z => by have := (nI_ltI (a := 2) (by decide) (by omega)).mp z; omega
    have ho : b_opn μ p (nI ki) = a_num μ p (nI 50) := by
      unfold b_opn
      rw [if_neg (show ¬ nI ki = 3 from fun z => by have := (nI_eq (b := 3) (by omega) (by decide)).mp z; omega), if_neg (show ¬ (nI ki = 4 ∨ nI ki = 5) from fun z => z.elim (fun w => by have := (nI_eq (b := 4) (by omega) (by decide)).mp w; omega) (fun w => by have := (nI_eq (b := 5) (by omega) (by decide)).mp w; omega)), q_num_eq]; rfl
    rw [if_neg h2, ho]
    obtain ⟨ν1, r, a1, a2, a3⟩ := pu_num (top := 50) hn h (by decide)
    rw [kq_b2_s (show x_readNumber n m ν 50 = _ from a1)]
    refine ⟨ν1, r, rfl, a2, ?_⟩
    rcases a3 with ⟨v, v1, v2, v3, s2, t2, e2, v4⟩ | ⟨v1, v2⟩
    · exact Or.inl ⟨v, s2, t2, e2, by rw [v2]; exact nI_pos' (by omega), fun _ => v2, by rw [if_pos (by omega)]; exact v3, fun _ => v1, fun z => by omega, v4⟩
    · exact Or.inr ⟨by rw [v1]; decide, v2⟩
  · subst q
    rw [if_pos (show 2 < nI 3 by decide), if_pos (show nI 3 = 3 from rfl), show b_opn μ p (nI 3) = a_var μ p from (if_pos rfl).trans q_var_eq]
    obtain ⟨ν1, r, a1, a2, a3⟩ := pu_var hn h
    rw [kq_b2_s a1]
    refine ⟨ν1, r, rfl, a2, ?_⟩
    rcases a3 with ⟨v, v1, v2, v3, s2, t2, e2, v4⟩ | ⟨v1, v2⟩
    · exact Or.inl ⟨v, s2, t2, e2, by rw [v2]; exact nI_pos' (by omega), fun _ => v2, by rw [if_pos (by omega)]; exact v3, fun z => by omega, fun _ => v1, v4⟩
    · exact Or.inr ⟨by rw [v1]; decide, v2⟩
  · have ho : b_opn μ p (nI ki) = (0, μ) := by
      rcases q with q | q <;> subst q <;> rfl
    rw [if_pos (show 2 < nI ki from nI_lt (a := 2) (by omega) (by omega)), if_neg (show ¬ nI ki = 3 from fun z => by have := (nI_eq (b := 3) (by omega) (by decide)).mp z; omega), ho]
    exact ⟨ν, -4, rfl, FR.rfl', Or.inl ⟨0, s, t, e, (show (0 : Int32) ≤ 0 by decide), fun z => by omega, by rw [if_neg (by omega)], fun z => by omega, fun z => by omega, h⟩⟩
theorem b_act_z {μ : kt_M} {p k z : Nat} {a : Int32} (hk : p + 2 ≤ k) (hz : z ≠ 0) : kt_i (b_act μ p k a).2 k z = kt_i μ k z := by
  unfold b_act
  split
  · exact a_adv_out (by omega)
  · unfold b_act2
    split
    · unfold b_act3
      split
      · unfold m_add
        show kt_i (kt_si (kt_si (kt_si (kt_si _ (k + 1) _ _) (k + 2) _ _) (k + 3) _ _) k 0 _) k z = _
        rw [kt_i_sik hz, kt_i_sin (by omega), kt_i_sin (by omega), kt_i_sin (by omega), b_opn_out (by omega), q_var_out (by omega), a_adv_out (by omega)]
      · show kt_i (b_opn _ p a).2 k z = _
        rw [b_opn_out (by omega), q_var_out (by omega), a_adv_out (by omega)]
    · show kt_i (q_var _ p).2 k z = _
      rw [q_var_out (by omega), a_adv_out (by omega)]
/-- an act is read -/
theorem pu_bact {n m p L s t e c na kb ki : Nat} {μ ν : kt_M} {f : Nat → Nat × Nat × Nat} (hn : 300 ≤ n) (hc : c + 20 ≤ 321) (hna : na < 4) (hkb : p + 2 ≤ kb) (hki : ki ≤ 5) (h : TK μ ν p m L s t e) (hA : AC μ ν kb (m + 2) c na f) (G : kt_M → Option (Unit × kt_M)) : ∃ ν2, kq_b2 (x_reads n m ν) (fun _ w => if kt_i w m 11 = 0 then kq_b2 (x_readAct n m w (nI ki) (nI c)) (fun _ w2 => G w2) else G w) = G ν2 ∧ FD m c ν ν2 ∧ ((∃ s t e f', (b_act μ p kb (nI ki)).1 = 1 ∧ TK (b_act μ p kb (nI ki)).2 ν2 p m L s t e ∧ AC (b_act μ p kb (nI ki)).2 ν2 kb (m + 2) c (na + 1) f') ∨ ((b_act μ p kb (nI ki)).1 = 0 ∧ FT (b_act μ p kb (nI ki)).2 ν2 p m)) ∧ (kt_i ν2 (m + 2) (c + 13) = kt_i ν (m + 2) (c + 13) ∧ ∀ w, 13 ≤ w → w < 20 → kt_i ν2 (m + 2) (c + w) = kt_i ν (m + 2) (c + w)) := by
  obtain ⟨ν1, b1, b2, b3⟩ := h.adv hn
  rw [kq_b2_s b1]
  rcases b3 with ⟨g1, s1, t1, e1, hT⟩ | ⟨g1, hF⟩
  · rw [if_pos hT.2.1.2]
    have hb : b_act μ p kb (nI ki) = b_act2 (a_var (a_mem μ p) p) p kb (nI ki) := by
      unfold b_act
      rw [a_adv_1, if_neg (by rw [kt_f_t g1]; decide), a_adv_2, q_var_eq]
    rw [hb]
    have hA1 : AC (a_mem μ p) ν1 kb (m + 2) c na f := hA.ext (by omega) (fun y z q1 q2 _ => a_mem_out (by omega)) (fun z q1 q2 => b2 _ _ (by omega))
    generalize a_mem μ p = μ1 at hT hA1
    have hpos : nI c + 1 + 3 * nI na = nI (c + 1 + 3 * na) := by rw [show (1 : Int32) = nI 1 from rfl, show (3 : Int32) = nI 3 from rfl, nI_mul, nI_add, nI_add]
    have hT2 : TK μ1 (kt_si (kt_si ν1 (m + 2) c (nI (na + 1))) (m + 2) (c + 1 + 3 * na) (nI ki)) p m L s1 t1 e1 := hT.set.set
    obtain ⟨ν3, r, d1, d2, d3⟩ := pu_var hn hT2
    have hJ : ∀ (v : Int32) (w : kt_M), x_readAct_J77 n m (nI (c + 1 + 3 * na + 2)) v w = some ((), kt_si w (m + 2) (c + 1 + 3 * na + 2) v) := fun v w => by
      unfold x_readAct_J77
      rw [kq_ck_t (pu_kin (by omega) (by decide)), nI_clamp (by omega)]
      simp only [kq_lt]
    have hX : x_readAct n m ν1 (nI ki) (nI c) = (if 2 < nI ki then (if nI ki = 3 then kq_b2 (x_readVariable n m (kt_si ν3 (m + 2) (c + 1 + 3 * na + 1) r)) (fun r w => x_readAct_J77 n m (nI (c + 1 + 3 * na + 2)) r w) else x_readAct_J77 n m (nI (c + 1 + 3 * na + 2)) (-4) (kt_si ν3 (m + 2) (c + 1 + 3 * na + 1) r)) else kq_b2 (x_readNumber n m (kt_si ν3 (m + 2) (c + 1 + 3 * na + 1) r) 50) (fun r w => x_readAct_J77 n m (nI (c + 1 + 3 * na + 2)) r w)) := by
      unfold x_readAct
      rw [kq_ck_t (pu_kin (by omega) (by decide)), kq_ck_t (pu_kin (by omega) (by decide)), kq_ck_t (pu_kin (by omega) (by decide)), nI_clamp (show c < 2 ^ 31 by omega), hA1.2.1, nI_1, hpos]
      simp only [kq_lt]
      rw [kq_ck_t (pu_kin (by omega) (by decide)), nI_clamp (show c + 1 + 3 * na < 2 ^ 31 by omega), kq_b2_s d1, nI_1, kq_ck_t (pu_kin (by omega) (by decide)), nI_clamp (show c + 1 + 3 * na + 1 < 2 ^ 31 by omega), show nI (c + 1 + 3 * na) + 2 = nI (c + 1 + 3 * na + 2) from nI_add _ 2]
    rw [hX]
    have hν3 : ∀ z, z ≠ c → z ≠ c + 1 + 3 * na → kt_i ν3 (m + 2) z = kt_i ν1 (m + 2) z := fun z q1 q2 => by rw [d2 _ _ (by omega), kt_i_sik q2, kt_i_sik q1]
    have hf3 : FD m c ν ν3 := ((b2.fd.trans (FD.set (by omega))).trans (FD.set (by omega))).trans d2.fd
    rcases d3 with ⟨v, hv, ev, er, s3, t3, e3, hT3⟩ | ⟨ev, hF⟩
    · have hb2 : b_act2 (a_var μ1 p) p kb (nI ki) = b_act3 (b_opn (a_var μ1 p).2 p (nI ki)) kb (nI ki) (nI v) := by
        unfold b_act2
        rw [ev, if_pos (nI_pos' (by omega))]
      rw [hb2]
      have hA3 : ∀ y z, y ≠ p → kt_i (a_var μ1 p).2 y z = kt_i μ1 y z := fun y z q => a_var_out q
      generalize (a_var μ1 p).2 = μ3 at hT3 hA3
      obtain ⟨ν5, r5, f1, f2, f3⟩ := pu_opn (P := nI (c + 1 + 3 * na + 2)) hn hki (hT3.set (k := c + 1 + 3 * na + 1) (v := r))
      rw [f1, hJ, kq_b2_s rfl]
      have hf5 : FD m c ν (kt_si ν5 (m + 2) (c + 1 + 3 * na + 2) r5) := ((hf3.trans (FD.set (by omega))).trans f2.fd).trans (FD.set (by omega))
      have hk5 : ∀ w, 13 ≤ w → w < 20 → kt_i (kt_si ν5 (m + 2) (c + 1 + 3 * na + 2) r5) (m + 2) (c + w) = kt_i ν (m + 2) (c + w) := fun w w1 w2 => by
        rw [kt_i_sik (by omega), f2 _ _ (by omega), kt_i_sik (by omega), hν3 _ (by omega) (by omega), b2 _ _ (by omega)]
      refine ⟨_, rfl, hf5, ?_, hk5 13 (by decide) (by decide), hk5⟩
      have ho5 : ∀ y z, y ≠ p → kt_i (b_opn μ3 p (nI ki)).2 y z = kt_i μ1 y z := fun y z q => by rw [b_opn_out q, hA3 y z q]
      generalize b_opn μ3 p (nI ki) = B at f3 ho5
      rcases f3 with ⟨op, s6, t6, e6, o1, o2, o3, o4, o5, o6⟩ | ⟨o1, o2⟩
      · left
        have hb3 : b_act3 B kb (nI ki) (nI v) = (1, m_add B.2 kb (nI ki) (nI v) B.1) := if_pos o1
        rw [hb3]
        have hB0 : kt_i B.2 kb 0 = nI na := by rw [ho5 _ _ (by omega)]; exact hA1.1
        have hma : m_add B.2 kb (nI ki) (nI v) B.1 = kt_si (kt_si (kt_si (kt_si B.2 (kb + 1) na (nI ki)) (kb + 2) na (nI v)) (kb + 3) na B.1) kb 0 (nI (na + 1)) := by
          unfold m_add
          rw [hB0, nI_clamp (by omega), nI_1]
        dsimp only
        rw [hma]
        refine ⟨s6, t6, e6, _, rfl, o6.set.ext (fun z => by rw [kt_i_sin (by omega), kt_i_sin (by omega), kt_i_sin (by omega), kt_i_sin (by omega)]) (fun z => by rw [kt_i_sin (by omega), kt_i_sin (by omega), kt_i_sin (by omega), kt_i_sin (by omega)]) (fun _ _ _ => rfl) (fun _ => rfl), hA1.add (ki := ki) (va := v) (op := op) hki hv o4 o5 kt_i_sie ?_ ?_ (fun q => ?_) (fun y z q1 q2 q3 => ?_) ?_ ?_ ?_ ?_ (fun z q1 q2 => ?_)⟩
        · rw [kt_i_sin (by omega), kt_i_sin (by omega), kt_i_sin (by omega), kt_i_sie]
        · rw [kt_i_sin (by omega), kt_i_sin (by omega), kt_i_sie]
        · rw [kt_i_sin (by omega), kt_i_sie, o2 q]
        · rw [kt_i_sin (by omega), kt_i_sik q3, kt_i_sik q3, kt_i_sik q3, ho5 _ _ (by omega)]
        · rw [kt_i_sik (by omega), f2 _ _ (by omega), kt_i_sik (by omega), d2 _ _ (by omega), kt_i_sik (by omega), kt_i_sie]
        · rw [show c + (1 + 3 * na) = c + 1 + 3 * na by omega, kt_i_sik (by omega), f2 _ _ (by omega), kt_i_sik (by omega), d2 _ _ (by omega), kt_i_sie]
        · rw [show c + (1 + 3 * na + 1) = c + 1 + 3 * na + 1 by omega, kt_i_sik (by omega), f2 _ _ (by omega), kt_i_sie, er]
        · rw [show c + (1 + 3 * na + 2) = c + 1 + 3 * na + 2 by omega, kt_i_sie, o3]
        · rw [kt_i_sik (by omega), f2 _ _ (by omega), kt_i_sik (by omega), hν3 _ (by omega) (by omega)]
      · right
        have hb3 : b_act3 B kb (nI ki) (nI v) = (0, B.2) := if_neg o1
        rw [hb3]
        exact ⟨rfl, o2.set⟩
    · have hb2 : b_act2 (a_var μ1 p) p kb (nI ki) = (0, (a_var μ1 p).2) := by
        unfold b_act2
        rw [ev, if_neg (by decide)]
      rw [hb2]
      have hF4 : FT (a_var μ1 p).2 (kt_si ν3 (m + 2) (c + 1 + 3 * na + 1) r) p m := hF.set
      have hsel : ∃ v, (if 2 < nI ki then (if nI ki = 3 then kq_b2 (x_readVariable n m (kt_si ν3 (m + 2) (c + 1 + 3 * na + 1) r)) (fun r w => x_readAct_J77 n m (nI (c + 1 + 3 * na + 2)) r w) else x_readAct_J77 n m (nI (c + 1 + 3 * na + 2)) (-4) (kt_si ν3 (m + 2) (c + 1 + 3 * na + 1) r)) else kq_b2 (x_readNumber n m (kt_si ν3 (m + 2) (c + 1 + 3 * na + 1) r) 50) (fun r w => x_readAct_J77 n m (nI (c + 1 + 3 * na + 2)) r w)) = some ((), kt_si (kt_si ν3 (m + 2) (c + 1 + 3 * na + 1) r) (m + 2) (c + 1 + 3 * na + 2) v) := by
        by_cases q2 : 2 < nI ki
        · rw [if_pos q2]
          by_cases q3 : nI ki = 3
          · rw [if_pos q3, kq_b2_s (pu_varX hF4.n0)]; exact ⟨0, hJ _ _⟩
          · rw [if_neg q3]; exact ⟨-4, hJ _ _⟩
        · rw [if_neg q2, kq_b2_s (pu_numX hF4.n0)]; exact ⟨0, hJ _ _⟩
      obtain ⟨v, hv⟩ := hsel
      rw [kq_b2_s hv]
      have hk5 : ∀ w, 13 ≤ w → w < 20 → kt_i (kt_si (kt_si ν3 (m + 2) (c + 1 + 3 * na + 1) r) (m + 2) (c + 1 + 3 * na + 2) v) (m + 2) (c + w) = kt_i ν (m + 2) (c + w) := fun w w1 w2 => by
        rw [kt_i_sik (by omega), kt_i_sik (by omega), hν3 _ (by omega) (by omega), b2 _ _ (by omega)]
      exact ⟨_, rfl, (hf3.trans (FD.set (by omega))).trans (FD.set (by omega)), Or.inr ⟨rfl, hF4.set⟩, hk5 13 (by decide) (by decide), hk5⟩
  · rw [if_neg hF.n0.1]
    have hb : b_act μ p kb (nI ki) = (0, a_mem μ p) := by
      unfold b_act
      rw [a_adv_1, if_pos (kt_f_f g1), a_adv_2]
    rw [hb]
    exact ⟨ν1, rfl, b2.fd, Or.inr ⟨rfl, hF⟩, b2 _ _ (by omega), fun w _ _ => b2 _ _ (by omega)⟩

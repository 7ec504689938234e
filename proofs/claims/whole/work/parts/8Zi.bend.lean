/-! PURE: the end of a block is read -/
def MX (ν : kt_M) (x c : Nat) (D : DB) : Prop := kt_i ν x (c + 0) = nI (db_na D) ∧ (∀ i, i < db_na D → kt_i ν x (c + (1 + 3 * i)) = nI (db_ki D i) ∧ kt_i ν x (c + (1 + 3 * i + 1)) = nI (db_va D i) ∧ kt_i ν x (c + (1 + 3 * i + 2)) = if db_ki D i < 4 then nI (db_op D i) else -4) ∧ kt_i ν x (c + 13) = nI (db_en D) ∧ kt_i ν x (c + 14) = (if 1 ≤ db_en D then nI (db_t0 D) else -4) ∧ kt_i ν x (c + 15) = (if 2 ≤ db_en D then nI (db_t1 D) else -4) ∧ kt_i ν x (c + 16) = (if 2 ≤ db_en D then nI (db_lf D) else -4) ∧ kt_i ν x (c + 17) = (if 2 ≤ db_en D then nI (db_rv D) else -4) ∧ kt_i ν x (c + 18) = (if 2 ≤ db_en D then nI (db_rt D) else -4) ∧ kt_i ν x (c + 19) = nI (db_or D)
def db_org (D : DB) (b : Nat) : DB := (D.1, D.2.1, D.2.2.1, D.2.2.2.1, D.2.2.2.2.1, b)
def BX (μ ν : kt_M) (kb x c b : Nat) : Prop := ∃ D, WB D 8 ∧ db_or D = b ∧ CB μ kb (db_org D 0) ∧ MX ν x c D
theorem MX.ext {ν ν' : kt_M} {x c s : Nat} {D : DB} (h : MX ν x c D) (hD : WB D s) (he : ∀ w, w < 20 → kt_i ν' x (c + w) = kt_i ν x (c + w)) : MX ν' x c D := by
  have hn := hD.1
  obtain ⟨m1, m2, m3, m4, m5, m6, m7, m8, m9⟩ := h
  refine ⟨by rw [he _ (by decide)]; exact m1, fun i hi => ?_, by rw [he _ (by decide)]; exact m3, by rw [he _ (by decide)]; exact m4, by rw [he _ (by decide)]; exact m5, by rw [he _ (by decide)]; exact m6, by rw [he _ (by decide)]; exact m7, by rw [he _ (by decide)]; exact m8, by rw [he _ (by decide)]; exact m9⟩
  rw [he _ (by omega), he _ (by omega), he _ (by omega)]
  exact m2 i hi
theorem BX.ext {μ ν μ' ν' : kt_M} {kb x c b : Nat} (h : BX μ ν kb x c b) (hμ : ∀ y z, kb ≤ y → y < kb + 4 → kt_i μ' y z = kt_i μ y z) (hν : ∀ w, w < 20 → kt_i ν' x (c + w) = kt_i ν x (c + w)) : BX μ' ν' kb x c b := by
  obtain ⟨D, h1, h2, h3, h4⟩ := h
  exact ⟨D, h1, h2, h3.ext hμ, h4.ext h1 hν⟩
theorem BX.mk' {μ ν : kt_M} {kb x c na en t0 t1 lf rv rt b : Nat} {f : Nat → Nat × Nat × Nat} (hna : na ≤ 4) (hb : b < 8) (hA : AC μ ν kb x c na f) (hen : en ≤ 3) (c4 : kt_i μ kb 4 = nI en) (c8 : 1 ≤ en → kt_i μ kb 8 = nI t0 ∧ t0 < 8) (c9 : 2 ≤ en → (kt_i μ kb 9 = nI t1 ∧ kt_i μ kb 5 = nI lf ∧ kt_i μ kb 6 = nI rv ∧ kt_i μ kb 7 = nI rt) ∧ (t1 < 8 ∧ lf < 4 ∧ rv ≤ 1 ∧ (rv = 0 → rt ≤ 50) ∧ (rv = 1 → rt < 4))) (c6 : kt_i μ kb 6 = 0 ∨ kt_i μ kb 6 = 1) (c10 : kt_i μ kb 10 = 0) (m13 : kt_i ν x (c + 13) = nI en) (m14 : kt_i ν x (c + 14) = if 1 ≤ en then nI t0 else -4) (m15 : kt_i ν x (c + 15) = if 2 ≤ en then nI t1 else -4) (m16 : kt_i ν x (c + 16) = if 2 ≤ en then nI lf else -4) (m17 : kt_i ν x (c + 17) = if 2 ≤ en then nI rv else -4) (m18 : kt_i ν x (c + 18) = if 2 ≤ en then nI rt else -4) (m19 : kt_i ν x (c + 19) = nI b) : BX μ ν kb x c b :=
  ⟨(na, f, en, (t0, t1), (lf, rv, rt), b), ⟨hna, fun i hi => (hA.2.2 i hi).2, hen, fun q => (c8 q).2, fun q => (c9 q).2, hb⟩, rfl, ⟨hA.1, fun i hi => (hA.2.2 i hi).1.1, c4, fun q => (c8 q).1, fun q => (c9 q).1, c10, c6⟩, ⟨hA.2.1, fun i hi => (hA.2.2 i hi).1.2, m13, m14, m15, m16, m17, m18, m19⟩⟩
def FE (m : Nat) (ν ν' : kt_M) : Prop := ∀ y z, ¬ (y = m ∧ 7 ≤ z ∧ z ≤ 12) → y ≠ m + 2 → kt_i ν' y z = kt_i ν y z
theorem FD.fe {m c : Nat} {ν ν' : kt_M} (h : FD m c ν ν') : FE m ν ν' := fun y z q q2 => h y z q (by omega)
theorem FE.trans {m : Nat} {ν ν' ν'' : kt_M} (h : FE m ν ν') (h2 : FE m ν' ν'') : FE m ν ν'' := fun y z q q2 => (h2 y z q q2).trans (h y z q q2)
theorem FE.set {m k : Nat} {ν : kt_M} {v : Int32} : FE m ν (kt_si ν (m + 2) k v) := fun y z q q2 => kt_i_sin q2
theorem pu_J285X {n m p : Nat} {μ ν : kt_M} (h : FT μ ν p m) : ∃ ν1, x_readBlock_J285 n m ν = some ((), ν1) ∧ FE m ν ν1 ∧ FT μ ν1 p m := by
  unfold x_readBlock_J285
  rw [kq_b2_s (pu_readsX h.n0.2)]
  simp only [kq_lt]
  exact ⟨_, rfl, FE.set, h.set⟩
theorem pu_J267X {n m p : Nat} {μ ν : kt_M} (h : FT μ ν p m) : ∃ ν1, x_readBlock_J267 n m ν = some ((), ν1) ∧ FE m ν ν1 ∧ FT μ ν1 p m := by
  unfold x_readBlock_J267
  rw [if_neg h.n0.1]
  exact pu_J285X h
/-- the end of a block is read, but for its semicolon -/
theorem pu_bend {n m p L s t e kb c b na : Nat} {μ ν : kt_M} {f : Nat → Nat × Nat × Nat} (hn : 300 ≤ n) (hkb : p + 2 ≤ kb) (hb : b < 8) (hc : c + 20 ≤ 321) (hna : na ≤ 4) (h : TK μ ν p m L s t e) (hA : AC μ ν kb (m + 2) c na f) (h6 : kt_i μ kb 6 = 0) (h10 : kt_i μ kb 10 = 0) (hm : ∀ w, 14 ≤ w → w < 19 → kt_i ν (m + 2) (c + w) = -4) (hm9 : kt_i ν (m + 2) (c + 19) = nI b) (hw : k_nme μ p = if k_word μ p 6 then 6 else if k_word μ p 7 then 7 else if k_word μ p 8 then 8 else -4) : ((b_end μ p kb).1 = 1 ∧ ∃ ν1 s t e, x_readBlock_J172 n m (nI c) (k_nme μ p) ν = x_readBlock_J267 n m ν1 ∧ FD m c ν ν1 ∧ TK (b_end μ p kb).2 ν1 p m L s t e ∧ BX (b_end μ p kb).2 ν1 kb (m + 2) c b) ∨ ((b_end μ p kb).1 = 0 ∧ ∃ ν1, x_readBlock_J172 n m (nI c) (k_nme μ p) ν = some ((), ν1) ∧ FE m ν ν1 ∧ FT (b_end μ p kb).2 ν1 p m) := by
  have e13 : nI c + 13 = nI (c + 13) := nI_add c 13
  have e14 : nI c + 14 = nI (c + 14) := nI_add c 14
  unfold x_readBlock_J172
  rw [if_pos h.2.1.2, hw]
  by_cases w6 : k_word μ p 6
  · rw [if_pos w6, if_neg (show ¬ (6 : Int32) = -4 by decide)]
    unfold x_readBlock_J191
    rw [kq_b2_s pu_reqT]
    unfold x_readBlock_J195
    have hT2 : TK (kt_si μ kb 4 0) ν p m L s t e := h.ext (fun z => kt_i_sin (by omega)) (fun z => kt_i_sin (by omega)) (fun _ _ _ => rfl) (fun _ => rfl)
    obtain ⟨ν1, b1, b2, b3⟩ := hT2.adv hn
    rw [kq_b2_s b1]
    have hbe : b_end μ p kb = a_adv (kt_si μ kb 4 0) p := if_pos w6
    rw [hbe, a_adv_1, a_adv_2]
    have hmo : ∀ y z, y ≠ p → kt_i (a_mem (kt_si μ kb 4 0) p) y z = kt_i (kt_si μ kb 4 0) y z := fun y z q => a_mem_out q
    rcases b3 with ⟨g1, s2, t2, e2, g2⟩ | ⟨g1, g2⟩
    · rw [if_pos (show kt_i ν1 m 11 ≤ 0 by rw [g2.2.1.2]; decide), if_neg (show ¬ (6 : Int32) = 8 by decide), if_neg (show ¬ (6 : Int32) = 7 by decide)]
      unfold x_readBlock_J240
      rw [e13, e14, kq_ck_t (pu_kin (by omega) (by decide)), nI_clamp (show c + 13 < 2 ^ 31 by omega)]
      simp only [kq_lt]
      rw [if_neg (show ¬ (6 : Int32) = 7 by decide)]
      unfold x_readBlock_J266
      rw [kq_ck_t (pu_kin (by omega) (by decide)), nI_clamp (show c + 14 < 2 ^ 31 by omega)]
      simp only [kq_lt]
      have hf : ∀ z, z ≠ c + 13 → z ≠ c + 14 → kt_i (kt_si (kt_si ν1 (m + 2) (c + 13) 0) (m + 2) (c + 14) (-4)) (m + 2) z = kt_i ν (m + 2) z := fun z q1 q2 => by rw [kt_i_sik q2, kt_i_sik q1, b2 _ _ (by omega)]
      refine Or.inl ⟨kt_f_t g1, _, s2, t2, e2, rfl, (b2.fd.trans (FD.set (by omega))).trans (FD.set (by omega)), g2.set.set, ?_⟩
      refine BX.mk' (en := 0) (t0 := 0) (t1 := 0) (lf := 0) (rv := 0) (rt := 0) hna hb (hA.ext hna (fun y z q1 q2 q3 => by rw [hmo y z (by omega), kt_i_si, if_neg (by omega)]) (fun z q1 q2 => hf z (by omega) (by omega))) (by decide) ?_ (fun q => absurd q (by decide)) (fun q => absurd q (by decide)) (Or.inl ?_) ?_ ?_ ?_ ?_ ?_ ?_ ?_ ?_
      · rw [hmo _ _ (by omega), kt_i_sie]; rfl
      · rw [hmo _ _ (by omega), kt_i_sik (by decide)]; exact h6
      · rw [hmo _ _ (by omega), kt_i_sik (by decide)]; exact h10
      · rw [kt_i_sik (by omega), kt_i_sie]; rfl
      · rw [kt_i_sie]; rfl
      · rw [hf _ (by omega) (by omega)]; exact hm 15 (by decide) (by decide)
      · rw [hf _ (by omega) (by omega)]; exact hm 16 (by decide) (by decide)
      · rw [hf _ (by omega) (by omega)]; exact hm 17 (by decide) (by decide)
      · rw [hf _ (by omega) (by omega)]; exact hm 18 (by decide) (by decide)
      · rw [hf _ (by omega) (by omega)]; exact hm9
    · rw [if_neg g2.n0.2]
      exact Or.inr ⟨kt_f_f g1, ν1, rfl, b2.fd (c := c) |>.fe, g2⟩
  rw [if_neg w6]
  by_cases w7 : k_word μ p 7
  · rw [if_pos w7, if_neg (show ¬ (7 : Int32) = -4 by decide)]
    unfold x_readBlock_J191
    rw [kq_b2_s pu_reqT]
    unfold x_readBlock_J195
    have hT2 : TK (kt_si μ kb 4 1) ν p m L s t e := h.ext (fun z => kt_i_sin (by omega)) (fun z => kt_i_sin (by omega)) (fun _ _ _ => rfl) (fun _ => rfl)
    obtain ⟨ν1, b1, b2, b3⟩ := hT2.adv hn
    rw [kq_b2_s b1]
    have hbe : b_end μ p kb = b_and (a_adv (kt_si μ kb 4 1) p) (fun μ => q_tgt μ p kb 0) := (if_neg w6).trans (if_pos w7)
    have hmo : ∀ y z, y ≠ p → kt_i (a_mem (kt_si μ kb 4 1) p) y z = kt_i (kt_si μ kb 4 1) y z := fun y z q => a_mem_out q
    rw [hbe]
    rcases b3 with ⟨g1, s2, t2, e2, g2⟩ | ⟨g1, g2⟩
    · rw [if_pos (show kt_i ν1 m 11 ≤ 0 by rw [g2.2.1.2]; decide), if_neg (show ¬ (7 : Int32) = 8 by decide), if_pos (show (7 : Int32) = 7 from rfl)]
      unfold x_readBlock_J240
      rw [e13, e14, kq_ck_t (pu_kin (by omega) (by decide)), nI_clamp (show c + 13 < 2 ^ 31 by omega)]
      simp only [kq_lt]
      rw [if_pos trivial, b_and_t (by rw [a_adv_1, kt_f_t g1]; decide), a_adv_2]
      dsimp only
      generalize a_mem (kt_si μ kb 4 1) p = μ3 at g2 hmo
      obtain ⟨ν3, r, d1, d2, d3, d4⟩ := pu_tgt (kb := kb) (x := 0) hn hkb (by decide) (g2.set (k := c + 13) (v := 1))
      rw [kq_b2_s d1]
      have hJ : x_readBlock_J266 n m (nI (c + 14)) r ν3 = x_readBlock_J267 n m (kt_si ν3 (m + 2) (c + 14) r) := by
        unfold x_readBlock_J266
        rw [kq_ck_t (pu_kin (by omega) (by decide)), nI_clamp (show c + 14 < 2 ^ 31 by omega)]
        simp only [kq_lt]
      rw [hJ]
      have d3 : (∃ v s t e, v < 8 ∧ r = nI v ∧ (q_tgt μ3 p kb 0).1 = 1 ∧ kt_i (q_tgt μ3 p kb 0).2 kb 8 = nI v ∧ TK (q_tgt μ3 p kb 0).2 ν3 p m L s t e) ∨ ((q_tgt μ3 p kb 0).1 = 0 ∧ FT (q_tgt μ3 p kb 0).2 ν3 p m) := d3
      have d4 : ∀ y z, y ≠ p → ¬ (y = kb ∧ z = 8) → kt_i (q_tgt μ3 p kb 0).2 y z = kt_i μ3 y z := d4
      have hf3 : FD m c ν (kt_si ν3 (m + 2) (c + 14) r) := ((b2.fd.trans (FD.set (by omega))).trans d2.fd).trans (FD.set (by omega))
      have hf : ∀ z, z ≠ c + 13 → z ≠ c + 14 → kt_i (kt_si ν3 (m + 2) (c + 14) r) (m + 2) z = kt_i ν (m + 2) z := fun z q1 q2 => by rw [kt_i_sik q2, d2 _ _ (by omega), kt_i_sik q1, b2 _ _ (by omega)]
      rcases d3 with ⟨v, s3, t3, e3, v1, v2, v3, v4, v5⟩ | ⟨v1, v2⟩
      · refine Or.inl ⟨kt_f_t (by rw [v3]; decide), _, s3, t3, e3, rfl, hf3, v5.set, ?_⟩
        refine BX.mk' (en := 1) (t0 := v) (t1 := 0) (lf := 0) (rv := 0) (rt := 0) hna hb (hA.ext hna (fun y z q1 q2 q3 => by rw [d4 y z (by omega) (by omega), hmo y z (by omega), kt_i_si, if_neg (by omega)]) (fun z q1 q2 => hf z (by omega) (by omega))) (by decide) ?_ (fun _ => ⟨v4, v1⟩) (fun q => absurd q (by decide)) (Or.inl ?_) ?_ ?_ ?_ ?_ ?_ ?_ ?_ ?_
        · rw [d4 _ _ (by omega) (by omega), hmo _ _ (by omega), kt_i_sie]; rfl
        · rw [d4 _ _ (by omega) (by omega), hmo _ _ (by omega), kt_i_sik (by decide)]; exact h6
        · rw [d4 _ _ (by omega) (by omega), hmo _ _ (by omega), kt_i_sik (by decide)]; exact h10
        · rw [kt_i_sik (by omega), d2 _ _ (by omega), kt_i_sie]; rfl
        · rw [kt_i_sie, v2]; rfl
        · rw [hf _ (by omega) (by omega)]; exact hm 15 (by decide) (by decide)
        · rw [hf _ (by omega) (by omega)]; exact hm 16 (by decide) (by decide)
        · rw [hf _ (by omega) (by omega)]; exact hm 17 (by decide) (by decide)
        · rw [hf _ (by omega) (by omega)]; exact hm 18 (by decide) (by decide)
        · rw [hf _ (by omega) (by omega)]; exact hm9
      · obtain ⟨ν4, k1, k2, k3⟩ := pu_J267X (n := n) (v2.set (k := c + 14) (v := r))
        exact Or.inr ⟨kt_f_f (fun z => z v1), ν4, k1, hf3.fe.trans k2, k3⟩
    · rw [if_neg g2.n0.2, b_and_f (by rw [a_adv_1]; exact kt_f_f g1), a_adv_2]
      exact Or.inr ⟨rfl, ν1, rfl, b2.fd (c := c) |>.fe, g2⟩
  rw [if_neg w7]
  by_cases w8 : k_word μ p 8
  · rw [if_pos w8, if_neg (show ¬ (8 : Int32) = -4 by decide)]
    unfold x_readBlock_J191
    rw [kq_b2_s pu_reqT]
    unfold x_readBlock_J195
    obtain ⟨ν1, b1, b2, b3⟩ := h.adv hn
    rw [kq_b2_s b1]
    have hbe : b_end μ p kb = b_and (a_adv μ p) (fun μ => c_if μ p kb) := (if_neg w6).trans ((if_neg w7).trans (if_pos w8))
    have hmo : ∀ y z, y ≠ p → kt_i (a_mem μ p) y z = kt_i μ y z := fun y z q => a_mem_out q
    rw [hbe]
    rcases b3 with ⟨g1, s2, t2, e2, g2⟩ | ⟨g1, g2⟩
    · rw [if_pos (show kt_i ν1 m 11 ≤ 0 by rw [g2.2.1.2]; decide), if_pos (show (8 : Int32) = 8 from rfl), b_and_t (by rw [a_adv_1, kt_f_t g1]; decide), a_adv_2]
      dsimp only
      generalize a_mem μ p = μ3 at g2 hmo
      obtain ⟨ν3, d1, d2, d3, d4⟩ := pu_test (kb := kb) (c := c) hn hkb hc g2
      rw [kq_b2_s d1]
      have hf3 : FD m c ν ν3 := b2.fd.trans d2
      rcases d3 with ⟨k1, k2, en, lf, rv, rt, t0, t1, s5, t5, e5, ⟨o0, o1, o2, o3, o4, o5, o6⟩, ⟨u0, u1, u2, u3, u4, u5⟩, ⟨x0, x1, x2, x3, x4, x5⟩, k5⟩ | ⟨k1, k2⟩
      · refine Or.inl ⟨kt_f_t (by rw [k1]; decide), ν3, s5, t5, e5, rfl, hf3, k5, ?_⟩
        refine BX.mk' (en := en) (t0 := t0) (t1 := t1) (lf := lf) (rv := rv) (rt := rt) hna hb (hA.ext hna (fun y z q1 q2 q3 => by rw [d4 y z (by omega) (by omega), hmo y z (by omega)]) (fun z q1 q2 => ?_)) (by omega) u0 (fun _ => ⟨u4, o5⟩) (fun _ => ⟨⟨u5, u1, u2, u3⟩, o6, o1, o2, o3, o4⟩) ?_ ?_ x0 (by rw [if_pos (by omega)]; exact x1) (by rw [if_pos (by omega)]; exact x2) (by rw [if_pos (by omega)]; exact x3) (by rw [if_pos (by omega)]; exact x4) (by rw [if_pos (by omega)]; exact x5) ?_
        · obtain ⟨w, rfl⟩ : ∃ w, z = c + w := ⟨z - c, by omega⟩
          rw [k2 w (by omega) (by omega), b2 _ _ (by omega)]
        · rw [u2]
          have : rv = 0 ∨ rv = 1 := by omega
          rcases this with q | q <;> rw [q]
          · exact Or.inl rfl
          · exact Or.inr rfl
        · rw [d4 _ _ (by omega) (by omega), hmo _ _ (by omega)]; exact h10
        · rw [k2 19 (by decide) (by decide), b2 _ _ (by omega)]; exact hm9
      · obtain ⟨ν4, j1, j2, j3⟩ := pu_J267X (n := n) k2
        exact Or.inr ⟨kt_f_f (fun z => z k1), ν4, j1, hf3.fe.trans j2, j3⟩
    · rw [if_neg g2.n0.2, b_and_f (by rw [a_adv_1]; exact kt_f_f g1), a_adv_2]
      exact Or.inr ⟨rfl, ν1, rfl, b2.fd (c := c) |>.fe, g2⟩
  · rw [if_neg w8, if_pos rfl]
    unfold x_readBlock_J191
    rw [kq_b2_s (pu_reqF h.2.1.2 h.2.2.1.2)]
    have hF := h.fail 2 2 (by decide) rfl
    unfold x_readBlock_J195
    rw [kq_b2_s (pu_readsX hF.n0.2), if_neg hF.n0.2]
    have hbe : b_end μ p kb = (0, m_fail μ p 2) := (if_neg w6).trans ((if_neg w7).trans (if_neg w8))
    rw [hbe]
    exact Or.inr ⟨rfl, _, rfl, req_fr.fd (c := c) |>.fe, hF⟩

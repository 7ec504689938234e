/-! PURE: the class's ranges -/
def Cr (t : kt_3) (r : R3) : Prop := t.1.toInt = r.1 ∧ t.2.1.toInt = r.2.1 ∧ t.2.2 = (if r.2.2 = true then 1 else 0)
def CE (μ : kt_M) (p : Nat) (E : EV) : Prop := ∀ v, v < 4 → Cr (kg μ p v) (E v)
theorem e_set_set {E : EV} {v : Nat} {r s : R3} : e_set (e_set E v r) v s = e_set E v s := funext fun w => by
  unfold e_set; split <;> rfl
theorem CE.set {μ : kt_M} {p v : Nat} {E : EV} {t : kt_3} {r : R3} (h : CE μ p E) (hr : Cr t r) : CE (ks μ p v t) p (e_set E v r) := fun w hw => by
  rw [kg_ks_if]
  unfold e_set
  by_cases e : w = v
  · rw [if_pos e, if_pos e]; exact hr
  · rw [if_neg e, if_neg e]; exact h w hw
theorem CE.ext {μ μ' : kt_M} {p : Nat} {E : EV} (h : CE μ p E) (he : ∀ x k, p + 1 ≤ x → x ≤ p + 3 → kt_i μ' x k = kt_i μ x k) : CE μ' p E := fun v hv => by
  have := h v hv
  unfold kg at *
  rw [he (p + 1) v (by omega) (by omega), he (p + 2) v (by omega) (by omega), he (p + 3) v (by omega) (by omega)]
  exact this
theorem m_nil_ks {μ : kt_M} {p v : Nat} {c : Int32} : m_nil μ p v c = ks μ p v ((kg μ p v).1, (kg μ p v).2.1, c) := ks_3
theorem m_num_ks {μ : kt_M} {p v : Nat} {f e : Int32} : m_num μ p v f e = ks μ p v (f, e, (kg μ p v).2.2) := by
  unfold m_num ks kg
  exact (kt_si_self (by dsimp only; rw [kt_i_sin (by omega), kt_i_sin (by omega)])).symm
theorem CE.lo {μ : kt_M} {p v : Nat} {E : EV} (h : CE μ p E) (hv : v < 4) : (kt_i μ (p + 1) v).toInt = (E v).1 := (h v hv).1
theorem CE.hi {μ : kt_M} {p v : Nat} {E : EV} (h : CE μ p E) (hv : v < 4) : (kt_i μ (p + 2) v).toInt = (E v).2.1 := (h v hv).2.1
theorem CE.nl {μ : kt_M} {p v : Nat} {E : EV} (h : CE μ p E) (hv : v < 4) : kt_i μ (p + 3) v = (if (E v).2.2 = true then 1 else 0) := (h v hv).2.2
theorem Cr.cut {t : kt_3} {r : R3} {f e : Int32} (h : Cr t r) : Cr (k3_cut t f e) (r_cut r f.toInt e.toInt) := by
  obtain ⟨h1, h2, h3⟩ := h
  unfold k3_cut r_cut
  dsimp only
  have ha : (if f ≤ t.1 then t.1 else f).toInt = max f.toInt r.1 := by
    rw [← h1]
    by_cases c : f ≤ t.1
    · rw [if_pos c]; rw [Int32.le_iff_toInt_le] at c; omega
    · rw [if_neg c]; rw [Int32.le_iff_toInt_le] at c; omega
  have hb : (if t.2.1 ≤ e then t.2.1 else e).toInt = min e.toInt r.2.1 := by
    rw [← h2]
    by_cases c : t.2.1 ≤ e
    · rw [if_pos c]; rw [Int32.le_iff_toInt_le] at c; omega
    · rw [if_neg c]; rw [Int32.le_iff_toInt_le] at c; omega
  by_cases c : (if f ≤ t.1 then t.1 else f) ≤ (if t.2.1 ≤ e then t.2.1 else e)
  · rw [if_pos c]
    rw [Int32.le_iff_toInt_le, ha, hb] at c
    rw [if_pos c]
    exact ⟨ha, hb, h3⟩
  · rw [if_neg c]
    rw [Int32.le_iff_toInt_le, ha, hb] at c
    rw [if_neg c]
    exact ⟨(by show (51 : Int32).toInt = 51; decide), (by show (-1 : Int32).toInt = -1; decide), h3⟩
theorem Cr.nn {t : kt_3} {r : R3} (h : Cr t r) : Cr (t.1, t.2.1, 0) (r_nn r) := ⟨h.1, h.2.1, rfl⟩
theorem CE.cut {μ : kt_M} {p v : Nat} {E : EV} {f e : Int32} (h : CE μ p E) (hv : v < 4) : CE (m_cut μ p v f e) p (e_set E v (r_cut (E v) f.toInt e.toInt)) := h.set (h v hv).cut
theorem CE.nil0 {μ : kt_M} {p v : Nat} {E : EV} (h : CE μ p E) (hv : v < 4) : CE (m_nil μ p v 0) p (e_set E v (r_nn (E v))) := by rw [m_nil_ks]; exact h.set (h v hv).nn
theorem cr_cl {a : Int32} : (k_cl a).toInt = r_cl a.toInt := by
  unfold k_cl k_max k_min r_cl
  by_cases c : a < 50
  · rw [if_pos c]
    rw [Int32.lt_iff_toInt_lt, ki_50] at c
    by_cases d : (0 : Int32) < a
    · rw [if_pos d]; rw [Int32.lt_iff_toInt_lt, ki_0] at d; omega
    · rw [if_neg d]; rw [Int32.lt_iff_toInt_lt, ki_0] at d; rw [ki_0]; omega
  · rw [if_neg c]
    rw [Int32.lt_iff_toInt_lt, ki_50] at c
    rw [if_pos (by decide), ki_50]; omega
theorem CE.sft {μ : kt_M} {p v : Nat} {E : EV} {k : Int32} (h : CE μ p E) (hv : v < 4) (hE : vr (E v)) (hk : -1000 ≤ k.toInt ∧ k.toInt ≤ 1000) : CE (m_shift μ p v k) p (e_set E v (r_sft (E v) k.toInt)) := by
  have h1 := h.lo hv
  have h2 := h.hi hv
  have hb := hE.b
  unfold m_shift r_sft
  by_cases c : kt_i μ (p + 2) v < kt_i μ (p + 1) v
  · rw [if_pos c]
    rw [Int32.lt_iff_toInt_lt, h1, h2] at c
    rw [if_neg (by omega)]
    intro w hw
    unfold e_set
    split
    · rename_i e; rw [e]; exact h v hv
    · exact h w hw
  · rw [if_neg c]
    rw [Int32.lt_iff_toInt_lt, h1, h2] at c
    rw [if_pos (by omega), m_num_ks]
    refine h.set ⟨?_, ?_, (h v hv).2.2⟩
    · dsimp only
      rw [cr_cl, pu_add32 (by omega) hk, h1]
    · dsimp only
      rw [cr_cl, pu_add32 (by omega) hk, h2]
theorem CE.cpv {μ : kt_M} {p v q w : Nat} {E : EV} {r : R3} (h : CE μ p E) (hr : Cr (kg μ q w) r) (hne : p = q ∨ p + 4 ≤ q ∨ q + 4 ≤ p) : CE (m_cpv μ p v q w) p (e_set E v r) := by
  have : m_cpv μ p v q w = ks μ p v (kg μ q w) := by
    unfold m_cpv ks kg
    rfl
  rw [this]
  exact h.set hr
theorem cl_act {μ : kt_M} {p ki va op : Nat} {o : Int32} {E : EV} (h : CE μ p E) (hE : e_v E) (hw : wA ki va op) (ho : ki < 4 → o = nI op) : CE (m_act μ p (nI ki) va o) p (e_act E ki va op) := by
  have hk : ki = 0 ∨ ki = 1 ∨ ki = 2 ∨ ki = 3 ∨ ki = 4 ∨ ki = 5 := by have := hw.1; omega
  have hva := hw.2.1
  rcases hk with hk | hk | hk | hk | hk | hk <;> subst hk
  · have h50 := hw.2.2.1 (by decide)
    show CE _ p (e_set E va ((op : Int), (op : Int), false))
    unfold m_act
    rw [if_pos (by decide), ho (by decide), m_num_ks, m_nil_ks, kg_ks, ks_ks]
    exact h.set ⟨nI_toInt (by omega), nI_toInt (by omega), rfl⟩
  · have h50 := hw.2.2.1 (by decide)
    show CE _ p (e_set E va (r_sft (E va) op))
    unfold m_act
    rw [if_neg (by decide), if_pos (by decide), ho (by decide)]
    have := h.sft (k := nI op) hva (hE _ hva) (by rw [nI_toInt (by omega)]; omega)
    rw [nI_toInt (by omega)] at this
    exact this
  · have h50 := hw.2.2.1 (by decide)
    show CE _ p (e_set E va (r_sft (E va) (-(op : Int))))
    unfold m_act
    rw [if_neg (by decide), if_neg (by decide), if_pos (by decide), ho (by decide)]
    have := h.sft (k := -(nI op)) hva (hE _ hva) (by rw [nI_negI (by omega)]; omega)
    rw [nI_negI (by omega)] at this
    exact this
  · have h4 := hw.2.2.2 rfl
    show CE _ p (e_set E va (E op))
    unfold m_act
    rw [if_neg (by decide), if_neg (by decide), if_neg (by decide), if_pos (by decide), ho (by decide), if_pos ⟨nI_pos' (by omega), nI_lt h4 (by decide)⟩, nI_clamp (by omega)]
    exact h.cpv (h op h4) (Or.inl rfl)
  · show CE _ p (e_set E va (0, 50, true))
    unfold m_act
    rw [if_neg (by decide), if_neg (by decide), if_neg (by decide), if_neg (by decide), if_pos (by decide), m_num_ks, m_nil_ks, kg_ks, ks_ks]
    exact h.set ⟨(by show (0 : Int32).toInt = 0; decide), (by show (50 : Int32).toInt = 50; decide), rfl⟩
  · show CE _ p E
    unfold m_act
    rw [if_neg (by decide), if_neg (by decide), if_neg (by decide), if_neg (by decide), if_neg (by decide)]
    exact h
theorem cl_acts {p k s : Nat} {D : DB} (hD : WB D s) (hsep : p + 4 ≤ k ∨ k + 4 ≤ p) : ∀ (n i : Nat) (μ : kt_M) (E : EV), i + n = db_na D → CB μ k D → e_v E → CE μ p E → CE (m_actsL p k n i μ) p (e_acts D n i E)
  | 0, _, _, _, _, _, _, h => h
  | n + 1, i, μ, E, hi, hC, hE, h => by
    rw [m_actsL, e_acts]
    obtain ⟨g1, g2, g3⟩ := hC.2.1 i (by omega)
    have hw := hD.2.1 i (by omega)
    have e1 : m_act1 μ p k i = m_act μ p (nI (db_ki D i)) (db_va D i) (kt_i μ (k + 3) i) := by
      unfold m_act1
      have hva := hw.2.1
      rw [g2, if_pos ⟨nI_pos' (by omega), nI_lt hva (by decide)⟩, g1, nI_clamp (by omega)]
    refine cl_acts hD hsep n (i + 1) _ _ (by omega) (hC.ext (fun x j h1 h2 => m_act1_out (by omega))) (hE.act hw) ?_
    rw [e1]
    exact cl_act h hE hw g3
theorem CE.cp {μ : kt_M} {p q : Nat} {E : EV} (h : CE μ q E) (hsep : p + 4 ≤ q ∨ q + 4 ≤ p) : CE (m_cp μ p q) p E := by
  have hs : ∀ (ν : kt_M) v w, m_cpv ν p v q w = ks ν p v (kg ν q w) := fun _ _ _ => rfl
  intro v hv
  unfold m_cp
  simp only [hs, kg_ks_far hsep, kg_ks_if]
  have : v = 0 ∨ v = 1 ∨ v = 2 ∨ v = 3 := by omega
  rcases this with e | e | e | e <;> subst e <;> simp <;> exact h _ (by decide)
theorem cr_nilb {t : kt_3} {r : R3} (h : Cr t r) : t.2.2 = 0 ↔ r.2.2 = false := by
  rw [h.2.2]; cases r.2.2 <;> simp
theorem cl_side {μ : kt_M} {p k x s : Nat} {D : DB} {E : EV} (hD : WB D s) (hC : CB μ k D) (hE : e_v E) (hx : x < 2) (h : CE μ p E) : CE (m_side μ p k (nI x)) p (e_side D x E) := by
  have hxs : nI x = 0 ↔ x = 0 := by
    have : x = 0 ∨ x = 1 := by omega
    rcases this with h | h <;> subst h <;> decide
  have hen := hD.2.2.1
  unfold m_side e_side
  by_cases ht : db_en D < 2
  · rw [if_pos ht, if_pos (Or.inl (by rw [hC.2.2.1]; have : db_en D = 0 ∨ db_en D = 1 := by omega
                                      rcases this with h | h <;> rw [h] <;> decide))]
    exact h
  · obtain ⟨-, hl, hrv, h0, h1⟩ := hD.2.2.2.2.1 (by omega)
    obtain ⟨-, c5, c6, c7⟩ := hC.2.2.2.2.1 (by omega)
    rw [if_neg ht, c5, c6, c7, hC.2.2.1]
    have hb : db_en D = 2 ∨ db_en D = 3 := by omega
    have htest : kb_test (nI (db_en D)) := by rcases hb with h | h <;> rw [h] <;> decide
    rw [if_neg (fun h => h.elim (fun h => h htest) (fun h => h ⟨nI_pos' (by omega), nI_lt hl (by decide)⟩)), nI_clamp (by omega)]
    have hVl := (hE _ hl).b
    have h2 : nI (db_en D) = 2 ↔ db_en D = 2 := by rcases hb with h | h <;> rw [h] <;> decide
    have hr : db_rv D = 0 ∨ db_rv D = 1 := by omega
    have l1 := h.lo hl
    have l2 := h.hi hl
    rcases hr with hr | hr
    · have hr50 := h0 hr
      rw [hr, if_pos (by decide), if_pos rfl]
      have t1 : (nI (db_rt D) - 1).toInt = (db_rt D : Int) - 1 := by
        rw [Int32.toInt_sub, nI_toInt (by omega), ki_1]; exact Int.bmod_eq_of_le (by omega) (by omega)
      have t2 : (nI (db_rt D) + 1).toInt = (db_rt D : Int) + 1 := by rw [nI_1, nI_toInt (by omega)]; omega
      by_cases e2 : db_en D = 2
      · rw [if_pos (h2.mpr e2), if_pos e2]
        unfold m_lessN
        by_cases ex : x = 0
        · rw [if_pos (hxs.mpr ex), if_pos ex]
          have := (h.cut (f := 0) (e := nI (db_rt D) - 1) hl).nil0 hl
          rw [e_set_e, t1, ki_0, e_set_set] at this
          exact this
        · rw [if_neg (fun h => ex (hxs.mp h)), if_neg ex]
          have := h.cut (f := nI (db_rt D)) (e := 50) hl
          rw [nI_toInt (by omega), ki_50] at this
          exact this
      · rw [if_neg (fun h => e2 (h2.mp h)), if_neg e2]
        unfold m_eqN
        by_cases ex : x = 0
        · rw [if_pos (hxs.mpr ex), if_pos ex]
          have := (h.cut (f := nI (db_rt D)) (e := nI (db_rt D)) hl).nil0 hl
          rw [e_set_e, nI_toInt (by omega), e_set_set] at this
          exact this
        · rw [if_neg (fun h => ex (hxs.mp h)), if_neg ex]
          unfold r_rm
          have q1 : kt_i μ (p + 1) (db_lf D) = nI (db_rt D) ↔ (E (db_lf D)).1 = (db_rt D : Int) := by
            rw [← Int32.toInt_inj, l1, nI_toInt (by omega)]
          have q2 : kt_i μ (p + 2) (db_lf D) = nI (db_rt D) ↔ (E (db_lf D)).2.1 = (db_rt D : Int) := by
            rw [← Int32.toInt_inj, l2, nI_toInt (by omega)]
          by_cases c1 : (E (db_lf D)).1 = (db_rt D : Int)
          · rw [if_pos (q1.mpr c1), if_pos c1]
            have := h.cut (f := nI (db_rt D) + 1) (e := 50) hl
            rw [t2, ki_50] at this
            exact this
          · rw [if_neg (fun h => c1 (q1.mp h)), if_neg c1]
            by_cases c2 : (E (db_lf D)).2.1 = (db_rt D : Int)
            · rw [if_pos (q2.mpr c2), if_pos c2]
              have := h.cut (f := 0) (e := nI (db_rt D) - 1) hl
              rw [t1, ki_0] at this
              exact this
            · rw [if_neg (fun h => c2 (q2.mp h)), if_neg c2]
              intro v hv
              unfold e_set
              split
              · rename_i c; rw [c]; exact h _ hl
              · exact h v hv
    · have hr4 := h1 hr
      have hVx := (hE _ hr4).b
      have m1 := h.lo hr4
      have m2 := h.hi hr4
      rw [hr, if_neg (show ¬ nI 1 = 0 by decide), if_pos ⟨nI_pos' (by omega), nI_lt hr4 (by decide)⟩, nI_clamp (by omega), if_neg (show ¬ (1 : Nat) = 0 by decide)]
      -- two cuts, then neither nil
      have two : ∀ (f1 e1 f2 e2 : Int32), CE (m_nil (m_nil (m_cut (m_cut μ p (db_lf D) f1 e1) p (db_rt D) f2 e2) p (db_lf D) 0) p (db_rt D) 0) p (e_two E (db_lf D) (db_rt D) f1.toInt e1.toInt f2.toInt e2.toInt) := by
        intro f1 e1 f2 e2
        have g := (((h.cut (f := f1) (e := e1) hl).cut (f := f2) (e := e2) hr4).nil0 hl).nil0 hr4
        intro v hv
        have g := g v hv
        unfold e_two
        by_cases ev : db_rt D = db_lf D
        · rw [← ev] at g ⊢
          simp only [e_set_e] at g ⊢
          unfold e_set at g ⊢
          by_cases c : v = db_rt D
          · simp only [c, if_true] at g ⊢
            have nn2 : ∀ (r : R3) (f t : Int), r_nn (r_cut (r_nn r) f t) = r_nn (r_cut r f t) := fun r f t => by unfold r_nn r_cut; dsimp only; split <;> rfl
            rw [nn2]
            have nn3 : ∀ r : R3, r_nn (r_nn r) = r_nn r := fun r => rfl
            rw [nn3] at g
            exact g
          · simp only [c, if_false] at g ⊢
            exact g
        · have ev2 : db_lf D ≠ db_rt D := fun h => ev h.symm
          simp only [e_set_e, e_set_n ev, e_set_n ev2] at g ⊢
          unfold e_set at g ⊢
          by_cases c : v = db_rt D
          · subst c; simp only [if_true, if_neg ev] at g ⊢; exact g
          · by_cases c2 : v = db_lf D
            · subst c2; simp only [c, if_true, if_false] at g ⊢; exact g
            · simp only [c, c2, if_false] at g ⊢; exact g
      by_cases e2 : db_en D = 2
      · rw [if_pos (h2.mpr e2), if_pos e2]
        unfold m_lessV
        by_cases ex : x = 0
        · rw [if_pos (hxs.mpr ex), if_pos ex]
          have := two 0 (kt_i μ (p + 2) (db_rt D) - 1) (kt_i μ (p + 1) (db_lf D) + 1) 50
          have t1 : (kt_i μ (p + 2) (db_rt D) - 1).toInt = (E (db_rt D)).2.1 - 1 := by
            rw [Int32.toInt_sub, m2, ki_1]; exact Int.bmod_eq_of_le (by omega) (by omega)
          have t2 : (kt_i μ (p + 1) (db_lf D) + 1).toInt = (E (db_lf D)).1 + 1 := by
            rw [pu_add32 (by rw [l1]; omega) (by decide), l1, ki_1]
          rw [t1, t2, ki_0, ki_50] at this
          exact this
        · rw [if_neg (fun h => ex (hxs.mp h)), if_neg ex]
          have n1 : kt_i μ (p + 3) (db_lf D) = 0 ↔ _ := cr_nilb (h _ hl)
          have n2 : kt_i μ (p + 3) (db_rt D) = 0 ↔ _ := cr_nilb (h _ hr4)
          by_cases en : (E (db_lf D)).2.2 = false ∧ (E (db_rt D)).2.2 = false
          · rw [if_pos ⟨n1.mpr en.1, n2.mpr en.2⟩, if_pos en]
            have := (h.cut (f := kt_i μ (p + 1) (db_rt D)) (e := 50) hl).cut (f := 0) (e := kt_i μ (p + 2) (db_lf D)) hr4
            rw [m1, l2, ki_0, ki_50] at this
            exact this
          · rw [if_neg (fun h => en ⟨n1.mp h.1, n2.mp h.2⟩), if_neg en]
            exact h
      · rw [if_neg (fun h => e2 (h2.mp h)), if_neg e2]
        unfold m_eqV
        by_cases ex : x = 0
        · rw [if_pos (hxs.mpr ex), if_pos ex]
          have := two (k_max (kt_i μ (p + 1) (db_lf D)) (kt_i μ (p + 1) (db_rt D))) (k_min (kt_i μ (p + 2) (db_lf D)) (kt_i μ (p + 2) (db_rt D))) (k_max (kt_i μ (p + 1) (db_lf D)) (kt_i μ (p + 1) (db_rt D))) (k_min (kt_i μ (p + 2) (db_lf D)) (kt_i μ (p + 2) (db_rt D)))
          have t1 : (k_max (kt_i μ (p + 1) (db_lf D)) (kt_i μ (p + 1) (db_rt D))).toInt = max (E (db_lf D)).1 (E (db_rt D)).1 := by
            unfold k_max
            rw [← l1, ← m1]
            split <;> (rename_i c; rw [Int32.lt_iff_toInt_lt] at c; omega)
          have t2 : (k_min (kt_i μ (p + 2) (db_lf D)) (kt_i μ (p + 2) (db_rt D))).toInt = min (E (db_lf D)).2.1 (E (db_rt D)).2.1 := by
            unfold k_min
            rw [← l2, ← m2]
            split <;> (rename_i c; rw [Int32.lt_iff_toInt_lt] at c; omega)
          rw [t1, t2] at this
          exact this
        · rw [if_neg (fun h => ex (hxs.mp h)), if_neg ex]
          exact h

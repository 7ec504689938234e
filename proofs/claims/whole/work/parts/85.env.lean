/-! PURE: the four variables' ranges; acts and sides of an end; growing -/
abbrev EV : Type := Nat → R3
def e_set (E : EV) (v : Nat) (r : R3) : EV := fun w => if w = v then r else E w
theorem e_set_e {E : EV} {v : Nat} {r : R3} : e_set E v r v = r := if_pos rfl
theorem e_set_n {E : EV} {v w : Nat} {r : R3} (h : w ≠ v) : e_set E v r w = E w := if_neg h
def e_act (E : EV) (ki va op : Nat) : EV := if ki = 0 then e_set E va ((op : Int), (op : Int), false) else if ki = 1 then e_set E va (r_sft (E va) op) else if ki = 2 then e_set E va (r_sft (E va) (-(op : Int))) else if ki = 3 then e_set E va (E op) else if ki = 4 then e_set E va (0, 50, true) else E
def e_acts (D : DB) : Nat → Nat → EV → EV
  | 0, _, E => E
  | n + 1, i, E => e_acts D n (i + 1) (e_act E (db_ki D i) (db_va D i) (db_op D i))
def e_all (D : DB) (E : EV) : EV := e_acts D (db_na D) 0 E
def e_two (E : EV) (v x : Nat) (f1 t1 f2 t2 : Int) : EV := e_set (e_set E v (r_nn (r_cut (E v) f1 t1))) x (r_nn (r_cut (e_set E v (r_nn (r_cut (E v) f1 t1)) x) f2 t2))
def e_twk (E : EV) (v x : Nat) (f1 t1 f2 t2 : Int) : EV := e_set (e_set E v (r_cut (E v) f1 t1)) x (r_cut (e_set E v (r_cut (E v) f1 t1) x) f2 t2)
def e_side (D : DB) (s : Nat) (E : EV) : EV :=
  if db_en D < 2 then E
  else if db_rv D = 0 then
    (if db_en D = 2 then (if s = 0 then e_set E (db_lf D) (r_nn (r_cut (E (db_lf D)) 0 ((db_rt D : Int) - 1))) else e_set E (db_lf D) (r_cut (E (db_lf D)) (db_rt D : Int) 50))
     else (if s = 0 then e_set E (db_lf D) (r_nn (r_cut (E (db_lf D)) (db_rt D : Int) (db_rt D : Int))) else e_set E (db_lf D) (r_rm (E (db_lf D)) (db_rt D : Int))))
  else
    (if db_en D = 2 then (if s = 0 then e_two E (db_lf D) (db_rt D) 0 ((E (db_rt D)).2.1 - 1) ((E (db_lf D)).1 + 1) 50
        else if (E (db_lf D)).2.2 = false ∧ (E (db_rt D)).2.2 = false then e_twk E (db_lf D) (db_rt D) (E (db_rt D)).1 50 0 (E (db_lf D)).2.1 else E)
     else (if s = 0 then e_two E (db_lf D) (db_rt D) (max (E (db_lf D)).1 (E (db_rt D)).1) (min (E (db_lf D)).2.1 (E (db_rt D)).2.1) (max (E (db_lf D)).1 (E (db_rt D)).1) (min (E (db_lf D)).2.1 (E (db_rt D)).2.1) else E))
def e_v (E : EV) : Prop := ∀ v, v < 4 → vr (E v)
def e_ok (E : EV) : Prop := ∀ v, v < 4 → r_ok (E v)
def r_le (r s : R3) : Prop := s.1 ≤ r.1 ∧ r.2.1 ≤ s.2.1 ∧ (r.2.2 = true → s.2.2 = true)
def e_le (E F : EV) : Prop := ∀ v, v < 4 → r_le (E v) (F v)
theorem r_le.refl {r : R3} : r_le r r := ⟨Int.le_refl _, Int.le_refl _, id⟩
theorem r_le.trans {r s t : R3} (h : r_le r s) (h2 : r_le s t) : r_le r t := ⟨Int.le_trans h2.1 h.1, Int.le_trans h.2.1 h2.2.1, fun h3 => h2.2.2 (h.2.2 h3)⟩
theorem r_le.anti {r s : R3} (h : r_le r s) (h2 : r_le s r) : r = s := by
  obtain ⟨a, b, c⟩ := r
  obtain ⟨a2, b2, c2⟩ := s
  unfold r_le at h h2
  simp only at h h2
  have e1 : a = a2 := by omega
  have e2 : b = b2 := by omega
  have e3 : c = c2 := by
    cases c <;> cases c2 <;> first | rfl | exact absurd (h.2.2 rfl) (by decide) | exact absurd (h2.2.2 rfl) (by decide)
  rw [e1, e2, e3]
theorem r_le.ok {r s : R3} (h : r_le r s) (h2 : r_ok r) : r_ok s := h2.elim (fun h3 => Or.inl (h.2.2 h3)) (fun h3 => Or.inr (by have := h.1; have := h.2.1; omega))
theorem r_le.bot {r : R3} (h : vr r) : r_le r0 r := by
  unfold r_le r0
  refine ⟨?_, ?_, fun h2 => by cases h2⟩ <;> (unfold vr at h; simp only; omega)
theorem r_le.cut {r s : R3} {f t f2 t2 : Int} (h : r_le r s) (hf : f2 ≤ f) (ht : t ≤ t2) (hs : vr s) (hf2 : 0 ≤ f2) (ht2 : t2 ≤ 50) : r_le (r_cut r f t) (r_cut s f2 t2) := by
  obtain ⟨a, b, c⟩ := r
  obtain ⟨a2, b2, c2⟩ := s
  unfold r_le vr at *
  unfold r_cut
  simp only at *
  refine ⟨?_, ?_, ?_⟩ <;> (split <;> split <;> simp only <;> first | omega | exact h.2.2)
theorem r_cut_le {r : R3} {f t : Int} (h : vr r) : r_le (r_cut r f t) r := by
  obtain ⟨a, b, c⟩ := r
  unfold r_le vr at *
  unfold r_cut
  simp only at *
  refine ⟨?_, ?_, ?_⟩ <;> (split <;> simp only <;> first | omega | exact id)
theorem r_le.nn {r s : R3} (h : r_le r s) : r_le (r_nn r) (r_nn s) := ⟨h.1, h.2.1, fun h2 => by cases h2⟩
theorem r_le.rm {r s : R3} {x : Int} (h : r_le r s) (hr : vr r) (hs : vr s) (hx : 0 ≤ x ∧ x ≤ 50) : r_le (r_rm r x) (r_rm s x) := by
  obtain ⟨a, b, c⟩ := r
  obtain ⟨a2, b2, c2⟩ := s
  unfold r_le vr at *
  unfold r_rm r_cut
  simp only at *
  refine ⟨?_, ?_, ?_⟩ <;> (repeat' split) <;> simp only at * <;> first | omega | exact h.2.2
theorem r_le.sft {r s : R3} {k : Int} (h : r_le r s) (hr : vr r) (hs : vr s) : r_le (r_sft r k) (r_sft s k) := by
  obtain ⟨a, b, c⟩ := r
  obtain ⟨a2, b2, c2⟩ := s
  unfold r_le vr at *
  unfold r_sft r_cl
  simp only at *
  refine ⟨?_, ?_, ?_⟩ <;> (split <;> split <;> simp only <;> first | omega | exact h.2.2)
theorem r_le.jn {r s t : R3} (h : r_le r t) (h2 : r_le s t) : r_le (r_jn r s) t := by
  unfold r_le r_jn at *
  simp only at *
  refine ⟨by omega, by omega, fun h3 => ?_⟩
  rw [Bool.or_eq_true] at h3
  exact h3.elim h.2.2 h2.2.2
theorem r_jn_l {r s : R3} : r_le r (r_jn r s) := by
  unfold r_le r_jn
  refine ⟨by simp only; omega, by simp only; omega, fun h3 => by simp only; rw [h3]; rfl⟩
theorem r_jn_r {r s : R3} : r_le s (r_jn r s) := by
  unfold r_le r_jn
  refine ⟨by simp only; omega, by simp only; omega, fun h3 => by simp only; rw [h3, Bool.or_true]⟩
theorem r_jn_eq {r s : R3} (h : r_le s r) : r_jn r s = r := (r_le.jn r_le.refl h).anti r_jn_l
theorem e_le.refl {E : EV} : e_le E E := fun _ _ => r_le.refl
theorem e_le.trans {E F G : EV} (h : e_le E F) (h2 : e_le F G) : e_le E G := fun v hv => (h v hv).trans (h2 v hv)
theorem e_le.ok {E F : EV} (h : e_le E F) (h2 : e_ok E) : e_ok F := fun v hv => (h v hv).ok (h2 v hv)
theorem e_le.set {E F : EV} {v : Nat} {r s : R3} (h : e_le E F) (h2 : r_le r s) : e_le (e_set E v r) (e_set F v s) := fun w hw => by
  unfold e_set; split
  · exact h2
  · exact h w hw
theorem e_v.set {E : EV} {v : Nat} {r : R3} (h : e_v E) (h2 : vr r) : e_v (e_set E v r) := fun w hw => by
  unfold e_set; split
  · exact h2
  · exact h w hw
theorem e_ok.set {E : EV} {v : Nat} {r : R3} (h : e_ok E) (h2 : r_ok r) : e_ok (e_set E v r) := fun w hw => by
  unfold e_set; split
  · exact h2
  · exact h w hw
/-- what is known of an act -/
def wA (ki va op : Nat) : Prop := ki ≤ 5 ∧ va < 4 ∧ (ki < 3 → op ≤ 50) ∧ (ki = 3 → op < 4)
theorem e_v.act {E : EV} {ki va op : Nat} (h : e_v E) (hw : wA ki va op) : e_v (e_act E ki va op) := by
  unfold e_act
  repeat' split
  · refine h.set (Or.inl ?_); simp only; have := hw.2.2.1 (by omega); omega
  · exact h.set (h _ hw.2.1).sft
  · exact h.set (h _ hw.2.1).sft
  · exact h.set (h _ (hw.2.2.2 (by omega)))
  · exact h.set (Or.inl (by decide))
  · exact h
theorem r_sft_ok {r : R3} {k : Int} (h : r_ok r) : r_ok (r_sft r k) := by
  unfold r_sft r_ok r_cl at *
  split
  · rcases h with h | h
    · exact Or.inl h
    · right; simp only; omega
  · exact h
theorem e_ok.act {E : EV} {ki va op : Nat} (h : e_ok E) (hw : wA ki va op) : e_ok (e_act E ki va op) := by
  unfold e_act
  repeat' split
  · exact h.set (Or.inr (Int.le_refl _))
  · exact h.set (r_sft_ok (h _ hw.2.1))
  · exact h.set (r_sft_ok (h _ hw.2.1))
  · exact h.set (h _ (hw.2.2.2 (by omega)))
  · exact h.set (Or.inl rfl)
  · exact h
theorem e_le.act {E F : EV} {ki va op : Nat} (h : e_le E F) (hE : e_v E) (hF : e_v F) (hw : wA ki va op) : e_le (e_act E ki va op) (e_act F ki va op) := by
  unfold e_act
  repeat' split
  · exact h.set r_le.refl
  · exact h.set ((h _ hw.2.1).sft (hE _ hw.2.1) (hF _ hw.2.1))
  · exact h.set ((h _ hw.2.1).sft (hE _ hw.2.1) (hF _ hw.2.1))
  · exact h.set (h _ (hw.2.2.2 (by omega)))
  · exact h.set r_le.refl
  · exact h
theorem e_v.acts {D : DB} {s : Nat} (hD : WB D s) : ∀ (n i : Nat) (E : EV), i + n = db_na D → e_v E → e_v (e_acts D n i E)
  | 0, _, _, _, h => h
  | n + 1, i, E, hi, h => e_v.acts hD n (i + 1) _ (by omega) (h.act (hD.2.1 i (by omega)))
theorem e_ok.acts {D : DB} {s : Nat} (hD : WB D s) : ∀ (n i : Nat) (E : EV), i + n = db_na D → e_ok E → e_ok (e_acts D n i E)
  | 0, _, _, _, h => h
  | n + 1, i, E, hi, h => e_ok.acts hD n (i + 1) _ (by omega) (h.act (hD.2.1 i (by omega)))
theorem e_le.acts {D : DB} {s : Nat} (hD : WB D s) : ∀ (n i : Nat) (E F : EV), i + n = db_na D → e_v E → e_v F → e_le E F → e_le (e_acts D n i E) (e_acts D n i F)
  | 0, _, _, _, _, _, _, h => h
  | n + 1, i, E, F, hi, hE, hF, h => e_le.acts hD n (i + 1) _ _ (by omega) (hE.act (hD.2.1 i (by omega))) (hF.act (hD.2.1 i (by omega))) (h.act hE hF (hD.2.1 i (by omega)))
theorem e_v.all {D : DB} {s : Nat} (hD : WB D s) {E : EV} (h : e_v E) : e_v (e_all D E) := e_v.acts hD _ _ _ (by omega) h
theorem e_ok.all {D : DB} {s : Nat} (hD : WB D s) {E : EV} (h : e_ok E) : e_ok (e_all D E) := e_ok.acts hD _ _ _ (by omega) h
theorem e_le.all {D : DB} {s : Nat} (hD : WB D s) {E F : EV} (h : e_le E F) (hE : e_v E) (hF : e_v F) : e_le (e_all D E) (e_all D F) := e_le.acts hD _ _ _ _ (by omega) hE hF h
theorem e_v.two {E : EV} {v x : Nat} {f1 t1 f2 t2 : Int} (h : e_v E) (hv : v < 4) (hx : x < 4) (h1 : 0 ≤ f1) (h2 : t1 ≤ 50) (h3 : 0 ≤ f2) (h4 : t2 ≤ 50) : e_v (e_two E v x f1 t1 f2 t2) := by
  have h5 : e_v (e_set E v (r_nn (r_cut (E v) f1 t1))) := h.set ((h v hv).cut h1 h2).nn
  exact h5.set ((h5 x hx).cut h3 h4).nn
theorem e_v.twk {E : EV} {v x : Nat} {f1 t1 f2 t2 : Int} (h : e_v E) (hv : v < 4) (hx : x < 4) (h1 : 0 ≤ f1) (h2 : t1 ≤ 50) (h3 : 0 ≤ f2) (h4 : t2 ≤ 50) : e_v (e_twk E v x f1 t1 f2 t2) := by
  have h5 : e_v (e_set E v (r_cut (E v) f1 t1)) := h.set ((h v hv).cut h1 h2)
  exact h5.set ((h5 x hx).cut h3 h4)
theorem e_le.two {E F : EV} {v x : Nat} {f1 t1 f2 t2 g1 u1 g2 u2 : Int} (h : e_le E F) (hF : e_v F) (hv : v < 4) (hx : x < 4) (h1 : 0 ≤ g1 ∧ g1 ≤ f1) (h2 : t1 ≤ u1 ∧ u1 ≤ 50) (h3 : 0 ≤ g2 ∧ g2 ≤ f2) (h4 : t2 ≤ u2 ∧ u2 ≤ 50) : e_le (e_two E v x f1 t1 f2 t2) (e_two F v x g1 u1 g2 u2) := by
  have h5 : e_v (e_set F v (r_nn (r_cut (F v) g1 u1))) := hF.set ((hF v hv).cut h1.1 h2.2).nn
  have h6 : e_le (e_set E v (r_nn (r_cut (E v) f1 t1))) (e_set F v (r_nn (r_cut (F v) g1 u1))) := h.set ((h v hv).cut h1.2 h2.1 (hF v hv) h1.1 h2.2).nn
  exact h6.set ((h6 x hx).cut h3.2 h4.1 (h5 x hx) h3.1 h4.2).nn
theorem e_le.twk {E F : EV} {v x : Nat} {f1 t1 f2 t2 g1 u1 g2 u2 : Int} (h : e_le E F) (hF : e_v F) (hv : v < 4) (hx : x < 4) (h1 : 0 ≤ g1 ∧ g1 ≤ f1) (h2 : t1 ≤ u1 ∧ u1 ≤ 50) (h3 : 0 ≤ g2 ∧ g2 ≤ f2) (h4 : t2 ≤ u2 ∧ u2 ≤ 50) : e_le (e_twk E v x f1 t1 f2 t2) (e_twk F v x g1 u1 g2 u2) := by
  have h5 : e_v (e_set F v (r_cut (F v) g1 u1)) := hF.set ((hF v hv).cut h1.1 h2.2)
  have h6 : e_le (e_set E v (r_cut (E v) f1 t1)) (e_set F v (r_cut (F v) g1 u1)) := h.set ((h v hv).cut h1.2 h2.1 (hF v hv) h1.1 h2.2)
  exact h6.set ((h6 x hx).cut h3.2 h4.1 (h5 x hx) h3.1 h4.2)
theorem e_twk_le {E : EV} {v x : Nat} {f1 t1 f2 t2 : Int} (h : e_v E) (hv : v < 4) (hx : x < 4) (h1 : 0 ≤ f1) (h2 : t1 ≤ 50) : e_le (e_twk E v x f1 t1 f2 t2) E := by
  have h5 : e_v (e_set E v (r_cut (E v) f1 t1)) := h.set ((h v hv).cut h1 h2)
  have h6 : e_le (e_set E v (r_cut (E v) f1 t1)) E := fun w hw => by
    unfold e_set; split
    · rename_i e; rw [e]; exact r_cut_le (h v hv)
    · exact r_le.refl
  intro w hw
  unfold e_twk
  by_cases e : w = x
  · subst e; rw [e_set_e]; exact (r_cut_le (h5 w hw)).trans (h6 w hw)
  · rw [e_set_n e]; exact h6 w hw
theorem vr.b {r : R3} (h : vr r) : 0 ≤ r.1 ∧ r.1 ≤ 51 ∧ -1 ≤ r.2.1 ∧ r.2.1 ≤ 50 := by unfold vr at h; omega
theorem e_v.side {D : DB} {s x : Nat} (hD : WB D s) {E : EV} (h : e_v E) : e_v (e_side D x E) := by
  unfold e_side
  by_cases e : db_en D < 2
  · rw [if_pos e]; exact h
  rw [if_neg e]
  obtain ⟨-, hl, hr, h0, h1⟩ := hD.2.2.2.2.1 (by omega)
  have hb := (h _ hl).b
  repeat' split
  · exact h.set ((h _ hl).cut (by decide) (by have := h0 (by assumption); omega)).nn
  · exact h.set ((h _ hl).cut (by omega) (by decide))
  · exact h.set ((h _ hl).cut (by omega) (by have := h0 (by assumption); omega)).nn
  · exact h.set ((h _ hl).rm (by omega) (by have := h0 (by assumption); omega))
  · have hx := h1 (by omega); have hb2 := (h _ hx).b
    exact h.two hl hx (by decide) (by omega) (by omega) (by decide)
  · have hx := h1 (by omega); have hb2 := (h _ hx).b
    exact h.twk hl hx (by omega) (by decide) (by decide) (by omega)
  · exact h
  · have hx := h1 (by omega); have hb2 := (h _ hx).b
    exact h.two hl hx (by omega) (by omega) (by omega) (by omega)
  · exact h
theorem e_le.side {D : DB} {s x : Nat} (hD : WB D s) {E F : EV} (h : e_le E F) (hE : e_v E) (hF : e_v F) : e_le (e_side D x E) (e_side D x F) := by
  unfold e_side
  by_cases e : db_en D < 2
  · rw [if_pos e, if_pos e]; exact h
  rw [if_neg e, if_neg e]
  obtain ⟨-, hl, hr, h0, h1⟩ := hD.2.2.2.2.1 (by omega)
  have hb := (hE _ hl).b
  have gb := (hF _ hl).b
  have hL := h _ hl
  by_cases er : db_rv D = 0
  · rw [if_pos er, if_pos er]
    have hr0 := h0 er
    by_cases e2 : db_en D = 2
    · rw [if_pos e2, if_pos e2]
      by_cases ex : x = 0
      · rw [if_pos ex, if_pos ex]
        exact h.set (hL.cut (Int.le_refl _) (Int.le_refl _) (hF _ hl) (by decide) (by omega)).nn
      · rw [if_neg ex, if_neg ex]
        exact h.set (hL.cut (Int.le_refl _) (Int.le_refl _) (hF _ hl) (by omega) (by decide))
    · rw [if_neg e2, if_neg e2]
      by_cases ex : x = 0
      · rw [if_pos ex, if_pos ex]
        exact h.set (hL.cut (Int.le_refl _) (Int.le_refl _) (hF _ hl) (by omega) (by omega)).nn
      · rw [if_neg ex, if_neg ex]
        exact h.set (hL.rm (hE _ hl) (hF _ hl) (by omega))
  · rw [if_neg er, if_neg er]
    have hx := h1 (by omega)
    have hb2 := (hE _ hx).b
    have gb2 := (hF _ hx).b
    have hX := h _ hx
    unfold r_le at hL hX
    by_cases e2 : db_en D = 2
    · rw [if_pos e2, if_pos e2]
      by_cases ex : x = 0
      · rw [if_pos ex, if_pos ex]
        exact h.two hF hl hx (by omega) (by omega) (by omega) (by omega)
      · rw [if_neg ex, if_neg ex]
        by_cases en : (F (db_lf D)).2.2 = false ∧ (F (db_rt D)).2.2 = false
        · have en2 : (E (db_lf D)).2.2 = false ∧ (E (db_rt D)).2.2 = false := by
            constructor
            · cases hc : (E (db_lf D)).2.2 with
              | false => rfl
              | true => have := hL.2.2 hc; rw [en.1] at this; cases this
            · cases hc : (E (db_rt D)).2.2 with
              | false => rfl
              | true => have := hX.2.2 hc; rw [en.2] at this; cases this
          rw [if_pos en, if_pos en2]
          exact h.twk hF hl hx (by omega) (by omega) (by omega) (by omega)
        · rw [if_neg en]
          split
          · exact (e_twk_le hE hl hx (by omega) (by decide)).trans h
          · exact h
    · rw [if_neg e2, if_neg e2]
      by_cases ex : x = 0
      · rw [if_pos ex, if_pos ex]
        exact h.two hF hl hx (by omega) (by omega) (by omega) (by omega)
      · rw [if_neg ex, if_neg ex]; exact h

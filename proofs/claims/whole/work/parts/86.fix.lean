/-! PURE: least fixed points -/
theorem e_one {D : DB} {s : Nat} (hD : WB D s) {E : EV} (hE : e_v E) (hk : e_ok E) (ht : 2 ≤ db_en D) : e_ok (e_side D 0 E) ∨ e_ok (e_side D 1 E) := by
  obtain ⟨-, hl, hr, h0, h1⟩ := hD.2.2.2.2.1 ht
  unfold e_side
  rw [if_neg (show ¬ db_en D < 2 by omega), if_neg (show ¬ db_en D < 2 by omega)]
  have hv := hE _ hl
  have ho := hk _ hl
  unfold vr at hv
  unfold r_ok at ho
  by_cases er : db_rv D = 0
  · rw [if_pos er, if_pos er]
    have hr0 := h0 er
    by_cases e2 : db_en D = 2
    · rw [if_pos e2, if_pos e2, if_pos rfl, if_neg (by decide)]
      by_cases hn : (E (db_lf D)).2.2 = true
      · right
        refine hk.set (Or.inl ?_)
        unfold r_cut; split <;> exact hn
      · rcases ho with ho | ho
        · exact absurd ho hn
        by_cases hc : (E (db_lf D)).1 < db_rt D
        · left
          refine hk.set (Or.inr ?_)
          unfold r_nn r_cut
          rw [if_pos (by omega)]; simp only; omega
        · right
          refine hk.set (Or.inr ?_)
          unfold r_cut
          rw [if_pos (by omega)]; simp only; omega
    · rw [if_neg e2, if_neg e2, if_pos rfl, if_neg (by decide)]
      by_cases hn : (E (db_lf D)).2.2 = true
      · right
        refine hk.set (Or.inl ?_)
        unfold r_rm r_cut; repeat' split
        all_goals exact hn
      · rcases ho with ho | ho
        · exact absurd ho hn
        by_cases hc : (E (db_lf D)).1 = db_rt D ∧ (E (db_lf D)).2.1 = db_rt D
        · left
          refine hk.set (Or.inr ?_)
          unfold r_nn r_cut
          rw [if_pos (by omega)]; simp only; omega
        · right
          refine hk.set (Or.inr ?_)
          unfold r_rm r_cut
          split
          · rw [if_pos (by omega)]; simp only; omega
          · split
            · rw [if_pos (by omega)]; simp only; omega
            · exact ho
  · rw [if_neg er, if_neg er]
    have hx := h1 (by omega)
    have hv2 := hE _ hx
    have ho2 := hk _ hx
    unfold vr at hv2
    unfold r_ok at ho2
    by_cases e2 : db_en D = 2
    · rw [if_pos e2, if_pos e2, if_pos rfl, if_neg (by decide)]
      by_cases en : (E (db_lf D)).2.2 = false ∧ (E (db_rt D)).2.2 = false
      · rw [if_pos en]
        rw [en.1] at ho
        rw [en.2] at ho2
        simp only [Bool.false_eq_true, false_or] at ho ho2
        by_cases ev : db_lf D = db_rt D
        · right
          have hsame : r_cut (E (db_lf D)) (E (db_rt D)).1 50 = E (db_lf D) := by
            rw [← ev]
            unfold r_cut
            have e1 : max (E (db_lf D)).1 (E (db_lf D)).1 = (E (db_lf D)).1 := by omega
            have e3 : min 50 (E (db_lf D)).2.1 = (E (db_lf D)).2.1 := by omega
            rw [e1, e3, if_pos ho]
          intro w hw
          unfold e_twk
          by_cases e4 : w = db_rt D
          · rw [e4, e_set_e]
            right
            rw [hsame]
            unfold e_set
            rw [if_pos ev.symm]
            unfold r_cut
            rw [if_pos (by omega)]; simp only; omega
          · rw [e_set_n e4, e_set_n (by rw [ev]; exact e4)]; exact hk w hw
        · by_cases hc : (E (db_lf D)).1 < (E (db_rt D)).2.1
          · left
            intro w hw
            unfold e_two
            by_cases e4 : w = db_rt D
            · rw [e4, e_set_e, e_set_n (Ne.symm ev)]
              right
              unfold r_nn r_cut
              rw [if_pos (by omega)]; simp only; omega
            · rw [e_set_n e4]
              by_cases e5 : w = db_lf D
              · rw [e5, e_set_e]
                right
                unfold r_nn r_cut
                rw [if_pos (by omega)]; simp only; omega
              · rw [e_set_n e5]; exact hk w hw
          · right
            intro w hw
            unfold e_twk
            by_cases e4 : w = db_rt D
            · rw [e4, e_set_e, e_set_n (Ne.symm ev)]
              right
              unfold r_cut
              rw [if_pos (by omega)]; simp only; omega
            · rw [e_set_n e4]
              by_cases e5 : w = db_lf D
              · rw [e5, e_set_e]
                right
                unfold r_cut
                rw [if_pos (by omega)]; simp only; omega
              · rw [e_set_n e5]; exact hk w hw
      · rw [if_neg en]; exact Or.inr hk
    · rw [if_neg e2, if_neg e2, if_neg (show ¬ (1 : Nat) = 0 by decide)]; exact Or.inr hk
abbrev AV : Type := Nat → EV
/-- along an edge, by what is before its block -/
def a_al (P : DP) (A : AV) (b x : Nat) : EV := e_side (P.2 b) x (e_all (P.2 b) (A b))
def a_v (A : AV) : Prop := ∀ b, b < 16 → e_v (A b)
def a_le (A B : AV) : Prop := ∀ b, b < 16 → e_le (A b) (B b)
def rN : R3 := (51, -1, true)
def PF (P : DP) (A : AV) : Prop := (0 < P.1 → ∀ v, v < 4 → r_le rN (A 0 v)) ∧ ∀ b, b < P.1 → e_ok (A b) → ∀ x, x < db_ne (P.2 b) → e_ok (a_al P A b x) → e_le (a_al P A b x) (A (db_tg (P.2 b) x))
/-- what holds on the way to the least fixed point -/
def JF (P : DP) (A : AV) : Prop := a_v A ∧ (∀ b, b < 16 → e_ok (A b) ∨ ∀ v, v < 4 → A b v = r0) ∧ (0 < P.1 → ∀ v, v < 4 → r_le rN (A 0 v)) ∧ ∀ B, a_v B → PF P B → a_le A B
def LF (P : DP) (A : AV) : Prop := JF P A ∧ PF P A
theorem LF.uniq {P : DP} {A B : AV} (h : LF P A) (h2 : LF P B) {b v : Nat} (hb : b < 16) (hv : v < 4) : A b v = B b v := (h.1.2.2.2 B h2.1.1 h2.2 b hb v hv).anti (h2.1.2.2.2 A h.1.1 h.2 b hb v hv)
def a_up (A : AV) (t : Nat) (E : EV) : AV := fun b v => if b = t then r_jn (A t v) (E v) else A b v
theorem a_up_le {A : AV} {t : Nat} {E : EV} : a_le A (a_up A t E) := fun b _ v _ => by
  unfold a_up; split
  · rename_i e; rw [e]; exact r_jn_l
  · exact r_le.refl
theorem e_v.al {P : DP} {A : AV} {b x N : Nat} (hP : WP P N) (hb : b < P.1) (hA : e_v (A b)) : e_v (a_al P A b x) := ((hA.all (hP.2 b hb))).side (hP.2 b hb)
theorem a_al_mono {P : DP} {A B : AV} {b x N : Nat} (hP : WP P N) (hb : b < P.1) (hA : e_v (A b)) (hB : e_v (B b)) (h : e_le (A b) (B b)) : e_le (a_al P A b x) (a_al P B b x) := e_le.side (hP.2 b hb) (h.all (hP.2 b hb) hA hB) (hA.all (hP.2 b hb)) (hB.all (hP.2 b hb))
theorem JF.step {P : DP} {A : AV} {b x : Nat} (hP : WP P 16) (h : JF P A) (hb : b < P.1) (hk : e_ok (A b)) (hx : x < db_ne (P.2 b)) (ho : e_ok (a_al P A b x)) : JF P (a_up A (db_tg (P.2 b) x) (a_al P A b x)) := by
  obtain ⟨h1, h2, h3, h4⟩ := h
  have hb16 : b < 16 := by have := hP.1; omega
  have ht : db_tg (P.2 b) x < P.1 := (hP.2 b hb).tg hx
  refine ⟨fun c hc v hv => ?_, fun c hc => ?_, fun h0 v hv => (h3 h0 v hv).trans (a_up_le 0 (by omega) v hv), fun B hB hPF c hc v hv => ?_⟩
  · unfold a_up; split
    · exact (h1 _ (by have := hP.1; omega) v hv).jn (e_v.al hP hb (h1 b hb16) v hv)
    · exact h1 c hc v hv
  · by_cases e : c = db_tg (P.2 b) x
    · left
      intro v hv
      unfold a_up
      rw [if_pos e]
      exact r_jn_r.ok (ho v hv)
    · rcases h2 c hc with h5 | h5
      · left; intro v hv; unfold a_up; rw [if_neg e]; exact h5 v hv
      · right; intro v hv; unfold a_up; rw [if_neg e]; exact h5 v hv
  · have hAB := h4 B hB hPF
    unfold a_up
    split
    · rename_i e
      subst e
      have hm := a_al_mono (x := x) hP hb (h1 b hb16) (hB b hb16) (hAB b hb16)
      have := hPF.2 b hb ((hAB b hb16).ok hk) x hx (hm.ok ho)
      exact (hAB _ hc v hv).jn ((hm v hv).trans (this v hv))
    · exact hAB c hc v hv
def a_0 (P : DP) : AV := fun b _ => if b = 0 ∧ 0 < P.1 then rN else r0
theorem JF.start (P : DP) : JF P (a_0 P) := by
  refine ⟨fun b _ v _ => ?_, fun b _ => ?_, fun h v _ => ?_, fun B hB hPF b hb v hv => ?_⟩
  · unfold a_0; split <;> exact Or.inr ⟨rfl, rfl⟩
  · unfold a_0
    by_cases e : b = 0 ∧ 0 < P.1
    · left; intro v _; simp only [if_pos e]; exact Or.inl rfl
    · right; intro v _; simp only [if_neg e]
  · unfold a_0; rw [if_pos ⟨rfl, h⟩]; exact r_le.refl
  · unfold a_0; split
    · rename_i e; rw [e.1]; exact hPF.1 e.2 v hv
    · exact r_le.bot (hB b hb v hv)
/-! how much there is: at most 3328 -/
def r_w (r : R3) : Nat := (if r.1 ≤ r.2.1 then (r.2.1 - r.1 + 1).toNat else 0) + (if r.2.2 = true then 1 else 0)
def sumF (f : Nat → Nat) : Nat → Nat
  | 0 => 0
  | n + 1 => sumF f n + f n
theorem sumF_le {f g : Nat → Nat} : ∀ n, (∀ i, i < n → f i ≤ g i) → sumF f n ≤ sumF g n
  | 0, _ => Nat.le_refl _
  | n + 1, h => Nat.add_le_add (sumF_le n (fun i hi => h i (by omega))) (h n (by omega))
theorem sumF_lt {f g : Nat → Nat} : ∀ n, (∀ i, i < n → f i ≤ g i) → ∀ j, j < n → f j < g j → sumF f n < sumF g n
  | 0, _, _, hj, _ => by omega
  | n + 1, h, j, hj, hl => by
    unfold sumF
    by_cases e : j = n
    · subst e
      have := sumF_le j (fun i hi => h i (by omega))
      omega
    · have := sumF_lt n (fun i hi => h i (by omega)) j (by omega) hl
      have := h n (by omega)
      omega
theorem sumF_const {c : Nat} : ∀ n, sumF (fun _ => c) n = n * c
  | 0 => by simp [sumF]
  | n + 1 => by rw [sumF, sumF_const n, Nat.succ_mul]
def a_w (A : AV) : Nat := sumF (fun i => r_w (A (i / 4) (i % 4))) 64
theorem r_w_le {r : R3} (h : vr r) : r_w r ≤ 52 := by
  unfold r_w vr at *
  split <;> split <;> omega
theorem r_w_mono {r s : R3} (h : r_le r s) (hr : vr r) (hs : vr s) : r_w r ≤ r_w s := by
  obtain ⟨a, b, c⟩ := r
  obtain ⟨a2, b2, c2⟩ := s
  unfold r_w vr r_le at *
  simp only at *
  cases c <;> cases c2 <;> simp at h ⊢ <;> (repeat' split) <;> omega
theorem r_w_lt {r s : R3} (h : r_le r s) (hr : vr r) (hs : vr s) (hne : r ≠ s) : r_w r < r_w s := by
  obtain ⟨a, b, c⟩ := r
  obtain ⟨a2, b2, c2⟩ := s
  have hne2 : ¬ (a = a2 ∧ b = b2 ∧ c = c2) := fun h => hne (by rw [h.1, h.2.1, h.2.2])
  unfold r_w vr r_le at *
  simp only at *
  cases c <;> cases c2 <;> simp at h hne2 ⊢ <;> (repeat' split) <;> omega
theorem a_w_le {A : AV} (h : a_v A) : a_w A ≤ 3328 := by
  unfold a_w
  refine Nat.le_trans (sumF_le 64 (g := fun _ => 52) (fun i hi => r_w_le (h _ (by omega) _ (by omega)))) ?_
  rw [sumF_const]; decide
theorem a_w_mono {A B : AV} (h : a_le A B) (hA : a_v A) (hB : a_v B) : a_w A ≤ a_w B := sumF_le 64 (fun i hi => r_w_mono (h _ (by omega) _ (by omega)) (hA _ (by omega) _ (by omega)) (hB _ (by omega) _ (by omega)))
theorem a_w_lt {A B : AV} (h : a_le A B) (hA : a_v A) (hB : a_v B) {b v : Nat} (hb : b < 16) (hv : v < 4) (hne : A b v ≠ B b v) : a_w A < a_w B := by
  refine sumF_lt 64 (fun i hi => r_w_mono (h _ (by omega) _ (by omega)) (hA _ (by omega) _ (by omega)) (hB _ (by omega) _ (by omega))) (4 * b + v) (by omega) ?_
  rw [show (4 * b + v) / 4 = b from by omega, show (4 * b + v) % 4 = v from by omega]
  exact r_w_lt (h b hb v hv) (hA b hb v hv) (hB b hb v hv) hne

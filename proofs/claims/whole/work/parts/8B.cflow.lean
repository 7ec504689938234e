/-! PURE: the class's flow: joining, entering, leaving -/
theorem cl_all {μ : kt_M} {p : Nat} {E : EV} (h : CE μ p E) : m_all μ p ↔ e_ok E := by
  have hs : ∀ v, v < 4 → (m_some μ p v ↔ r_ok (E v)) := fun v hv => by
    unfold m_some r_ok
    rw [Int32.le_iff_toInt_le, h.lo hv, h.hi hv, h.nl hv]
    cases (E v).2.2 <;> simp
  unfold m_all
  rw [hs 0 (by decide), hs 1 (by decide), hs 2 (by decide), hs 3 (by decide)]
  constructor
  · rintro ⟨h0, h1, h2, h3⟩ v hv
    have : v = 0 ∨ v = 1 ∨ v = 2 ∨ v = 3 := by omega
    rcases this with e | e | e | e <;> subst e <;> assumption
  · intro h; exact ⟨h 0 (by decide), h 1 (by decide), h 2 (by decide), h 3 (by decide)⟩
theorem r_jn_same {r s : R3} : r_jn r s = r ↔ r.1 ≤ s.1 ∧ s.2.1 ≤ r.2.1 ∧ (s.2.2 = true → r.2.2 = true) := by
  obtain ⟨a, b, c⟩ := r
  obtain ⟨a2, b2, c2⟩ := s
  unfold r_jn
  simp only [Prod.mk.injEq]
  cases c <;> cases c2 <;> simp <;> omega
theorem cl_join1 {μ : kt_M} {p q v : Nat} {g : Int32} {E F : EV} (hp : CE μ p E) (hq : CE μ q F) (hsep : p + 4 ≤ q ∨ q + 4 ≤ p) (hv : v < 4) : ∃ t g2, m_join1 μ p q v g = (ks μ p v t, g2) ∧ Cr t (r_jn (E v) (F v)) ∧ ((g2 = g ∧ r_jn (E v) (F v) = E v) ∨ (g2 = 1 ∧ r_jn (E v) (F v) ≠ E v)) := by
  have e1 := hp.lo hv
  have e2 := hp.hi hv
  have e3 := hp.nl hv
  have f1 := hq.lo hv
  have f2 := hq.hi hv
  have f3 := hq.nl hv
  rw [r_jn_same]
  have c1 : kt_i μ (p + 1) v ≤ kt_i μ (q + 1) v ↔ (E v).1 ≤ (F v).1 := by rw [Int32.le_iff_toInt_le, e1, f1]
  have c2 : kt_i μ (q + 2) v ≤ kt_i μ (p + 2) v ↔ (F v).2.1 ≤ (E v).2.1 := by rw [Int32.le_iff_toInt_le, e2, f2]
  have c3 : (kt_i μ (q + 3) v = 0 ∨ ¬ kt_i μ (p + 3) v = 0) ↔ ((F v).2.2 = true → (E v).2.2 = true) := by
    rw [e3, f3]; cases (E v).2.2 <;> cases (F v).2.2 <;> simp
  refine ⟨((if (E v).1 ≤ (F v).1 then kt_i μ (p + 1) v else kt_i μ (q + 1) v), (if (F v).2.1 ≤ (E v).2.1 then kt_i μ (p + 2) v else kt_i μ (q + 2) v), (if ((F v).2.2 = true → (E v).2.2 = true) then kt_i μ (p + 3) v else 1)), (if (E v).1 ≤ (F v).1 ∧ (F v).2.1 ≤ (E v).2.1 ∧ ((F v).2.2 = true → (E v).2.2 = true) then g else 1), ?_, ?_, ?_⟩
  · unfold m_join1
    dsimp only
    by_cases d1 : (E v).1 ≤ (F v).1
    · rw [if_pos (c1.mpr d1)]
      by_cases d2 : (F v).2.1 ≤ (E v).2.1
      · dsimp only
        rw [if_pos (c2.mpr d2)]
        dsimp only
        by_cases d3 : (F v).2.2 = true → (E v).2.2 = true
        · rw [if_pos (c3.mpr d3), if_pos d1, if_pos d2, if_pos d3, if_pos ⟨d1, d2, d3⟩]
          exact Prod.ext ks_kg.symm rfl
        · rw [if_neg (fun h => d3 (c3.mp h)), if_pos d1, if_pos d2, if_neg d3, if_neg (fun h => d3 h.2.2)]
          exact Prod.ext ks_3 rfl
      · dsimp only
        rw [if_neg (fun h => d2 (c2.mp h))]
        dsimp only
        rw [kt_i_sin (show q + 3 ≠ p + 2 by omega), kt_i_sin (show p + 3 ≠ p + 2 by omega)]
        by_cases d3 : (F v).2.2 = true → (E v).2.2 = true
        · rw [if_pos (c3.mpr d3), if_pos d1, if_neg d2, if_pos d3, if_neg (fun h => d2 h.2.1)]
          exact Prod.ext ks_2 rfl
        · rw [if_neg (fun h => d3 (c3.mp h)), if_pos d1, if_neg d2, if_neg d3, if_neg (fun h => d3 h.2.2)]
          refine Prod.ext ?_ rfl
          dsimp only
          rw [ks_2 (p := p), ks_3 (p := p), ks_ks, kg_ks]; rfl
    · rw [if_neg (fun h => d1 (c1.mp h))]
      dsimp only
      rw [kt_i_sin (show q + 2 ≠ p + 1 by omega), kt_i_sin (show p + 2 ≠ p + 1 by omega)]
      by_cases d2 : (F v).2.1 ≤ (E v).2.1
      · rw [if_pos (c2.mpr d2)]
        dsimp only
        rw [kt_i_sin (show q + 3 ≠ p + 1 by omega), kt_i_sin (show p + 3 ≠ p + 1 by omega)]
        by_cases d3 : (F v).2.2 = true → (E v).2.2 = true
        · rw [if_pos (c3.mpr d3), if_neg d1, if_pos d2, if_pos d3, if_neg (fun h => d1 h.1)]
          exact Prod.ext ks_1 rfl
        · rw [if_neg (fun h => d3 (c3.mp h)), if_neg d1, if_pos d2, if_neg d3, if_neg (fun h => d3 h.2.2)]
          refine Prod.ext ?_ rfl
          dsimp only
          rw [ks_1 (p := p), ks_3 (p := p), ks_ks, kg_ks]; rfl
      · rw [if_neg (fun h => d2 (c2.mp h))]
        dsimp only
        rw [kt_i_sin (show q + 3 ≠ p + 2 by omega), kt_i_sin (show p + 3 ≠ p + 2 by omega), kt_i_sin (show q + 3 ≠ p + 1 by omega), kt_i_sin (show p + 3 ≠ p + 1 by omega)]
        by_cases d3 : (F v).2.2 = true → (E v).2.2 = true
        · rw [if_pos (c3.mpr d3), if_neg d1, if_neg d2, if_pos d3, if_neg (fun h => d1 h.1)]
          exact Prod.ext m_num_ks rfl
        · rw [if_neg (fun h => d3 (c3.mp h)), if_neg d1, if_neg d2, if_neg d3, if_neg (fun h => d3 h.2.2)]
          exact Prod.ext rfl rfl
  · unfold r_jn
    refine ⟨?_, ?_, ?_⟩
    · dsimp only
      by_cases d1 : (E v).1 ≤ (F v).1
      · rw [if_pos d1, e1]; omega
      · rw [if_neg d1, f1]; omega
    · dsimp only
      by_cases d2 : (F v).2.1 ≤ (E v).2.1
      · rw [if_pos d2, e2]; omega
      · rw [if_neg d2, f2]; omega
    · dsimp only
      rw [e3]
      cases (E v).2.2 <;> cases (F v).2.2 <;> simp
  · by_cases d : (E v).1 ≤ (F v).1 ∧ (F v).2.1 ≤ (E v).2.1 ∧ ((F v).2.2 = true → (E v).2.2 = true)
    · rw [if_pos d]; exact Or.inl ⟨rfl, d⟩
    · rw [if_neg d]; exact Or.inr ⟨rfl, fun h => d (r_jn_same.mp h)⟩
theorem cl_joinL {p q : Nat} {F : EV} (hsep : p + 4 ≤ q ∨ q + 4 ≤ p) : ∀ (n i : Nat) (μ : kt_M) (g : Int32) (E : EV), i + n = 4 → CE μ p E → CE μ q F → ∃ μ2 g2, m_joinL p q n i μ g = (μ2, g2) ∧ (∀ x k, ¬ (p + 1 ≤ x ∧ x ≤ p + 3) → kt_i μ2 x k = kt_i μ x k) ∧ CE μ2 p (fun v => if i ≤ v then r_jn (E v) (F v) else E v) ∧ ((g2 = g ∧ ∀ v, i ≤ v → v < 4 → r_jn (E v) (F v) = E v) ∨ (g2 = 1 ∧ ∃ v, i ≤ v ∧ v < 4 ∧ r_jn (E v) (F v) ≠ E v))
  | 0, i, μ, g, E, hi, hp, hq => ⟨μ, g, rfl, fun _ _ _ => rfl, fun v hv => by dsimp only; rw [if_neg (by omega)]; exact hp v hv, Or.inl ⟨rfl, fun v h1 h2 => by omega⟩⟩
  | n + 1, i, μ, g, E, hi, hp, hq => by
    obtain ⟨t, g2, h1, h2, h3⟩ := cl_join1 (g := g) hp hq hsep (show i < 4 by omega)
    obtain ⟨μ3, g3, k1, k2, k3, k4⟩ := cl_joinL hsep n (i + 1) (ks μ p i t) g2 (e_set E i (r_jn (E i) (F i))) (by omega) (hp.set h2) (hq.ext (fun x k a b => ks_i (by omega)))
    refine ⟨μ3, g3, by rw [m_joinL, h1]; exact k1, fun x k hx => (k2 x k hx).trans (ks_i hx), fun v hv => ?_, ?_⟩
    · have := k3 v hv
      dsimp only at this ⊢
      unfold e_set at this
      by_cases c : v = i
      · subst c; rw [if_neg (by omega), if_pos rfl] at this; rw [if_pos (Nat.le_refl _)]; exact this
      · by_cases c2 : i + 1 ≤ v
        · rw [if_pos c2, if_neg c] at this; rw [if_pos (by omega)]; exact this
        · rw [if_neg c2, if_neg c] at this; rw [if_neg (by omega)]; exact this
    · have same : ∀ v, v ≠ i → e_set E i (r_jn (E i) (F i)) v = E v := fun v hv => e_set_n hv
      rcases k4 with ⟨a1, a2⟩ | ⟨a1, v, a2, a3, a4⟩
      · rcases h3 with ⟨b1, b2⟩ | ⟨b1, b2⟩
        · refine Or.inl ⟨a1.trans b1, fun v hv1 hv2 => ?_⟩
          by_cases c : v = i
          · rw [c]; exact b2
          · have := a2 v (by omega) hv2
            rw [same v c] at this; exact this
        · exact Or.inr ⟨a1.trans b1, i, Nat.le_refl _, by omega, b2⟩
      · refine Or.inr ⟨a1, v, by omega, a3, ?_⟩
        rw [same v (by omega)] at a4; exact a4
theorem cl_join {μ : kt_M} {p q : Nat} {E F : EV} (hp : CE μ p E) (hq : CE μ q F) (hsep : p + 4 ≤ q ∨ q + 4 ≤ p) : (∀ x k, ¬ (p + 1 ≤ x ∧ x ≤ p + 3) → kt_i (m_join μ p q).1 x k = kt_i μ x k) ∧ CE (m_join μ p q).1 p (fun v => r_jn (E v) (F v)) ∧ (((m_join μ p q).2 = 0 ∧ ∀ v, v < 4 → r_jn (E v) (F v) = E v) ∨ ((m_join μ p q).2 = 1 ∧ ∃ v, v < 4 ∧ r_jn (E v) (F v) ≠ E v)) := by
  obtain ⟨μ2, g2, h1, h2, h3, h4⟩ := cl_joinL hsep 4 0 μ 0 E (by omega) hp hq
  have e : m_join μ p q = (μ2, g2) := h1
  rw [e]
  refine ⟨h2, fun v hv => by have := h3 v hv; dsimp only at this; rw [if_pos (Nat.zero_le _)] at this; exact this, h4.imp (fun h => ⟨h.1, fun v hv => h.2 v (Nat.zero_le _) hv⟩) (fun h => ⟨h.1, by obtain ⟨-, v, -, a, b⟩ := h; exact ⟨v, a, b⟩⟩)⟩
theorem cl_setAll {μ : kt_M} {p : Nat} {c : Bool} : CE (m_setAll μ p (if c = true then 1 else 0)) p (fun _ => (51, -1, c)) := by
  have h1 : ∀ (ν : kt_M) v x, m_set1 ν p v x = ks ν p v (51, -1, x) := fun ν v x => by unfold m_set1; rw [m_num_ks, m_nil_ks, kg_ks, ks_ks]
  intro v hv
  unfold m_setAll
  simp only [h1, kg_ks_if]
  have hc : Cr (51, -1, (if c = true then 1 else 0)) ((51, -1, c) : R3) := ⟨(by show (51 : Int32).toInt = 51; decide), (by show (-1 : Int32).toInt = -1; decide), rfl⟩
  have : v = 0 ∨ v = 1 ∨ v = 2 ∨ v = 3 := by omega
  rcases this with e | e | e | e <;> subst e <;> simp <;> exact hc
/-- a step towards the least fixed point with what is known of an edge so far -/
theorem JF.stepE {P : DP} {A : AV} {b x : Nat} {E : EV} (hP : WP P 16) (h : JF P A) (hb : b < P.1) (hk : e_ok (A b)) (hx : x < db_ne (P.2 b)) (hE : e_v E) (ho : e_ok E) (hle : e_le E (a_al P A b x)) : JF P (a_up A (db_tg (P.2 b) x) E) := by
  obtain ⟨h1, h2, h3, h4⟩ := h
  have hb16 : b < 16 := by have := hP.1; omega
  have ht : db_tg (P.2 b) x < P.1 := (hP.2 b hb).tg hx
  refine ⟨fun c hc v hv => ?_, fun c hc => ?_, fun h0 v hv => (h3 h0 v hv).trans (a_up_le 0 (by omega) v hv), fun B hB hPF c hc v hv => ?_⟩
  · unfold a_up; split
    · exact (h1 _ (by have := hP.1; omega) v hv).jn (hE v hv)
    · exact h1 c hc v hv
  · by_cases e : c = db_tg (P.2 b) x
    · left
      intro v hv
      unfold a_up
      rw [if_pos e]
      exact r_jn_r.ok (ho v hv)
    · rcases h2 c hc with h5 | h5
      · left; intro v hv; unfold a_up; rw [if_neg e]; exact h5 v hv
      · right; intro v hv; unfold a_up; rw [if_neg e]; exact h5 v hv
  · have hAB := h4 B hB hPF
    unfold a_up
    split
    · rename_i e
      subst e
      have hm := hle.trans (a_al_mono (x := x) hP hb (h1 b hb16) (hB b hb16) (hAB b hb16))
      have := hPF.2 b hb ((hAB b hb16).ok hk) x hx ((a_al_mono (x := x) hP hb (h1 b hb16) (hB b hb16) (hAB b hb16)).ok (hle.ok ho))
      exact (hAB _ hc v hv).jn ((hm v hv).trans (this v hv))
    · exact hAB c hc v hv
/-- the edge of side x of block b is as the ranges say -/
def FS (μ : kt_M) (p : Nat) (P : DP) (A : AV) (b x : Nat) : Prop := e_ok (a_al P A b x) → kt_i μ (p + 5) (2 * b + x) = 1 ∧ CE μ (p + 7 + 4 * (18 + (2 * b + x))) (a_al P A b x) ∧ e_le (a_al P A b x) (A (db_tg (P.2 b) x))
/-- the flow on its way; of block j only the sides below i are settled -/
def FI (μ : kt_M) (p : Nat) (P : DP) (A : AV) (j i : Nat) : Prop := JF P A ∧ (∀ b, b < 16 → CE μ (p + 7 + 4 * (2 + b)) (A b)) ∧ (∀ b, b < 16 → kz (kt_i μ (p + 3) b) (e_ok (A b))) ∧ (∀ b, b < 16 → kt_i μ (p + 4) b = 0 ∨ (kt_i μ (p + 4) b = 1 ∧ e_ok (A b))) ∧ (∀ b, b < 16 → e_ok (A b) → b < P.1) ∧ (∀ b x, b < 16 → x < 2 → kt_i μ (p + 5) (2 * b + x) = 0 ∨ (kt_i μ (p + 5) (2 * b + x) = 1 ∧ e_ok (A b) ∧ x < db_ne (P.2 b) ∧ e_ok (a_al P A b x))) ∧ ∀ b, b < 16 → e_ok (A b) → kt_i μ (p + 4) b = 0 → ∀ x, x < db_ne (P.2 b) → (b = j → x < i) → FS μ p P A b x
theorem a_up_same {A : AV} {t : Nat} {E : EV} {b : Nat} (h : b ≠ t) : a_up A t E b = A b := funext fun v => if_neg h
theorem a_al_up {P : DP} {A : AV} {t : Nat} {E : EV} {b x : Nat} (h : b ≠ t) : a_al P (a_up A t E) b x = a_al P A b x := by unfold a_al; rw [a_up_same h]
theorem r0_nok : ¬ r_ok r0 := by unfold r_ok r0; simp
/-- entering a block: nothing new, or it waits -/
theorem cl_ent {μ : kt_M} {p j i b x r : Nat} {P : DP} {A : AV} {E : EV} (hP : WP P 16) (h : FI μ p P A j i) (hb : b < P.1) (hk : e_ok (A b)) (hx : x < db_ne (P.2 b)) (hr : ∃ e, e < 32 ∧ r = p + 7 + 4 * (18 + e)) (hC : CE μ r E) (hE : e_v E) (ho : e_ok E) (hle : e_le E (a_al P A b x)) : ∃ A2, FI (f_ent μ p (nI (db_tg (P.2 b) x)) r) p P A2 j i ∧ a_le A A2 ∧ (∀ c v, c < 16 → v < 4 → c ≠ db_tg (P.2 b) x → A2 c v = A c v) ∧ e_le E (A2 (db_tg (P.2 b) x)) ∧ (∀ y k, (y < p + 3 ∨ p + 5 ≤ y) → ¬ (p + 7 + 4 * 2 ≤ y ∧ y < p + 7 + 4 * 18) → kt_i (f_ent μ p (nI (db_tg (P.2 b) x)) r) y k = kt_i μ y k) ∧ (A2 = A ∧ (∀ c, c < 16 → kt_i (f_ent μ p (nI (db_tg (P.2 b) x)) r) (p + 4) c = kt_i μ (p + 4) c) ∨ (a_w A < a_w A2 ∧ kt_i (f_ent μ p (nI (db_tg (P.2 b) x)) r) (p + 4) (db_tg (P.2 b) x) = 1 ∧ ∀ c, c < 16 → c ≠ db_tg (P.2 b) x → A2 c = A c ∧ kt_i (f_ent μ p (nI (db_tg (P.2 b) x)) r) (p + 4) c = kt_i μ (p + 4) c)) := by
  obtain ⟨e, he, hre⟩ := hr
  obtain ⟨hJ, hB, hR, hW, hN, hO, hS⟩ := h
  have ht := (hP.2 b hb).tg hx
  have hP16 := hP.1
  generalize hT : db_tg (P.2 b) x = t at *
  have ht16 : t < 16 := by omega
  obtain ⟨j1, j2, j3⟩ := cl_join (hB t ht16) hC (by omega)
  unfold f_ent
  rw [if_pos ⟨nI_pos' (by omega), nI_lt ht16 (by decide)⟩, nI_clamp (by omega)]
  simp only [kt_seal_eq]
  have hrt : kt_i (m_join μ (p + 7 + 4 * (2 + t)) r).1 (p + 3) t = kt_i μ (p + 3) t := j1 _ _ (by omega)
  rw [hrt]
  -- unreached means new
  have unr : kt_i μ (p + 3) t = 0 → ∃ v, v < 4 ∧ r_jn (A t v) (E v) ≠ A t v := fun h0 => by
    have hnok : ¬ e_ok (A t) := (hR t ht16).elim (fun h => h.2) (fun h => by rw [h.1] at h0; exact absurd h0 (by decide))
    have hbot := (hJ.2.1 t ht16).resolve_left hnok
    refine ⟨0, by decide, fun hs => ?_⟩
    have := r_jn_r (r := A t 0) (s := E 0)
    rw [hs, hbot 0 (by decide)] at this
    exact r0_nok (this.ok (ho 0 (by decide)))
  by_cases hch : ∃ v, v < 4 ∧ r_jn (A t v) (E v) ≠ A t v
  · have hg : (m_join μ (p + 7 + 4 * (2 + t)) r).2 = 1 := (j3.resolve_left (fun h => by obtain ⟨v, hv, hne⟩ := hch; exact hne (h.2 v hv))).1
    rw [if_pos (Or.inl (by rw [hg]; decide))]
    have hJ2 : JF P (a_up A t E) := hT ▸ hJ.stepE hP hb hk hx hE ho hle
    have fr : ∀ y k, (y < p + 3 ∨ p + 5 ≤ y) → ¬ (p + 7 + 4 * (2 + t) + 1 ≤ y ∧ y ≤ p + 7 + 4 * (2 + t) + 3) → kt_i (kt_si (kt_si (m_join μ (p + 7 + 4 * (2 + t)) r).1 (p + 3) t 1) (p + 4) t 1) y k = kt_i μ y k := fun y k h1 h2 => by
      rw [kt_i_sin (by omega), kt_i_sin (by omega), j1 y k h2]
    have hwt : ∀ c, kt_i (kt_si (kt_si (m_join μ (p + 7 + 4 * (2 + t)) r).1 (p + 3) t 1) (p + 4) t 1) (p + 4) c = if c = t then 1 else kt_i μ (p + 4) c := fun c => by
      rw [kt_i_si, kt_i_sin (by omega), j1 _ _ (by omega)]
      by_cases ec : c = t <;> simp [ec]
    have hrc : ∀ c, kt_i (kt_si (kt_si (m_join μ (p + 7 + 4 * (2 + t)) r).1 (p + 3) t 1) (p + 4) t 1) (p + 3) c = if c = t then 1 else kt_i μ (p + 3) c := fun c => by
      rw [kt_i_sin (by omega), kt_i_si, j1 _ _ (by omega)]
      by_cases ec : c = t <;> simp [ec]
    have upt : a_up A t E t = fun v => r_jn (A t v) (E v) := funext fun v => if_pos rfl
    have okt : e_ok (a_up A t E t) := fun v hv => by rw [upt]; exact r_jn_r.ok (ho v hv)
    have okm : ∀ c, c < 16 → e_ok (A c) → e_ok (a_up A t E c) := fun c hc h => (a_up_le (t := t) (E := E) c hc).ok h
    have alm : ∀ c y, c < P.1 → e_le (a_al P A c y) (a_al P (a_up A t E) c y) := fun c y hc => a_al_mono hP hc (hJ.1 c (by omega)) (hJ2.1 c (by omega)) (a_up_le c (by omega))
    refine ⟨a_up A t E, ⟨hJ2, fun c hc => ?_, fun c hc => ?_, fun c hc => ?_, fun c hc hok => ?_, fun c y hc hy => ?_, fun c hc hok hw0 y hy hji => ?_⟩, a_up_le, fun c v hc hv hne => by rw [a_up_same hne], fun v hv => by rw [upt]; exact r_jn_r, fun y k h1 h2 => fr y k h1 (by omega), Or.inr ⟨?_, ?_, fun c hc hne => ⟨a_up_same hne, ?_⟩⟩⟩
    · by_cases ec : c = t
      · subst ec
        rw [upt]
        exact j2.ext (fun y k h1 h2 => by rw [kt_i_sin (by omega), kt_i_sin (by omega)])
      · rw [a_up_same ec]
        exact (hB c hc).ext (fun y k h1 h2 => fr y k (by omega) (by omega))
    · rw [hrc]
      by_cases ec : c = t
      · subst ec; rw [if_pos rfl]; exact Or.inr ⟨rfl, okt⟩
      · rw [if_neg ec, a_up_same ec]; exact hR c hc
    · rw [hwt]
      by_cases ec : c = t
      · subst ec; rw [if_pos rfl]; exact Or.inr ⟨rfl, okt⟩
      · rw [if_neg ec, a_up_same ec]; exact hW c hc
    · by_cases ec : c = t
      · omega
      · rw [a_up_same ec] at hok; exact hN c hc hok
    · rw [fr _ _ (by omega) (by omega)]
      rcases hO c y hc hy with h1 | ⟨h1, h2, h3, h4⟩
      · exact Or.inl h1
      · exact Or.inr ⟨h1, okm c hc h2, h3, (alm c y (hN c hc h2)).ok h4⟩
    · rw [hwt] at hw0
      by_cases ec : c = t
      · rw [if_pos ec] at hw0; exact absurd hw0 (by decide)
      · rw [if_neg ec] at hw0
        rw [a_up_same ec] at hok
        have := hS c hc hok hw0 y hy hji
        intro hal
        rw [a_al_up ec] at hal ⊢
        obtain ⟨g1, g2, g3⟩ := this hal
        refine ⟨by rw [fr _ _ (by omega) (by omega)]; exact g1, g2.ext (fun z k h1 h2 => fr z k (by omega) (by omega)), ?_⟩
        exact g3.trans (a_up_le _ (by have := (hP.2 c (hN c hc hok)).tg hy; omega))
    · obtain ⟨v, hv, hne⟩ := hch
      exact a_w_lt a_up_le hJ.1 hJ2.1 ht16 hv (by rw [upt]; exact Ne.symm hne)
    · rw [hwt, if_pos rfl]
    · rw [hwt, if_neg hne]
  · have hsame : ∀ v, v < 4 → r_jn (A t v) (E v) = A t v := fun v hv => Classical.not_not.mp (fun h => hch ⟨v, hv, h⟩)
    have hg : (m_join μ (p + 7 + 4 * (2 + t)) r).2 = 0 := (j3.resolve_right (fun h => hch h.2)).1
    rw [if_neg (fun h => h.elim (fun h => h hg) (fun h => hch (unr h)))]
    have ceq : CE (m_join μ (p + 7 + 4 * (2 + t)) r).1 (p + 7 + 4 * (2 + t)) (A t) := fun v hv => by have := j2 v hv; dsimp only at this; rw [hsame v hv] at this; exact this
    refine ⟨A, ⟨hJ, fun c hc => ?_, fun c hc => by rw [j1 _ _ (by omega)]; exact hR c hc, fun c hc => by rw [j1 _ _ (by omega)]; exact hW c hc, hN, fun c y hc hy => by rw [j1 _ _ (by omega)]; exact hO c y hc hy, fun c hc hok hw0 y hy hji hal => ?_⟩, fun c hc => e_le.refl, fun _ _ _ _ _ => rfl, fun v hv => by have := r_jn_r (r := A t v) (s := E v); rw [hsame v hv] at this; exact this, fun y k h1 h2 => j1 y k (by omega), Or.inl ⟨rfl, fun c hc => j1 _ _ (by omega)⟩⟩
    · by_cases ec : c = t
      · subst ec; exact ceq
      · exact (hB c hc).ext (fun y k h1 h2 => j1 y k (by omega))
    · rw [j1 _ _ (by omega)] at hw0
      obtain ⟨g1, g2, g3⟩ := hS c hc hok hw0 y hy hji hal
      exact ⟨by rw [j1 _ _ (by omega)]; exact g1, g2.ext (fun z k h1 h2 => j1 z k (by omega)), g3⟩

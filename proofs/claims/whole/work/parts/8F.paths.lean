/-! PURE: the class's paths -/
theorem cl_nxL {μ : kt_M} {k s : Nat} {D : DB} (hC : CB μ k D) (hD : WB D s) (hs : s ≤ 16) : ∀ (n i : Nat) (m : Int32), i + n = db_ne D → ∀ c, c < 32 → (ib (k_nxL μ k n i m) c = true ↔ ib m c = true ∨ ∃ x, i ≤ x ∧ x < db_ne D ∧ db_tg D x = c)
  | 0, i, m, hi, c, hc => ⟨Or.inl, fun h => h.elim id (fun h => by obtain ⟨x, h1, h2, -⟩ := h; omega)⟩
  | n + 1, i, m, hi, c, hc => by
    have htg := hD.tg (x := i) (by omega)
    rw [k_nxL, cl_tg hC hD (by omega), cl_nxL hC hD hs n (i + 1) _ (by omega) c hc, ib_or, ib_shl (by omega) hc, Bool.or_eq_true, decide_eq_true_iff]
    constructor
    · rintro ((h | h) | ⟨x, h1, h2, h3⟩)
      · exact Or.inl h
      · exact Or.inr ⟨i, Nat.le_refl _, by omega, h.symm⟩
      · exact Or.inr ⟨x, by omega, h2, h3⟩
    · rintro (h | ⟨x, h1, h2, h3⟩)
      · exact Or.inl (Or.inl h)
      · by_cases e : x = i
        · subst e; exact Or.inl (Or.inr h3.symm)
        · exact Or.inr ⟨x, by omega, h2, h3⟩
theorem cl_nx {μ : kt_M} {q b : Nat} {P : DP} (hP : WP P 16) (hC : CP μ q P) (hW : NW μ q) (hb : b < 16) : ∀ c, c < 32 → (ib (k_nx μ (k_at μ q (nI b))) c = true ↔ eg P b c) := by
  intro c hc
  by_cases e : b < P.1
  · rw [k_at_nI hC.1 (by have := hP.1; omega) e]
    unfold k_nx
    rw [cl_ne (hC.2 b e) (hP.2 b e), cl_nxL (hC.2 b e) (hP.2 b e) hP.1 _ 0 0 (by omega) c hc, ib_0]
    unfold eg
    simp [e]
  · have : k_at μ q (nI b) = q + 1 := by
      unfold k_at
      rw [if_neg (fun h => by
        have := h.2
        rw [hC.1, nI_ltI (by omega) (by have := hP.1; omega)] at this
        exact e this)]
    rw [this]
    unfold k_nx k_ne
    rw [hW.2]
    show (ib 0 c = true) ↔ _
    rw [ib_0]
    exact ⟨(fun h => by cases h), fun h => absurd h.1 e⟩
theorem cl_s1o {p q x y : Nat} (h : x ≠ p + 1 ∧ x ≠ p + 2) : ∀ (n i : Nat) (μ : kt_M), kt_i (m_s1L p q n i μ) x y = kt_i μ x y
  | 0, _, _ => rfl
  | n + 1, i, μ => by rw [m_s1L, cl_s1o h n, kt_i_sin h.2, kt_i_sin h.1]
theorem cl_s1L {p q : Nat} {P : DP} (hP : WP P 16) (hsep : q + 71 ≤ p) : ∀ (n i : Nat) (μ : kt_M), i + n = 16 → CP μ q P → NW μ q → (∀ b, b < i → (∀ c, c < 32 → (ib (kt_i μ (p + 1) b) c = true ↔ eg P b c)) ∧ kt_i μ (p + 2) b = 0) → NX (m_s1L p q n i μ) p P ∧ (∀ b, b < 16 → kt_i (m_s1L p q n i μ) (p + 2) b = 0)
  | 0, i, μ, hi, hC, hW, h => by
    have e : i = 16 := by omega
    subst e
    exact ⟨fun b hb => (h b hb).1, fun b hb => (h b hb).2⟩
  | n + 1, i, μ, hi, hC, hW, h => by
    rw [m_s1L]
    have f : ∀ x y, x ≠ p + 1 → x ≠ p + 2 → kt_i (kt_si (kt_si μ (p + 1) i (k_nx μ (k_at μ q (nI i)))) (p + 2) i 0) x y = kt_i μ x y := fun x y h1 h2 => by rw [kt_i_sin h2, kt_i_sin h1]
    refine cl_s1L hP hsep n (i + 1) _ (by omega) (hC.ext hP.1 (fun x y h1 h2 => f x y (by omega) (by omega))) ⟨by rw [f _ _ (by omega) (by omega)]; exact hW.1, by rw [f _ _ (by omega) (by omega)]; exact hW.2⟩ (fun b hb => ?_)
    by_cases e : b = i
    · subst e
      refine ⟨?_, by rw [kt_i_sie]⟩
      rw [kt_i_sin (by omega), kt_i_sie]
      exact cl_nx hP hC hW (by omega)
    · obtain ⟨h1, h2⟩ := h b (by omega)
      refine ⟨?_, ?_⟩
      · rw [kt_i_sin (by omega), kt_i_sik e]; exact h1
      · rw [kt_i_sik e, kt_i_sin (by omega)]; exact h2
theorem m_dmL_i {p : Nat} {a c : Int32} : ∀ (n i : Nat) (μ : kt_M), i + n ≤ 16 → ∀ x y, kt_i (m_dmL p a c n i μ) x y = if x = p + 2 ∧ i ≤ y ∧ y < i + n ∧ ib c y = true then kt_i μ x y ||| (1 <<< (a &&& 31)) else kt_i μ x y
  | 0, i, μ, _, x, y => by rw [if_neg (by omega)]; rfl
  | n + 1, i, μ, hi, x, y => by
    rw [m_dmL, m_dmL_i n (i + 1) _ (by omega) x y]
    by_cases e : ib c i = true
    · have hb : ¬ ((c >>> (nI i &&& 31)) &&& 1 = 0) := by rw [ib_bit (by omega), e]; decide
      rw [if_neg hb, kt_i_si]
      by_cases e1 : x = p + 2 ∧ y = i
      · obtain ⟨e2, e3⟩ := e1
        subst e2; subst e3
        rw [if_neg (by omega), if_pos ⟨rfl, rfl⟩, if_pos ⟨rfl, by omega, by omega, e⟩]
      · rw [if_neg e1]
        by_cases e2 : x = p + 2 ∧ i + 1 ≤ y ∧ y < i + 1 + n ∧ ib c y = true
        · rw [if_pos e2, if_pos ⟨e2.1, by omega, by omega, e2.2.2.2⟩]
        · rw [if_neg e2, if_neg (fun h => e2 ⟨h.1, by omega, by omega, h.2.2.2⟩)]
    · have e0 : ib c i = false := by cases h : ib c i with | false => rfl | true => exact absurd h e
      have hb : (c >>> (nI i &&& 31)) &&& 1 = 0 := by rw [ib_bit (by omega)]; exact e0
      rw [if_pos hb]
      by_cases e2 : x = p + 2 ∧ i + 1 ≤ y ∧ y < i + 1 + n ∧ ib c y = true
      · rw [if_pos e2, if_pos ⟨e2.1, by omega, by omega, e2.2.2.2⟩]
      · rw [if_neg e2, if_neg (fun h => e2 ⟨h.1, by
          have : y ≠ i := fun h2 => by rw [h2, e0] at h; exact absurd h.2.2.2 (by decide)
          omega, by omega, h.2.2.2⟩)]
theorem NX.ext {μ μ' : kt_M} {p : Nat} {P : DP} (h : NX μ p P) (he : ∀ k, kt_i μ' (p + 1) k = kt_i μ (p + 1) k) : NX μ' p P := fun b hb c hc => by rw [he]; exact h b hb c hc
theorem cl_cut {μ : kt_M} {p a : Nat} {P : DP} (hP : WP P 16) (hN : NX μ p P) (hR : ∀ c, c < 32 → (ib (kt_i μ p 2) c = true ↔ Rc P 99 c)) (ha : a < 16) : ∀ c, c < 32 → (ib (k_cut μ p (nI a)) c = true ↔ Dm P a c) := by
  intro c hc
  unfold k_cut Dm
  rw [ib_and, Bool.and_eq_true, hR c hc, ib_xor, ib_m1 c hc]
  by_cases e : 0 < P.1
  · have := cl_rw (av := a) hP e hN (a := (1 <<< (nI a &&& 31)) ^^^ (-1)) (fun d hd => by
      rw [ib_xor, ib_shl (by omega) hd, ib_m1 d hd]
      by_cases ed : d = a <;> simp [ed]) c hc
    rw [← this]
    cases ib (k_rw μ p ((1 <<< (nI a &&& 31)) ^^^ (-1))) c <;> simp
  · have : ¬ Rc P 99 c := fun h => by have := h.lt hP; omega
    simp [this]
theorem cl_s2L {p : Nat} {P : DP} (hP : WP P 16) : ∀ (n i : Nat) (μ : kt_M), i + n = 16 → NX μ p P → (∀ c, c < 32 → (ib (kt_i μ p 2) c = true ↔ Rc P 99 c)) → (∀ b, b < 16 → ∀ a, a < 32 → (ib (kt_i μ (p + 2) b) a = true ↔ a < i ∧ Dm P a b)) → (∀ x y, x ≠ p + 2 → kt_i (m_s2L p n i μ) x y = kt_i μ x y) ∧ (∀ b, b < 16 → ∀ a, a < 32 → (ib (kt_i (m_s2L p n i μ) (p + 2) b) a = true ↔ a < 16 ∧ Dm P a b))
  | 0, i, μ, hi, hN, hR, h => by
    have e : i = 16 := by omega
    subst e
    exact ⟨fun _ _ _ => rfl, h⟩
  | n + 1, i, μ, hi, hN, hR, h => by
    rw [m_s2L]
    have hcut := cl_cut hP hN hR (show i < 16 by omega)
    have f := m_dmL_i (p := p) (a := nI i) (c := k_cut μ p (nI i)) 16 0 μ (by omega)
    obtain ⟨g1, g2⟩ := cl_s2L hP n (i + 1) (m_dmL p (nI i) (k_cut μ p (nI i)) 16 0 μ) (by omega) (hN.ext (fun k => by rw [f, if_neg (by omega)])) (fun c hc => by rw [f, if_neg (by omega)]; exact hR c hc) (fun b hb a ha => by
      rw [f]
      by_cases e : Dm P i b
      · rw [if_pos ⟨rfl, by omega, by omega, (hcut b (by omega)).mpr e⟩, ib_or, ib_shl (by omega) ha, Bool.or_eq_true, decide_eq_true_iff, h b hb a ha]
        constructor
        · rintro (h1 | h1)
          · exact ⟨by omega, h1.2⟩
          · subst h1; exact ⟨by omega, e⟩
        · rintro ⟨h1, h2⟩
          by_cases e2 : a = i
          · exact Or.inr e2
          · exact Or.inl ⟨by omega, h2⟩
      · rw [if_neg (fun h2 => e ((hcut b (by omega)).mp h2.2.2.2)), h b hb a ha]
        constructor
        · rintro ⟨h1, h2⟩; exact ⟨by omega, h2⟩
        · rintro ⟨h1, h2⟩
          exact ⟨by have : a ≠ i := fun h3 => e (h3 ▸ h2)
                    omega, h2⟩)
    refine ⟨fun x y hx => ?_, g2⟩
    rw [g1 x y hx, f, if_neg (fun h => hx h.1)]
theorem cl_s3L {p : Nat} : ∀ (n i : Nat) (μ : kt_M), i + n = 16 → (∀ x y, ¬ (x = p ∧ y = 3) → kt_i (m_s3L p n i μ) x y = kt_i μ x y) ∧ ∀ h, h < 32 → (ib (kt_i (m_s3L p n i μ) p 3) h = true ↔ ib (kt_i μ p 3) h = true ∨ ∃ b, i ≤ b ∧ b < 16 ∧ ib (kt_i μ (p + 1) b) h = true ∧ ib (kt_i μ (p + 2) b) h = true)
  | 0, i, μ, hi => ⟨fun _ _ _ => rfl, fun h _ => ⟨Or.inl, fun h2 => h2.elim id (fun h3 => by obtain ⟨b, h4, h5, -⟩ := h3; omega)⟩⟩
  | n + 1, i, μ, hi => by
    rw [m_s3L]
    obtain ⟨g1, g2⟩ := cl_s3L n (i + 1) (kt_si μ p 3 (kt_i μ p 3 ||| (kt_i μ (p + 1) i &&& kt_i μ (p + 2) i))) (by omega)
    refine ⟨fun x y hxy => by rw [g1 x y hxy, kt_i_si, if_neg hxy], fun h hh => ?_⟩
    rw [g2 h hh, kt_i_sie, ib_or, ib_and, Bool.or_eq_true, Bool.and_eq_true]
    constructor
    · rintro ((h1 | h1) | ⟨b, h1, h2, h3, h4⟩)
      · exact Or.inl h1
      · exact Or.inr ⟨i, Nat.le_refl _, by omega, h1.1, h1.2⟩
      · rw [kt_i_sin (by omega)] at h3 h4
        exact Or.inr ⟨b, by omega, h2, h3, h4⟩
    · rintro (h1 | ⟨b, h1, h2, h3, h4⟩)
      · exact Or.inl (Or.inl h1)
      · by_cases e : b = i
        · subst e; exact Or.inl (Or.inr ⟨h3, h4⟩)
        · refine Or.inr ⟨b, by omega, h2, ?_, ?_⟩
          · rw [kt_i_sin (by omega)]; exact h3
          · rw [kt_i_sin (by omega)]; exact h4
/-- the paths, solved -/
def PA (μ : kt_M) (p : Nat) (P : DP) : Prop := (∀ c, c < 32 → (ib (kt_i μ p 2) c = true ↔ Rc P 99 c)) ∧ (∀ b, b < 16 → ∀ a, a < 32 → (ib (kt_i μ (p + 2) b) a = true ↔ a < 16 ∧ Dm P a b)) ∧ ∀ h, h < 32 → (ib (kt_i μ p 3) h = true ↔ ∃ b, eg P b h ∧ Dm P h b)
theorem cl_psolve {μ : kt_M} {p q : Nat} {P : DP} (hP : WP P 16) (hsep : q + 71 ≤ p) (hC : CP μ q P) (hW : NW μ q) : PA (q_psolve μ p q) p P := by
  unfold q_psolve
  rw [kt_seal_eq]
  unfold m_psolve
  obtain ⟨n1, z1⟩ := cl_s1L hP hsep 16 0 μ (by omega) hC hW (fun b hb => by omega)
  have hsz : kt_i (m_s1L p q 16 0 μ) q 3 = nI P.1 := by rw [cl_s1o (by omega)]; exact hC.1
  generalize m_s1L p q 16 0 μ = μ1 at *
  have n2 : NX (m_s2 μ1 p q) p P := n1.ext (fun k => by unfold m_s2; rw [kt_i_sin (by omega)])
  have r2 : ∀ c, c < 32 → (ib (kt_i (m_s2 μ1 p q) p 2) c = true ↔ Rc P 99 c) := fun c hc => by
    unfold m_s2
    rw [kt_i_sie, hsz]
    by_cases e : P.1 = 0
    · rw [if_pos (by rw [e]; rfl), ib_0]
      exact ⟨(fun h => by cases h), fun h => by have := h.lt hP; omega⟩
    · rw [if_neg (nI_ne0 (by omega) (by have := hP.1; omega))]
      exact cl_rw hP (by omega) n1 (fun d hd => by rw [ib_m1 d hd]; simp; omega) c hc
  have z2 : ∀ b, b < 16 → ∀ a, a < 32 → (ib (kt_i (m_s2 μ1 p q) (p + 2) b) a = true ↔ a < 0 ∧ Dm P a b) := fun b hb a ha => by
    unfold m_s2
    rw [kt_i_sin (by omega), z1 b hb, ib_0]
    exact ⟨(fun h => by cases h), fun h => by omega⟩
  generalize m_s2 μ1 p q = μ2 at *
  obtain ⟨g1, g2⟩ := cl_s2L hP 16 0 μ2 (by omega) n2 r2 z2
  generalize m_s2L p 16 0 μ2 = μ3 at *
  obtain ⟨k1, k2⟩ := cl_s3L (p := p) 16 0 (kt_si μ3 p 3 0) (by omega)
  refine ⟨fun c hc => ?_, fun b hb a ha => ?_, fun h hh => ?_⟩
  · rw [k1 _ _ (by omega), kt_i_sik (by decide), g1 _ _ (by omega)]; exact r2 c hc
  · rw [k1 _ _ (by omega), kt_i_sin (by omega)]; exact g2 b hb a ha
  · rw [k2 h hh, kt_i_sie, ib_0]
    constructor
    · rintro (h1 | ⟨b, -, h2, h3, h4⟩)
      · cases h1
      · rw [kt_i_sin (by omega), g1 _ _ (by omega), n2 b h2 h hh] at h3
        rw [kt_i_sin (by omega), g2 b h2 h hh] at h4
        exact ⟨b, h3, h4.2⟩
    · rintro ⟨b, h3, h4⟩
      have hb : b < 16 := by have := h3.1; have := hP.1; omega
      have hh16 : h < 16 := by have := (h4.ra hP).lt hP; have := hP.1; omega
      refine Or.inr ⟨b, Nat.zero_le _, hb, ?_, ?_⟩
      · rw [kt_i_sin (by omega), g1 _ _ (by omega), n2 b hb h hh]; exact h3
      · rw [kt_i_sin (by omega), g2 b hb h hh]; exact ⟨hh16, h4⟩

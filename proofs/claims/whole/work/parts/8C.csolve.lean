/-! PURE: the class's least fixed point -/
theorem FI.ext {μ μ' : kt_M} {p j i : Nat} {P : DP} {A : AV} (h : FI μ p P A j i) (he : ∀ y k, p + 3 ≤ y → y < p + 6 → kt_i μ' y k = kt_i μ y k) (hb : ∀ y k, p + 7 + 4 * 2 ≤ y → y < p + 7 + 4 * 18 → kt_i μ' y k = kt_i μ y k) (ha : ∀ b x, b < 16 → x < 2 → (b = j → x < i) → ∀ y k, p + 7 + 4 * (18 + (2 * b + x)) + 1 ≤ y → y ≤ p + 7 + 4 * (18 + (2 * b + x)) + 3 → kt_i μ' y k = kt_i μ y k) : FI μ' p P A j i := by
  obtain ⟨hJ, hB, hR, hW, hN, hO, hS⟩ := h
  refine ⟨hJ, fun b hb2 => (hB b hb2).ext (fun y k h1 h2 => hb y k (by omega) (by omega)), fun b hb2 => by rw [he _ _ (by omega) (by omega)]; exact hR b hb2, fun b hb2 => by rw [he _ _ (by omega) (by omega)]; exact hW b hb2, hN, fun b x hb2 hx => by rw [he _ _ (by omega) (by omega)]; exact hO b x hb2 hx, fun b hb2 hok hw x hx hji hal => ?_⟩
  rw [he _ _ (by omega) (by omega)] at hw
  obtain ⟨g1, g2, g3⟩ := hS b hb2 hok hw x hx hji hal
  have hne := db_ne_le (P.2 b)
  exact ⟨by rw [he _ _ (by omega) (by omega)]; exact g1, g2.ext (fun y k h1 h2 => ha b x hb2 (by omega) hji y k h1 h2), g3⟩
/-- leaving block j: its first i sides are done; E0 is what was before it -/
def LV (μ : kt_M) (p q : Nat) (P : DP) (A : AV) (j i : Nat) (E0 : EV) : Prop := FI μ p P A j i ∧ CE μ (p + 7) (e_all (P.2 j) E0) ∧ e_v E0 ∧ e_ok E0 ∧ e_le E0 (A j) ∧ (kt_i μ (p + 4) j = 0 → A j = E0) ∧ CP μ q P
theorem cl_tg {μ : kt_M} {k x s : Nat} {D : DB} (hC : CB μ k D) (hD : WB D s) (hx : x < db_ne D) : k_tg μ k (nI x) = nI (db_tg D x) := by
  unfold k_tg db_tg
  have hne := db_ne_le D
  unfold db_ne at hx hne
  have : x = 0 ∨ x = 1 := by split at hx <;> (first | omega | (split at hx <;> omega))
  rcases this with e | e
  · subst e; rw [if_pos (by decide), if_pos rfl]
    refine hC.2.2.2.1 ?_
    split at hx
    · omega
    · omega
  · subst e; rw [if_neg (by decide), if_neg (by decide)]
    refine (hC.2.2.2.2.1 ?_).1
    split at hx
    · omega
    · split at hx <;> omega
theorem cl_sd {μ : kt_M} {p q j i : Nat} {P : DP} {A : AV} {E0 : EV} (hP : WP P 16) (hq : q + 71 ≤ p) (hj : j < P.1) (hi : i < db_ne (P.2 j)) (h : LV μ p q P A j i E0) : ∃ A2, LV (f_sd μ p j (q + 7 + 4 * j) i) p q P A2 j (i + 1) E0 ∧ a_w A ≤ a_w A2 ∧ (∀ c, c < 16 → kt_i (f_sd μ p j (q + 7 + 4 * j) i) (p + 4) c = 1 → kt_i μ (p + 4) c = 1 ∨ a_w A < a_w A2) := by
  obtain ⟨hF, hAf, hE0, hk0, hle0, hsame, hCP⟩ := h
  have hP16 := hP.1
  have hne := db_ne_le (P.2 j)
  have hD := hP.2 j hj
  have hj16 : j < 16 := by omega
  have hokj : e_ok (A j) := hle0.ok hk0
  have hVj := hF.1.1 j hj16
  generalize ha : p + 7 + 4 * (18 + (2 * j + i)) = a
  generalize hEd : e_side (P.2 j) i (e_all (P.2 j) E0) = E'
  have hE' : e_v E' := by rw [← hEd]; exact (hE0.all hD).side hD
  have hle' : e_le E' (a_al P A j i) := by rw [← hEd]; exact e_le.side hD (hle0.all hD hE0 hVj) (hE0.all hD) (hVj.all hD)
  unfold f_sd
  dsimp only
  rw [ha]
  generalize hμ1 : m_side (m_cp μ a (p + 7)) a (q + 7 + 4 * j) (nI i) = μ1
  have f1 : ∀ y k, ¬ (a + 1 ≤ y ∧ y ≤ a + 3) → kt_i μ1 y k = kt_i μ y k := fun y k hy => by rw [← hμ1, m_side_out hy, m_cp_out hy]
  have hC1 : CE μ1 a E' := by
    rw [← hμ1, ← hEd]
    refine cl_side hD ((hCP.2 j hj).ext (fun y k h1 h2 => m_cp_out (by omega))) (hE0.all hD) (by omega) (hAf.cp (by omega))
  have hF1 : FI μ1 p P A j i := hF.ext (fun y k h1 h2 => f1 y k (by omega)) (fun y k h1 h2 => f1 y k (by omega)) (fun b x hb hx hji y k h1 h2 => f1 y k (by
    by_cases e : b = j
    · have := hji e; omega
    · omega))
  have hCP1 : CP μ1 q P := hCP.ext hP.1 (fun y k h1 h2 => f1 y k (by omega))
  have hAf1 : CE μ1 (p + 7) (e_all (P.2 j) E0) := hAf.ext (fun y k h1 h2 => f1 y k (by omega))
  have hsame1 : kt_i μ1 (p + 4) j = 0 → A j = E0 := fun h => hsame (by rw [← f1 _ _ (by omega)]; exact h)
  by_cases hm : m_all μ1 a
  · have hok' : e_ok E' := (cl_all hC1).mp hm
    rw [if_pos hm]
    generalize hμ2 : kt_si μ1 (p + 5) (2 * j + i) 1 = μ2
    have f2 : ∀ y k, y ≠ p + 5 → kt_i μ2 y k = kt_i μ1 y k := fun y k hy => by rw [← hμ2, kt_i_sin hy]
    have f25 : ∀ k, kt_i μ2 (p + 5) k = if k = 2 * j + i then 1 else kt_i μ1 (p + 5) k := fun k => by
      rw [← hμ2, kt_i_si]; by_cases e : k = 2 * j + i <;> simp [e]
    have hF2 : FI μ2 p P A j i := by
      obtain ⟨hJ, hB, hR, hW, hN, hO, hS⟩ := hF1
      refine ⟨hJ, fun b hb => (hB b hb).ext (fun y k h1 h2 => f2 y k (by omega)), fun b hb => by rw [f2 _ _ (by omega)]; exact hR b hb, fun b hb => by rw [f2 _ _ (by omega)]; exact hW b hb, hN, fun b x hb hx => ?_, fun b hb hok hw x hx hji hal => ?_⟩
      · rw [f25]
        by_cases e : 2 * b + x = 2 * j + i
        · rw [if_pos e]
          have e1 : b = j := by omega
          have e2 : x = i := by omega
          subst e1; subst e2
          exact Or.inr ⟨rfl, hokj, hi, hle'.ok hok'⟩
        · rw [if_neg e]; exact hO b x hb hx
      · rw [f2 _ _ (by omega)] at hw
        obtain ⟨g1, g2, g3⟩ := hS b hb hok hw x hx hji hal
        refine ⟨?_, g2.ext (fun y k h1 h2 => f2 y k (by omega)), g3⟩
        rw [f25]; split
        · rfl
        · exact g1
    have htg : k_tg μ2 (q + 7 + 4 * j) (nI i) = nI (db_tg (P.2 j) i) := cl_tg ((hCP1.2 j hj).ext (fun y k h1 h2 => f2 y k (by omega))) hD hi
    rw [htg]
    have htl := hD.tg hi
    obtain ⟨A2, g1, g2, g3, g4, g5, g6⟩ := cl_ent (j := j) (i := i) (r := a) hP hF2 hj hokj hi ⟨2 * j + i, by omega, ha.symm⟩ (hC1.ext (fun y k h1 h2 => f2 y k (by omega))) hE' hok' hle'
    generalize hμ3 : f_ent μ2 p (nI (db_tg (P.2 j) i)) a = μ3 at *
    have w3 : ∀ c, c < 16 → kt_i μ3 (p + 4) c = 1 → kt_i μ (p + 4) c = 1 ∨ a_w A < a_w A2 := fun c hc hc1 => by
      rcases g6 with ⟨-, h6⟩ | ⟨h6, -, -⟩
      · left; rw [h6 c hc, f2 _ _ (by omega), f1 _ _ (by omega)] at hc1; exact hc1
      · exact Or.inr h6
    have hsame3 : kt_i μ3 (p + 4) j = 0 → A2 j = E0 := fun h0 => by
      rcases g6 with ⟨h6, h7⟩ | ⟨-, h7, h8⟩
      · rw [h6]
        rw [h7 j hj16, f2 _ _ (by omega)] at h0
        exact hsame1 h0
      · by_cases e : j = db_tg (P.2 j) i
        · rw [← e, h0] at h7; exact absurd h7 (by decide)
        · obtain ⟨h9, h10⟩ := h8 j hj16 e
          rw [h9]
          rw [h10, f2 _ _ (by omega)] at h0
          exact hsame1 h0
    refine ⟨A2, ⟨?_, hAf1.ext (fun y k h1 h2 => (g5 y k (by omega) (by omega)).trans (f2 y k (by omega))), hE0, hk0, hle0.trans (g2 j hj16), hsame3, hCP1.ext hP.1 (fun y k h1 h2 => (g5 y k (by omega) (by omega)).trans (f2 y k (by omega)))⟩, a_w_mono g2 hF.1.1 g1.1.1, w3⟩
    obtain ⟨hJ, hB, hR, hW, hN, hO, hS⟩ := g1
    refine ⟨hJ, hB, hR, hW, hN, hO, fun b hb hok hw x hx hji => ?_⟩
    by_cases e : b = j ∧ x = i
    · obtain ⟨e1, e2⟩ := e
      subst e1; subst e2
      have hA0 := hsame3 hw
      have hal : a_al P A2 b x = E' := by unfold a_al; rw [hA0, hEd]
      intro _
      rw [hal, ha]
      exact ⟨by rw [g5 _ _ (by omega) (by omega), f25, if_pos rfl], hC1.ext (fun y k h1 h2 => (g5 y k (by omega) (by omega)).trans (f2 y k (by omega))), g4⟩
    · exact hS b hb hok hw x hx (fun e1 => by have := hji e1; omega)
  · rw [if_neg hm]
    have hno' : ¬ e_ok E' := fun h => hm ((cl_all hC1).mpr h)
    refine ⟨A, ⟨?_, hAf1, hE0, hk0, hle0, hsame1, hCP1⟩, Nat.le_refl _, fun c hc h1 => Or.inl (by rw [f1 _ _ (by omega)] at h1; exact h1)⟩
    obtain ⟨hJ, hB, hR, hW, hN, hO, hS⟩ := hF1
    refine ⟨hJ, hB, hR, hW, hN, hO, fun b hb hok hw x hx hji => ?_⟩
    by_cases e : b = j ∧ x = i
    · obtain ⟨e1, e2⟩ := e
      subst e1; subst e2
      have hA0 := hsame1 hw
      have hal : a_al P A b x = E' := by unfold a_al; rw [hA0, hEd]
      intro h; rw [hal] at h; exact absurd h hno'
    · exact hS b hb hok hw x hx (fun e1 => by have := hji e1; omega)
theorem cl_sdL {p q j : Nat} {P : DP} {E0 : EV} (hP : WP P 16) (hq : q + 71 ≤ p) (hj : j < P.1) : ∀ (n i : Nat) (μ : kt_M) (A : AV), i + n = db_ne (P.2 j) → LV μ p q P A j i E0 → ∃ A2, LV (f_sdL p j (q + 7 + 4 * j) n i μ) p q P A2 j (db_ne (P.2 j)) E0 ∧ a_w A ≤ a_w A2 ∧ (∀ c, c < 16 → kt_i (f_sdL p j (q + 7 + 4 * j) n i μ) (p + 4) c = 1 → kt_i μ (p + 4) c = 1 ∨ a_w A < a_w A2)
  | 0, i, μ, A, hi, h => ⟨A, by rw [f_sdL, ← hi, Nat.add_zero]; exact h, Nat.le_refl _, fun _ _ h => Or.inl h⟩
  | n + 1, i, μ, A, hi, h => by
    obtain ⟨A1, g1, g2, g3⟩ := cl_sd hP hq hj (by omega) h
    obtain ⟨A2, k1, k2, k3⟩ := cl_sdL hP hq hj n (i + 1) _ A1 (by omega) g1
    refine ⟨A2, by rw [f_sdL]; exact k1, by omega, fun c hc hc1 => ?_⟩
    rw [f_sdL] at hc1
    rcases k3 c hc hc1 with h1 | h1
    · rcases g3 c hc h1 with h2 | h2
      · exact Or.inl h2
      · exact Or.inr (by omega)
    · exact Or.inr (by omega)
theorem FI.any {μ : kt_M} {p j : Nat} {P : DP} {A : AV} (h : FI μ p P A j (db_ne (P.2 j))) : FI μ p P A 16 0 := by
  obtain ⟨hJ, hB, hR, hW, hN, hO, hS⟩ := h
  exact ⟨hJ, hB, hR, hW, hN, hO, fun b hb hok hw x hx _ => hS b hb hok hw x hx (fun e => e ▸ hx)⟩
theorem cl_ne {μ : kt_M} {k s : Nat} {D : DB} (hC : CB μ k D) (hD : WB D s) : k_ne μ k = db_ne D := by
  unfold k_ne
  rw [hC.2.2.1]
  unfold db_ne
  have : db_en D = 0 ∨ db_en D = 1 ∨ db_en D = 2 ∨ db_en D = 3 := by have := hD.2.2.1; omega
  rcases this with e | e | e | e <;> rw [e] <;> rfl
/-- a waiting block leaves -/
theorem cl_lv {μ : kt_M} {p q j : Nat} {P : DP} {A : AV} (hP : WP P 16) (hq : q + 71 ≤ p) (hj : j < 16) (hF : FI μ p P A 16 0) (hw : kt_i μ (p + 4) j = 1) (hCP : CP μ q P) : ∃ A2, FI (f_lv (kt_si μ (p + 4) j 0) p j (q + 7 + 4 * j)) p P A2 16 0 ∧ CP (f_lv (kt_si μ (p + 4) j 0) p j (q + 7 + 4 * j)) q P ∧ a_w A ≤ a_w A2 ∧ (∀ c, c < 16 → kt_i (f_lv (kt_si μ (p + 4) j 0) p j (q + 7 + 4 * j)) (p + 4) c = 1 → (c ≠ j ∧ kt_i μ (p + 4) c = 1) ∨ a_w A < a_w A2) := by
  have hP16 := hP.1
  have hokj : e_ok (A j) := (hF.2.2.2.1 j hj).elim (fun h => by rw [h] at hw; exact absurd hw (by decide)) (fun h => h.2)
  have hjP := hF.2.2.2.2.1 j hj hokj
  have hD := hP.2 j hjP
  have hVj := hF.1.1 j hj
  generalize hμ0 : kt_si μ (p + 4) j 0 = μ0
  have f0 : ∀ y k, y ≠ p + 4 → kt_i μ0 y k = kt_i μ y k := fun y k hy => by rw [← hμ0, kt_i_sin hy]
  have f04 : ∀ c, kt_i μ0 (p + 4) c = if c = j then 0 else kt_i μ (p + 4) c := fun c => by
    rw [← hμ0, kt_i_si]; by_cases e : c = j <;> simp [e]
  have hCP0 : CP μ0 q P := hCP.ext hP.1 (fun y k h1 h2 => f0 y k (by omega))
  have hF0 : FI μ0 p P A j 0 := by
    obtain ⟨hJ, hB, hR, hW, hN, hO, hS⟩ := hF
    refine ⟨hJ, fun b hb => (hB b hb).ext (fun y k h1 h2 => f0 y k (by omega)), fun b hb => by rw [f0 _ _ (by omega)]; exact hR b hb, fun b hb => ?_, hN, fun b x hb hx => by rw [f0 _ _ (by omega)]; exact hO b x hb hx, fun b hb hok hw0 x hx hji hal => ?_⟩
    · rw [f04]; split
      · exact Or.inl rfl
      · exact hW b hb
    · rw [f04] at hw0
      by_cases e : b = j
      · have := hji e; omega
      · rw [if_neg e] at hw0
        obtain ⟨g1, g2, g3⟩ := hS b hb hok hw0 x hx (fun e => by omega) hal
        exact ⟨by rw [f0 _ _ (by omega)]; exact g1, g2.ext (fun y k h1 h2 => f0 y k (by omega)), g3⟩
  unfold f_lv
  have hC0 := hCP0.2 j hjP
  rw [cl_ne hC0 hD, hC0.1, nI_clamp (by have := hD.1; omega)]
  generalize hμ1 : m_actsL (p + 7) (q + 7 + 4 * j) (db_na (P.2 j)) 0 (m_cp μ0 (p + 7) (p + 7 + 4 * (2 + j))) = μ1
  have f1 : ∀ y k, ¬ (p + 7 + 1 ≤ y ∧ y ≤ p + 7 + 3) → kt_i μ1 y k = kt_i μ0 y k := fun y k hy => by rw [← hμ1, m_actsL_out hy, m_cp_out hy]
  have hA1 : CE μ1 (p + 7) (e_all (P.2 j) (A j)) := by
    rw [← hμ1]
    exact cl_acts hD (by omega) _ _ _ _ (by omega) (hC0.ext (fun y k h1 h2 => m_cp_out (by omega))) hVj ((hF0.2.1 j hj).cp (by omega))
  obtain ⟨A2, g1, g2, g3⟩ := cl_sdL hP hq hjP (db_ne (P.2 j)) 0 μ1 A (by omega) ⟨hF0.ext (fun y k h1 h2 => f1 y k (by omega)) (fun y k h1 h2 => f1 y k (by omega)) (fun b x hb hx _ y k h1 h2 => f1 y k (by omega)), hA1, hVj, hokj, e_le.refl, fun _ => rfl, hCP0.ext hP.1 (fun y k h1 h2 => f1 y k (by omega))⟩
  refine ⟨A2, g1.1.any, g1.2.2.2.2.2.2, g2, fun c hc hc1 => ?_⟩
  rcases g3 c hc hc1 with h | h
  · rw [f1 _ _ (by omega), f04] at h
    by_cases e : c = j
    · rw [if_pos e] at h; exact absurd h (by decide)
    · rw [if_neg e] at h; exact Or.inl ⟨e, h⟩
  · exact Or.inr h
theorem cl_rdL {p q : Nat} {P : DP} (hP : WP P 16) (hq : q + 71 ≤ p) (w0 : Nat) : ∀ (n i : Nat) (μ : kt_M) (g : Int32) (A : AV), i + n = 16 → FI μ p P A 16 0 → CP μ q P → w0 ≤ a_w A → (∀ c, c < 16 → kt_i μ (p + 4) c = 1 → i ≤ c ∨ w0 < a_w A) → ∃ A2, FI (f_rdL p q n i μ g).1 p P A2 16 0 ∧ CP (f_rdL p q n i μ g).1 q P ∧ w0 ≤ a_w A2 ∧ (∀ c, c < 16 → kt_i (f_rdL p q n i μ g).1 (p + 4) c = 1 → w0 < a_w A2) ∧ (((f_rdL p q n i μ g).2 = g ∧ (f_rdL p q n i μ g).1 = μ ∧ ∀ c, i ≤ c → c < 16 → kt_i μ (p + 4) c = 0) ∨ (f_rdL p q n i μ g).2 = 1)
  | 0, i, μ, g, A, hi, hF, hC, hw, hc => ⟨A, hF, hC, hw, fun c h1 h2 => (hc c h1 h2).elim (fun h => by omega) id, Or.inl ⟨rfl, rfl, fun c h1 h2 => by omega⟩⟩
  | n + 1, i, μ, g, A, hi, hF, hC, hw, hc => by
    rw [f_rdL]
    unfold f_rd1
    by_cases e : kt_i μ (p + 4) i = 0
    · rw [if_pos e]
      obtain ⟨A2, g1, g2, g3, g4, g5⟩ := cl_rdL hP hq w0 n (i + 1) μ g A (by omega) hF hC hw (fun c h1 h2 => (hc c h1 h2).elim (fun h => by
        by_cases ec : c = i
        · rw [ec, e] at h2; exact absurd h2 (by decide)
        · exact Or.inl (by omega)) Or.inr)
      refine ⟨A2, g1, g2, g3, g4, g5.imp (fun h => ⟨h.1, h.2.1, fun c h1 h2 => ?_⟩) id⟩
      by_cases ec : c = i
      · rw [ec]; exact e
      · exact h.2.2 c (by omega) h2
    · rw [if_neg e]
      have hw1 : kt_i μ (p + 4) i = 1 := (hF.2.2.2.1 i (by omega)).elim (fun h => absurd h e) (fun h => h.1)
      have hokj : e_ok (A i) := (hF.2.2.2.1 i (by omega)).elim (fun h => absurd h e) (fun h => h.2)
      have hat : k_at (kt_si μ (p + 4) i 0) q (nI i) = q + 7 + 4 * i := k_at_nI (s := P.1) (by rw [kt_i_sin (by omega)]; exact hC.1) (by have := hP.1; omega) (hF.2.2.2.2.1 i (by omega) hokj)
      dsimp only
      rw [hat]
      obtain ⟨A1, k1, k2, k3, k4⟩ := cl_lv hP hq (by omega) hF hw1 hC
      obtain ⟨A2, g1, g2, g3, g4, g5⟩ := cl_rdL hP hq w0 n (i + 1) _ 1 A1 (by omega) k1 k2 (by omega) (fun c h1 h2 => (k4 c h1 h2).elim (fun h => (hc c h1 h.2).elim (fun h3 => Or.inl (by omega)) (fun h3 => Or.inr (by omega))) (fun h => Or.inr (by omega)))
      exact ⟨A2, g1, g2, g3, g4, Or.inr (g5.elim (fun h => h.1) id)⟩
theorem cl_slL {p q : Nat} {P : DP} (hP : WP P 16) (hq : q + 71 ≤ p) : ∀ (n : Nat) (μ : kt_M) (g : Int32) (A : AV), FI μ p P A 16 0 → CP μ q P → (g = 0 → ∀ c, c < 16 → kt_i μ (p + 4) c = 0) → ((∀ c, c < 16 → kt_i μ (p + 4) c = 0) ∨ 3328 < a_w A + n) → ∃ A2, FI (f_slL p q n μ g) p P A2 16 0 ∧ CP (f_slL p q n μ g) q P ∧ ∀ c, c < 16 → kt_i (f_slL p q n μ g) (p + 4) c = 0
  | 0, μ, g, A, hF, hC, hg, hn => ⟨A, hF, hC, hn.elim id (fun h => by have := a_w_le hF.1.1; omega)⟩
  | n + 1, μ, g, A, hF, hC, hg, hn => by
    rw [f_slL]
    by_cases e : g = 0
    · rw [if_pos e]; exact ⟨A, hF, hC, hg e⟩
    · rw [if_neg e]
      obtain ⟨A2, g1, g2, g3, g4, g5⟩ := cl_rdL hP hq (a_w A) 16 0 μ 0 A (by omega) hF hC (Nat.le_refl _) (fun c _ _ => Or.inl (Nat.zero_le _))
      refine cl_slL hP hq n _ _ A2 g1 g2 (fun h0 => ?_) ?_
      · rcases g5 with ⟨h1, h2, h3⟩ | h1
        · rw [h2]; exact fun c hc => h3 c (Nat.zero_le _) hc
        · rw [h0] at h1; exact absurd h1 (by decide)
      · by_cases hall : ∀ c, c < 16 → kt_i (f_rdL p q 16 0 μ 0).1 (p + 4) c = 0
        · exact Or.inl hall
        · right
          rcases g5 with ⟨h1, h2, h3⟩ | h1
          · exact absurd (fun c hc => by rw [h2]; exact h3 c (Nat.zero_le _) hc) hall
          · obtain ⟨c, hc⟩ : ∃ c, ¬ (c < 16 → kt_i (f_rdL p q 16 0 μ 0).1 (p + 4) c = 0) := Classical.not_forall.mp hall
            obtain ⟨hc1, hc2⟩ := Classical.not_imp.mp hc
            have h4 := g4 c hc1 ((g1.2.2.2.1 c hc1).elim (fun h => absurd h hc2) (fun h => h.1))
            rcases hn with hn | hn
            · -- nothing waited: the round changed nothing
              exfalso
              obtain ⟨A3, -, -, -, -, r5⟩ := cl_rdL hP hq (a_w A) 16 0 μ 0 A (by omega) hF hC (Nat.le_refl _) (fun c _ _ => Or.inl (Nat.zero_le _))
              have hsame : ∀ n i (ν : kt_M) (x : Int32), (∀ c, c < 16 → kt_i ν (p + 4) c = 0) → i + n = 16 → (f_rdL p q n i ν x) = (ν, x) := by
                intro n
                induction n with
                | zero => intro i ν x _ _; rfl
                | succ n ih =>
                  intro i ν x hz hin
                  rw [f_rdL]
                  have : f_rd1 ν p q i x = (ν, x) := if_pos (hz i (by omega))
                  rw [this]
                  exact ih (i + 1) ν x hz (by omega)
              rw [hsame 16 0 μ 0 hn (by omega)] at hc2
              exact hc2 (hn c hc1)
            · omega
/-- the flow, solved -/
def FA (μ : kt_M) (p : Nat) (P : DP) (A : AV) : Prop := (∀ b, b < 16 → CE μ (p + 7 + 4 * (2 + b)) (A b)) ∧ (∀ b, b < 16 → kz (kt_i μ (p + 3) b) (e_ok (A b))) ∧ (∀ b, b < 16 → e_ok (A b) → b < P.1) ∧ (∀ b x, b < 16 → x < 2 → kz (kt_i μ (p + 5) (2 * b + x)) (e_ok (A b) ∧ x < db_ne (P.2 b) ∧ e_ok (a_al P A b x))) ∧ ∀ b x, b < 16 → e_ok (A b) → x < db_ne (P.2 b) → e_ok (a_al P A b x) → CE μ (p + 7 + 4 * (18 + (2 * b + x))) (a_al P A b x)
theorem FI.done {μ : kt_M} {p : Nat} {P : DP} {A : AV} (h : FI μ p P A 16 0) (hw : ∀ c, c < 16 → kt_i μ (p + 4) c = 0) (hP : WP P 16) : LF P A ∧ FA μ p P A := by
  obtain ⟨hJ, hB, hR, hW, hN, hO, hS⟩ := h
  have st : ∀ b x, b < 16 → e_ok (A b) → x < db_ne (P.2 b) → FS μ p P A b x := fun b x hb hok hx => hS b hb hok (hw b hb) x hx (fun e => by omega)
  refine ⟨⟨hJ, hJ.2.2.1, fun b hb hok x hx ho => (st b x (by have := hP.1; omega) hok hx ho).2.2⟩, hB, hR, hN, fun b x hb hx => ?_, fun b x hb hok hx ho => (st b x hb hok hx ho).2.1⟩
  rcases hO b x hb hx with h1 | ⟨h1, h2⟩
  · refine Or.inl ⟨h1, fun h2 => ?_⟩
    have := (st b x hb h2.1 h2.2.1 h2.2.2).1
    rw [h1] at this; exact absurd this (by decide)
  · exact Or.inr ⟨h1, h2⟩
theorem cl_st1 {p : Nat} : ∀ (n i : Nat) (μ : kt_M), i + n ≤ 16 → ∀ b, i ≤ b → b < i + n → CE (f_st1L p n i μ) (p + 7 + 4 * (2 + b)) (fun _ => r0) ∧ kt_i (f_st1L p n i μ) (p + 3) b = 0 ∧ kt_i (f_st1L p n i μ) (p + 4) b = 0
  | 0, i, μ, _, b, h1, h2 => by omega
  | n + 1, i, μ, hi, b, h1, h2 => by
    rw [f_st1L]
    by_cases e : b = i
    · subst e
      have keep : ∀ (n j : Nat) (ν : kt_M), b < j → j + n ≤ 16 → (∀ y k, (p + 7 + 4 * (2 + b) + 1 ≤ y ∧ y ≤ p + 7 + 4 * (2 + b) + 3) ∨ ((y = p + 3 ∨ y = p + 4) ∧ k = b) → kt_i (f_st1L p n j ν) y k = kt_i ν y k) := by
        intro n
        induction n with
        | zero => intro j ν _ _ y k _; rfl
        | succ n ih =>
          intro j ν hj hjn y k hy
          rw [f_st1L, ih (j + 1) _ (by omega) (by omega) y k hy]
          rcases hy with hy | ⟨hy, hk⟩
          · rw [kt_i_sin (by omega), kt_i_sin (by omega), m_setAll_out (by omega)]
          · rw [kt_i_sik (by omega), kt_i_sik (by omega), m_setAll_out (by omega)]
      have ks := keep n (b + 1) (kt_si (kt_si (m_setAll μ (p + 7 + 4 * (2 + b)) 0) (p + 3) b 0) (p + 4) b 0) (by omega) (by omega)
      refine ⟨?_, ?_, ?_⟩
      · have h0 : CE (m_setAll μ (p + 7 + 4 * (2 + b)) 0) (p + 7 + 4 * (2 + b)) (fun _ => r0) := cl_setAll (c := false)
        exact h0.ext (fun y k a1 a2 => by rw [ks y k (Or.inl (by omega)), kt_i_sin (by omega), kt_i_sin (by omega)])
      · rw [ks _ _ (Or.inr ⟨Or.inl rfl, rfl⟩), kt_i_sin (by omega), kt_i_sie]
      · rw [ks _ _ (Or.inr ⟨Or.inr rfl, rfl⟩), kt_i_sie]
    · exact cl_st1 n (i + 1) _ (by omega) b (by omega) (by omega)
theorem cl_start {μ : kt_M} {p : Nat} : (∀ b, b < 16 → CE (f_start μ p) (p + 7 + 4 * (2 + b)) (fun _ => r0) ∧ kt_i (f_start μ p) (p + 3) b = 0 ∧ kt_i (f_start μ p) (p + 4) b = 0) ∧ ∀ e, e < 32 → kt_i (f_start μ p) (p + 5) e = 0 := by
  unfold f_start
  refine ⟨fun b hb => ?_, fun e he => by rw [m_fillL_i, if_pos (by omega)]⟩
  obtain ⟨h1, h2, h3⟩ := cl_st1 (p := p) 16 0 μ (by omega) b (by omega) (by omega)
  exact ⟨h1.ext (fun y k a1 a2 => by rw [m_fillL_i, if_neg (by omega)]), by rw [m_fillL_i, if_neg (by omega)]; exact h2, by rw [m_fillL_i, if_neg (by omega)]; exact h3⟩
theorem cl_solve {μ : kt_M} {p q : Nat} {P : DP} (hP : WP P 16) (hq : q + 71 ≤ p) (hC : CP μ q P) : ∃ A, LF P A ∧ FA (f_solve μ p q) p P A ∧ CP (f_solve μ p q) q P := by
  unfold f_solve
  rw [kt_seal_eq]
  obtain ⟨s1, s2⟩ := cl_start (μ := μ) (p := p)
  have hC0 : CP (f_start μ p) q P := hC.ext hP.1 (fun y k h1 h2 => f_start_out (by omega))
  have hnok : ¬ e_ok (fun _ => r0) := fun h => r0_nok (h 0 (by decide))
  by_cases e : P.1 = 0
  · rw [if_pos (by rw [hC0.1, e]; rfl)]
    have ha0 : ∀ b, a_0 P b = fun _ => r0 := fun b => funext fun v => if_neg (by omega)
    have hFI : FI (f_start μ p) p P (a_0 P) 16 0 := by
      refine ⟨JF.start P, fun b hb => by rw [ha0]; exact (s1 b hb).1, fun b hb => by rw [ha0]; exact Or.inl ⟨(s1 b hb).2.1, hnok⟩, fun b hb => Or.inl (s1 b hb).2.2, fun b hb h => by rw [ha0] at h; exact absurd h hnok, fun b x hb hx => Or.inl (s2 _ (by omega)), fun b hb h => by rw [ha0] at h; exact absurd h hnok⟩
    obtain ⟨h1, h2⟩ := hFI.done (fun c hc => (s1 c hc).2.2) hP
    exact ⟨_, h1, h2, hC0⟩
  · rw [if_neg (by rw [hC0.1]; exact nI_ne0 (by omega) (by have := hP.1; omega))]
    have f0 : ∀ y k, (y ≠ p + 3 ∧ y ≠ p + 4 ∧ ¬ (p + 7 + 4 * 2 + 1 ≤ y ∧ y ≤ p + 7 + 4 * 2 + 3)) → kt_i (f_ini (f_start μ p) p) y k = kt_i (f_start μ p) y k := fun y k hy => by
      unfold f_ini; rw [kt_i_sin (by omega), kt_i_sin (by omega), m_setAll_out (by omega)]
    have hin : CE (f_ini (f_start μ p) p) (p + 7 + 4 * (2 + 0)) (fun _ => rN) := by
      have h0 : CE (m_setAll (f_start μ p) (p + 7 + 4 * 2) 1) (p + 7 + 4 * 2) (fun _ => rN) := cl_setAll (c := true)
      exact h0.ext (fun y k h1 h2 => by unfold f_ini; rw [kt_i_sin (by omega), kt_i_sin (by omega)])
    have hr : ∀ b, b < 16 → kt_i (f_ini (f_start μ p) p) (p + 3) b = if b = 0 then 1 else 0 := fun b hb => by
      unfold f_ini
      rw [kt_i_sin (by omega), kt_i_si, m_setAll_out (by omega), (s1 b hb).2.1]
      by_cases eb : b = 0 <;> simp [eb]
    have hw : ∀ b, b < 16 → kt_i (f_ini (f_start μ p) p) (p + 4) b = if b = 0 then 1 else 0 := fun b hb => by
      unfold f_ini
      rw [kt_i_si, kt_i_sin (by omega), m_setAll_out (by omega), (s1 b hb).2.2]
      by_cases eb : b = 0 <;> simp [eb]
    have ha0 : a_0 P 0 = fun _ => rN := funext fun v => if_pos ⟨rfl, by omega⟩
    have hab : ∀ b, b ≠ 0 → a_0 P b = fun _ => r0 := fun b hb => funext fun v => if_neg (fun h => hb h.1)
    have hokN : e_ok (fun _ => rN) := fun v _ => Or.inl rfl
    have hFI : FI (f_ini (f_start μ p) p) p P (a_0 P) 16 0 := by
      refine ⟨JF.start P, fun b hb => ?_, fun b hb => ?_, fun b hb => ?_, fun b hb h => ?_, fun b x hb hx => Or.inl (by rw [f0 _ _ (by omega)]; exact s2 _ (by omega)), fun b hb hok hw0 => ?_⟩
      · by_cases eb : b = 0
        · subst eb; rw [ha0]; exact hin
        · rw [hab b eb]; exact (s1 b hb).1.ext (fun y k h1 h2 => f0 y k (by omega))
      · rw [hr b hb]
        by_cases eb : b = 0
        · subst eb; rw [if_pos rfl, ha0]; exact Or.inr ⟨rfl, hokN⟩
        · rw [if_neg eb, hab b eb]; exact Or.inl ⟨rfl, hnok⟩
      · rw [hw b hb]
        by_cases eb : b = 0
        · subst eb; rw [if_pos rfl, ha0]; exact Or.inr ⟨rfl, hokN⟩
        · rw [if_neg eb]; exact Or.inl rfl
      · by_cases eb : b = 0
        · omega
        · rw [hab b eb] at h; exact absurd h hnok
      · by_cases eb : b = 0
        · subst eb; rw [hw 0 hb, if_pos rfl] at hw0; exact absurd hw0 (by decide)
        · rw [hab b eb] at hok; exact absurd hok hnok
    have hC1 : CP (f_ini (f_start μ p) p) q P := hC0.ext hP.1 (fun y k h1 h2 => f0 y k (by omega))
    obtain ⟨A, g1, g2, g3⟩ := cl_slL hP hq 3840 _ 1 _ hFI hC1 (fun h => absurd h (by decide)) (Or.inr (by omega))
    obtain ⟨h1, h2⟩ := g1.done g3 hP
    exact ⟨A, h1, h2, g2⟩

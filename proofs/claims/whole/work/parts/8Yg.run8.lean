/-- block after block -/
theorem pu_rfl {n m p a q N pg : Nat} {P : DP} (hP : WP P N) (hN : N ≤ 16) (hpg : pg ≤ 3) (hap : a < p ∨ p + 4 ≤ a) (hsep : p + 4 ≤ q ∨ q + 7 + 4 * N ≤ p) (hn : 10 ≤ n) : ∀ (fu s : Nat) (μ ν : kt_M) (c d : Nat) (bc bm : Int32), s ≤ 60 → 60 < s + fu → RN μ ν p m s c d → c ≤ 4 * s → d ≤ 4 * s → kt_i μ p 8 = kt_i ν m 27 → (kt_i ν m 27 = 1 ∨ (kt_i ν m 27 = 0 ∧ ∃ t, t < P.1 ∧ bc = nI t ∧ bm = nI t)) → CP μ q P → MP ν m pg P → (∀ j, j < 8 → ∃ x, x ≤ 51 ∧ kt_i μ a j = nI x ∧ kt_i ν (m + 3) j = nI x) → ∃ s' c' d' ν1, x_runs_L65 n m fu (nI pg) bm ν = some ((), ν1) ∧ RN (r_flL p q a (60 - s) bc μ) ν1 p m s' c' d' ∧ s' ≤ 60 ∧ c' ≤ 240 ∧ d' ≤ 240 ∧ kt_i (r_flL p q a (60 - s) bc μ) p 8 = kt_i ν1 m 27 ∧ (kt_i ν1 m 27 = 0 ∨ kt_i ν1 m 27 = 1) ∧ (∀ y z, ¬ (y = m ∧ 22 ≤ z ∧ z ≤ 27) → y ≠ m + 12 → y ≠ m + 13 → y ≠ m + 14 → kt_i ν1 y z = kt_i ν y z)
  | 0, s, μ, ν, c, d, bc, bm, h1, h2, h, hc, hd, h8, hfl, hC, hM, hin => by omega
  | fu + 1, s, μ, ν, c, d, bc, bm, h1, h2, h, hc, hd, h8, hfl, hC, hM, hin => by
    have hs := hP.1
    rw [x_runs_L65]
    unfold x_runs_B65
    rcases hfl with hf | ⟨hf, t, ht, rfl, rfl⟩
    · refine ⟨s, c, d, ν, by rw [if_neg (by rw [hf]; decide)], ?_, h1, by omega, by omega, ?_, Or.inr hf, fun _ _ _ _ _ _ => rfl⟩
      · by_cases e : s = 60
        · subst e; exact h
        · rw [show 60 - s = (60 - (s + 1)) + 1 by omega, r_flL, if_neg (by rw [h8, hf]; decide)]; exact h
      · by_cases e : s = 60
        · subst e; exact h8
        · rw [show 60 - s = (60 - (s + 1)) + 1 by omega, r_flL, if_neg (by rw [h8, hf]; decide)]; exact h8
    · rw [if_pos hf, h.1.2]
      by_cases e : s = 60
      · subst e
        exact ⟨60, c, d, ν, by rw [if_pos (by decide)], h, h1, by omega, by omega, h8, Or.inl hf, fun _ _ _ _ _ _ => rfl⟩
      · rw [if_neg (fun q => by have := (nI_leI (a := 60) (by decide) (by omega)).mp q; omega), kq_ck_t (pu_kin (by omega) (by decide)), nI_clamp (by omega)]
        simp only [kq_lt]
        rw [kt_i_sin (show m ≠ m + 14 by omega), h.1.2, nI_1]
        have hD := hP.2 t ht
        have hCb := hC.2 t ht
        have hna := hD.1
        have hat : k_at μ q (nI t) = q + 7 + 4 * t := k_at_nI hC.1 (by omega) ht
        have hst : r_step μ p q a (nI t) = r_end (r_actsL p a (q + 7 + 4 * t) (db_na (P.2 t)) 0 (kt_si (kt_si μ (p + 2) s (nI t)) p 3 (nI (s + 1)))) p (q + 7 + 4 * t) := by
          unfold r_step r_ent
          rw [hat, hCb.1, nI_clamp (by omega), h.1.1, nI_clamp (by omega), nI_1]
        have hfl' : r_flL p q a (60 - s) (nI t) μ = r_flL p q a (60 - (s + 1)) (r_step μ p q a (nI t)).1 (r_step μ p q a (nI t)).2 := by
          rw [show 60 - s = (60 - (s + 1)) + 1 by omega, r_flL, if_pos (by rw [h8, hf])]
        rw [hfl', hst]
        have hR := h.ent (x := nI t)
        have hμe : ∀ y z, y ≠ p → y ≠ p + 2 → kt_i (kt_si (kt_si μ (p + 2) s (nI t)) p 3 (nI (s + 1))) y z = kt_i μ y z := fun y z q1 q2 => by rw [kt_i_sin q1, kt_i_sin q2]
        have hμ8 : kt_i (kt_si (kt_si μ (p + 2) s (nI t)) p 3 (nI (s + 1))) p 8 = 0 := by rw [kt_i_sik (by decide), kt_i_sin (by omega), h8, hf]
        have hνe : ∀ y z, ¬ (y = m ∧ z = 22) → y ≠ m + 14 → kt_i (kt_si (kt_si ν (m + 14) s (nI t)) m 22 (nI (s + 1))) y z = kt_i ν y z := fun y z q1 q2 => by rw [kt_i_si, if_neg q1, kt_i_sin q2]
        generalize kt_si (kt_si μ (p + 2) s (nI t)) p 3 (nI (s + 1)) = μ2 at hR hμe hμ8
        generalize kt_si (kt_si ν (m + 14) s (nI t)) m 22 (nI (s + 1)) = ν2 at hR hνe
        have hC2 : CP μ2 q P := hC.ext hs (fun y z q1 q2 => hμe y z (by omega) (by omega))
        have hM2 : MP ν2 m pg P := hM.ext (fun j => hνe _ j (by omega) (by omega))
        obtain ⟨c2, d2, ν3, a1, a2, a3, a4, a5⟩ := pu_racts (n := n) (m := m) (p := p) (a := a) (s := s + 1) (pg := pg) (b := t) (kb := q + 7 + 4 * t) hD hpg (by omega) hap (by omega) (x_runs_L65 n m fu) n 0 μ2 ν2 c d (by omega) (by omega) hR (hC2.2 t ht) (hM2.2 t ht) (fun j hj => by rw [hμe _ _ (by omega) (by omega), hνe _ _ (by omega) (by omega)]; exact hin j hj) (by omega) (by omega)
        rw [show (0 : Int32) = nI 0 from rfl, a1]
        rw [Nat.sub_zero] at a2 a3 a4
        have hμ3 : ∀ y z, y ≠ p → y ≠ p + 1 → y ≠ p + 3 → kt_i (r_actsL p a (q + 7 + 4 * t) (db_na (P.2 t)) 0 μ2) y z = kt_i μ2 y z := fun y z q1 q2 q3 => r_actsL_out ⟨q1, q2, q3⟩ _ _ _
        have h83 : kt_i (r_actsL p a (q + 7 + 4 * t) (db_na (P.2 t)) 0 μ2) p 8 = 0 := by rw [r_actsL_p (by decide)]; exact hμ8
        generalize r_actsL p a (q + 7 + 4 * t) (db_na (P.2 t)) 0 μ2 = μ3 at a2 hμ3 h83
        have hC3 : CP μ3 q P := hC2.ext hs (fun y z q1 q2 => hμ3 y z (by omega) (by omega) (by omega))
        have hM3 : MP ν3 m pg P := hM2.ext (fun j => a5 _ j (by omega) (by omega) (by omega))
        obtain ⟨t', ν4, b1, b2, b3, b4, b5⟩ := pu_rend (n := n) (m := m) (p := p) (pg := pg) (b := t) (kb := q + 7 + 4 * t) hD hpg (by omega) a2 (hC3.2 t ht) (hM3.2 t ht) (by omega) h83 (x_runs_L65 n m fu) (fun _ _ _ _ => none)
        rw [b1]
        have hμ4 : ∀ y z, y ≠ p → kt_i (r_end μ3 p (q + 7 + 4 * t)).2 y z = kt_i μ3 y z := fun y z q1 => r_end_out q1
        have hM4 : MP ν4 m pg P := hM3.ext (fun j => b5 _ j (by omega))
        have hC4 : CP (r_end μ3 p (q + 7 + 4 * t)).2 q P := hC3.ext hs (fun y z q1 q2 => hμ4 y z (by omega))
        obtain ⟨s5, c5, d5, ν5, f1, f2, f3, f4, f5, f6, f7, f8⟩ := pu_rfl (n := n) (m := m) (a := a) hP hN hpg hap hsep hn fu (s + 1) (r_end μ3 p (q + 7 + 4 * t)).2 ν4 c2 d2 (r_end μ3 p (q + 7 + 4 * t)).1 (nI t') (by omega) (by omega) b2 (by omega) (by omega) b3 (b4.imp id (fun z => ⟨z.1, t', z.2.1, z.2.2, rfl⟩)) hC4 hM4 (fun j hj => by rw [hμ4 _ _ (by omega), hμ3 _ _ (by omega) (by omega) (by omega), hμe _ _ (by omega) (by omega), b5 _ _ (by omega), a5 _ _ (by omega) (by omega) (by omega), hνe _ _ (by omega) (by omega)]; exact hin j hj)
        exact ⟨s5, c5, d5, ν5, f1, f2, f3, f4, f5, f6, f7, fun y z q1 q2 q3 q4 => by rw [f8 y z q1 q2 q3 q4, b5 y z (by omega), a5 y z (by omega) q2 q3, hνe y z (by omega) q4]⟩
theorem pu_rL2 {n m : Nat} {pg : Int32} : ∀ (fu i : Nat) (ν : kt_M), i ≤ 4 → 4 < i + fu → ∃ ν1, x_runs_L2 n m fu pg (nI i) ν = x_runs_B2 n m (fun _ _ _ => none) pg 4 ν1 ∧ (∀ v, i ≤ v → v < 4 → kt_i ν1 (m + 12) v = 51) ∧ ∀ y z, ¬ (y = m + 12 ∧ i ≤ z) → kt_i ν1 y z = kt_i ν y z
  | 0, i, ν, h1, h2 => by omega
  | fu + 1, i, ν, h1, h2 => by
    rw [x_runs_L2]
    by_cases e : i = 4
    · subst e
      refine ⟨ν, ?_, fun v h3 h4 => by omega, fun _ _ _ => rfl⟩
      unfold x_runs_B2
      rw [if_pos (by decide), if_pos (by decide)]
    · have hs : x_runs_B2 n m (x_runs_L2 n m fu) pg (nI i) ν = x_runs_L2 n m fu pg (nI (i + 1)) (kt_si ν (m + 12) i 51) := by
        unfold x_runs_B2
        rw [if_neg (fun q => by have := (nI_leI (a := 4) (by decide) (by omega)).mp q; omega), kq_ck_t (pu_kin (by omega) (by decide)), nI_clamp (by omega), nI_1]
        simp only [kq_lt]
      rw [hs]
      obtain ⟨ν1, a1, a2, a3⟩ := pu_rL2 (n := n) (m := m) (pg := pg) fu (i + 1) (kt_si ν (m + 12) i 51) (by omega) (by omega)
      refine ⟨ν1, a1, fun v h3 h4 => ?_, fun y z q => ?_⟩
      · by_cases e2 : v = i
        · rw [e2, a3 _ _ (by omega), kt_i_sie]
        · exact a2 v (by omega) h4
      · rw [a3 _ _ (by omega), kt_i_si, if_neg (by omega)]
/-- a run of both -/
theorem pu_runs {n m p a q N pg : Nat} {P : DP} {μ ν : kt_M} (hP : WP P N) (hN : N ≤ 16) (hpg : pg ≤ 3) (hap : a < p ∨ p + 4 ≤ a) (hsep : p + 4 ≤ q ∨ q + 7 + 4 * N ≤ p) (hn : 100 ≤ n) (hC : CP μ q P) (hM : MP ν m pg P) (hin : ∀ j, j < 8 → ∃ x, x ≤ 51 ∧ kt_i μ a j = nI x ∧ kt_i ν (m + 3) j = nI x) : ∃ s' c' d' ν1, x_runs n m ν (nI pg) = some ((), ν1) ∧ RN (r_fol μ p q a) ν1 p m s' c' d' ∧ s' ≤ 60 ∧ c' ≤ 240 ∧ d' ≤ 240 ∧ kt_i (r_fol μ p q a) p 8 = kt_i ν1 m 27 ∧ (kt_i ν1 m 27 = 0 ∨ kt_i ν1 m 27 = 1) ∧ (∀ y z, ¬ (y = m ∧ 22 ≤ z ∧ z ≤ 27) → y ≠ m + 12 → y ≠ m + 13 → y ≠ m + 14 → kt_i ν1 y z = kt_i ν y z) := by
  have hs := hP.1
  unfold x_runs
  obtain ⟨ν1, a1, a2, a3⟩ := pu_rL2 (n := n) (m := m) (pg := nI pg) n 0 ν (by decide) (by omega)
  rw [show (0 : Int32) = nI 0 from rfl, a1]
  unfold x_runs_B2
  rw [if_pos (by decide)]
  simp only [kq_lt]
  have hM1 : MP (kt_si (kt_si (kt_si (kt_si (kt_si ν1 m 22 0) m 23 0) m 24 0) m 25 0) m 26 0) m pg P := hM.ext (fun j => by
    rw [kt_i_sin (by omega), kt_i_sin (by omega), kt_i_sin (by omega), kt_i_sin (by omega), kt_i_sin (by omega), a3 _ _ (by omega)])
  rw [kq_b2_s ((pu_many hpg).trans (pu_pair hM1.1 rfl))]
  have hfold : ∀ w : Int32, w = 0 ∨ w = 1 → x_runs_J60 n m (nI pg) w (kt_si (kt_si (kt_si (kt_si (kt_si ν1 m 22 0) m 23 0) m 24 0) m 25 0) m 26 0) = x_runs_L65 n m n (nI pg) 0 (kt_si (kt_si (kt_si (kt_si (kt_si (kt_si ν1 m 22 0) m 23 0) m 24 0) m 25 0) m 26 0) m 27 w) := fun w hw => by
    unfold x_runs_J60; rw [kq_ck_t hw]; simp only [kq_lt]
  have hw : ∃ w : Int32, (w = 0 ∨ w = 1) ∧ (if kt_i μ q 3 = 0 then (1 : Int32) else 0) = w ∧ (if nI P.1 = 0 then x_runs_J60 n m (nI pg) 1 (kt_si (kt_si (kt_si (kt_si (kt_si ν1 m 22 0) m 23 0) m 24 0) m 25 0) m 26 0) else x_runs_J60 n m (nI pg) 0 (kt_si (kt_si (kt_si (kt_si (kt_si ν1 m 22 0) m 23 0) m 24 0) m 25 0) m 26 0)) = x_runs_J60 n m (nI pg) w (kt_si (kt_si (kt_si (kt_si (kt_si ν1 m 22 0) m 23 0) m 24 0) m 25 0) m 26 0) ∧ (w = 1 ∨ (w = 0 ∧ 0 < P.1)) := by
    rw [hC.1]
    by_cases e : P.1 = 0
    · rw [e]
      exact ⟨1, Or.inr rfl, if_pos rfl, if_pos rfl, Or.inl rfl⟩
    · have : ¬ nI P.1 = 0 := fun z => e ((nI_eq (b := 0) (by omega) (by decide)).mp z)
      exact ⟨0, Or.inl rfl, if_neg this, if_neg this, Or.inr ⟨rfl, by omega⟩⟩
  obtain ⟨w, w1, w2, w3, w4⟩ := hw
  rw [w3, hfold w w1]
  unfold r_fol
  rw [w2]
  have hμs : ∀ y z, y ≠ p → y ≠ p + 1 → kt_i (kt_si (r_start μ p) p 8 w) y z = kt_i μ y z := fun y z q1 q2 => by
    unfold r_start
    rw [kt_i_sin q1, kt_i_sin q1, kt_i_sin q1, kt_i_sin q1, kt_i_sin q1, kt_i_sin q1, kt_i_sin q2, kt_i_sin q2, kt_i_sin q2, kt_i_sin q2]
  have hνs : ∀ y z, ¬ (y = m ∧ 22 ≤ z ∧ z ≤ 27) → kt_i (kt_si (kt_si (kt_si (kt_si (kt_si (kt_si ν1 m 22 0) m 23 0) m 24 0) m 25 0) m 26 0) m 27 w) y z = kt_i ν1 y z := fun y z q1 => by
    rw [kt_i_si, if_neg (by omega), kt_i_si, if_neg (by omega), kt_i_si, if_neg (by omega), kt_i_si, if_neg (by omega), kt_i_si, if_neg (by omega), kt_i_si, if_neg (by omega)]
  have hR : RN (kt_si (r_start μ p) p 8 w) (kt_si (kt_si (kt_si (kt_si (kt_si (kt_si ν1 m 22 0) m 23 0) m 24 0) m 25 0) m 26 0) m 27 w) p m 0 0 0 := by
    refine ⟨⟨?_, ?_⟩, ?_, ?_, ⟨?_, ?_⟩, ⟨?_, ?_⟩, fun v hv => ⟨51, by decide, ?_, ?_⟩, fun j hj => absurd hj (by omega), fun j hj => absurd hj (by omega)⟩
    · unfold r_start; rw [kt_i_sik (by decide), kt_i_sik (by decide), kt_i_sik (by decide), kt_i_sik (by decide), kt_i_sik (by decide), kt_i_sie]; rfl
    · rw [kt_i_sik (by decide), kt_i_sik (by decide), kt_i_sik (by decide), kt_i_sik (by decide), kt_i_sik (by decide), kt_i_sie]; rfl
    · unfold r_start; rw [kt_i_sik (by decide), kt_i_sik (by decide), kt_i_sik (by decide), kt_i_sik (by decide), kt_i_sie, kt_i_sik (by decide), kt_i_sik (by decide), kt_i_sik (by decide), kt_i_sik (by decide), kt_i_sie]
    · unfold r_start; rw [kt_i_sik (by decide), kt_i_sik (by decide), kt_i_sik (by decide), kt_i_sie, kt_i_sik (by decide), kt_i_sik (by decide), kt_i_sik (by decide), kt_i_sie]
    · unfold r_start; rw [kt_i_sik (by decide), kt_i_sik (by decide), kt_i_sie]; rfl
    · rw [kt_i_sik (by decide), kt_i_sik (by decide), kt_i_sie]; rfl
    · unfold r_start; rw [kt_i_sik (by decide), kt_i_sie]; rfl
    · rw [kt_i_sik (by decide), kt_i_sie]; rfl
    · unfold r_start
      rw [kt_i_sin (by omega), kt_i_sin (by omega), kt_i_sin (by omega), kt_i_sin (by omega), kt_i_sin (by omega), kt_i_sin (by omega)]
      have : v = 0 ∨ v = 1 ∨ v = 2 ∨ v = 3 := by omega
      rcases this with rfl | rfl | rfl | rfl
      · rw [kt_i_sik (by decide), kt_i_sik (by decide), kt_i_sik (by decide), kt_i_sie]; rfl
      · rw [kt_i_sik (by decide), kt_i_sik (by decide), kt_i_sie]; rfl
      · rw [kt_i_sik (by decide), kt_i_sie]; rfl
      · rw [kt_i_sie]; rfl
    · rw [hνs _ _ (by omega), a2 v (by omega) hv]; rfl
  have h8 : kt_i (kt_si (r_start μ p) p 8 w) p 8 = w := kt_i_sie
  have h27 : kt_i (kt_si (kt_si (kt_si (kt_si (kt_si (kt_si ν1 m 22 0) m 23 0) m 24 0) m 25 0) m 26 0) m 27 w) m 27 = w := kt_i_sie
  generalize kt_si (r_start μ p) p 8 w = μ2 at hR hμs h8
  generalize kt_si (kt_si (kt_si (kt_si (kt_si (kt_si ν1 m 22 0) m 23 0) m 24 0) m 25 0) m 26 0) m 27 w = ν2 at hR hνs h27
  obtain ⟨s5, c5, d5, ν5, f1, f2, f3, f4, f5, f6, f7, f8⟩ := pu_rfl (n := n) (m := m) (a := a) hP hN hpg hap hsep (by omega) n 0 μ2 ν2 0 0 0 0 (by decide) (by omega) hR (by decide) (by decide) (by rw [h8, h27]) (by rw [h27]; exact w4.imp id (fun z => ⟨z.1, 0, z.2, rfl, rfl⟩)) (hC.ext hs (fun y z q1 q2 => hμs y z (by omega) (by omega))) (hM.ext (fun j => by rw [hνs _ _ (by omega), a3 _ _ (by omega)])) (fun j hj => by rw [hμs _ _ (by omega) (by omega), hνs _ _ (by omega), a3 _ _ (by omega)]; exact hin j hj)
  exact ⟨s5, c5, d5, ν5, f1, f2, f3, f4, f5, f6, f7, fun y z q1 q2 q3 q4 => by rw [f8 y z q1 q2 q3 q4, hνs y z q1, a3 y z (by omega)]⟩

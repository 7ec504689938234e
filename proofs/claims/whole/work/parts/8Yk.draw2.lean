/-- the acts of a block are drawn -/
theorem pu_dacts {n m p c kb k : Nat} {l2 l3 : Int32} (hc : c + 20 ≤ 1284) (hk : k ≤ 4) (hkb : kb + 4 ≤ p) (K28 : Int32 → Int32 → kt_M → Option (Int32 × kt_M)) : ∀ (fu i : Nat) (μ ν : kt_M) (f : Nat → Nat × Nat × Nat), i ≤ k → k < i + fu → kt_i μ p 0 = kt_i ν m 28 → AC μ ν kb (m + 1) c i f → ∃ f' ν1, x_draw_L60 n m K28 fu l2 l3 (nI c) (nI k) (nI i) ν = x_draw_B60 n m K28 (fun _ _ _ _ _ _ => none) l2 l3 (nI c) (nI k) (nI k) ν1 ∧ AC (d_actsL p kb (k - i) μ) ν1 kb (m + 1) c k f' ∧ kt_i (d_actsL p kb (k - i) μ) p 0 = kt_i ν1 m 28 ∧ (∀ y z, ¬ (y = m ∧ z = 28) → ¬ (y = m + 1 ∧ c ≤ z ∧ z < c + 13) → kt_i ν1 y z = kt_i ν y z)
  | 0, i, μ, ν, f, h1, h2, hs, h => by omega
  | fu + 1, i, μ, ν, f, h1, h2, hs, h => by
    rw [x_draw_L60]
    by_cases e : i = k
    · subst e
      refine ⟨f, ν, ?_, by rw [Nat.sub_self]; exact h, by rw [Nat.sub_self]; exact hs, fun _ _ _ _ => rfl⟩
      unfold x_draw_B60
      rw [if_pos ((nI_leI (by omega) (by omega)).mpr (Nat.le_refl _)), if_pos ((nI_leI (by omega) (by omega)).mpr (Nat.le_refl _))]
    · obtain ⟨f1, ν1, a1, a2, a3, a4⟩ := pu_dact (n := n) (m := m) hc (show i < 4 by omega) hkb hs h
      have hst : x_draw_B60 n m K28 (x_draw_L60 n m K28 fu) l2 l3 (nI c) (nI k) (nI i) ν = x_draw_L60 n m K28 fu l2 l3 (nI c) (nI k) (nI (i + 1)) ν1 := by
        unfold x_draw_B60
        rw [if_neg (fun q => by have := (nI_leI (by omega) (by omega)).mp q; omega), kq_b2_s a1, nI_1]
      rw [hst, show k - i = (k - (i + 1)) + 1 by omega, d_actsL]
      obtain ⟨f2, ν2, b1, b2, b3, b4⟩ := pu_dacts (n := n) (m := m) (l2 := l2) (l3 := l3) hc hk hkb K28 fu (i + 1) (d_act μ p kb) ν1 f1 (by omega) (by omega) a3 a2
      exact ⟨f2, ν2, b1, b2, b3, fun y z q1 q2 => by rw [b4 y z q1 q2, a4 y z q1 q2]⟩
/-- where a block leads is drawn -/
theorem pu_daims {n m p c kb N ne g : Nat} (hc : c + 20 ≤ 1284) (hkb : kb + 4 ≤ p) (hN : 0 < N) (hN2 : N < 2 ^ 31) (hg : g < 5) (hne : ne = if g = 0 then 0 else if g = 1 then 1 else 2) : ∀ (fu i : Nat) (μ ν : kt_M), i ≤ ne → ne < i + fu → kt_i μ p 0 = kt_i ν m 28 → ∃ ν1, x_drawsEnd_L105 n m fu (nI c) (nI N) (nI g) (nI i) ν = some ((), ν1) ∧ kt_i (d_aimL p kb (nI N) (ne - i) i μ) p 0 = kt_i ν1 m 28 ∧ (∀ x, i ≤ x → x < ne → ∃ t, t < N ∧ kt_i (d_aimL p kb (nI N) (ne - i) i μ) kb (8 + x) = nI t ∧ kt_i ν1 (m + 1) (c + (14 + x)) = nI t) ∧ (∀ y z, y ≠ p → ¬ (y = kb ∧ 8 + i ≤ z ∧ z < 8 + ne) → kt_i (d_aimL p kb (nI N) (ne - i) i μ) y z = kt_i μ y z) ∧ (∀ y z, ¬ (y = m ∧ z = 28) → ¬ (y = m + 1 ∧ c + (14 + i) ≤ z ∧ z < c + (14 + ne)) → kt_i ν1 y z = kt_i ν y z)
  | 0, i, μ, ν, h1, h2, hs => by omega
  | fu + 1, i, μ, ν, h1, h2, hs => by
    have hne2 : ne ≤ 2 := by rw [hne]; split; decide; split; decide; decide
    have hB : ∀ K105, x_drawsEnd_B105 n m K105 (nI c) (nI N) (nI g) (nI i) ν = x_drawsEnd_J125 n m K105 (nI c) (nI N) (nI g) (nI i) (nI i) (nI ne) ν := fun K105 => by
      unfold x_drawsEnd_B105
      by_cases e0 : g = 0
      · subst e0; rw [if_pos rfl] at hne; subst hne; rw [if_pos (show nI 0 = 0 from rfl)]; rfl
      · rw [if_neg e0] at hne
        rw [if_neg (show ¬ nI g = 0 from fun q => e0 ((nI_eq (b := 0) (by omega) (by decide)).mp q))]
        by_cases e1 : g = 1
        · subst e1; rw [if_pos rfl] at hne; subst hne; rw [if_pos (show nI 1 = 1 from rfl)]; rfl
        · rw [if_neg e1] at hne; subst hne
          rw [if_neg (show ¬ nI g = 1 from fun q => e1 ((nI_eq (b := 1) (by omega) (by decide)).mp q))]; rfl
    rw [x_drawsEnd_L105, hB]
    unfold x_drawsEnd_J125
    by_cases e : i = ne
    · refine ⟨ν, by rw [if_pos ((nI_leI (by omega) (by omega)).mpr (by omega))], by rw [e, Nat.sub_self]; exact hs, fun x q1 q2 => by omega, fun y z _ _ => by rw [e, Nat.sub_self]; rfl, fun _ _ _ _ => rfl⟩
    · obtain ⟨t, ht, et⟩ := dv_ex (kt_i μ p 0) (k := N) hN hN2
      rw [if_neg (fun q => by have := (nI_leI (by omega) (by omega)).mp q; omega), kq_b2_s pu_gets, kq_ck_t (show ¬ nI N = 0 from fun q => by have := (nI_eq (b := 0) (by omega) (by decide)).mp q; omega), show nI c + 14 + nI i = nI (c + (14 + i)) by rw [show (14 : Int32) = nI 14 from rfl, nI_add, nI_add]; congr 1; omega, kq_ck_t (pu_kin (by omega) (by decide)), nI_clamp (by omega), nI_1]
      simp only [kq_lt]
      have et2 : k_dr (k_sd (kt_i ν m 28)) - k_dr (k_sd (kt_i ν m 28)) / nI N * nI N = nI t := by rw [← hs]; exact et
      rw [et2, show ne - i = (ne - (i + 1)) + 1 by omega, d_aimL, pu_89 (by omega), show d_val μ p (nI N) = nI t from (d_val_e hN hN2).trans et]
      obtain ⟨ν1, a1, a2, a3, a4, a5⟩ := pu_daims (n := n) (m := m) hc hkb hN hN2 hg hne fu (i + 1) (kt_si (d_nx μ p) kb (8 + i) (nI t)) (kt_si (kt_si ν m 28 (k_sd (kt_i ν m 28))) (m + 1) (c + (14 + i)) (nI t)) (by omega) (by omega) (by rw [kt_i_sin (by omega), d_nx_e, kt_i_sin (by omega), kt_i_sie, hs])
      refine ⟨ν1, a1, a2, fun x q1 q2 => ?_, fun y z q1 q2 => ?_, fun y z q1 q2 => ?_⟩
      · by_cases e2 : x = i
        · subst e2
          exact ⟨t, ht, by rw [a4 _ _ (by omega) (by omega), kt_i_sie], by rw [a5 _ _ (by omega) (by omega), kt_i_sie]⟩
        · exact a3 x (by omega) q2
      · rw [a4 y z q1 (by omega), kt_i_si, if_neg (by omega), d_nx_out q1]
      · rw [a5 y z q1 (by omega), kt_i_si, if_neg (by omega), kt_i_si, if_neg q1]
theorem pu_noT {n m x N c : Nat} {ν : kt_M} (hc : c + 19 ≤ N) (hN : N < 2 ^ 31) : ∃ ν1, x_noTest n m ν x N (nI c) = some ((), ν1) ∧ (∀ w, 14 ≤ w → w < 19 → kt_i ν1 x (c + w) = -4) ∧ ∀ y z, ¬ (y = x ∧ c + 14 ≤ z ∧ z < c + 19) → kt_i ν1 y z = kt_i ν y z := by
  have e14 : nI c + 14 = nI (c + 14) := nI_add c 14
  have e15 : nI c + 14 + 1 = nI (c + 15) := by rw [e14, nI_1]
  have e16 : nI c + 16 = nI (c + 16) := nI_add c 16
  have e17 : nI c + 17 = nI (c + 17) := nI_add c 17
  have e18 : nI c + 18 = nI (c + 18) := nI_add c 18
  refine ⟨kt_si (kt_si (kt_si (kt_si (kt_si ν x (c + 14) (-4)) x (c + 15) (-4)) x (c + 16) (-4)) x (c + 17) (-4)) x (c + 18) (-4), ?_, fun w w1 w2 => ?_, fun y z q => ?_⟩
  · unfold x_noTest
    rw [e15, e14, e16, e17, e18, kq_ck_t (pu_kin (by omega) hN), nI_clamp (by omega), nI_clamp (by omega), nI_clamp (by omega), nI_clamp (by omega), nI_clamp (by omega)]
    simp only [kq_lt]
    rw [kq_ck_t (pu_kin (by omega) hN), kq_ck_t (pu_kin (by omega) hN), kq_ck_t (pu_kin (by omega) hN), kq_ck_t (pu_kin (by omega) hN)]
  · have : w = 14 ∨ w = 15 ∨ w = 16 ∨ w = 17 ∨ w = 18 := by omega
    rcases this with rfl | rfl | rfl | rfl | rfl
    · rw [kt_i_sik (by omega), kt_i_sik (by omega), kt_i_sik (by omega), kt_i_sik (by omega), kt_i_sie]
    · rw [kt_i_sik (by omega), kt_i_sik (by omega), kt_i_sik (by omega), kt_i_sie]
    · rw [kt_i_sik (by omega), kt_i_sik (by omega), kt_i_sie]
    · rw [kt_i_sik (by omega), kt_i_sie]
    · rw [kt_i_sie]
  · rw [kt_i_si, if_neg (by omega), kt_i_si, if_neg (by omega), kt_i_si, if_neg (by omega), kt_i_si, if_neg (by omega), kt_i_si, if_neg (by omega)]

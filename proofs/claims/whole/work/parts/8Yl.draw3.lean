/-- the end of a block is drawn, but for where it leads -/
theorem pu_dend0 {n m p c kb : Nat} {N : Int32} {μ ν : kt_M} (hc : c + 20 ≤ 1284) (hkb : kb + 4 ≤ p) (hs : kt_i μ p 0 = kt_i ν m 28) (h6 : kt_i μ kb 6 = 0) : ∃ g en lf rv rt ν3, (g < 5 ∧ (g = 0 → en = 0) ∧ (g = 1 → en = 1) ∧ (2 ≤ g → 2 ≤ en) ∧ en ≤ 3 ∧ lf < 4 ∧ rv ≤ 1 ∧ (rv = 0 → rt ≤ 50) ∧ (rv = 1 → rt < 4)) ∧ x_drawsEnd n m ν (nI c) N = x_drawsEnd_L105 n m n (nI c) N (nI g) 0 ν3 ∧ kt_i (d_end μ p kb) p 0 = kt_i ν3 m 28 ∧ kt_i (d_end μ p kb) kb 4 = nI en ∧ (2 ≤ en → kt_i (d_end μ p kb) kb 5 = nI lf ∧ kt_i (d_end μ p kb) kb 6 = nI rv ∧ kt_i (d_end μ p kb) kb 7 = nI rt) ∧ (kt_i (d_end μ p kb) kb 6 = 0 ∨ kt_i (d_end μ p kb) kb 6 = 1) ∧ (∀ y z, y ≠ p → ¬ (y = kb ∧ 4 ≤ z ∧ z ≤ 7) → kt_i (d_end μ p kb) y z = kt_i μ y z) ∧ (kt_i ν3 (m + 1) (c + 13) = nI en ∧ kt_i ν3 (m + 1) (c + 14) = -4 ∧ kt_i ν3 (m + 1) (c + 15) = -4 ∧ kt_i ν3 (m + 1) (c + 16) = (if 2 ≤ en then nI lf else -4) ∧ kt_i ν3 (m + 1) (c + 17) = (if 2 ≤ en then nI rv else -4) ∧ kt_i ν3 (m + 1) (c + 18) = (if 2 ≤ en then nI rt else -4)) ∧ (∀ y z, ¬ (y = m ∧ z = 28) → ¬ (y = m + 1 ∧ c + 13 ≤ z ∧ z < c + 19) → kt_i ν3 y z = kt_i ν y z) := by
  obtain ⟨g, hg, eg⟩ := dv_ex (kt_i μ p 0) (k := 5) (by decide) (by decide)
  have c1 : d_val μ p 5 = nI g := (d_val_e (k := 5) (by decide) (by decide)).trans eg
  obtain ⟨ν2, b1, b2, b3⟩ := pu_noT (n := n) (m := m) (x := m + 1) (N := 1284) (c := c) (ν := kt_si ν m 28 (k_sd (kt_i ν m 28))) (by omega) (by decide)
  obtain ⟨en, hen, hen2⟩ : ∃ en, en = (if g = 4 then 2 else g) ∧ (if nI g = 4 then (2 : Int32) else nI g) = nI en := by
    refine ⟨_, rfl, ?_⟩
    by_cases e : g = 4
    · subst e; rfl
    · rw [if_neg e, if_neg (show ¬ nI g = 4 from fun q => e ((nI_eq (b := 4) (by omega) (by decide)).mp q))]
  have eg2 : k_dr (k_sd (kt_i ν m 28)) - k_dr (k_sd (kt_i ν m 28)) / 5 * 5 = nI g := by rw [← hs]; exact eg
  have hX : x_drawsEnd n m ν (nI c) N = x_drawsEnd_J34 n m (nI c) N (nI g) (nI (c + 13)) (nI en) ν2 := by
    unfold x_drawsEnd
    rw [kq_b2_s pu_gets, kq_b2_s b1, eg2, show nI c + 13 = nI (c + 13) from nI_add c 13, ← hen2]
    by_cases e : nI g = 4
    · rw [if_pos e, if_pos e]
    · rw [if_neg e, if_neg e]
  have v28 : kt_i ν2 m 28 = k_sd (kt_i μ p 0) := by rw [b3 _ _ (by omega), kt_i_sie, hs]
  have hg3 : (g < 5 ∧ (g = 0 → en = 0) ∧ (g = 1 → en = 1) ∧ (2 ≤ g → 2 ≤ en) ∧ en ≤ 3) := by
    rw [hen]
    by_cases e : g = 4
    · rw [if_pos e]; omega
    · rw [if_neg e]; omega
  have he : nI en = (if d_val μ p 5 = 4 then 2 else d_val μ p 5) := by rw [c1]; exact hen2.symm
  have s1 : kt_i (kt_si (d_nx μ p) kb 4 (nI en)) p 0 = k_sd (kt_i μ p 0) := by rw [kt_i_sin (by omega), d_nx_e]
  rw [hX]
  unfold x_drawsEnd_J34
  rw [kq_ck_t (pu_kin (by omega) (by decide)), nI_clamp (by omega)]
  simp only [kq_lt]
  by_cases h2 : g ≤ 1
  · have hen1 : ¬ 2 ≤ en := by omega
    have hde : d_end μ p kb = kt_si (d_nx μ p) kb 4 (nI en) := by
      rw [he]
      refine if_pos ?_
      show ¬ kb_test (if d_val μ p 5 = 4 then 2 else d_val μ p 5)
      rw [← he]
      exact fun q => hen1 ((kb_test_nI (by omega)).mp q)
    rw [hde]
    refine ⟨g, en, 0, 0, 0, kt_si ν2 (m + 1) (c + 13) (nI en), ⟨hg3.1, hg3.2.1, hg3.2.2.1, hg3.2.2.2.1, hg3.2.2.2.2, by decide, by decide, fun _ => by decide, fun q => by omega⟩, ?_, ?_, kt_i_sie, fun q => absurd q hen1, Or.inl ?_, fun y z q1 q2 => ?_, ⟨kt_i_sie, ?_, ?_, ?_, ?_, ?_⟩, fun y z q1 q2 => ?_⟩
    · rw [if_pos (show nI g ≤ 1 from (nI_leI (b := 1) (by omega) (by decide)).mpr h2)]
    · rw [s1, kt_i_sin (by omega), v28]
    · rw [kt_i_sik (by decide), d_nx_out (by omega), h6]
    · rw [kt_i_si, if_neg (by omega), d_nx_out q1]
    · rw [kt_i_sik (by omega)]; exact b2 14 (by decide) (by decide)
    · rw [kt_i_sik (by omega)]; exact b2 15 (by decide) (by decide)
    · rw [kt_i_sik (by omega), if_neg hen1]; exact b2 16 (by decide) (by decide)
    · rw [kt_i_sik (by omega), if_neg hen1]; exact b2 17 (by decide) (by decide)
    · rw [kt_i_sik (by omega), if_neg hen1]; exact b2 18 (by decide) (by decide)
    · rw [kt_i_si, if_neg (by omega), b3 y z (by omega), kt_i_si, if_neg q1]
  · have hen1 : 2 ≤ en := by omega
    obtain ⟨lf, hlf, elf⟩ := dv_ex (k_sd (kt_i μ p 0)) (k := 4) (by decide) (by decide)
    obtain ⟨j, hj, ej⟩ := k_dr_nI (k_sd (k_sd (k_sd (kt_i μ p 0))))
    have hx : nI lf = d_val (kt_si (d_nx μ p) kb 4 (nI en)) p 4 := ((d_val_e (k := 4) (by decide) (by decide)).trans (by rw [s1]; exact elf)).symm
    have s2 : kt_i (kt_si (d_nx (kt_si (d_nx μ p) kb 4 (nI en)) p) kb 5 (nI lf)) p 0 = k_sd (k_sd (kt_i μ p 0)) := by rw [kt_i_sin (by omega), d_nx_e, s1]
    have hgg : nI j = d_val (kt_si (d_nx (kt_si (d_nx μ p) kb 4 (nI en)) p) kb 5 (nI lf)) p 32768 := ((d_val_e (k := 32768) (by decide) (by decide)).trans (by rw [s2, ej, k_rem_nI (by omega) (by decide) (by decide), Nat.mod_eq_of_lt hj])).symm
    have hde0 : ∀ e x g : Int32, e = (if d_val μ p 5 = 4 then 2 else d_val μ p 5) → kb_test e → x = d_val (kt_si (d_nx μ p) kb 4 e) p 4 → g = d_val (kt_si (d_nx (kt_si (d_nx μ p) kb 4 e) p) kb 5 x) p 32768 → d_end μ p kb = kt_si (kt_si (d_nx (kt_si (d_nx (kt_si (d_nx μ p) kb 4 e) p) kb 5 x) p) kb 6 (if k_rem g 2 = 0 then 0 else 1)) kb 7 (k_rem (g / 8) (if k_rem g 2 = 0 then 51 else 4)) := by
      intro e x g he ht hx hg
      subst hg; subst hx; subst he
      exact if_neg (fun q => q ht)
    have hde := hde0 _ _ _ he ((kb_test_nI (by omega)).mpr hen1) hx hgg
    have hr2 : k_rem (nI j) 2 = nI (j % 2) := k_rem_nI (k := 2) (by omega) (by decide) (by decide)
    have hd8 : nI j / 8 = nI (j / 8) := pk_div (d := 8) (by omega) (by decide) (by decide)
    have hj2 : j % 2 = 0 ∨ j % 2 = 1 := by omega
    have hc6 : (if k_rem (nI j) 2 = 0 then (0 : Int32) else 1) = nI (j % 2) := by
      rw [hr2]; rcases hj2 with q | q <;> rw [q] <;> rfl
    obtain ⟨rt, hrt0, hrt1, ert⟩ : ∃ rt, (j % 2 = 0 → rt ≤ 50) ∧ (j % 2 = 1 → rt < 4) ∧ k_rem (nI j / 8) (if k_rem (nI j) 2 = 0 then 51 else 4) = nI rt := by
      rw [hd8, hr2]
      rcases hj2 with q | q
      · rw [q, if_pos (show nI 0 = 0 from rfl)]
        exact ⟨j / 8 % 51, fun _ => by omega, fun z => by omega, k_rem_nI (k := 51) (by omega) (by decide) (by decide)⟩
      · rw [q, if_neg (show ¬ nI 1 = 0 by decide)]
        exact ⟨j / 8 % 4, fun z => by omega, fun _ => by omega, k_rem_nI (k := 4) (by omega) (by decide) (by decide)⟩
    rw [hc6, ert] at hde
    rw [hde]
    have g1 : x_gets n m (kt_si ν2 (m + 1) (c + 13) (nI en)) = some (k_dr (k_sd (k_sd (kt_i μ p 0))), kt_si (kt_si ν2 (m + 1) (c + 13) (nI en)) m 28 (k_sd (k_sd (kt_i μ p 0)))) := by
      rw [pu_gets, kt_i_sin (by omega), v28]
    have g2 : x_gets n m (kt_si (kt_si (kt_si ν2 (m + 1) (c + 13) (nI en)) m 28 (k_sd (k_sd (kt_i μ p 0)))) (m + 1) (c + 16) (nI lf)) = some (nI j, kt_si (kt_si (kt_si (kt_si ν2 (m + 1) (c + 13) (nI en)) m 28 (k_sd (k_sd (kt_i μ p 0)))) (m + 1) (c + 16) (nI lf)) m 28 (k_sd (k_sd (k_sd (kt_i μ p 0))))) := by
      rw [pu_gets, kt_i_sin (show m ≠ m + 1 by omega), kt_i_sie, ej]
    have e4 : k_dr (k_sd (k_sd (kt_i μ p 0))) - k_dr (k_sd (k_sd (kt_i μ p 0))) / 4 * 4 = nI lf := elf
    have e2 : nI j - nI j / 2 * 2 = nI (j % 2) := hr2
    have eJ : ∀ (l1 l2 l3 : Int32) (w : kt_M), (if nI (j % 2) = 0 then x_drawsEnd_J100 n m l1 l2 l3 (nI (c + 18)) (nI j / 8) 51 w else x_drawsEnd_J100 n m l1 l2 l3 (nI (c + 18)) (nI j / 8) 4 w) = x_drawsEnd_L105 n m n l1 l2 l3 0 (kt_si w (m + 1) (c + 18) (nI rt)) := fun l1 l2 l3 w => by
      rw [hr2] at ert
      rcases hj2 with q | q
      · rw [q, if_pos (show nI 0 = 0 from rfl)] at ert
        rw [q, if_pos (show nI 0 = 0 from rfl)]
        unfold x_drawsEnd_J100
        rw [kq_ck_t (by decide), kq_ck_t (pu_kin (by omega) (by decide)), nI_clamp (by omega)]
        simp only [kq_lt]
        rw [show nI j / 8 - nI j / 8 / 51 * 51 = nI rt from ert]
      · rw [q, if_neg (show ¬ nI 1 = 0 by decide)] at ert
        rw [q, if_neg (show ¬ nI 1 = 0 by decide)]
        unfold x_drawsEnd_J100
        rw [kq_ck_t (by decide), kq_ck_t (pu_kin (by omega) (by decide)), nI_clamp (by omega)]
        simp only [kq_lt]
        rw [show nI j / 8 - nI j / 8 / 4 * 4 = nI rt from ert]
    refine ⟨g, en, lf, j % 2, rt, kt_si (kt_si (kt_si (kt_si (kt_si (kt_si ν2 (m + 1) (c + 13) (nI en)) m 28 (k_sd (k_sd (kt_i μ p 0)))) (m + 1) (c + 16) (nI lf)) m 28 (k_sd (k_sd (k_sd (kt_i μ p 0))))) (m + 1) (c + 17) (nI (j % 2))) (m + 1) (c + 18) (nI rt), ⟨hg3.1, hg3.2.1, hg3.2.2.1, hg3.2.2.2.1, hg3.2.2.2.2, hlf, by omega, hrt0, hrt1⟩, ?_, ?_, ?_, fun _ => ⟨?_, ?_, kt_i_sie⟩, ?_, fun y z q1 q2 => ?_, ⟨?_, ?_, ?_, ?_, ?_, ?_⟩, fun y z q1 q2 => ?_⟩
    · rw [if_neg (show ¬ nI g ≤ 1 from fun q => h2 ((nI_leI (b := 1) (by omega) (by decide)).mp q)), kq_b2_s g1, show nI c + 16 = nI (c + 16) from nI_add c 16, show nI c + 17 = nI (c + 17) from nI_add c 17, show nI c + 18 = nI (c + 18) from nI_add c 18, kq_ck_t (pu_kin (by omega) (by decide)), nI_clamp (show c + 16 < 2 ^ 31 by omega), e4, kq_b2_s g2, kq_ck_t (pu_kin (by omega) (by decide)), nI_clamp (show c + 17 < 2 ^ 31 by omega), e2, eJ]
    · rw [kt_i_sin (by omega), kt_i_sin (by omega), d_nx_e, s2, kt_i_sin (by omega), kt_i_sin (by omega), kt_i_sie]
    · rw [kt_i_sik (by decide), kt_i_sik (by decide), d_nx_out (by omega), kt_i_sik (by decide), d_nx_out (by omega), kt_i_sie]
    · rw [kt_i_sik (by decide), kt_i_sik (by decide), d_nx_out (by omega), kt_i_sie]
    · rw [kt_i_sik (by decide), kt_i_sie]
    · rw [kt_i_sik (by decide), kt_i_sie]; rcases hj2 with q | q <;> rw [q]
      · exact Or.inl rfl
      · exact Or.inr rfl
    · rw [kt_i_si, if_neg (by omega), kt_i_si, if_neg (by omega), d_nx_out q1, kt_i_si, if_neg (by omega), d_nx_out q1, kt_i_si, if_neg (by omega), d_nx_out q1]
    · rw [kt_i_sik (by omega), kt_i_sik (by omega), kt_i_sin (by omega), kt_i_sik (by omega), kt_i_sin (by omega), kt_i_sie]
    · rw [kt_i_sik (by omega), kt_i_sik (by omega), kt_i_sin (by omega), kt_i_sik (by omega), kt_i_sin (by omega), kt_i_sik (by omega)]; exact b2 14 (by decide) (by decide)
    · rw [kt_i_sik (by omega), kt_i_sik (by omega), kt_i_sin (by omega), kt_i_sik (by omega), kt_i_sin (by omega), kt_i_sik (by omega)]; exact b2 15 (by decide) (by decide)
    · rw [kt_i_sik (by omega), kt_i_sik (by omega), kt_i_sin (by omega), kt_i_sie, if_pos hen1]
    · rw [kt_i_sik (by omega), kt_i_sie, if_pos hen1]
    · rw [kt_i_sie, if_pos hen1]
    · rw [kt_i_si, if_neg (by omega), kt_i_si, if_neg (by omega), kt_i_si, if_neg (by omega), kt_i_si, if_neg (by omega), kt_i_si, if_neg (by omega), kt_i_si, if_neg (by omega), b3 y z (by omega), kt_i_si, if_neg q1]

theorem RN.ext {μ ν μ' ν' : kt_M} {p m s c d : Nat} (h : RN μ ν p m s c d) (hμ : ∀ y z, ¬ (y = p ∧ z = 8) → kt_i μ' y z = kt_i μ y z) (hν : ∀ y z, ¬ (y = m ∧ z = 27) → kt_i ν' y z = kt_i ν y z) : RN μ' ν' p m s c d := by
  obtain ⟨⟨a1, a2⟩, b, e, ⟨f1, f2⟩, ⟨g1, g2⟩, i, j, k⟩ := h
  exact ⟨⟨by rw [hμ _ _ (by omega)]; exact a1, by rw [hν _ _ (by omega)]; exact a2⟩, by rw [hμ _ _ (by omega), hν _ _ (by omega)]; exact b, by rw [hμ _ _ (by omega), hν _ _ (by omega)]; exact e, ⟨by rw [hμ _ _ (by omega)]; exact f1, by rw [hν _ _ (by omega)]; exact f2⟩, ⟨by rw [hμ _ _ (by omega)]; exact g1, by rw [hν _ _ (by omega)]; exact g2⟩, fun v hv => by rw [hμ _ _ (by omega), hν _ _ (by omega)]; exact i v hv, fun z hz => by rw [hμ _ _ (by omega), hν _ _ (by omega)]; exact j z hz, fun z hz => by rw [hμ _ _ (by omega), hν _ _ (by omega)]; exact k z hz⟩
/-- a block is entered -/
theorem RN.ent {μ ν : kt_M} {p m s c d : Nat} {x : Int32} (h : RN μ ν p m s c d) : RN (kt_si (kt_si μ (p + 2) s x) p 3 (nI (s + 1))) (kt_si (kt_si ν (m + 14) s x) m 22 (nI (s + 1))) p m (s + 1) c d := by
  obtain ⟨⟨a1, a2⟩, b, e, ⟨f1, f2⟩, ⟨g1, g2⟩, i, j, k⟩ := h
  have hμ : ∀ y z, ¬ (y = p ∧ z = 3) → ¬ (y = p + 2 ∧ z = s) → kt_i (kt_si (kt_si μ (p + 2) s x) p 3 (nI (s + 1))) y z = kt_i μ y z := fun y z q1 q2 => by rw [kt_i_si, if_neg q1, kt_i_si, if_neg q2]
  have hν : ∀ y z, ¬ (y = m ∧ z = 22) → ¬ (y = m + 14 ∧ z = s) → kt_i (kt_si (kt_si ν (m + 14) s x) m 22 (nI (s + 1))) y z = kt_i ν y z := fun y z q1 q2 => by rw [kt_i_si, if_neg q1, kt_i_si, if_neg q2]
  refine ⟨⟨kt_i_sie, kt_i_sie⟩, by rw [hμ _ _ (by omega) (by omega), hν _ _ (by omega) (by omega)]; exact b, by rw [hμ _ _ (by omega) (by omega), hν _ _ (by omega) (by omega)]; exact e, ⟨by rw [hμ _ _ (by omega) (by omega)]; exact f1, by rw [hν _ _ (by omega) (by omega)]; exact f2⟩, ⟨by rw [hμ _ _ (by omega) (by omega)]; exact g1, by rw [hν _ _ (by omega) (by omega)]; exact g2⟩, fun v hv => by rw [hμ _ _ (by omega) (by omega), hν _ _ (by omega) (by omega)]; exact i v hv, fun z hz => by rw [hμ _ _ (by omega) (by omega), hν _ _ (by omega) (by omega)]; exact j z hz, fun z hz => ?_⟩
  by_cases q : z = s
  · subst q
    rw [kt_i_sin (by omega), kt_i_sie, kt_i_sin (by omega), kt_i_sie]
  · rw [hμ _ _ (by omega) (by omega), hν _ _ (by omega) (by omega)]; exact k z (by omega)
/-- the end of a block -/
theorem pu_rend {n m p s c d pg b kb s0 : Nat} {μ ν : kt_M} {D : DB} (hD : WB D s0) (hpg : pg ≤ 3) (hb : b < 16) (h : RN μ ν p m s c d) (hC : CB μ kb D) (hM : MB ν m pg b D) (hkp : kb + 4 ≤ p ∨ p + 4 ≤ kb) (h8 : kt_i μ p 8 = 0) (K65 : Int32 → Int32 → kt_M → Option (Unit × kt_M)) (K103 : Int32 → Int32 → Int32 → kt_M → Option (Unit × kt_M)) : ∃ t ν1, x_runs_B103 n m K65 K103 (nI pg) (nI b) (nI (db_na D)) ν = K65 (nI pg) (nI t) ν1 ∧ RN (r_end μ p kb).2 ν1 p m s c d ∧ kt_i (r_end μ p kb).2 p 8 = kt_i ν1 m 27 ∧ (kt_i ν1 m 27 = 1 ∨ (kt_i ν1 m 27 = 0 ∧ t < s0 ∧ (r_end μ p kb).1 = nI t)) ∧ (∀ y z, ¬ (y = m ∧ (z = 24 ∨ z = 27)) → kt_i ν1 y z = kt_i ν y z) := by
  have hna := hD.1
  have hen := hD.2.2.1
  have hof : x_of n m ν (nI pg) (nI b) 0 = some (nI (db_na D), ν) := hM.of hpg hb (w := 0) (by decide) hM.1
  obtain ⟨-, -, c3, c4, c5, -, -⟩ := id hC
  unfold x_runs_B103
  rw [kq_b2_s hof, if_pos ((nI_leI (by omega) (by omega)).mpr (Nat.le_refl _)), kq_b2_s (hM.en hpg hb)]
  by_cases ht : 2 ≤ db_en D
  · have hT : kb_test (kt_i μ kb 4) := by rw [c3]; exact (kb_test_nI hen).mpr ht
    have hn0 : ¬ nI (db_en D) = 0 := fun q => by have := (nI_eq (b := 0) (by omega) (by decide)).mp q; omega
    have hre : r_end μ p kb = (if r_hd (kt_si μ p 5 (kt_i μ p 5 + 1)) p kb = 0 then kt_i (kt_si μ p 5 (kt_i μ p 5 + 1)) kb 9 else kt_i (kt_si μ p 5 (kt_i μ p 5 + 1)) kb 8, kt_si μ p 5 (kt_i μ p 5 + 1)) := by
      unfold r_end; rw [if_pos hT]
    rw [if_neg hn0]
    unfold x_runs_J180
    rw [kq_ck_t (Or.inl rfl)]
    simp only [kq_lt]
    rw [kq_b1_s (pu_isTest hen), kt_f_t ht, kq_b1_s (pu_flag (Or.inr rfl)), if_neg hn0, kq_b1_s (pu_isTest hen), kt_f_t ht, if_neg (show ¬ (1 : Int32) = 0 by decide)]
    have hR : RN (kt_si μ p 5 (kt_i μ p 5 + 1)) (kt_si (kt_si ν m 27 0) m 24 (kt_i (kt_si ν m 27 0) m 24 + 1)) p m s c d := (h.tst (x := 1)).ext (fun _ _ _ => rfl) (fun y z q => by
      rw [kt_i_sik (show (24 : Nat) ≠ 27 by decide), kt_i_si, kt_i_si, kt_i_si, if_neg q])
    have hfr : ∀ y z, ¬ (y = m ∧ (z = 24 ∨ z = 27)) → kt_i (kt_si (kt_si ν m 27 0) m 24 (kt_i (kt_si ν m 27 0) m 24 + 1)) y z = kt_i ν y z := fun y z q => by rw [kt_i_si, if_neg (by omega), kt_i_si, if_neg (by omega)]
    have hCk : ∀ z, kt_i (kt_si μ p 5 (kt_i μ p 5 + 1)) kb z = kt_i μ kb z := fun z => kt_i_sin (by omega)
    have h27 : kt_i (kt_si (kt_si ν m 27 0) m 24 (kt_i (kt_si ν m 27 0) m 24 + 1)) m 27 = 0 := by rw [kt_i_sik (by decide), kt_i_sie]
    have h80 : kt_i (kt_si μ p 5 (kt_i μ p 5 + 1)) p 8 = 0 := by rw [kt_i_sik (by decide)]; exact h8
    have hC' : CB (kt_si μ p 5 (kt_i μ p 5 + 1)) kb D := hC.ext (fun y z q1 q2 => kt_i_sin (by omega))
    rw [hre]
    simp only [hCk]
    generalize kt_si μ p 5 (kt_i μ p 5 + 1) = μ2 at hR hC' h80
    generalize kt_si (kt_si ν m 27 0) m 24 (kt_i (kt_si ν m 27 0) m 24 + 1) = ν2 at hR hfr h27
    have hM' : MB ν2 m pg b D := hM.tr hD (fun u hu => by unfold mr; exact hfr _ _ (by omega))
    rw [kq_b2_s (pu_rholds (n := n) hD ht hpg hb hR hC' hM')]
    have hJ : ∀ x, x < 2 → x_runs_J233 n m K65 (nI pg) (nI pg) (nI b) 14 (nI x) ν2 = K65 (nI pg) (nI (db_tg D x)) ν2 := fun x hx => by
      have hx2 : x < db_ne D := by unfold db_ne; rw [if_neg (by omega), if_neg (by omega)]; exact hx
      unfold x_runs_J233
      rw [kq_b1_s (pu_flag (by have : x = 0 ∨ x = 1 := by omega
                               rcases this with q | q <;> subst q
                               · exact Or.inl rfl
                               · exact Or.inr rfl)), show (14 : Int32) + nI x = nI (14 + x) from nI_add 14 x, kq_b2_s (hM'.of hpg hb (by omega) (hM'.tgm (s := s0) hx2))]
    have ht0 : db_tg D 0 < s0 := hD.tg (by unfold db_ne; rw [if_neg (by omega), if_neg (by omega)]; decide)
    have ht1 : db_tg D 1 < s0 := hD.tg (by unfold db_ne; rw [if_neg (by omega), if_neg (by omega)]; decide)
    by_cases q : r_hd μ2 p kb = 0
    · rw [if_pos q, if_pos q]
      exact ⟨db_tg D 1, ν2, hJ 1 (by decide), hR, by rw [h80, h27], Or.inr ⟨h27, ht1, (c5 ht).1⟩, hfr⟩
    · rw [if_neg q, if_neg q]
      exact ⟨db_tg D 0, ν2, hJ 0 (by decide), hR, by rw [h80, h27], Or.inr ⟨h27, ht0, c4 (by omega)⟩, hfr⟩
  · have hT : ¬ kb_test (kt_i μ kb 4) := by rw [c3]; exact fun q => ht ((kb_test_nI hen).mp q)
    have hre : r_end μ p kb = (kt_i (kt_si μ p 8 (if kt_i μ kb 4 = 0 then 1 else 0)) kb 8, kt_si μ p 8 (if kt_i μ kb 4 = 0 then 1 else 0)) := by
      unfold r_end; rw [if_neg hT]
    rw [hre]
    dsimp only
    rw [kt_i_sin (show kb ≠ p by omega), c3]
    have hf : ∀ w : Int32, ∀ y z, ¬ (y = m ∧ z = 27) → kt_i (kt_si (kt_si ν m 27 w) m 24 (kt_i (kt_si ν m 27 w) m 24 + 0)) y z = kt_i ν y z := fun w y z q => by
      rw [kt_i_si, Int32.add_zero]
      by_cases q2 : y = m ∧ z = 24
      · rw [if_pos q2, kt_i_sik (by decide), q2.1, q2.2]
      · rw [if_neg q2, kt_i_si, if_neg q]
    have h27 : ∀ w : Int32, kt_i (kt_si (kt_si ν m 27 w) m 24 (kt_i (kt_si ν m 27 w) m 24 + 0)) m 27 = w := fun w => by rw [kt_i_sik (by decide), kt_i_sie]
    by_cases e0 : db_en D = 0
    · rw [e0, if_pos (show nI 0 = 0 from rfl), if_pos (show nI 0 = 0 from rfl)]
      unfold x_runs_J180
      rw [kq_ck_t (Or.inr rfl)]
      simp only [kq_lt]
      rw [kq_b1_s (pu_isTest (by decide)), kt_f_f (by decide), kq_b1_s (pu_flag (Or.inl rfl)), if_pos (show nI 0 = 0 from rfl)]
      exact ⟨b, _, rfl, h.ext (fun y z q => by rw [kt_i_si, if_neg q]) (hf 1), by rw [kt_i_sie, h27], Or.inl (h27 1), fun y z q => hf 1 y z (by omega)⟩
    · have e1 : db_en D = 1 := by omega
      rw [e1, if_neg (show ¬ nI 1 = 0 by decide), if_neg (show ¬ nI 1 = 0 by decide)]
      unfold x_runs_J180
      rw [kq_ck_t (Or.inl rfl)]
      simp only [kq_lt]
      rw [kq_b1_s (pu_isTest (by decide)), kt_f_f (by decide), kq_b1_s (pu_flag (Or.inl rfl)), if_neg (show ¬ nI 1 = 0 by decide), kq_b1_s (pu_isTest (by decide)), kt_f_f (by decide), if_pos (show (0 : Int32) = 0 from rfl)]
      have hfr := hf 0
      have h27' := h27 0
      generalize kt_si (kt_si ν m 27 0) m 24 (kt_i (kt_si ν m 27 0) m 24 + 0) = ν2 at hfr h27'
      have hM' : MB ν2 m pg b D := hM.tr hD (fun u hu => by unfold mr; exact hfr _ _ (by omega))
      have hx2 : 0 < db_ne D := by unfold db_ne; rw [if_neg (by omega), if_pos e1]; decide
      refine ⟨db_tg D 0, ν2, ?_, h.ext (fun y z q => by rw [kt_i_si, if_neg q]) hfr, by rw [kt_i_sie, h27'], Or.inr ⟨h27', hD.tg hx2, c4 (by omega)⟩, fun y z q => hfr y z (by omega)⟩
      unfold x_runs_J233
      rw [kq_b1_s (pu_flag (Or.inl rfl)), show (14 : Int32) + 0 = nI (14 + 0) from rfl, kq_b2_s (hM'.of hpg hb (by omega) (hM'.tgm (s := s0) hx2))]

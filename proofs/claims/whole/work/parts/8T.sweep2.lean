/-! PURE: sweeping, the model's side -/
theorem pu_sw128 {n m j s : Nat} {D : DB} {N : Nat → Nat} {ν0 : kt_M} {c t : Int32} (hs : s ≤ 16) (hj : j < 16) (hD : WB D s) (h11 : ∀ t, t < s → kt_i ν0 (m + 11) t = nI (N t)) (hN : ∀ x, x < db_ne D → N (db_tg D x) < s) (K120 : Int32 → Int32 → Int32 → kt_M → Option (Int32 × kt_M)) : ∀ (k x : Nat) (ν : kt_M), x ≤ db_ne D → db_ne D < x + k → MB ν m 1 j (db_mp D N x) → (∀ y i, ¬ (y = m + 1 ∧ 322 + 20 * j ≤ i ∧ i < 322 + 20 * j + 20) → kt_i ν y i = kt_i ν0 y i) → ∃ ν1, x_sweep_L128 n m K120 k c t (nI j) (nI x) ν = K120 c t (nI (j + 1)) ν1 ∧ MB ν1 m 1 j (db_map D N) ∧ ∀ y i, ¬ (y = m + 1 ∧ 322 + 20 * j ≤ i ∧ i < 322 + 20 * j + 20) → kt_i ν1 y i = kt_i ν0 y i
  | 0, x, ν, h1, h2, hM, he => by omega
  | k + 1, x, ν, h1, h2, hM, he => by
    have hne := db_ne_le D
    have hDx := WB.mpx hD hN x h1
    rw [x_sweep_L128]
    unfold x_sweep_B128
    rw [kq_b2_s (show x_edgesOf n m ν 1 (nI j) = some (nI (db_ne D), ν) by rw [← db_mp_ne (D := D) (N := N) x]; exact hM.edges hDx (by decide) hj)]
    by_cases e : x = db_ne D
    · rw [if_pos (by rw [e]; exact (nI_leI (by omega) (by omega)).mpr (Nat.le_refl _)), nI_1]
      exact ⟨ν, rfl, by rw [e] at hM; exact hM, he⟩
    · have hx : x < db_ne D := by omega
      have htg : db_tg (db_mp D N x) x = db_tg D x := by rw [db_tg_mp (by omega) _ (by omega), if_neg (by omega)]
      have hlt := hD.tg hx
      rw [if_neg (fun q => by have := (nI_leI (by omega) (by omega)).mp q; omega), kq_b1_s (show x_at n 1 (nI j) (14 + nI x) = some (nI (321 * 1 + 1 + 20 * j + (14 + x))) by rw [show (14 : Int32) = nI 14 from rfl, nI_add]; exact pu_at (p := 1)), kq_b2_s (show x_of n m ν 1 (nI j) (14 + nI x) = some (nI (db_tg D x), ν) by rw [← htg]; exact hM.to hDx (by decide) hj (by rw [db_mp_ne]; exact hx)), kq_ck_t (pu_kin (by omega) (by decide)), kq_ck_t (pu_kin (by omega) (by decide)), nI_clamp (by omega), nI_clamp (by omega), nI_1]
      simp only [kq_lt]
      rw [he _ _ (by omega), h11 _ hlt]
      exact pu_sw128 hs hj hD h11 hN K120 k (x + 1) _ (by omega) (by omega) (hM.aim hDx (by rw [db_mp_ne]; exact hx)) (fun y i q => by rw [kt_i_si, if_neg (by omega)]; exact he y i q)
theorem pu_sw120 {n m : Nat} {P : DP} {R : Nat → Bool} {ν0 : kt_M} {t : Int32} (hP : WP P 16) (hR : Kp P R) (hn : 20 ≤ n) (h11 : ∀ t, t < P.1 → kt_i ν0 (m + 11) t = nI (nb R t)) : ∀ (k j : Nat) (ν : kt_M), j ≤ nb R P.1 → nb R P.1 < j + k → (∀ i, i < j → MB ν m 1 i ((dp_sw P R).2 i)) → (∀ i, j ≤ i → i < nb R P.1 → MB ν m 1 i (P.2 (sel R P.1 i))) → (∀ y i, ¬ (y = m + 1 ∧ 322 ≤ i ∧ i < 642) → kt_i ν y i = kt_i ν0 y i) → ∃ ν1, x_sweep_L120 n m k (nI (nb R P.1)) t (nI j) ν = some (t - nI (nb R P.1), ν1) ∧ (∀ i, i < nb R P.1 → MB ν1 m 1 i ((dp_sw P R).2 i)) ∧ ∀ y i, ¬ (y = m + 1 ∧ 322 ≤ i ∧ i < 642) → kt_i ν1 y i = kt_i ν0 y i
  | 0, j, ν, h1, h2, ha, hb, he => by omega
  | k + 1, j, ν, h1, h2, ha, hb, he => by
    have hs := hP.1
    have hl := nb_le (R := R) P.1
    rw [x_sweep_L120]
    unfold x_sweep_B120
    by_cases e : j = nb R P.1
    · rw [if_pos (by rw [e]; exact (nI_leI (by omega) (by omega)).mpr (Nat.le_refl _))]
      exact ⟨ν, rfl, fun i hi => ha i (by omega), he⟩
    · have hj : j < nb R P.1 := by omega
      rw [if_neg (fun q => by have := (nI_leI (by omega) (by omega)).mp q; omega)]
      obtain ⟨w, w1, w2, w3⟩ := sel_ex P.1 hj
      have hsel : sel R P.1 j = w := by rw [← w3]; exact sel_nb w2 P.1 w1
      have hD := hP.2 w w1
      have hne := db_ne_le (P.2 w)
      have hmb := hb j (Nat.le_refl j) hj
      rw [hsel] at hmb
      obtain ⟨ν1, a1, a2, a3⟩ := pu_sw128 (n := n) (m := m) (c := nI (nb R P.1)) (t := t) (ν0 := ν) hs (by omega) hD (fun t ht => by rw [he _ _ (by omega)]; exact h11 t ht) (fun x hx => by
        have := nb_lt (hR w w1 w2 x hx) (hD.tg hx); omega) (x_sweep_L120 n m k) n 0 ν (by omega) (by omega) hmb (fun _ _ _ => rfl)
      rw [show x_sweep_L128 n m (x_sweep_L120 n m k) n (nI (nb R P.1)) t (nI j) 0 ν = _ from a1]
      have hother : ∀ i (D : DB) s', i ≠ j → i < 16 → WB D s' → MB ν m 1 i D → MB ν1 m 1 i D := fun i D s' q1 q2 hW hMi => hMi.tr hW (fun u hu => by unfold mr; exact a3 _ _ (by omega))
      have hWs := hP.sw hR
      exact pu_sw120 hP hR hn h11 k (j + 1) ν1 (by omega) (by omega) (fun i hi => by
        by_cases z : i = j
        · subst z
          have e2 : (dp_sw P R).2 i = db_map (P.2 w) (nb R) := by
            show (if i < nb R P.1 then _ else _) = _
            rw [if_pos hj, hsel]
          rw [e2]; exact a2
        · exact hother i _ _ z (by omega) (hWs.2 i (show i < nb R P.1 by omega)) (ha i (by omega))) (fun i i1 i2 => by
        obtain ⟨v, v1, v2, v3⟩ := sel_ex P.1 i2
        have hsv : sel R P.1 i = v := by rw [← v3]; exact sel_nb v2 P.1 v1
        exact hother i _ _ (by omega) (by omega) (by rw [hsv]; exact hP.2 v v1) (hb i (by omega) i2)) (fun y i q => by rw [a3 y i (by omega)]; exact he y i q)
theorem pu_sw56 {n m i l : Nat} {c t : Int32} (hi : i < 16) (hl : l ≤ i) (K48 : Int32 → Int32 → Int32 → kt_M → Option (Int32 × kt_M)) : ∀ (k w : Nat) (ν : kt_M), w ≤ 20 → 20 < w + k → ¬ kt_i ν (m + 9) i = 0 → kt_i ν (m + 11) i = nI l → ∃ ν1, x_sweep_L56 n m K48 k c t (nI i) (nI w) ν = K48 c t (nI (i + 1)) ν1 ∧ ∀ y j, kt_i ν1 y j = if y = m + 1 ∧ 322 + 20 * l + w ≤ j ∧ j < 322 + 20 * l + 20 then kt_i ν (m + 1) (322 + 20 * i + (j - (322 + 20 * l))) else kt_i ν y j
  | 0, w, ν, h1, h2, h9, h11 => by omega
  | k + 1, w, ν, h1, h2, h9, h11 => by
    rw [x_sweep_L56]
    unfold x_sweep_B56
    by_cases e : w = 20
    · subst e
      rw [if_pos (show (20 : Int32) ≤ nI 20 by decide), nI_1]
      exact ⟨ν, rfl, fun y j => by rw [if_neg (by omega)]⟩
    · rw [if_neg (fun q => by have := (nI_leI (a := 20) (by decide) (by omega)).mp q; omega), kq_ck_t (pu_kin hi (by decide)), nI_clamp (by omega), if_neg h9, kq_ck_t (pu_kin hi (by decide)), h11, kq_b1_s (show x_at n 1 (nI l) (nI w) = _ from pu_at (p := 1)), kq_b2_s (show x_of n m ν 1 (nI i) (nI w) = _ from pu_of (p := 1) (by omega)), kq_ck_t (pu_kin (by omega) (by decide)), nI_clamp (by omega), nI_1]
      simp only [kq_lt]
      obtain ⟨ν1, a1, a2⟩ := pu_sw56 (n := n) (m := m) (c := c) (t := t) hi hl K48 k (w + 1) (kt_si ν (m + 1) (321 * 1 + 1 + 20 * l + w) (kt_i ν (m + 1) (321 * 1 + 1 + 20 * i + w))) (by omega) (by omega) (by rw [kt_i_sin (by omega)]; exact h9) (by rw [kt_i_sin (by omega)]; exact h11)
      refine ⟨ν1, a1, fun y j => ?_⟩
      rw [a2]
      by_cases q : y = m + 1 ∧ 322 + 20 * l + w ≤ j ∧ j < 322 + 20 * l + 20
      · rw [if_pos q]
        by_cases q2 : j = 322 + 20 * l + w
        · rw [if_neg (by omega), kt_i_si, if_pos ⟨q.1, by omega⟩]; congr 1; omega
        · rw [if_pos (by omega), kt_i_sik (by omega)]
      · rw [if_neg q, if_neg (by omega), kt_i_si, if_neg (by omega)]
theorem pu_sw48 {n m : Nat} {P : DP} {R : Nat → Bool} {ν0 : kt_M} (hP : WP P 16) (hR : Kp P R) (hn : 30 ≤ n) (h11 : ∀ t, t < P.1 → kt_i ν0 (m + 11) t = nI (nb R t)) (h9 : ∀ i, i < P.1 → (kt_i ν0 (m + 9) i = 0 ↔ ¬ R i = true)) : ∀ (k i : Nat) (ν : kt_M), i ≤ P.1 → P.1 < i + k → (∀ j, j < i → R j = true → MB ν m 1 (nb R j) (P.2 j)) → (∀ j, i ≤ j → j < P.1 → MB ν m 1 j (P.2 j)) → (∀ y j, ¬ (y = m + 1 ∧ 322 ≤ j ∧ j < 642) → kt_i ν y j = kt_i ν0 y j) → ∃ ν1, x_sweep_L48 n m k (nI (nb R P.1)) (nI P.1) (nI i) ν = some (nI P.1 - nI (nb R P.1), ν1) ∧ MP ν1 m 1 (dp_sw P R) ∧ ∀ y j, ¬ (y = m + 1 ∧ 321 ≤ j ∧ j < 642) → kt_i ν1 y j = kt_i ν0 y j
  | 0, i, ν, h1, h2, ha, hb, he => by omega
  | k + 1, i, ν, h1, h2, ha, hb, he => by
    have hs := hP.1
    have hl := nb_le (R := R) P.1
    rw [x_sweep_L48]
    unfold x_sweep_B48
    by_cases e : i = P.1
    · subst e
      rw [if_pos ((nI_leI (by omega) (by omega)).mpr (Nat.le_refl _))]
      simp only [kq_lt]
      rw [show Int32.toNatClampNeg 321 = 321 from rfl]
      obtain ⟨ν1, a1, a2, a3⟩ := pu_sw120 (n := n) (m := m) (t := nI P.1) (ν0 := kt_si ν (m + 1) 321 (nI (nb R P.1))) hP hR (by omega) (fun t ht => by rw [kt_i_sin (by omega), he _ _ (by omega)]; exact h11 t ht) n 0 (kt_si ν (m + 1) 321 (nI (nb R P.1))) (by omega) (by omega) (fun j hj => by omega) (fun j _ hj => by
        obtain ⟨v, v1, v2, v3⟩ := sel_ex P.1 hj
        have hsv : sel R P.1 j = v := by rw [← v3]; exact sel_nb v2 P.1 v1
        rw [hsv, ← v3]
        exact (ha v v1 v2).tr (hP.2 v v1) (fun u hu => by unfold mr; rw [kt_i_sik (by omega)])) (fun _ _ _ => rfl)
      refine ⟨ν1, a1, ⟨by rw [show 321 * 1 = 321 from rfl, a3 _ _ (by omega)]; exact kt_i_sie, a2⟩, fun y j q => ?_⟩
      rw [a3 y j (by omega), kt_i_si, if_neg (by omega), he y j (by omega)]
    · have hi : i < P.1 := by omega
      have hli := nb_le (R := R) i
      rw [if_neg (fun q => by have := (nI_leI (by omega) (by omega)).mp q; omega)]
      by_cases c : R i = true
      · obtain ⟨ν1, a1, a2⟩ := pu_sw56 (n := n) (m := m) (c := nI (nb R P.1)) (t := nI P.1) (l := nb R i) (show i < 16 by omega) hli (x_sweep_L48 n m k) n 0 ν (by omega) (by omega) (by rw [he _ _ (by omega)]; exact fun q => (h9 i hi).mp q c) (by rw [he _ _ (by omega)]; exact h11 i hi)
        rw [show x_sweep_L56 n m (x_sweep_L48 n m k) n (nI (nb R P.1)) (nI P.1) (nI i) 0 ν = _ from a1]
        refine pu_sw48 hP hR hn h11 h9 k (i + 1) ν1 (by omega) (by omega) (fun j hj hr => ?_) (fun j j1 j2 => ?_) (fun y j q => by rw [a2, if_neg (by omega)]; exact he y j q)
        · by_cases z : j = i
          · subst z
            exact (hb j (Nat.le_refl j) hi).tr (hP.2 j hi) (fun u hu => by unfold mr; rw [a2, if_pos (by omega)]; congr 1; omega)
          · have := nb_lt hr (show j < i by omega)
            exact (ha j (by omega) hr).tr (hP.2 j (by omega)) (fun u hu => by unfold mr; rw [a2, if_neg (by omega)])
        · exact (hb j (by omega) j2).tr (hP.2 j j2) (fun u hu => by unfold mr; rw [a2, if_neg (by omega)])
      · obtain ⟨g, rfl⟩ : ∃ g, n = g + 1 := ⟨n - 1, by omega⟩
        have e1 : x_sweep_L56 (g + 1) m (x_sweep_L48 (g + 1) m k) (g + 1) (nI (nb R P.1)) (nI P.1) (nI i) 0 ν = x_sweep_L48 (g + 1) m k (nI (nb R P.1)) (nI P.1) (nI (i + 1)) ν := by
          rw [x_sweep_L56]
          unfold x_sweep_B56
          rw [if_neg (show ¬ (20 : Int32) ≤ 0 by decide), kq_ck_t (pu_kin (show i < 16 by omega) (by decide)), nI_clamp (by omega), if_pos (by rw [he _ _ (by omega)]; exact (h9 i hi).mpr c), nI_1]
        rw [e1]
        exact pu_sw48 hP hR hn h11 h9 k (i + 1) ν (by omega) (by omega) (fun j hj hr => by
          by_cases z : j = i
          · subst z; exact absurd hr c
          · exact ha j (by omega) hr) (fun j j1 j2 => hb j (by omega) j2) he
theorem pu_sw16 {n m : Nat} {P : DP} {R : Nat → Bool} {ν0 : kt_M} (hP : WP P 16) (hR : Kp P R) (hn : 30 ≤ n) (hM : MP ν0 m 1 P) (h9 : ∀ i, i < P.1 → kz (kt_i ν0 (m + 9) i) (R i = true)) : ∀ (k i : Nat) (ν : kt_M), i ≤ P.1 → P.1 < i + k → (∀ j, j < i → kt_i ν (m + 11) j = nI (nb R j)) → (∀ y j, y ≠ m + 11 → kt_i ν y j = kt_i ν0 y j) → ∃ ν1, x_sweep_L16 n m k (nI (nb R i)) (nI P.1) (nI i) ν = some (nI P.1 - nI (nb R P.1), ν1) ∧ MP ν1 m 1 (dp_sw P R) ∧ ∀ y j, y ≠ m + 11 → ¬ (y = m + 1 ∧ 321 ≤ j ∧ j < 642) → kt_i ν1 y j = kt_i ν0 y j
  | 0, i, ν, h1, h2, ha, he => by omega
  | k + 1, i, ν, h1, h2, ha, he => by
    have hs := hP.1
    rw [x_sweep_L16]
    unfold x_sweep_B16
    by_cases e : i = P.1
    · subst e
      rw [if_pos ((nI_leI (by omega) (by omega)).mpr (Nat.le_refl _))]
      obtain ⟨ν1, a1, a2, a3⟩ := pu_sw48 (n := n) (m := m) (ν0 := ν) hP hR hn ha (fun i hi => by
        rw [he _ _ (by omega)]
        exact ⟨fun q c => (h9 i hi).t c q, fun q => (h9 i hi).n q⟩) n 0 ν (by omega) (by omega) (fun j hj => by omega) (fun j _ hj => (hM.2 j hj).ext (fun z => he _ _ (by omega))) (fun _ _ _ => rfl)
      exact ⟨ν1, a1, a2, fun y j q1 q2 => by rw [a3 y j q2, he y j q1]⟩
    · have hi : i < P.1 := by omega
      rw [if_neg (fun q => by have := (nI_leI (by omega) (by omega)).mp q; omega), kq_ck_t (pu_kin (show i < 16 by omega) (by decide)), nI_clamp (by omega)]
      simp only [kq_lt]
      have hz := h9 i hi
      rw [kq_ck_t (pu_kin (show i < 16 by omega) (by decide)), kt_i_sin (by omega), he _ _ (by omega), kq_b1_s (pu_flag hz.b), nI_1]
      have hr : nI (nb R i) + kt_i ν0 (m + 9) i = nI (nb R (i + 1)) := by
        rcases hz with ⟨z, c⟩ | ⟨z, c⟩
        · rw [z, nb_n c, Int32.add_zero]
        · rw [z, nb_s c, nI_1]
      rw [hr]
      refine pu_sw16 hP hR hn hM h9 k (i + 1) _ (by omega) (by omega) (fun j hj => ?_) (fun y j q => by rw [kt_i_sin q]; exact he y j q)
      by_cases z : j = i
      · subst z; exact kt_i_sie
      · rw [kt_i_sik z]; exact ha j (by omega)
theorem st_sweep {μ : kt_M} {o m : Nat} (h : kInv μ o m) : ∃ (n : Nat) (μ1 : kt_M), x_sweep n m (ut_sweep μ o).2 = some ((ut_sweep μ o).1, μ1) ∧ kInv μ1 o m := by
  obtain ⟨P0, P1, PI, L, lim, h⟩ := h
  have hom := h.1
  obtain ⟨hCs, hAN⟩ := h.cs.ref h.2.2.2.2.1.2.2.1
  obtain ⟨A, hL, hF, hO, hPA⟩ := id hAN
  obtain ⟨hP, hC, c3, c4, c5⟩ := hCs
  have hs := hP.1
  have hmk := hPA.1
  obtain ⟨mk, emk⟩ : ∃ mk, mk = kt_i (ut_ref μ o) (o + 361) 2 := ⟨_, rfl⟩
  rw [← emk] at hmk
  have hR : Kp P1 (ib mk) := fun i hi hr x hx => by
    have h1 := (hmk i (by omega)).mp hr
    have ht := (hP.2 i hi).tg hx
    exact (hmk _ (by omega)).mpr (h1.next ⟨hi, x, hx, rfl⟩ (by omega))
  obtain ⟨f1, f2, f3⟩ := cl_kpm (mk := mk) hP hR hC
  have hl := nb_le (R := ib mk) P1.1
  have hu : ut_sweep μ o = (nI P1.1 - nI (nb (ib mk) P1.1), ut_set15 (ut_kpm (ut_ref μ o) o P1.1 mk) o (nI P1.1 - nI (nb (ib mk) P1.1))) := by
    unfold ut_sweep
    dsimp only
    rw [hC.1, nI_clamp (by omega), ← emk, f1]
  rw [hu]
  dsimp only
  generalize ut_kpm (ut_ref μ o) o P1.1 mk = μf at f2 f3
  have hc15 : ∀ y k, ¬ (y = o ∧ k = 15) → kt_i (ut_set15 μf o (nI P1.1 - nI (nb (ib mk) P1.1))) y k = kt_i μf y k := fun y k q => by unfold ut_set15; rw [kt_i_si, if_neg q]
  have hCs2 : Cs μ (ut_set15 μf o (nI P1.1 - nI (nb (ib mk) P1.1))) o (dp_sw P1 (ib mk)) := by
    refine ⟨hP.sw hR, f2.ext (N := 16) (by show nb (ib mk) P1.1 ≤ 16; omega) (fun y k q1 q2 => hc15 y k (by omega)), c3.far (fun y k q1 q2 => by rw [hc15 y k (by omega), f3 y k (by omega) (by omega)]), fun q => ?_, fun y k q1 q2 => by rw [hc15 y k q1, f3 y k (by omega) (by omega), c5 y k q1 q2]⟩
    unfold ut_set15 at q
    rw [kt_i_sie] at q
    have q2 : ¬ kt_i μf o 15 = 0 ∧ nI P1.1 - nI (nb (ib mk) P1.1) = 0 := by
      by_cases z : ¬ kt_i μf o 15 = 0 ∧ nI P1.1 - nI (nb (ib mk) P1.1) = 0
      · exact z
      · exact absurd (kt_f_f z) q
    have hz : nb (ib mk) P1.1 = P1.1 := by
      have := q2.2
      rw [nI_sub hl] at this
      have := (nI_eq (b := 0) (by omega) (by decide)).mp this
      omega
    rw [dp_sw_id hP hz]
    exact AN.ext hAN (fun y k y1 y2 => by rw [hc15 y k (by omega), f3 y k (by omega) (by omega)])
  generalize ut_set15 μf o (nI P1.1 - nI (nb (ib mk) P1.1)) = μc at hCs2
  have hfar : ∀ y k, m ≤ y → kt_i μc y k = kt_i μ y k := fun y k hy => hCs2.2.2.2.2 y k (by omega) (by omega)
  have hMc : MP μc m 1 P1 := h.2.2.1.2.2.ext (fun j => hfar _ j (by omega))
  obtain ⟨ν1, d1, d2, d3⟩ := pu_meets (n := 4000) hP (by decide) hMc wv_none
  have hM1 := d2.MP hMc
  obtain ⟨ν2, e1, e2, e3⟩ := pu_sw16 (n := 4000) (m := m) (R := ib mk) (ν0 := ν1) hP hR (by decide) hM1 (fun i hi => (d3 i (by omega)).iff (hmk i (by omega)).symm) 4000 0 ν1 (by omega) (by omega) (fun j hj => by omega) (fun _ _ _ => rfl)
  refine ⟨4000, ν2, ?_, (h.mk hCs2 ⟨e2, fun y j q1 q2 q3 => ?_⟩ (fun y k hy => ?_)).inv⟩
  · unfold x_sweep
    rw [kq_b2_s d1, kq_b2_s (show x_many 4000 m ν1 1 = some (nI P1.1, ν1) from (pu_many (p := 1) (by decide)).trans (pu_pair hM1.1 rfl))]
    exact e1
  · rw [e3 y j (by omega) q3, d2.1 y j (by omega), hfar y j q1]
  · rw [e3 y k (by omega) (by omega), d2.1 y k (by omega)]

/-! PURE: text -/
theorem pu_L12 {n m : Nat} : ∀ (fu i : Nat) (ν : kt_M), i ≤ 321 → 321 < i + fu → ∃ ν1, x_text_L12 n m fu (nI i) ν = kq_b2 (x_reads n m ν1) (fun _ w => x_text_L36 n m n w) ∧ (∀ j, i ≤ j → j < 321 → kt_i ν1 (m + 2) j = 0) ∧ ∀ y z, ¬ (y = m + 2 ∧ i ≤ z ∧ z < 321) → kt_i ν1 y z = kt_i ν y z
  | 0, i, ν, h1, h2 => by omega
  | fu + 1, i, ν, h1, h2 => by
    rw [x_text_L12]
    unfold x_text_B12
    by_cases e : i = 321
    · subst e
      rw [if_pos (by decide)]
      exact ⟨ν, rfl, fun j q1 q2 => absurd q2 (by omega), fun _ _ _ => rfl⟩
    · rw [if_neg (fun q => by have := (nI_leI (a := 321) (by decide) (by omega)).mp q; omega), kq_ck_t (pu_kin (by omega) (by decide)), nI_clamp (by omega), nI_1]
      simp only [kq_lt]
      obtain ⟨ν1, a1, a2, a3⟩ := pu_L12 (n := n) (m := m) fu (i + 1) (kt_si ν (m + 2) i 0) (by omega) (by omega)
      refine ⟨ν1, a1, fun j q1 q2 => ?_, fun y z q => ?_⟩
      · by_cases e2 : j = i
        · rw [e2, a3 _ _ (by omega), kt_i_sie]
        · exact a2 j (by omega) q2
      · rw [a3 y z (by omega), kt_i_si, if_neg (by omega)]
theorem pu_L96 {n m : Nat} : ∀ (fu i : Nat) (ν : kt_M), i ≤ 321 → 321 < i + fu → ∃ ν1, x_text_L96 n m fu (nI i) ν = kq_b2 (x_anew n m ν1) (fun _ w => kq_b2 (x_many n m w 0) (fun r w2 => some (r, w2))) ∧ (∀ j, i ≤ j → j < 321 → kt_i ν1 (m + 1) j = kt_i ν (m + 2) j) ∧ ∀ y z, ¬ (y = m + 1 ∧ i ≤ z ∧ z < 321) → kt_i ν1 y z = kt_i ν y z
  | 0, i, ν, h1, h2 => by omega
  | fu + 1, i, ν, h1, h2 => by
    rw [x_text_L96]
    unfold x_text_B96
    by_cases e : i = 321
    · subst e
      rw [if_pos (by decide)]
      exact ⟨ν, rfl, fun j q1 q2 => absurd q2 (by omega), fun _ _ _ => rfl⟩
    · rw [if_neg (fun q => by have := (nI_leI (a := 321) (by decide) (by omega)).mp q; omega), kq_ck_t (pu_kin (by omega) (by decide)), kq_ck_t (pu_kin (by omega) (by decide)), nI_clamp (by omega), nI_1]
      simp only [kq_lt]
      obtain ⟨ν1, a1, a2, a3⟩ := pu_L96 (n := n) (m := m) fu (i + 1) (kt_si ν (m + 1) i (kt_i ν (m + 2) i)) (by omega) (by omega)
      refine ⟨ν1, a1, fun j q1 q2 => ?_, fun y z q => ?_⟩
      · by_cases e2 : j = i
        · rw [e2, a3 _ _ (by omega), kt_i_sie]
        · rw [a2 j (by omega) q2, kt_i_sin (by omega)]
      · rw [a3 y z (by omega), kt_i_si, if_neg (by omega)]
/-- reading, of both -/
theorem pu_txt {n m p q L : Nat} {μ ν : kt_M} (hn : 400 ≤ n) (hq : p + 2 ≤ q) (hT : TB μ ν p m L) : ∃ ν4, x_text n m ν = x_text_J57 n m ν4 ∧ FE m ν ν4 ∧ ((∃ N μ1 s e, N ≤ 8 ∧ q_prs μ p q = (if k_nmL μ1 q N 0 = true then (1, μ1) else (0, m_fail μ1 p 6)) ∧ TK μ1 ν4 p m L s 0 e ∧ PS μ1 ν4 q m N) ∨ ((q_prs μ p q).1 = 0 ∧ FT (q_prs μ p q).2 ν4 p m)) := by
  have hqp : q_prs μ p q = p_prs μ p q := kt_seal_eq _
  rw [hqp]
  unfold x_text
  simp only [kq_lt]
  obtain ⟨ν2, a1, a2, a3⟩ := pu_L12 (n := n) (m := m) n 0 (kt_si (kt_si ν m 11 0) m 7 0) (by decide) (by omega)
  rw [show nI 0 = (0 : Int32) from rfl] at a1
  rw [a1]
  have hi : ∀ y z, y ≠ q → y ≠ p → kt_i (p_ini μ p q) y z = kt_i μ y z := fun y z z1 z2 => by unfold p_ini; rw [kt_i_sin z2, kt_i_sin z2, kt_i_sin z1]
  have hi1 : kt_i (p_ini μ p q) p 1 = kt_i μ p 1 := by unfold p_ini; rw [kt_i_sik (by decide), kt_i_sik (by decide), kt_i_sin (by omega)]
  have hi2 : kt_i (p_ini μ p q) p 2 = 0 := by unfold p_ini; rw [kt_i_sik (by decide), kt_i_sie]
  have hi6 : kt_i (p_ini μ p q) p 6 = nI 0 := by unfold p_ini; rw [kt_i_sie]; rfl
  have hi3 : kt_i (p_ini μ p q) q 3 = nI 0 := by unfold p_ini; rw [kt_i_sin (by omega), kt_i_sin (by omega), kt_i_sie]; rfl
  have hν2 : FE m ν ν2 := fun y z z1 z2 => by rw [a3 y z (by omega), kt_i_si, if_neg (by omega), kt_i_si, if_neg (by omega)]
  have hT2 : TB (p_ini μ p q) ν2 p m L := hT.ext hi1 (hν2 _ _ (by omega) (by omega)) (fun z => hi _ z (by omega) (by omega)) (fun z => hν2 _ z (by omega) (by omega))
  obtain ⟨ν3, b1, b2, b3⟩ := pu_adv (n := n) (a := 0) (by omega) hT2 hi2 (by rw [a3 _ _ (by omega), kt_i_sik (by decide), kt_i_sie]) hi6 (by rw [a3 _ _ (by omega), kt_i_sie]; rfl) (by omega)
  rw [kq_b2_s b1]
  have hν3 : FE m ν ν3 := hν2.trans (b2.fd (c := 0)).fe
  unfold p_prs
  rw [a_adv_1, a_adv_2]
  rcases b3 with ⟨g1, s, t, e, g2⟩ | ⟨g1, g2⟩
  · rw [if_neg (show ¬ kt_f (a_ok (p_ini μ p q) p) = 0 by rw [kt_f_t g1]; decide)]
    have hP : PS (a_mem (p_ini μ p q) p) ν3 q m 0 := ⟨by rw [a_mem_out (by omega)]; exact hi3, by rw [b2 _ _ (by omega), a2 0 (by decide) (by decide)]; rfl, fun j hj => absurd hj (by omega)⟩
    obtain ⟨ν4, d1, d2, d3⟩ := pu_prL (n := n) (m := m) (L := L) (by omega) hq n 8 0 (a_mem (p_ini μ p q) p) ν3 s t e (by decide) (by omega) g2 hP
    exact ⟨ν4, d1, hν3.trans d2, d3⟩
  · rw [if_pos (kt_f_f g1), pu_L36X n g2 (by omega)]
    exact ⟨ν3, rfl, hν3, Or.inr ⟨rfl, g2⟩⟩
theorem pu_J74X {n m p : Nat} {μ ν : kt_M} (h : FT μ ν p m) : x_text_J74 n m ν = some (-10 - kt_i ν m 12, kt_si ν m 6 0) := by
  unfold x_text_J74
  simp only [kq_lt]
  rw [kt_i_sik (by decide), if_neg h.n0.2, kt_i_sik (by decide)]
theorem CB.org {μ : kt_M} {k b : Nat} {D : DB} (h : CB μ k (db_org D 0)) (hb : db_or D = b) : CB (kt_si μ k 10 (nI b)) k D := by
  subst hb
  obtain ⟨c1, c2, c3, c4, c5, c6, c7⟩ := h
  exact ⟨by rw [kt_i_sik (by decide)]; exact c1, fun i hi => by rw [kt_i_sin (by omega), kt_i_sin (by omega), kt_i_sin (by omega)]; exact c2 i hi, by rw [kt_i_sik (by decide)]; exact c3, fun q => by rw [kt_i_sik (by decide)]; exact c4 q, fun q => by rw [kt_i_sik (by decide), kt_i_sik (by decide), kt_i_sik (by decide), kt_i_sik (by decide)]; exact c5 q, kt_i_sie, by rw [kt_i_sik (by decide)]; exact c7⟩
theorem WB.org {D : DB} {s : Nat} (h : WB D s) : WB (db_org D 0) s := ⟨h.1, h.2.1, h.2.2.1, h.2.2.2.1, h.2.2.2.2.1, by show 0 < 8; decide⟩
theorem MX.mb {ν ν1 : kt_M} {m b s : Nat} {D : DB} (h : MX ν (m + 2) (1 + 20 * b) D) (hD : WB D s) (he : ∀ w, w < 20 → kt_i ν1 (m + 1) (321 * 0 + 1 + 20 * b + w) = kt_i ν (m + 2) (1 + 20 * b + w)) : MB ν1 m 0 b D := by
  have hn := hD.1
  obtain ⟨m1, m2, m3, m4, m5, m6, m7, m8, m9⟩ := h
  unfold MB mr
  refine ⟨by rw [he _ (by decide)]; exact m1, fun i hi => ?_, by rw [he _ (by decide)]; exact m3, by rw [he _ (by decide)]; exact m4, by rw [he _ (by decide)]; exact m5, by rw [he _ (by decide)]; exact m6, by rw [he _ (by decide)]; exact m7, by rw [he _ (by decide)]; exact m8, by rw [he _ (by decide)]; exact m9⟩
  rw [he _ (by omega), he _ (by omega), he _ (by omega)]
  exact m2 i hi
theorem k_nmL_all {μ : kt_M} {p : Nat} : ∀ (n i : Nat), k_nmL μ p n i = true → ∀ j, i ≤ j → j < i + n → k_nm μ p (p + 7 + 4 * j)
  | 0, i, h, j, h1, h2 => by omega
  | n + 1, i, h, j, h1, h2 => by
    by_cases q : k_nm μ p (p + 7 + 4 * i)
    · by_cases e : j = i
      · rw [e]; exact q
      · rw [k_nmL_t q] at h
        exact k_nmL_all n (i + 1) h j (by omega) (by omega)
    · rw [k_nmL_f q] at h
      exact absurd h (by decide)
theorem st_text {μ : kt_M} {o m : Nat} (h : kInv μ o m) : ∃ (n : Nat) (μ1 : kt_M), x_text n m (ut_text μ o).2 = some ((ut_text μ o).1, μ1) ∧ kInv μ1 o m := by
  obtain ⟨P0, P1, PI, L, lim, h⟩ := h
  have hom := h.1
  obtain ⟨r1, r2, r3, r4⟩ := h.rd
  obtain ⟨fu, hfu⟩ : ∃ fu : Nat, 400 ≤ fu := ⟨4000, by decide⟩
  refine ⟨fu, ?_⟩
  have hout : ∀ y k, (y ≠ o + 1 ∧ y ≠ o + 3 ∧ (y < o + 10 ∨ o + 42 ≤ y)) → kt_i (q_prs μ (o + 1) (o + 3)).2 y k = kt_i μ y k := fun y k q => q_prs_out2 (by omega)
  have htx : ∀ y k, ¬ (y = o + 1 ∧ k = 1) → kt_i (ut_tx1 μ o) y k = kt_i (q_prs μ (o + 1) (o + 3)).2 y k := fun y k q => by unfold ut_tx1; rw [kt_i_si, if_neg q]
  have htx1 : kt_i (ut_tx1 μ o) (o + 1) 1 = 0 := by unfold ut_tx1; exact kt_i_sie
  have hto : ∀ y k, (y ≠ o + 1 ∧ y ≠ o + 3 ∧ (y < o + 10 ∨ o + 42 ≤ y)) → kt_i (ut_tx1 μ o) y k = kt_i μ y k := fun y k q => by rw [htx y k (by omega), hout y k q]
  -- the class's last memory, as the model finds it
  have hTB : ∀ w : kt_M, (∀ y k, m ≤ y → kt_i w y k = kt_i μ y k) → TB μ w (o + 1) m L := fun w hw => ⟨r1, r2, by rw [hw _ _ (by omega)]; exact r3, fun i hi => by rw [hw _ _ (by omega)]; exact r4 i hi⟩
  -- a fault
  have hbad : ∀ (w : kt_M) (a : Int32), (q_prs μ (o + 1) (o + 3)).1 = 0 → FE m (ut_tx1 μ o) w → FT (q_prs μ (o + 1) (o + 3)).2 w (o + 1) m → x_text fu m (ut_tx1 μ o) = x_text_J74 fu m w → ∃ μ1, x_text fu m (ut_text μ o).2 = some ((ut_text μ o).1, μ1) ∧ kInv μ1 o m := fun w a k1 k2 k3 k4 => by
    have hu : ut_text μ o = (-10 - kt_i (ut_tx1 μ o) (o + 1) 3, ut_tx1 μ o) := if_pos k1
    rw [hu]
    dsimp only
    rw [k4, pu_J74X k3]
    obtain ⟨f, f1, f2, f3, f4, f5⟩ := k3
    have hw : ∀ y k, ¬ (y = m ∧ 6 ≤ k ∧ k ≤ 12) → y ≠ m + 2 → (y ≠ o + 1 ∧ y ≠ o + 3 ∧ (y < o + 10 ∨ o + 42 ≤ y)) → kt_i (kt_si w m 6 0) y k = kt_i μ y k := fun y k q1 q2 q3 => by rw [kt_i_si, if_neg (by omega), k2 y k (by omega) q2, hto y k q3]
    refine ⟨kt_si w m 6 0, pu_pair ?_ rfl, (h.upd (L' := 0) (lim' := lim) (fun y k hy => ?_) (h.lm.ext (fun y k hy => hw y k (by omega) (by omega) (by omega))) ⟨by decide, ?_, kt_i_sie, fun i hi => absurd hi (by omega)⟩ ?_ ?_ (h.inp.ext (fun y k hy => hw y k (by omega) (by omega) (by omega))) (h.shs.ext (fun y k hy => hw y k (by omega) (by omega) (by omega)))).inv⟩
    · rw [htx _ _ (by omega), f5]
    · unfold kPc at hy
      exact hw y k (by omega) (by omega) (by omega)
    · rw [kt_i_sin (by omega), k2 _ _ (by omega) (by omega), htx1]; rfl
    · rw [kt_i_sin (by omega), k2 _ _ (by omega) (by omega), htx _ _ (by omega), f3, kt_i_sik (by decide), f4]
    · rw [hw _ _ (by omega) (by omega) (by omega), hw _ _ (by omega) (by omega) (by omega)]; exact h.to
  have htm : ∀ y k, m ≤ y → kt_i (ut_tx1 μ o) y k = kt_i μ y k := fun y k hy => hto y k (by omega)
  obtain ⟨ν4, a1, a2, a3⟩ := pu_txt (n := fu) (q := o + 3) hfu (by omega) (hTB (ut_tx1 μ o) htm)
  rcases a3 with ⟨N, μ1, s, e, n1, n2, n3, n4⟩ | ⟨k1, k2⟩
  · have hab : x_hasAllBlocks fu m ν4 = some (kt_f (True ∧ k_nmL μ1 (o + 3) (N - 0) 0 = true), ν4) := by
      unfold x_hasAllBlocks
      exact pu_hab (n := fu) n1 n4 fu 0 True (by omega) (by omega)
    rw [Nat.sub_zero] at hab
    by_cases hnm : k_nmL μ1 (o + 3) N 0 = true
    · rw [if_pos hnm] at n2
      -- all is there
      have hN0 : kt_i (ut_tx1 μ o) (o + 3) 3 = nI N := by rw [htx _ _ (by omega), n2]; exact n4.1
      have hu : ut_text μ o = (nI N, ut_new (ut_cpo (ut_tx1 μ o) o N) o N) := by
        have : ut_text μ o = _ := if_neg (show ¬ (q_prs μ (o + 1) (o + 3)).1 = 0 by rw [n2]; exact (show ¬ (1 : Int32) = 0 by decide))
        rw [this, hN0, nI_clamp (by omega)]
      rw [hu]
      dsimp only
      have hq2 : (q_prs μ (o + 1) (o + 3)).2 = μ1 := by rw [n2]
      -- the class's last memory
      have hwo : ∀ y k, (y < o + 42 ∨ o + 152 ≤ y) → ¬ (y = o + 153 ∧ k < 2) → ¬ (y = o ∧ k = 15) → kt_i (ut_new (ut_cpo (ut_tx1 μ o) o N) o N) y k = kt_i (ut_tx1 μ o) y k := fun y k q1 q2 q3 => by
        unfold ut_new ut_cpo
        rw [kt_i_si, if_neg (by omega), kt_i_si, if_neg (by omega), kt_i_si, if_neg (by omega), m_pcpL_out _ _ _ (by omega), kt_i_sin (by omega), m_orgL_far _ _ _ (fun c c1 c2 => by omega), m_pcpL_out _ _ _ (by omega), kt_i_sin (by omega)]
      obtain ⟨νa, b1, b2, b3⟩ := pu_txt (n := fu) (q := o + 3) hfu (by omega) (hTB (ut_new (ut_cpo (ut_tx1 μ o) o N) o N) (fun y k hy => by rw [hwo y k (by omega) (by omega) (by omega)]; exact htm y k hy))
      rcases b3 with ⟨N2, μ2, s2, e2, m1, m2, m3, m4⟩ | ⟨k1, k2⟩
      rotate_left
      · rw [n2] at k1; exact absurd k1 (show ¬ (1 : Int32) = 0 by decide)
      have hnm2 : k_nmL μ2 (o + 3) N2 0 = true := by
        by_cases z : k_nmL μ2 (o + 3) N2 0 = true
        · exact z
        · rw [if_neg z, n2] at m2
          exact absurd (congrArg Prod.fst m2) (show ¬ (1 : Int32) = 0 by decide)
      have hμ2 : μ2 = μ1 := by
        rw [if_pos hnm2, n2] at m2
        exact (congrArg Prod.snd m2).symm
      subst hμ2
      have hN2 : N2 = N := (nI_eq (by omega) (by omega)).mp (m4.1.symm.trans n4.1)
      subst hN2
      rw [b1]
      have hab2 : x_hasAllBlocks fu m νa = some (kt_f (True ∧ k_nmL μ2 (o + 3) (N2 - 0) 0 = true), νa) := by
        unfold x_hasAllBlocks
        exact pu_hab (n := fu) m1 m4 fu 0 True (by omega) (by omega)
      rw [Nat.sub_zero] at hab2
      obtain ⟨Q, hQ⟩ : ∃ Q : Nat → DB, ∀ j, j < N2 → WB (Q j) N2 ∧ db_or (Q j) = j ∧ CB μ2 (o + 3 + 7 + 4 * j) (db_org (Q j) 0) ∧ MX νa (m + 2) (1 + 20 * j) (Q j) := by
        refine Classical.axiomOfChoice (r := fun j D => j < N2 → WB D N2 ∧ db_or D = j ∧ CB μ2 (o + 3 + 7 + 4 * j) (db_org D 0) ∧ MX νa (m + 2) (1 + 20 * j) D) (fun j => ?_)
        by_cases hj : j < N2
        · obtain ⟨D, d1, d2, d3, d4⟩ := (pu_ok m1 m4.1 (m4.2.2 j hj)).2 (k_nmL_all N2 0 hnm2 j (by omega) (by omega))
          exact ⟨D, fun _ => ⟨d1, d2, d3, d4⟩⟩
        · exact ⟨(0, fun _ => (0, 0, 0), 0, (0, 0), (0, 0, 0), 0), fun z => absurd z hj⟩
      unfold x_text_J57
      rw [if_pos m3.2.1.2, kq_b2_s hab2, kt_f_t ⟨trivial, hnm2⟩, kq_b2_s pu_reqT]
      unfold x_text_J74
      simp only [kq_lt]
      rw [kt_i_sik (by decide), m3.2.1.2, if_pos (by decide)]
      obtain ⟨νb, g1, g2, g3⟩ := pu_L96 (n := fu) (m := m) fu 0 (kt_si νa m 6 0) (by decide) (by omega)
      rw [show nI 0 = (0 : Int32) from rfl] at g1
      rw [g1]
      obtain ⟨νc, j1, j2, j3, j4⟩ := pu_anew (n := fu) (m := m) (μ := νb) (by omega)
      rw [kq_b2_s j1]
      have hWO : WO (N2, Q) := ⟨⟨m1, fun b hb => (hQ b hb).1⟩, fun b hb => (hQ b hb).2.1⟩
      have hWP := hWO.1.up
      have hCd : CP (ut_tx1 μ o) (o + 3) (N2, fun b => db_org (Q b) 0) := ⟨hN0, fun b hb => (hQ b hb).2.2.1.ext (fun y z q1 q2 => by rw [htx _ _ (by omega), hq2])⟩
      have hWd : WP (N2, fun b => db_org (Q b) 0) 16 := ⟨by show N2 ≤ 16; omega, fun b hb => (hQ b hb).1.org⟩
      obtain ⟨hcp, hcf⟩ := cp_cop (p := o + 42) hCd hWd (Or.inr (Or.inr ⟨by omega, m1⟩))
      have hcpo : ut_cpo (ut_tx1 μ o) o N2 = m_pcpL (o + 42) (o + 3) N2 0 (kt_si (ut_tx1 μ o) (o + 42) 3 0) := rfl
      have hcp : CP (ut_cpo (ut_tx1 μ o) o N2) (o + 42) (N2, fun b => db_org (Q b) 0) := hcp
      have hcf : ∀ y k, y ≠ o + 42 → (y < o + 42 + 7 ∨ o + 42 + 71 ≤ y) → kt_i (ut_cpo (ut_tx1 μ o) o N2) y k = kt_i (ut_tx1 μ o) y k := hcf
      have hcf2 : ∀ y k, (y < o + 42 ∨ o + 81 ≤ y) → kt_i (ut_cpo (ut_tx1 μ o) o N2) y k = kt_i (ut_tx1 μ o) y k := fun y k q => by
        rw [hcpo, m_pcpL_out _ _ _ (by omega), kt_i_sin (by omega)]
      have hC : CP (m_orgL (o + 42) N2 0 (ut_cpo (ut_tx1 μ o) o N2)) (o + 42) (N2, Q) := cp_org (P := (N2, Q)) hcp.1 (fun b hb => (hcp.2 b hb).org (hQ b hb).2.1)
      have hM0 : MP νb m 0 (N2, Q) := ⟨by rw [g2 _ (by omega) (by omega), kt_i_sin (by omega)]; exact m4.2.1, fun b hb => (hQ b hb).2.2.2.mb (hQ b hb).1 (fun w hw => by rw [g2 _ (by omega) (by omega), kt_i_sin (by omega)])⟩
      have hM1 : MP νc m 0 (N2, Q) := hM0.far hWP (fun j q1 q2 => j2 _ _ (by omega) (by omega))
      rw [kq_b2_s (show x_many fu m νc 0 = some (nI N2, νc) from (pu_many (p := 0) (by decide)).trans (pu_pair hM1.1 rfl))]
      have hfin : ∀ y k, ¬ (y = m ∧ 6 ≤ k ∧ k ≤ 12) → y ≠ m + 1 → y ≠ m + 2 → y ≠ m + 4 → kt_i νc y k = kt_i (ut_new (ut_cpo (ut_tx1 μ o) o N2) o N2) y k := fun y k q1 q2 q3 q4 => by
        rw [j2 _ _ (by omega) (by omega), g3 _ _ (by omega), kt_i_si, if_neg (by omega), b2 y k (by omega) q3]
      -- the state before, with the tape taken
      have hb0 : kIS (kt_si (kt_si (kt_si (kt_si μ (o + 1) 1 0) (o + 1) 2 0) m 6 0) m 11 0) o m P0 P1 PI 0 lim := by
        have hf : ∀ y k, ¬ (y = o + 1 ∧ (k = 1 ∨ k = 2)) → ¬ (y = m ∧ (k = 6 ∨ k = 11)) → kt_i (kt_si (kt_si (kt_si (kt_si μ (o + 1) 1 0) (o + 1) 2 0) m 6 0) m 11 0) y k = kt_i μ y k := fun y k q1 q2 => by rw [kt_i_si, if_neg (by omega), kt_i_si, if_neg (by omega), kt_i_si, if_neg (by omega), kt_i_si, if_neg (by omega)]
        refine h.upd (L' := 0) (lim' := lim) (fun y k hy => hf y k (by unfold kPc at hy; omega) (by unfold kPc at hy; omega)) (h.lm.ext (fun y k hy => hf y k (by omega) (by omega))) ⟨by decide, ?_, ?_, fun i hi => absurd hi (by omega)⟩ ?_ ?_ (h.inp.ext (fun y k hy => hf y k (by omega) (by omega))) (h.shs.ext (fun y k hy => hf y k (by omega) (by omega)))
        · rw [kt_i_sin (by omega), kt_i_sin (by omega), kt_i_sik (by decide), kt_i_sie]; rfl
        · rw [kt_i_sik (by decide), kt_i_sie]; rfl
        · rw [kt_i_sin (by omega), kt_i_sin (by omega), kt_i_sie, kt_i_sie]
        · rw [hf _ _ (by omega) (by omega), hf _ _ (by omega) (by omega)]; exact h.to
      have hf0 : ∀ y k, ¬ (y = o + 1 ∧ (k = 1 ∨ k = 2)) → ¬ (y = m ∧ (k = 6 ∨ k = 11)) → kt_i (kt_si (kt_si (kt_si (kt_si μ (o + 1) 1 0) (o + 1) 2 0) m 6 0) m 11 0) y k = kt_i μ y k := fun y k q1 q2 => by rw [kt_i_si, if_neg (by omega), kt_i_si, if_neg (by omega), kt_i_si, if_neg (by omega), kt_i_si, if_neg (by omega)]
      have h01 : kt_i (kt_si (kt_si (kt_si (kt_si μ (o + 1) 1 0) (o + 1) 2 0) m 6 0) m 11 0) (o + 1) 1 = 0 := by rw [kt_i_sin (by omega), kt_i_sin (by omega), kt_i_sik (by decide), kt_i_sie]
      have h02 : kt_i (kt_si (kt_si (kt_si (kt_si μ (o + 1) 1 0) (o + 1) 2 0) m 6 0) m 11 0) (o + 1) 2 = 0 := by rw [kt_i_sin (by omega), kt_i_sin (by omega), kt_i_sie]
      have h06 : kt_i (kt_si (kt_si (kt_si (kt_si μ (o + 1) 1 0) (o + 1) 2 0) m 6 0) m 11 0) m 6 = 0 := by rw [kt_i_sik (by decide), kt_i_sie]
      have h0b : kt_i (kt_si (kt_si (kt_si (kt_si μ (o + 1) 1 0) (o + 1) 2 0) m 6 0) m 11 0) m 11 = 0 := kt_i_sie
      generalize kt_si (kt_si (kt_si (kt_si μ (o + 1) 1 0) (o + 1) 2 0) m 6 0) m 11 0 = μb at hb0 hf0 h01 h02 h06 h0b
      refine ⟨νc, rfl, hb0.new (P := (N2, Q)) (μ' := ut_cpo (ut_tx1 μ o) o N2) hWO hC (fun y k hy hm => ?_) hM1 (hM0.cop hWP j3) j4 (fun y k hy => hfin y k (by omega) (by omega) (by omega) (by omega)) (fun y k hy hr => ?_)⟩
      · have hcl : kt_i (ut_cpo (ut_tx1 μ o) o N2) y k = kt_i (ut_tx1 μ o) y k := by
          by_cases z : y < o + 42 ∨ o + 81 ≤ y
          · exact hcf2 y k z
          · exact hcf y k (by unfold kRc at hy; omega) (by unfold kRc at hy; omega)
        rw [hcl]
        by_cases z1 : y = o + 1 ∧ k = 1
        · rw [z1.1, z1.2, htx1, h01]
        · by_cases z2 : y = o + 1 ∧ k = 2
          · rw [z2.1, z2.2, h02, htx _ _ (by omega), hq2]; exact m3.2.1.1
          · rw [hf0 y k (by omega) (by omega), hto y k (by unfold kRc at hy; omega)]
      · by_cases z1 : y = m ∧ k = 6
        · rw [z1.1, z1.2, h06, j2 _ _ (by omega) (by omega), g3 _ _ (by omega), kt_i_sie]
        · by_cases z2 : y = m ∧ k = 11
          · rw [z2.1, z2.2, h0b, j2 _ _ (by omega) (by omega), g3 _ _ (by omega), kt_i_sik (by decide)]; exact m3.2.1.2
          · unfold kRc at hr
            rw [hf0 y k (by omega) (by omega), hfin y k (by omega) (by omega) (by omega) (by omega), hwo y k (by omega) (by omega) (by omega), htm y k hy]
    · rw [if_neg hnm] at n2
      have hF := n3.fail 6 6 (by decide) rfl
      refine hbad _ 0 (by rw [n2]) (a2.trans (req_fr.fd (c := 0)).fe) (by rw [n2]; exact hF) ?_
      rw [a1]
      unfold x_text_J57
      rw [if_pos n3.2.1.2, kq_b2_s hab, kt_f_f (fun z => hnm z.2), kq_b2_s (pu_reqF n3.2.1.2 n3.2.2.1.2)]
  · refine hbad ν4 0 k1 a2 k2 ?_
    rw [a1]
    unfold x_text_J57
    rw [if_neg k2.n0.1]

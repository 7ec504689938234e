/-! PURE: steps that change the current program only: class's side, model's side -/
def Cs (μ0 μ : kt_M) (o : Nat) (P : DP) : Prop := WP P 16 ∧ CP μ (o + 81) P ∧ kf_n μ (o + 154) ∧ (¬ kt_i μ o 15 = 0 → AN μ o P) ∧ ∀ y k, ¬ (y = o ∧ k = 15) → (y < o + 81 ∨ y = o + 82 ∨ (o + 152 ≤ y ∧ y < o + 154) ∨ o + 364 ≤ y) → kt_i μ y k = kt_i μ0 y k
def Ms (μ0 ν : kt_M) (m : Nat) (P : DP) : Prop := MP ν m 1 P ∧ ∀ y j, m ≤ y → ¬ (m + 6 ≤ y ∧ y ≤ m + 15) → ¬ (y = m + 1 ∧ 321 ≤ j ∧ j < 642) → kt_i ν y j = kt_i μ0 y j
theorem kIS.mk {μ0 μ ν : kt_M} {o m : Nat} {P0 P1 P : DP} {PI : Nat → DP} {L lim : Nat} (h : kIS μ0 o m P0 P1 PI L lim) (hC : Cs μ0 μ o P) (hM : Ms μ0 ν m P) (he : ∀ y k, y < m → kt_i ν y k = kt_i μ y k) : kIS ν o m P0 P PI L lim := by
  have hom := h.1
  obtain ⟨c1, c2, c3, c4, c5⟩ := hC
  obtain ⟨m1, m2⟩ := hM
  have hs := c1.1
  have hf : ∀ y k, y < m → ¬ (y = o ∧ k = 15) → (y < o + 81 ∨ y = o + 82 ∨ (o + 152 ≤ y ∧ y < o + 154) ∨ o + 364 ≤ y) → kt_i ν y k = kt_i μ0 y k := fun y k q0 q1 q2 => by rw [he y k q0, c5 y k q1 q2]
  have hMf : ∀ p (Q : DP), p ≠ 1 → p < 4 → WP Q 16 → MP μ0 m p Q → MP ν m p Q := fun p Q q1 q2 hQ hM => hM.far hQ (fun j j1 j2 => m2 _ _ (by omega) (by omega) (by omega))
  obtain ⟨d1, d2, d3, d4⟩ := h.2.2.2.2.1
  refine h.prg (fun y k hy => ?_) ⟨h.2.1.1, h.2.1.2.1.ext h.2.1.1.1.1 (fun y k q1 q2 => hf y k (by omega) (by omega) (by omega)), hMf 0 P0 (by omega) (by omega) h.2.1.1.1.up h.2.1.2.2⟩ ⟨c1, c2.ext hs (fun y k q1 q2 => he y k (by omega)), m1⟩ (fun j hj => ?_) ⟨d1.ext (fun k => hf _ k (by omega) (by omega) (by omega)), d2.ext (fun k => hf _ k (by omega) (by omega) (by omega)), d3.ext (fun k => hf _ k (by omega) (by omega) (by omega)), fun j hj => (d4 j hj).ext (fun k => hf _ k (by omega) (by omega) (by omega))⟩ (c3.far (fun y k q1 q2 => he y k (by omega))) (fun q => (c4 (by rw [← he o 15 (by omega)]; exact q)).ext (fun y k q1 q2 => he y k (by omega))) ⟨fun j => by rw [hf _ _ (by omega) (by omega) (by omega)]; exact h.kp.1 j, fun j hj => by rw [hf (o + 153) j (by omega) (by omega) (by omega), m2 (m + 4) j (by omega) (by omega) (by omega)]; exact h.kp.2 j hj⟩
  · unfold kRc at hy
    by_cases e : y < m
    · exact hf y k e (by omega) (by omega)
    · exact m2 y k (by omega) (by omega) (by omega)
  · obtain ⟨i1, i2, i3⟩ := h.2.2.2.1 j hj
    exact ⟨i1, i2.ext i1.1 (fun y i q1 q2 => hf y i (by omega) (by omega) (by omega)), fun q => hMf _ _ (by omega) (by omega) i1 (i3 (by rw [← hf (o + 153) j (by omega) (by omega) (by omega)]; exact q))⟩
theorem kIS.cs {μ : kt_M} {o m : Nat} {P0 P1 : DP} {PI : Nat → DP} {L lim : Nat} (h : kIS μ o m P0 P1 PI L lim) : Cs μ μ o P1 := ⟨h.2.2.1.1, h.2.2.1.2.1, h.2.2.2.2.2.1, h.2.2.2.2.2.2.1, fun _ _ _ _ => rfl⟩
theorem AN.ref {μ : kt_M} {o : Nat} {P : DP} (hP : WP P 16) (hC : CP μ (o + 81) P) (hW : NW μ (o + 81)) (hA : ¬ kt_i μ o 15 = 0 → AN μ o P) : AN (ut_ref μ o) o P := by
  by_cases hz : kt_i μ o 15 = 0
  · unfold ut_ref
    rw [if_neg (fun h => h hz)]
    obtain ⟨A, s1, s2, s3⟩ := cl_solve (p := o + 154) hP (by omega) hC
    obtain ⟨t1, t2, t3⟩ := cl_la hP (by omega) s1 s2 s3
    have hW2 : NW (f_la (f_solve μ (o + 154) (o + 81)) (o + 154) (o + 81)) (o + 81) := hW.ext (fun k => by rw [f_la_out (by omega), f_solve_out (by omega)])
    have u := cl_psolve (p := o + 361) hP (by omega) t2 hW2
    exact ⟨A, s1, t1.ext (fun y k hy => by rw [kt_i_sin (by omega), q_psolve_out (by omega)]), t3.ext (fun k => by rw [kt_i_sin (by omega), q_psolve_out (by omega)]), u.ext (fun y k h5 h6 => by rw [kt_i_sin (by omega)])⟩
  · rw [show ut_ref μ o = μ from if_pos hz]; exact hA hz
theorem Cs.ref {μ0 μ : kt_M} {o : Nat} {P : DP} (h : Cs μ0 μ o P) (hW : NW μ0 (o + 81)) : Cs μ0 (ut_ref μ o) o P ∧ AN (ut_ref μ o) o P := by
  obtain ⟨c1, c2, c3, c4, c5⟩ := h
  have hW2 : NW μ (o + 81) := hW.ext (fun k => c5 _ _ (by omega) (by omega))
  have hA := AN.ref c1 c2 hW2 c4
  have h0 : ∀ y k, (y = o → k ≠ 15) → (y < o + 154 ∨ o + 364 ≤ y) → kt_i (ut_ref μ o) y k = kt_i μ y k := fun y k q1 q2 => by
    by_cases ey : y = o
    · rw [ey]; exact ut_ref_o (q1 ey)
    · exact ut_ref_out ⟨ey, q2⟩
  exact ⟨⟨c1, c2.ext c1.1 (fun y k q1 q2 => h0 y k (by omega) (by omega)), ut_ref_n c3, fun _ => hA, fun y k q1 q2 => by rw [h0 y k (by omega) (by omega), c5 y k q1 q2]⟩, hA⟩
theorem Rs.zero {P : DP} {A : AV} {lim b x : Nat} (h : Rs P A lim b x 0) : e_ok (A b) ∧ e_ok (a_al P A b x) ∧ 2 ≤ db_en (P.2 (db_tg (P.2 b) x)) ∧ ¬ (e_ok (a_nx P A b x 0) ∧ e_ok (a_nx P A b x 1)) ∧ P.1 ≠ 16 := by
  unfold Rs at h
  rcases h with ⟨h, _⟩ | ⟨h1, h2, h⟩
  · exact absurd h (by decide)
  rcases h with ⟨h, _⟩ | ⟨h3, h⟩
  · exact absurd h (by decide)
  rcases h with ⟨h, _⟩ | ⟨h4, h⟩
  · exact absurd h (by decide)
  rcases h with ⟨h, _⟩ | ⟨h5, h⟩
  · exact absurd h (by decide)
  rcases h with ⟨h, _⟩ | ⟨h6, h⟩
  · exact absurd h (by decide)
  rcases h with ⟨h, _⟩ | ⟨_, h7⟩
  · exact absurd h (by decide)
  exact ⟨h1, h2, h3, h4, h7⟩
theorem thr_go {n m o b x lim : Nat} {μ0 μ ν : kt_M} {P : DP} {A : AV} (hC : Cs μ0 μ o P) (hL : LF P A) (hF : FA μ (o + 154) P A) (hO : FO μ (o + 154) P A 32) (hPA : PA μ (o + 361) P) (hb : b < P.1) (hx : x < db_ne (P.2 b)) (hl : kt_i μ o 13 = nI lim) (hl4 : lim ≤ 4) (hr : ut_rsn μ o (nI b) (nI x) = 0) (hn : 52 ≤ n) (hM : MP ν m 1 P) (hA : MA ν m A) : ∃ w ν1, x_threaded n m ν (nI b) (nI x) = some (nI P.1, ν1) ∧ MP ν1 m 1 (dp_thr P b x w) ∧ (∀ y j, ¬ (y = m + 1 ∧ 321 ≤ j ∧ j < 642) → kt_i ν1 y j = kt_i ν y j) ∧ Cs μ0 (ut_thr μ o P.1 (nI b) (nI x)) o (dp_thr P b x w) := by
  obtain ⟨hP, hCP, c3, c4, c5⟩ := hC
  have hs := hP.1
  have hrs := cl_rsn hP hCP hL hF hO hPA hb hx hl hl4
  rw [hr] at hrs
  obtain ⟨z1, z2, z3, z4, z5⟩ := hrs.zero
  have hT := (hP.2 b hb).tg hx
  obtain ⟨v, μo, o1, o2, o3⟩ := pu_outAl (n := n) hP hb hn hx z1 z2 z3 hL hM hA
  have hv := (hO.oal hF (by omega) hx z1 z2 z3).inj o2
  have hne := (db_ne2 (hP.2 _ hT)).mp z3
  obtain ⟨w, hw, ew⟩ : ∃ w, w < 2 ∧ v = nI (w + 1) := by
    rcases o2 with ⟨_, a, b⟩ | ⟨e, _⟩ | ⟨e, _⟩
    · exact absurd ⟨a, b⟩ z4
    · exact ⟨0, by decide, e⟩
    · exact ⟨1, by decide, e⟩
  subst ew
  obtain ⟨ν1, e1, e2, e3⟩ := pu_thr (n := n) (v := 0) hP (by omega) hb hx (w := w) (by omega) hM hn o1 o3
  obtain ⟨g1, g2, g3⟩ := cl_thr hP (by omega) hb hx (w := w) (by omega) hCP hv
  refine ⟨w, ν1, e1, e2, e3, hP.thr (by omega) hb hx (by omega), g1, c3.far (fun y k q1 q2 => g3 y k (by omega) (by omega)), fun q => absurd g2 q, fun y k q1 q2 => ?_⟩
  rw [g3 y k q1 (by omega), c5 y k q1 q2]
theorem st_thread {μ : kt_M} {o m : Nat} (h : kInv μ o m) (a1 : Int32) (a2 : Int32) : ∃ (n : Nat) (μ1 : kt_M), x_thread n m (ut_thread μ o a1 a2).2 a1 a2 = some ((ut_thread μ o a1 a2).1, μ1) ∧ kInv μ1 o m := by
  obtain ⟨P0, P1, PI, L, lim, h⟩ := h
  have hom := h.1
  obtain ⟨hP, hC, hM⟩ := h.2.2.1
  have hs : P1.1 ≤ 16 := hP.1
  refine ⟨4000, ?_⟩
  by_cases hg : k_he μ (o + 81) a1 a2
  · obtain ⟨j, x, hj, hx, rfl, rfl⟩ := (cp_he hC hP (by decide)).mp hg
    obtain ⟨hR, A, hL, hF, hO, hPA⟩ := h.ref
    obtain ⟨hCs, -⟩ := h.cs.ref h.2.2.2.2.1.2.2.1
    obtain ⟨-, hC2, hM2⟩ := hR.2.2.1
    obtain ⟨hl4, hl1, hl2⟩ := hR.lm
    by_cases hr : ut_rsn (ut_ref μ o) o (nI j) (nI x) = 0
    · have hu : ut_thread μ o (nI j) (nI x) = (nI P1.1, ut_thr (ut_ref μ o) o P1.1 (nI j) (nI x)) := by
        unfold ut_thread; rw [if_pos hg, if_pos hr, hC2.1, nI_clamp (by omega)]
      rw [hu]
      dsimp only
      have hz := cl_rsn hP hC2 hL hF hO hPA hj hx hl1 hl4
      have hfar : ∀ y k, m ≤ y → kt_i (ut_thr (ut_ref μ o) o P1.1 (nI j) (nI x)) y k = kt_i (ut_ref μ o) y k := fun y k hy => by
        rw [hr] at hz
        have z5 := hz.zero.2.2.2.2
        have z3 := hz.zero.2.2.1
        have hT := (hP.2 j hj).tg hx
        unfold ut_thr ut_cpy
        rw [k_at_nI hC2.1 (by omega) hj, kt_i_sin (by omega), kt_i_sin (by omega), kt_i_sin (by omega), kt_i_sin (by omega), kt_cpB_out (by omega), kt_i_sin (by omega), m_wipe_out (by omega)]
      generalize hμc : ut_thr (ut_ref μ o) o P1.1 (nI j) (nI x) = μc at hfar
      have hM3 : MP μc m 1 P1 := hM2.ext (fun k => hfar _ k (by omega))
      obtain ⟨r1, b1, b2⟩ := pu_isEdge (n := 4000) (a := nI j) (s := nI x) hM3 hP (by decide) (by decide)
      obtain ⟨ν1, d1, d2, d3⟩ := pu_findA (n := 4000) hP (by decide) hM3 hL
      have hM4 : MP ν1 m 1 P1 := hM3.ext (fun k => by rw [d2])
      obtain ⟨v, ν2, e1, e2, e3⟩ := pu_against (n := 4000) hP hj (by decide) hx hL hM4 d3 (by rw [d2, hfar _ _ (by omega)]; exact hl2) hl4
      have hv0 : v = 0 := (e2.inj hz).trans hr
      unfold x_thread
      rw [kq_b2_s (show x_isEdge 4000 m μc 1 (nI j) (nI x) = _ from b1), if_neg (b2.t ⟨j, x, hj, hx, rfl, rfl⟩), kq_b2_s d1, kq_b2_s e1, if_pos hv0]
      obtain ⟨w, ν3, f1, f2, f3, f4⟩ := thr_go (n := 4000) (m := m) (ν := ν2) hCs hL hF hO hPA hj hx hl1 hl4 hr (by decide) (e3.MP hM4) (e3.MA d3)
      rw [kq_b2_s f1]
      refine ⟨ν3, rfl, (h.mk f4 ⟨f2, fun y k q1 q2 q3 => ?_⟩ (fun y k hy => ?_)).inv⟩
      · rw [f3 y k q3, e3.1 y k (by omega), d2, hfar y k q1]
        exact ut_ref_out ⟨by omega, by omega⟩
      · rw [f3 y k (by omega), e3.1 y k (by omega), d2, hμc]
    · have hu : ut_thread μ o (nI j) (nI x) = (-2, ut_ref μ o) := by
        unfold ut_thread; rw [if_pos hg, if_neg hr]
      rw [hu]
      dsimp only
      obtain ⟨r1, b1, b2⟩ := pu_isEdge (n := 4000) (a := nI j) (s := nI x) hM2 hP (by decide) (by decide)
      obtain ⟨μ1, d1, d2, d3⟩ := pu_findA (n := 4000) hP (by decide) hM2 hL
      have hM3 : MP μ1 m 1 P1 := hM2.ext (fun k => by rw [d2])
      obtain ⟨v, μ2, e1, e2, e3⟩ := pu_against (n := 4000) hP hj (by decide) hx hL hM3 d3 (by rw [d2]; exact hl2) hl4
      have hv : v = ut_rsn (ut_ref μ o) o (nI j) (nI x) := e2.inj (cl_rsn hP hC2 hL hF hO hPA hj hx hl1 hl4)
      unfold x_thread
      rw [kq_b2_s (show x_isEdge 4000 m (ut_ref μ o) 1 (nI j) (nI x) = _ from b1), if_neg (b2.t ⟨j, x, hj, hx, rfl, rfl⟩), kq_b2_s d1, kq_b2_s e1, if_neg (by rw [hv]; exact hr)]
      exact ⟨μ2, rfl, ((hR.eqi d2).S e3).inv⟩
  · have hu : ut_thread μ o a1 a2 = (-1, μ) := if_neg hg
    rw [hu]
    unfold x_thread
    refine ⟨μ, ?_, h.inv⟩
    obtain ⟨r1, b1, b2⟩ := pu_isEdge (n := 4000) (a := a1) (s := a2) hM hP (by decide) (by decide)
    rw [kq_b2_s (show x_isEdge 4000 m μ 1 a1 a2 = _ from b1), if_pos (b2.n (fun q1 => hg ((cp_he hC hP (by decide)).mpr q1)))]
theorem tf_skip {μ : kt_M} {o s b x n : Nat} {P : DP} (hC : CP μ (o + 81) P) (hP : WP P 16) (hb : b < P.1) (hx : x < 2) (hno : db_ne (P.2 b) ≤ x) : ut_tfL μ o s (n + 1) (2 * b + x) = ut_tfL μ o s n (2 * b + x + 1) := by
  rw [ut_tfL, if_neg (fun h => ?_)]
  have h : k_he μ (o + 81) (nI ((2 * b + x) / 2)) (nI ((2 * b + x) % 2)) ∧ ut_rsn μ o (nI ((2 * b + x) / 2)) (nI ((2 * b + x) % 2)) = 0 := h
  rw [show (2 * b + x) / 2 = b by omega, show (2 * b + x) % 2 = x by omega] at h
  obtain ⟨j, y, q1, q2, q3, q4⟩ := (cp_he hC hP (by decide)).mp h.1
  have hs := hP.1
  have e1 : b = j := (nI_eq (by omega) (by omega)).mp q3
  subst e1
  have := db_ne_le (P.2 b)
  have e2 : x = y := (nI_eq (by omega) (by omega)).mp q4
  omega
theorem tf_row {μ : kt_M} {o s b x : Nat} {P : DP} (hC : CP μ (o + 81) P) (hP : WP P 16) (hb : b < P.1) (hx : db_ne (P.2 b) ≤ x) (hx2 : x ≤ 2) : ut_tfL μ o s (2 * P.1 - (2 * b + x)) (2 * b + x) = ut_tfL μ o s (2 * P.1 - 2 * (b + 1)) (2 * (b + 1)) := by
  have : x = 0 ∨ x = 1 ∨ x = 2 := by omega
  rcases this with rfl | rfl | rfl
  · rw [show 2 * P.1 - (2 * b + 0) = (2 * P.1 - 2 * (b + 1) + 1) + 1 by omega, tf_skip hC hP hb (by omega) hx, show 2 * b + 0 + 1 = 2 * b + 1 by omega, tf_skip hC hP hb (by omega) (by omega)]; rfl
  · rw [show 2 * P.1 - (2 * b + 1) = 2 * P.1 - 2 * (b + 1) + 1 by omega, tf_skip hC hP hb (by omega) hx]; rfl
  · rw [show 2 * b + 2 = 2 * (b + 1) by omega]
theorem pu_tf17 {n m o b lim : Nat} {μ0 μ ν0 : kt_M} {P : DP} {A : AV} (hC : Cs μ0 μ o P) (hL : LF P A) (hF : FA μ (o + 154) P A) (hO : FO μ (o + 154) P A 32) (hPA : PA μ (o + 361) P) (hb : b < P.1) (hl : kt_i μ o 13 = nI lim) (hl4 : lim ≤ 4) (hl2 : kt_i ν0 m 4 = nI lim) (hn : 52 ≤ n) (hM : MP ν0 m 1 P) (hA : MA ν0 m A) (K6 : Int32 → kt_M → Option (Int32 × kt_M)) : ∀ (k x : Nat) (ν : kt_M), x ≤ db_ne (P.2 b) → db_ne (P.2 b) < x + k → SQ m ν0 ν → ∃ ν1, SQ m ν0 ν1 ∧ ((∃ x', x' < db_ne (P.2 b) ∧ ut_rsn μ o (nI b) (nI x') = 0 ∧ x_threadsFirst_L17 n m K6 k (nI b) (nI x) ν = kq_b2 (x_threaded n m ν1 (nI b) (nI x')) (fun _ μ' => some (1, μ')) ∧ ut_tfL μ o P.1 (2 * P.1 - (2 * b + x)) (2 * b + x) = (1, ut_thr μ o P.1 (nI b) (nI x'))) ∨ (x_threadsFirst_L17 n m K6 k (nI b) (nI x) ν = K6 (nI (b + 1)) ν1 ∧ ut_tfL μ o P.1 (2 * P.1 - (2 * b + x)) (2 * b + x) = ut_tfL μ o P.1 (2 * P.1 - 2 * (b + 1)) (2 * (b + 1))))
  | 0, x, ν, h1, h2, hq => by omega
  | k + 1, x, ν, h1, h2, hq => by
    have hP := hC.1
    have hCP := hC.2.1
    have hs := hP.1
    have hne := db_ne_le (P.2 b)
    have hMv := hq.MP hM
    rw [x_threadsFirst_L17]
    unfold x_threadsFirst_B17
    rw [kq_b2_s (show x_edgesOf n m ν 1 (nI b) = _ from (hMv.2 b hb).edges (hP.2 b hb) (by decide) (by omega))]
    by_cases e : x = db_ne (P.2 b)
    · rw [if_pos (by rw [e]; exact (nI_leI (by omega) (by omega)).mpr (Nat.le_refl _)), nI_1]
      exact ⟨ν, hq, Or.inr ⟨rfl, tf_row hCP hP hb (by omega) (by omega)⟩⟩
    · rw [if_neg (fun q => by have := (nI_leI (by omega) (by omega)).mp q; omega)]
      have hx : x < db_ne (P.2 b) := by omega
      obtain ⟨v, ν2, e1, e2, e3⟩ := pu_against (n := n) hP hb hn hx hL hMv (hq.MA hA) (by rw [hq.1 _ _ (by omega)]; exact hl2) hl4
      have hv : v = ut_rsn μ o (nI b) (nI x) := e2.inj (cl_rsn hP hCP hL hF hO hPA hb hx hl hl4)
      rw [kq_b2_s e1]
      have hcan : ut_can μ o (2 * b + x) ↔ ut_rsn μ o (nI b) (nI x) = 0 := by
        show (k_he μ (o + 81) (nI ((2 * b + x) / 2)) (nI ((2 * b + x) % 2)) ∧ ut_rsn μ o (nI ((2 * b + x) / 2)) (nI ((2 * b + x) % 2)) = 0) ↔ _
        rw [show (2 * b + x) / 2 = b by omega, show (2 * b + x) % 2 = x by omega]
        exact ⟨fun z => z.2, fun z => ⟨(cp_he hCP hP (by decide)).mpr ⟨b, x, hb, hx, rfl, rfl⟩, z⟩⟩
      by_cases hr : ut_rsn μ o (nI b) (nI x) = 0
      · rw [if_pos (hv.trans hr)]
        refine ⟨ν2, hq.trans e3, Or.inl ⟨x, hx, hr, rfl, ?_⟩⟩
        rw [show 2 * P.1 - (2 * b + x) = (2 * P.1 - (2 * b + x) - 1) + 1 by omega, ut_tfL, if_pos (hcan.mpr hr), show (2 * b + x) / 2 = b by omega, show (2 * b + x) % 2 = x by omega]
      · rw [if_neg (by rw [hv]; exact hr), nI_1]
        obtain ⟨ν1, g1, g2⟩ := pu_tf17 hC hL hF hO hPA hb hl hl4 hl2 hn hM hA K6 k (x + 1) ν2 (by omega) (by omega) (hq.trans e3)
        have hstep : ut_tfL μ o P.1 (2 * P.1 - (2 * b + x)) (2 * b + x) = ut_tfL μ o P.1 (2 * P.1 - (2 * b + (x + 1))) (2 * b + (x + 1)) := by
          rw [show 2 * P.1 - (2 * b + x) = (2 * P.1 - (2 * b + (x + 1))) + 1 by omega, ut_tfL, if_neg (fun z => hr (hcan.mp z))]; rfl
        rw [hstep]
        exact ⟨ν1, g1, g2⟩
theorem pu_tf6 {n m o lim : Nat} {μ0 μ ν0 : kt_M} {P : DP} {A : AV} (hC : Cs μ0 μ o P) (hL : LF P A) (hF : FA μ (o + 154) P A) (hO : FO μ (o + 154) P A 32) (hPA : PA μ (o + 361) P) (hl : kt_i μ o 13 = nI lim) (hl4 : lim ≤ 4) (hl2 : kt_i ν0 m 4 = nI lim) (hn : 52 ≤ n) (hM : MP ν0 m 1 P) (hA : MA ν0 m A) : ∀ (k b : Nat) (ν : kt_M), b ≤ P.1 → P.1 < b + k → SQ m ν0 ν → ∃ Q r ν1, x_threadsFirst_L6 n m k (nI b) ν = some (r, ν1) ∧ (ut_tfL μ o P.1 (2 * P.1 - 2 * b) (2 * b)).1 = r ∧ MP ν1 m 1 Q ∧ (∀ y j, y ≠ m + 9 → ¬ (y = m + 1 ∧ 321 ≤ j ∧ j < 642) → kt_i ν1 y j = kt_i ν0 y j) ∧ Cs μ0 (ut_tfL μ o P.1 (2 * P.1 - 2 * b) (2 * b)).2 o Q
  | 0, b, ν, h1, h2, hq => by omega
  | k + 1, b, ν, h1, h2, hq => by
    have hP := hC.1
    have hs := hP.1
    have hMv := hq.MP hM
    rw [x_threadsFirst_L6]
    unfold x_threadsFirst_B6
    rw [kq_b2_s (show x_many n m ν 1 = some (nI P.1, ν) from (pu_many (p := 1) (by decide)).trans (pu_pair hMv.1 rfl))]
    by_cases e : b = P.1
    · rw [if_pos (by rw [e]; exact (nI_leI (by omega) (by omega)).mpr (Nat.le_refl _)), e, Nat.sub_self]
      exact ⟨P, 0, ν, rfl, rfl, hMv, fun y j q1 q2 => hq.1 y j q1, hC⟩
    · rw [if_neg (fun q => by have := (nI_leI (by omega) (by omega)).mp q; omega)]
      have hb : b < P.1 := by omega
      obtain ⟨ν1, g1, g2⟩ := pu_tf17 hC hL hF hO hPA hb hl hl4 hl2 hn hM hA (x_threadsFirst_L6 n m k) n 0 ν (by omega) (by have := db_ne_le (P.2 b); omega) hq
      rcases g2 with ⟨x, hx, hr, q1, q2⟩ | ⟨q1, q2⟩
      · obtain ⟨w, ν3, f1, f2, f3, f4⟩ := thr_go (n := n) (m := m) (ν := ν1) hC hL hF hO hPA hb hx hl hl4 hr hn (g1.MP hM) (g1.MA hA)
        rw [show x_threadsFirst_L17 n m (x_threadsFirst_L6 n m k) n (nI b) 0 ν = _ from q1, kq_b2_s f1, show 2 * b = 2 * b + 0 from rfl, q2]
        exact ⟨_, 1, ν3, rfl, rfl, f2, fun y j p1 p2 => by rw [f3 y j p2, g1.1 y j p1], f4⟩
      · rw [show x_threadsFirst_L17 n m (x_threadsFirst_L6 n m k) n (nI b) 0 ν = _ from q1, show 2 * b = 2 * b + 0 from rfl, q2]
        exact pu_tf6 hC hL hF hO hPA hl hl4 hl2 hn hM hA k (b + 1) ν1 (by omega) (by omega) g1
theorem pu_tf {n m o lim : Nat} {μ0 μ ν : kt_M} {P : DP} (hC : Cs μ0 μ o P) (hW : NW μ0 (o + 81)) (hl : kt_i μ0 o 13 = nI lim) (hl4 : lim ≤ 4) (hl2 : kt_i ν m 4 = nI lim) (hn : 3400 ≤ n) (hM : MP ν m 1 P) : ∃ Q ν1, x_threadsFirst n m ν = some ((ut_tf (ut_ref μ o) o).1, ν1) ∧ MP ν1 m 1 Q ∧ (∀ y j, y ≠ m + 9 → ¬ (y = m + 1 ∧ 321 ≤ j ∧ j < 642) → kt_i ν1 y j = kt_i ν y j) ∧ Cs μ0 (ut_tf (ut_ref μ o) o).2 o Q := by
  obtain ⟨hR, A, hL, hF, hO, hPA⟩ := hC.ref hW
  obtain ⟨ν1, d1, d2, d3⟩ := pu_findA (n := n) hC.1 hn hM hL
  have hs := hC.1.1
  unfold x_threadsFirst
  rw [kq_b2_s d1]
  obtain ⟨Q, r, ν2, e1, e2, e3, e4, e5⟩ := pu_tf6 (n := n) (m := m) (ν0 := ν1) hR hL hF hO hPA (by rw [hR.2.2.2.2 _ _ (by omega) (by omega)]; exact hl) hl4 (by rw [d2]; exact hl2) (by omega) (hM.ext (fun k => by rw [d2])) d3 n 0 ν1 (by omega) (by omega) SQ.refl
  have hu : ut_tf (ut_ref μ o) o = ut_tfL (ut_ref μ o) o P.1 (2 * P.1 - 2 * 0) (2 * 0) := by
    unfold ut_tf; rw [hR.2.1.1, nI_clamp (by omega)]; rfl
  rw [hu]
  refine ⟨Q, ν2, ?_, e3, fun y j q1 q2 => by rw [e4 y j q1 q2, d2], e5⟩
  rw [show x_threadsFirst_L6 n m n 0 ν1 = _ from e1, e2]
theorem pu_ths {n m o lim N : Nat} {μ0 : kt_M} (hW : NW μ0 (o + 81)) (hl : kt_i μ0 o 13 = nI lim) (hl4 : lim ≤ 4) (hl2 : kt_i μ0 m 4 = nI lim) (hn : 3400 ≤ n) (hN : N ≤ 16) : ∀ (r i fu : Nat) (μ ν : kt_M) (P : DP), i + r = N → r < fu → Cs μ0 μ o P → Ms μ0 ν m P → ∃ Q ν1, x_threads_L16 n m fu (nI N) (nI i) ν = some ((ut_thsL o r i μ).1, ν1) ∧ Ms μ0 ν1 m Q ∧ (∀ y j, y < m → kt_i ν1 y j = kt_i ν y j) ∧ Cs μ0 (ut_thsL o r i μ).2 o Q
  | 0, i, fu + 1, μ, ν, P, h1, h2, hC, hM => by
    rw [x_threads_L16]
    unfold x_threads_B16
    rw [if_pos ((nI_leI (by omega) (by omega)).mpr (by omega))]
    exact ⟨P, ν, rfl, hM, fun _ _ _ => rfl, hC⟩
  | r + 1, i, fu + 1, μ, ν, P, h1, h2, hC, hM => by
    rw [x_threads_L16]
    unfold x_threads_B16
    rw [if_neg (fun q => by have := (nI_leI (by omega) (by omega)).mp q; omega)]
    obtain ⟨Q, ν1, e1, e2, e3, e4⟩ := pu_tf (n := n) (m := m) (ν := ν) hC hW hl hl4 (by rw [hM.2 _ _ (by omega) (by omega) (by omega)]; exact hl2) hn hM.1
    have hM1 : Ms μ0 ν1 m Q := ⟨e2, fun y j q1 q2 q3 => by rw [e3 y j (by omega) q3, hM.2 y j q1 q2 q3]⟩
    rw [kq_b2_s e1, ut_thsL]
    by_cases hz : (ut_tf (ut_ref μ o) o).1 = 0
    · rw [if_pos hz, if_pos hz]
      exact ⟨Q, ν1, rfl, hM1, fun y j hy => e3 y j (by omega) (by omega), e4⟩
    · rw [if_neg hz, if_neg hz, nI_1]
      obtain ⟨Q2, ν2, f1, f2, f3, f4⟩ := pu_ths hW hl hl4 hl2 hn hN r (i + 1) fu (ut_tf (ut_ref μ o) o).2 ν1 Q (by omega) (by omega) e4 hM1
      exact ⟨Q2, ν2, f1, f2, fun y j hy => by rw [f3 y j hy, e3 y j (by omega) (by omega)], f4⟩
  termination_by r => r
theorem st_threads {μ : kt_M} {o m : Nat} (h : kInv μ o m) (a1 : Int32) : ∃ (n : Nat) (μ1 : kt_M), x_threads n m (ut_ths μ o a1).2 a1 = some ((ut_ths μ o a1).1, μ1) ∧ kInv μ1 o m := by
  obtain ⟨P0, P1, PI, L, lim, h⟩ := h
  have hom := h.1
  obtain ⟨hl4, hl1, hl2⟩ := h.lm
  refine ⟨4000, ?_⟩
  unfold x_threads
  rw [kq_b1_s (show x_in 4000 (Int32.toInt64 a1) 1 16 = _ from pu_in (lo := 1) (hi := 16) rfl rfl)]
  by_cases hg : ¬ a1 < 1 ∧ a1 ≤ 16
  · have hg2 : 1 ≤ a1 ∧ a1 ≤ 16 := ⟨by rw [← Int32.not_lt]; exact hg.1, hg.2⟩
    rw [if_neg (kz.f.t hg2)]
    obtain ⟨N, hN, rfl⟩ := k_wi_nI (n := 17) (b := 16) (a := a1) ⟨Int32.le_trans (by decide) hg2.1, hg2.2⟩ (by decide) (by decide)
    have hu : ut_ths μ o (nI N) = ut_thsL o N 0 μ := by
      unfold ut_ths; rw [if_pos hg, nI_clamp (by omega)]
    rw [hu]
    obtain ⟨Q, -, -, -, -, hCs⟩ := pu_ths (n := 4000) (m := m) h.2.2.2.2.1.2.2.1 hl1 hl4 hl2 (by decide) (N := N) (by omega) N 0 4000 μ μ P1 (by omega) (by omega) h.cs ⟨h.2.2.1.2.2, fun _ _ _ _ _ => rfl⟩
    have hfar : ∀ y j, m ≤ y → kt_i (ut_thsL o N 0 μ).2 y j = kt_i μ y j := fun y j hy => hCs.2.2.2.2 y j (by omega) (by omega)
    obtain ⟨Q2, ν1, e1, e2, e3, e4⟩ := pu_ths (n := 4000) (m := m) h.2.2.2.2.1.2.2.1 hl1 hl4 hl2 (by decide) (N := N) (by omega) N 0 4000 μ (ut_thsL o N 0 μ).2 P1 (by omega) (by omega) h.cs ⟨h.2.2.1.2.2.ext (fun j => hfar _ j (by omega)), fun y j q _ _ => hfar y j q⟩
    exact ⟨ν1, e1, (h.mk e4 e2 e3).inv⟩
  · have hu : ut_ths μ o a1 = (-1, μ) := if_neg hg
    rw [hu, if_pos (kz.f.n (fun z => hg ⟨by rw [Int32.not_lt]; exact z.1, z.2⟩))]
    exact ⟨μ, rfl, h.inv⟩

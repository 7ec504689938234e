/-! PURE: the steps that ask what was found out -/
theorem kz.t {r : Int32} {c : Prop} (h : kz r c) (hc : c) : ¬ r = 0 := by
  rcases h with ⟨_, b⟩ | ⟨a, _⟩
  · exact absurd hc b
  · rw [a]; decide
theorem kz.n {r : Int32} {c : Prop} (h : kz r c) (hc : ¬ c) : r = 0 := by
  rcases h with ⟨a, _⟩ | ⟨_, b⟩
  · exact a
  · exact absurd b hc
theorem pu_wi {n : Nat} {a hi : Int32} {h : Int64} (hh : h = hi.toInt64) : x_in n (Int32.toInt64 a) 0 h = some (kt_f (k_wi a hi)) := pu_in (lo := 0) rfl hh
theorem kIS.eqi {μ μ' : kt_M} {o m : Nat} {P0 P1 : DP} {PI : Nat → DP} {L lim : Nat} (h : kIS μ o m P0 P1 PI L lim) (he : kt_i μ' = kt_i μ) : kIS μ' o m P0 P1 PI L lim := h.ext (fun y k _ => by rw [he])
theorem kIS.S {μ μ' : kt_M} {o m : Nat} {P0 P1 : DP} {PI : Nat → DP} {L lim : Nat} (h : kIS μ o m P0 P1 PI L lim) (hs : SQ m μ μ') : kIS μ' o m P0 P1 PI L lim := h.ext (hs.cel h.1)
theorem kIS.inv {μ : kt_M} {o m : Nat} {P0 P1 : DP} {PI : Nat → DP} {L lim : Nat} (h : kIS μ o m P0 P1 PI L lim) : kInv μ o m := ⟨_, _, _, _, _, h⟩
theorem pu_findA {n m : Nat} {P : DP} {A : AV} {μ : kt_M} (hP : WP P 16) (hn : 3400 ≤ n) (hM : MP μ m 1 P) (hL : LF P A) : ∃ μ1, x_findRanges n m μ = some ((), μ1) ∧ kt_i μ1 = kt_i μ ∧ MA μ1 m A := by
  obtain ⟨μ1, A2, h1, h2, h3, h4⟩ := pu_find (n := n) hP hn hM
  exact ⟨μ1, h1, h2, fun b v hb hv => by rw [hL.uniq h3 hb hv]; exact h4 b v hb hv⟩
theorem FA.rch {μ : kt_M} {p j : Nat} {P : DP} {A : AV} (h : FA μ p P A) (hj : j < 16) : f_rch μ p (nI j) ↔ e_ok (A j) := by
  unfold f_rch
  rw [nI_clamp (by omega)]
  rcases h.2.1 j hj with ⟨a, b⟩ | ⟨a, b⟩
  · exact ⟨fun h => absurd a h.2.2, fun h => absurd h b⟩
  · exact ⟨fun _ => b, fun _ => ⟨nI_pos' (by omega), nI_lt hj (by decide), by rw [a]; decide⟩⟩
theorem pu_2bx {j x : Nat} : 2 * nI j + nI x = nI (2 * j + x) := by rw [show (2 : Int32) = nI 2 from rfl, nI_mul, nI_add]
theorem FA.opn {μ : kt_M} {p j x : Nat} {P : DP} {A : AV} (h : FA μ p P A) (hj : j < 16) (hx : x < db_ne (P.2 j)) : f_opn μ p (nI j) (nI x) ↔ e_ok (A j) ∧ e_ok (a_al P A j x) := by
  have hx2 : x < 2 := by have := db_ne_le (P.2 j); omega
  show (f_rch μ p (nI j) ∧ 0 ≤ nI x ∧ nI x < 2 ∧ ¬ kt_i μ (p + 5) (2 * nI j + nI x).toNatClampNeg = 0) ↔ _
  rw [h.rch hj, pu_2bx, nI_clamp (by omega)]
  rcases h.2.2.2.1 j x hj hx2 with ⟨a, b⟩ | ⟨a, b⟩
  · exact ⟨fun h => absurd a h.2.2.2, fun h => absurd ⟨h.1, hx, h.2⟩ b⟩
  · exact ⟨fun _ => ⟨b.1, b.2.2⟩, fun h => ⟨h.1, nI_pos' (by omega), nI_lt hx2 (by decide), by rw [a]; decide⟩⟩
theorem pu_told {n w v p : Nat} {μ : kt_M} {L : Int64} {E : EV} (hC : CE μ p E) (hv : v < 4) (hr : vr (E v)) (hL : En L (E v)) (hn : 52 ≤ n) (hw : w < 3) : x_told n L (nI w) = some (m_prop μ p (nI v) (nI w)) := by
  have e1 := hC.lo hv
  have e2 := hC.hi hv
  have e3 := hC.nl hv
  have hm : m_prop μ p (nI v) (nI w) = if nI w = 2 then kt_i μ (p + 3) v else if kt_i μ (p + 1) v ≤ kt_i μ (p + 2) v then (if nI w = 0 then kt_i μ (p + 1) v else kt_i μ (p + 2) v) else -4 := by
    unfold m_prop
    rw [if_neg (fun h => h ⟨nI_pos' (by omega), nI_lt hv (by decide)⟩), nI_clamp (by omega)]
  rw [hm]
  unfold x_told
  have hle : kt_i μ (p + 1) v ≤ kt_i μ (p + 2) v ↔ (E v).1 ≤ (E v).2.1 := by rw [Int32.le_iff_toInt_le, e1, e2]
  have hw3 : w = 0 ∨ w = 1 ∨ w = 2 := by omega
  have hb : (E v).1 ≤ (E v).2.1 → 0 ≤ (E v).1 ∧ (E v).2.1 ≤ 50 := fun c => by rcases hr with h | h <;> omega
  rcases hw3 with rfl | rfl | rfl
  · rw [if_pos (show nI 0 = 0 from rfl), if_neg (show ¬ nI 0 = 2 by decide)]
    by_cases c : (E v).1 ≤ (E v).2.1
    · rw [if_pos (hle.mpr c), if_pos (show nI 0 = 0 from rfl)]
      rw [kq_b1_s ((hL.lh (hb c).1 c (hb c).2).low hn)]
      congr 1
      refine Int32.toInt_inj.mp ?_
      have := hb c
      rw [e1, nI_toInt (by omega)]; omega
    · rw [if_neg (fun h => c (hle.mp h)), kq_b1_s (pu_low0 (hL.none (by omega)) hn)]
  · rw [if_neg (show ¬ nI 1 = 0 by decide), if_pos (show nI 1 = 1 from rfl), if_neg (show ¬ nI 1 = 2 by decide)]
    by_cases c : (E v).1 ≤ (E v).2.1
    · rw [if_pos (hle.mpr c), if_neg (show ¬ nI 1 = 0 by decide)]
      rw [kq_b1_s ((hL.lh (hb c).1 c (hb c).2).high hn)]
      congr 1
      refine Int32.toInt_inj.mp ?_
      have := hb c
      rw [e2, nI_toInt (by omega)]; omega
    · rw [if_neg (fun h => c (hle.mp h)), kq_b1_s (pu_high0 (hL.none (by omega)) hn)]
  · rw [if_neg (show ¬ nI 2 = 0 by decide), if_neg (show ¬ nI 2 = 1 by decide), if_pos (show nI 2 = 2 from rfl), e3]
    simp only [lg_cmp_eq]
    have hb := nil_bit hL hr
    unfold x_told_J38
    by_cases c : (E v).2.2 = true
    · rw [if_neg (fun h => by
        have h51 : lb (L &&& 2251799813685248) 51 = false := by rw [h, lb_0]
        rw [lb_and, lb_nil 51 (by decide), hb.mpr c] at h51
        exact absurd h51 (by decide)), if_pos c, kq_b1_s (pu_flag (Or.inr rfl))]
    · rw [if_pos (lb_ext (fun i hi => by
        rw [lb_and, lb_nil i hi, lb_0]
        by_cases e : i = 51
        · subst e
          cases hc : lb L 51 with
          | false => rfl
          | true => exact absurd (hb.mp hc) c
        · rw [decide_eq_false e, Bool.and_false])), if_neg c, kq_b1_s (pu_flag (Or.inl rfl))]
theorem st_range {μ : kt_M} {o m : Nat} (h : kInv μ o m) (a1 : Int32) (a2 : Int32) (a3 : Int32) : ∃ (n : Nat) (μ1 : kt_M), x_range n m (ut_range μ o a1 a2 a3).2 a1 a2 a3 = some ((ut_range μ o a1 a2 a3).1, μ1) ∧ kInv μ1 o m := by
  obtain ⟨P0, P1, PI, L, lim, h⟩ := h
  obtain ⟨hP, hC, hM⟩ := h.2.2.1
  have hs : P1.1 ≤ 16 := hP.1
  refine ⟨4000, ?_⟩
  unfold ut_range x_range
  by_cases hg : k_hs μ (o + 81) a1 ∧ (0 ≤ a2 ∧ a2 < 4) ∧ k_wi a3 2
  · rw [if_pos hg]; dsimp only
    obtain ⟨g1, g2, g3⟩ := hg
    obtain ⟨j, hj, rfl⟩ := (cp_hs hC hs).mp g1
    obtain ⟨v, hv, rfl⟩ := k_wi_nI (n := 4) (b := 3) ⟨g2.1, by have := g2.2; rw [Int32.lt_iff_toInt_lt, ki_4] at this; rw [Int32.le_iff_toInt_le, ki_3]; omega⟩ (by decide) (by decide)
    obtain ⟨w, hw, rfl⟩ := k_wi_nI (n := 3) g3 (by decide) (by decide)
    obtain ⟨hR, A, hL, hF, hO, hPA⟩ := h.ref
    obtain ⟨-, hC2, hM2⟩ := hR.2.2.1
    obtain ⟨r1, b1, b2⟩ := pu_isBlock (n := 4000) (a := nI j) hM2 (by decide) hs
    obtain ⟨r2, c1, c2⟩ := pu_isVar (n := 4000) (a := nI v)
    obtain ⟨μ1, d1, d2, d3⟩ := pu_findA (n := 4000) hP (by decide) hM2 hL
    obtain ⟨r3, e1, e2⟩ := pu_reached (n := 4000) (b := j) (by omega) hL.1 d3
    rw [kq_b2_s (show x_isBlock 4000 m (ut_ref μ o) 1 (nI j) = _ from b1), if_neg (b2.t ⟨j, hj, rfl⟩), kq_b1_s c1, if_neg (c2.t g2), kq_b1_s (pu_wi (h := 2) (hi := 2) rfl), if_neg (kz.f.t g3), kq_b2_s d1, kq_b2_s e1]
    by_cases ho : e_ok (A j)
    · rw [if_neg (e2.t ho), if_pos ((hF.rch (by omega)).mpr ho), show 4 * nI j + nI v = nI (4 * j + v) by rw [nI_4, nI_mul, nI_add], kq_ck_t (pu_kin (by omega) (by decide)), nI_clamp (by omega), nI_clamp (by omega)]
      rw [kq_b1_s (pu_told (hF.1 j (by omega)) hv (hL.1.1 j (by omega) v hv) (d3 j v (by omega) hv) (by decide) hw)]
      exact ⟨μ1, rfl, (hR.eqi d2).inv⟩
    · rw [if_pos (e2.n ho), if_neg (fun h => ho ((hF.rch (by omega)).mp h))]
      exact ⟨μ1, rfl, (hR.eqi d2).inv⟩
  · rw [if_neg hg]; dsimp only
    refine ⟨μ, ?_, h.inv⟩
    obtain ⟨r1, b1, b2⟩ := pu_isBlock (n := 4000) (a := a1) hM (by decide) hs
    obtain ⟨r2, c1, c2⟩ := pu_isVar (n := 4000) (a := a2)
    rw [kq_b2_s (show x_isBlock 4000 m μ 1 a1 = _ from b1)]
    by_cases q1 : ∃ j, j < P1.1 ∧ a1 = nI j
    · rw [if_neg (b2.t q1), kq_b1_s c1]
      by_cases q2 : 0 ≤ a2 ∧ a2 < 4
      · rw [if_neg (c2.t q2), kq_b1_s (pu_wi (h := 2) (hi := 2) rfl), if_pos (kz.f.n (fun q3 => hg ⟨(cp_hs hC hs).mpr q1, q2, q3⟩))]
      · rw [if_pos (c2.n q2)]
    · rw [if_pos (b2.n q1)]
theorem st_along {μ : kt_M} {o m : Nat} (h : kInv μ o m) (a1 : Int32) (a2 : Int32) (a3 : Int32) (a4 : Int32) : ∃ (n : Nat) (μ1 : kt_M), x_along n m (ut_along μ o a1 a2 a3 a4).2 a1 a2 a3 a4 = some ((ut_along μ o a1 a2 a3 a4).1, μ1) ∧ kInv μ1 o m := by
  obtain ⟨P0, P1, PI, L, lim, h⟩ := h
  obtain ⟨hP, hC, hM⟩ := h.2.2.1
  have hs : P1.1 ≤ 16 := hP.1
  refine ⟨4000, ?_⟩
  unfold ut_along x_along
  by_cases hg : k_he μ (o + 81) a1 a2 ∧ (0 ≤ a3 ∧ a3 < 4) ∧ k_wi a4 2
  · rw [if_pos hg]; dsimp only
    obtain ⟨g1, g2, g3⟩ := hg
    obtain ⟨j, x, hj, hx, rfl, rfl⟩ := (cp_he hC hP (by decide)).mp g1
    obtain ⟨v, hv, rfl⟩ := k_wi_nI (n := 4) (b := 3) ⟨g2.1, by have := g2.2; rw [Int32.lt_iff_toInt_lt, ki_4] at this; rw [Int32.le_iff_toInt_le, ki_3]; omega⟩ (by decide) (by decide)
    obtain ⟨w, hw, rfl⟩ := k_wi_nI (n := 3) g3 (by decide) (by decide)
    have hx2 : x < 2 := by have := db_ne_le (P1.2 j); omega
    obtain ⟨hR, A, hL, hF, hO, hPA⟩ := h.ref
    obtain ⟨-, hC2, hM2⟩ := hR.2.2.1
    obtain ⟨r1, b1, b2⟩ := pu_isEdge (n := 4000) (a := nI j) (s := nI x) hM2 hP (by decide) (by decide)
    obtain ⟨r2, c1, c2⟩ := pu_isVar (n := 4000) (a := nI v)
    obtain ⟨μ1, d1, d2, d3⟩ := pu_findA (n := 4000) hP (by decide) hM2 hL
    obtain ⟨r3, μ2, e1, e2, e3, e4⟩ := pu_isOpen (n := 4000) (x := x) hP hj (by decide) hx2 hL (hM2.ext (fun k => by rw [d2])) d3
    have hI := ((hR.eqi d2).S e3.S).inv
    rw [kq_b2_s (show x_isEdge 4000 m (ut_ref μ o) 1 (nI j) (nI x) = _ from b1), if_neg (b2.t ⟨j, x, hj, hx, rfl, rfl⟩), kq_b1_s c1, if_neg (c2.t g2), kq_b1_s (pu_wi (h := 2) (hi := 2) rfl), if_neg (kz.f.t g3), kq_b2_s d1, kq_b2_s e1]
    by_cases ho : e_ok (A j) ∧ e_ok (a_al P1 A j x)
    · rw [if_neg (e2.t ho), if_pos ((hF.opn (by omega) hx).mpr ho), kq_ck_t (pu_kin (by omega) (by decide)), nI_clamp (by omega), pu_2bx, nI_clamp (by omega)]
      rw [kq_b1_s (pu_told (hF.2.2.2.2 j x (by omega) ho.1 hx ho.2) hv (e_v.al hP hj (hL.1.1 j (by omega)) v hv) (e4 ho.1 v hv) (by decide) hw)]
      exact ⟨μ2, rfl, hI⟩
    · rw [if_pos (e2.n ho), if_neg (fun h => ho ((hF.opn (by omega) hx).mp h))]
      exact ⟨μ2, rfl, hI⟩
  · rw [if_neg hg]; dsimp only
    refine ⟨μ, ?_, h.inv⟩
    obtain ⟨r1, b1, b2⟩ := pu_isEdge (n := 4000) (a := a1) (s := a2) hM hP (by decide) (by decide)
    obtain ⟨r2, c1, c2⟩ := pu_isVar (n := 4000) (a := a3)
    rw [kq_b2_s (show x_isEdge 4000 m μ 1 a1 a2 = _ from b1)]
    by_cases q1 : ∃ j x, j < P1.1 ∧ x < db_ne (P1.2 j) ∧ a1 = nI j ∧ a2 = nI x
    · rw [if_neg (b2.t q1), kq_b1_s c1]
      by_cases q2 : 0 ≤ a3 ∧ a3 < 4
      · rw [if_neg (c2.t q2), kq_b1_s (pu_wi (h := 2) (hi := 2) rfl), if_pos (kz.f.n (fun q3 => hg ⟨(cp_he hC hP (by decide)).mpr q1, q2, q3⟩))]
      · rw [if_pos (c2.n q2)]
    · rw [if_pos (b2.n q1)]
theorem cp_test {μ : kt_M} {q j N : Nat} {P : DP} (h : CP μ q P) (hP : WP P N) (hN : N ≤ 16) (hj : j < P.1) : kb_test (kt_i μ (k_at μ q (nI j)) 4) ↔ 2 ≤ db_en (P.2 j) := by
  have := hP.1
  rw [k_at_nI h.1 (by omega) hj, (h.2 j hj).2.2.1]; exact kb_test_nI (hP.2 j hj).2.2.1
theorem FA.oat {μ : kt_M} {p j : Nat} {P : DP} {A : AV} (h : FA μ p P A) (hP : WP P 16) (hL : LF P A) (hj : j < P.1) (hk : e_ok (A j)) (ht : 2 ≤ db_en (P.2 j)) : Oc (f_oat μ p (nI j)) (e_ok (a_al P A j 0)) (e_ok (a_al P A j 1)) := by
  have hj16 : j < 16 := by have := hP.1; omega
  have hne := (db_ne2 (hP.2 j hj)).mp ht
  have hone := e_one (hP.2 j hj) ((hL.1.1 j hj16).all (hP.2 j hj)) (hk.all (hP.2 j hj)) ht
  have z0 : kz (kt_f (f_opn μ p (nI j) 0)) (e_ok (a_al P A j 0)) := kz.f.iff ((h.opn (x := 0) hj16 (by omega)).trans ⟨fun h => h.2, fun h => ⟨hk, h⟩⟩)
  have z1 : kz (kt_f (f_opn μ p (nI j) 1)) (e_ok (a_al P A j 1)) := kz.f.iff ((h.opn (x := 1) hj16 (by omega)).trans ⟨fun h => h.2, fun h => ⟨hk, h⟩⟩)
  exact oc_oo z0 z1 hone
theorem st_outcome {μ : kt_M} {o m : Nat} (h : kInv μ o m) (a1 : Int32) : ∃ (n : Nat) (μ1 : kt_M), x_outcome n m (ut_outc μ o a1).2 a1 = some ((ut_outc μ o a1).1, μ1) ∧ kInv μ1 o m := by
  obtain ⟨P0, P1, PI, L, lim, h⟩ := h
  obtain ⟨hP, hC, hM⟩ := h.2.2.1
  have hs : P1.1 ≤ 16 := hP.1
  refine ⟨4000, ?_⟩
  unfold ut_outc x_outcome
  by_cases hg : k_hs μ (o + 81) a1
  · rw [if_pos hg]; dsimp only
    obtain ⟨j, hj, rfl⟩ := (cp_hs hC hs).mp hg
    obtain ⟨hR, A, hL, hF, hO, hPA⟩ := h.ref
    obtain ⟨-, hC2, hM2⟩ := hR.2.2.1
    obtain ⟨r1, b1, b2⟩ := pu_isBlock (n := 4000) (a := nI j) hM2 (by decide) hs
    obtain ⟨μ1, d1, d2, d3⟩ := pu_findA (n := 4000) hP (by decide) hM2 hL
    have hM3 : MP μ1 m 1 P1 := hM2.ext (fun k => by rw [d2])
    obtain ⟨r3, e1, e2⟩ := pu_reached (n := 4000) (b := j) (by omega) hL.1 d3
    rw [kq_b2_s (show x_isBlock 4000 m (ut_ref μ o) 1 (nI j) = _ from b1), if_neg (b2.t ⟨j, hj, rfl⟩), kq_b2_s d1, kq_b2_s e1]
    by_cases ho : e_ok (A j)
    · rw [if_neg (e2.t ho), if_pos ((hF.rch (by omega)).mpr ho), kq_b2_s (show x_of 4000 m μ1 1 (nI j) 13 = _ from (hM3.2 j hj).en (by decide) (by omega)), kq_b1_s (pu_isTest (hP.2 j hj).2.2.1)]
      by_cases ht : 2 ≤ db_en (P1.2 j)
      · rw [if_neg (kz.f.t ht), if_pos ((cp_test hC2 hP (by decide) hj).mpr ht)]
        obtain ⟨v, μ2, f1, f2, f3⟩ := pu_outAt (n := 4000) hP hj (by decide) ho ht hL hM3 d3
        rw [kq_b2_s f1]
        exact ⟨μ2, pu_pair (f2.inj (hF.oat hP hL hj ho ht)) rfl, ((hR.eqi d2).S f3.S).inv⟩
      · rw [if_pos (kz.f.n ht), if_neg (fun h => ht ((cp_test hC2 hP (by decide) hj).mp h))]
        exact ⟨μ1, rfl, (hR.eqi d2).inv⟩
    · rw [if_pos (e2.n ho), if_neg (fun h => ho ((hF.rch (by omega)).mp h))]
      exact ⟨μ1, rfl, (hR.eqi d2).inv⟩
  · rw [if_neg hg]; dsimp only
    refine ⟨μ, ?_, h.inv⟩
    obtain ⟨r1, b1, b2⟩ := pu_isBlock (n := 4000) (a := a1) hM (by decide) hs
    rw [kq_b2_s (show x_isBlock 4000 m μ 1 a1 = _ from b1), if_pos (b2.n (fun q1 => hg ((cp_hs hC hs).mpr q1)))]
theorem FO.oal {μ : kt_M} {p j x : Nat} {P : DP} {A : AV} (h : FO μ p P A 32) (hF : FA μ p P A) (hj : j < 16) (hx : x < db_ne (P.2 j)) (hk : e_ok (A j)) (ho : e_ok (a_al P A j x)) (ht : 2 ≤ db_en (P.2 (db_tg (P.2 j) x))) : Oc (f_oal μ p (nI j) (nI x)) (e_ok (a_nx P A j x 0)) (e_ok (a_nx P A j x 1)) := by
  have := db_ne_le (P.2 j)
  unfold f_oal
  rw [if_pos ((hF.opn hj hx).mpr ⟨hk, ho⟩), pu_2bx, nI_clamp (by omega)]
  exact h j x hj (by omega) hk hx ho ht
theorem cp_nxt {μ : kt_M} {q j x : Nat} {P : DP} (h : CP μ q P) (hP : WP P 16) (hj : j < P.1) (hx : x < db_ne (P.2 j)) : k_tg μ (k_at μ q (nI j)) (nI x) = nI (db_tg (P.2 j) x) ∧ k_nxt μ q (nI j) (nI x) = q + 7 + 4 * db_tg (P.2 j) x := by
  have := hP.1
  have e : k_tg μ (k_at μ q (nI j)) (nI x) = nI (db_tg (P.2 j) x) := by
    rw [k_at_nI h.1 (by omega) hj]; exact cl_tg (h.2 j hj) (hP.2 j hj) hx
  refine ⟨e, ?_⟩
  unfold k_nxt
  rw [e, k_at_nI h.1 (by omega) ((hP.2 j hj).tg hx)]
theorem st_known {μ : kt_M} {o m : Nat} (h : kInv μ o m) (a1 : Int32) (a2 : Int32) : ∃ (n : Nat) (μ1 : kt_M), x_known n m (ut_known μ o a1 a2).2 a1 a2 = some ((ut_known μ o a1 a2).1, μ1) ∧ kInv μ1 o m := by
  obtain ⟨P0, P1, PI, L, lim, h⟩ := h
  obtain ⟨hP, hC, hM⟩ := h.2.2.1
  have hs : P1.1 ≤ 16 := hP.1
  refine ⟨4000, ?_⟩
  unfold ut_known x_known
  by_cases hg : k_he μ (o + 81) a1 a2
  · rw [if_pos hg]; dsimp only
    obtain ⟨j, x, hj, hx, rfl, rfl⟩ := (cp_he hC hP (by decide)).mp hg
    have hx2 : x < 2 := by have := db_ne_le (P1.2 j); omega
    have htg := (hP.2 j hj).tg hx
    obtain ⟨hR, A, hL, hF, hO, hPA⟩ := h.ref
    obtain ⟨-, hC2, hM2⟩ := hR.2.2.1
    obtain ⟨r1, b1, b2⟩ := pu_isEdge (n := 4000) (a := nI j) (s := nI x) hM2 hP (by decide) (by decide)
    obtain ⟨μ1, d1, d2, d3⟩ := pu_findA (n := 4000) hP (by decide) hM2 hL
    have hM3 : MP μ1 m 1 P1 := hM2.ext (fun k => by rw [d2])
    obtain ⟨r3, μ2, e1, e2, e3, e4⟩ := pu_isOpen (n := 4000) (x := x) hP hj (by decide) hx2 hL hM3 d3
    have hI := (hR.eqi d2).S e3.S
    have hM4 := e3.MP hM3
    rw [kq_b2_s (show x_isEdge 4000 m (ut_ref μ o) 1 (nI j) (nI x) = _ from b1), if_neg (b2.t ⟨j, x, hj, hx, rfl, rfl⟩), kq_b2_s d1, kq_b2_s e1]
    by_cases ho : e_ok (A j) ∧ e_ok (a_al P1 A j x)
    · rw [if_neg (e2.t ho), if_pos ((hF.opn (by omega) hx).mpr ho), kq_b2_s (show x_of 4000 m μ2 1 (nI j) (14 + nI x) = _ from (hM4.2 j hj).to (hP.2 j hj) (by decide) (by omega) hx), kq_b2_s (show x_of 4000 m μ2 1 (nI (db_tg (P1.2 j) x)) 13 = _ from (hM4.2 _ htg).en (by decide) (by omega)), kq_b1_s (pu_isTest (hP.2 _ htg).2.2.1), (cp_nxt hC2 hP hj hx).2, (hC2.2 _ htg).2.2.1]
      by_cases ht : 2 ≤ db_en (P1.2 (db_tg (P1.2 j) x))
      · rw [if_neg (kz.f.t ht), if_pos ((kb_test_nI (hP.2 _ htg).2.2.1).mpr ht)]
        obtain ⟨v, μ3, f1, f2, f3⟩ := pu_outAl (n := 4000) hP hj (by decide) hx ho.1 ho.2 ht hL hM4 (e3.MA d3)
        rw [kq_b2_s f1]
        exact ⟨μ3, pu_pair (f2.inj (hO.oal hF (by omega) hx ho.1 ho.2 ht)) rfl, (hI.S f3.S).inv⟩
      · rw [if_pos (kz.f.n ht), if_neg (fun h => ht ((kb_test_nI (hP.2 _ htg).2.2.1).mp h))]
        exact ⟨μ2, rfl, hI.inv⟩
    · rw [if_pos (e2.n ho), if_neg (fun h => ho ((hF.opn (by omega) hx).mp h))]
      exact ⟨μ2, rfl, hI.inv⟩
  · rw [if_neg hg]; dsimp only
    refine ⟨μ, ?_, h.inv⟩
    obtain ⟨r1, b1, b2⟩ := pu_isEdge (n := 4000) (a := a1) (s := a2) hM hP (by decide) (by decide)
    rw [kq_b2_s (show x_isEdge 4000 m μ 1 a1 a2 = _ from b1), if_pos (b2.n (fun q1 => hg ((cp_he hC hP (by decide)).mpr q1)))]
theorem PA.hd {μ : kt_M} {p b : Nat} {P : DP} (h : PA μ p P) (hb : b < 16) : k_bt (kt_i μ p 3) (nI b) ↔ Hd P b := (k_bt_ib (by omega)).trans (h.2.2 b (by omega))
theorem cl_rsn {μ : kt_M} {o j x lim : Nat} {P : DP} {A : AV} (hP : WP P 16) (hC : CP μ (o + 81) P) (hL : LF P A) (hF : FA μ (o + 154) P A) (hO : FO μ (o + 154) P A 32) (hPA : PA μ (o + 361) P) (hj : j < P.1) (hx : x < db_ne (P.2 j)) (hl : kt_i μ o 13 = nI lim) (hl4 : lim ≤ 4) : Rs P A lim j x (ut_rsn μ o (nI j) (nI x)) := by
  have hs : P.1 ≤ 16 := hP.1
  have htg := (hP.2 j hj).tg hx
  unfold ut_rsn Rs
  rw [(cp_nxt hC hP hj hx).2, (cp_nxt hC hP hj hx).1, (hC.2 _ htg).2.2.1, (hC.2 _ htg).1, hl, hC.1]
  by_cases c1 : e_ok (A j) ∧ e_ok (a_al P A j x)
  · rw [if_neg (fun h => h ((hF.opn (by omega) hx).mpr c1))]
    refine Or.inr ⟨c1.1, c1.2, ?_⟩
    by_cases c2 : 2 ≤ db_en (P.2 (db_tg (P.2 j) x))
    · rw [if_neg (fun h => h ((kb_test_nI (hP.2 _ htg).2.2.1).mpr c2))]
      refine Or.inr ⟨c2, ?_⟩
      have ho := hO.oal hF (by omega) hx c1.1 c1.2 c2
      by_cases c3 : f_oal μ (o + 154) (nI j) (nI x) = 0
      · rw [if_pos c3]
        rcases ho with ⟨_, a, b⟩ | ⟨a, _⟩ | ⟨a, _⟩
        · exact Or.inl ⟨rfl, a, b⟩
        · rw [a] at c3; exact absurd c3 (by decide)
        · rw [a] at c3; exact absurd c3 (by decide)
      · rw [if_neg c3]
        refine Or.inr ⟨fun h => ?_, ?_⟩
        · rcases ho with ⟨a, _, _⟩ | ⟨_, _, b⟩ | ⟨_, a, _⟩
          · exact c3 a
          · exact b h.2
          · exact a h.1
        · by_cases c4 : Hd P (db_tg (P.2 j) x)
          · rw [if_pos ((hPA.hd (by omega)).mpr c4)]; exact Or.inl ⟨rfl, c4⟩
          · rw [if_neg (fun h => c4 ((hPA.hd (by omega)).mp h))]
            refine Or.inr ⟨c4, ?_⟩
            have hna := (hP.2 _ htg).1
            by_cases c5 : lim < db_na (P.2 (db_tg (P.2 j) x))
            · rw [if_pos (fun h => by have := (nI_leI (by omega) (by omega)).mp h; omega)]; exact Or.inl ⟨rfl, c5⟩
            · rw [if_neg (fun h => h ((nI_leI (by omega) (by omega)).mpr (by omega)))]
              refine Or.inr ⟨c5, ?_⟩
              by_cases c6 : P.1 = 16
              · rw [if_pos (fun h => by have := (nI_ltI (by omega) (by omega)).mp h; omega)]; exact Or.inl ⟨rfl, c6⟩
              · rw [if_neg (fun h => h ((nI_ltI (by omega) (by omega)).mpr (by omega)))]; exact Or.inr ⟨rfl, c6⟩
    · rw [if_pos (fun h => c2 ((kb_test_nI (hP.2 _ htg).2.2.1).mp h))]
      exact Or.inl ⟨rfl, c2⟩
  · rw [if_pos (fun h => c1 ((hF.opn (by omega) hx).mp h))]
    exact Or.inl ⟨rfl, c1⟩
theorem st_why {μ : kt_M} {o m : Nat} (h : kInv μ o m) (a1 : Int32) (a2 : Int32) : ∃ (n : Nat) (μ1 : kt_M), x_why n m (ut_why μ o a1 a2).2 a1 a2 = some ((ut_why μ o a1 a2).1, μ1) ∧ kInv μ1 o m := by
  obtain ⟨P0, P1, PI, L, lim, h⟩ := h
  obtain ⟨hP, hC, hM⟩ := h.2.2.1
  have hs : P1.1 ≤ 16 := hP.1
  refine ⟨4000, ?_⟩
  unfold ut_why x_why
  by_cases hg : k_he μ (o + 81) a1 a2
  · rw [if_pos hg]; dsimp only
    obtain ⟨j, x, hj, hx, rfl, rfl⟩ := (cp_he hC hP (by decide)).mp hg
    obtain ⟨hR, A, hL, hF, hO, hPA⟩ := h.ref
    obtain ⟨-, hC2, hM2⟩ := hR.2.2.1
    obtain ⟨hl4, hl1, hl2⟩ := hR.2.2.2.2.2.2.2.2.1
    obtain ⟨r1, b1, b2⟩ := pu_isEdge (n := 4000) (a := nI j) (s := nI x) hM2 hP (by decide) (by decide)
    obtain ⟨μ1, d1, d2, d3⟩ := pu_findA (n := 4000) hP (by decide) hM2 hL
    have hM3 : MP μ1 m 1 P1 := hM2.ext (fun k => by rw [d2])
    obtain ⟨v, μ2, e1, e2, e3⟩ := pu_against (n := 4000) hP hj (by decide) hx hL hM3 d3 (by rw [d2]; exact hl2) hl4
    rw [kq_b2_s (show x_isEdge 4000 m (ut_ref μ o) 1 (nI j) (nI x) = _ from b1), if_neg (b2.t ⟨j, x, hj, hx, rfl, rfl⟩), kq_b2_s d1, kq_b2_s e1]
    exact ⟨μ2, pu_pair (e2.inj (cl_rsn hP hC2 hL hF hO hPA hj hx hl1 hl4)) rfl, ((hR.eqi d2).S e3).inv⟩
  · rw [if_neg hg]; dsimp only
    refine ⟨μ, ?_, h.inv⟩
    obtain ⟨r1, b1, b2⟩ := pu_isEdge (n := 4000) (a := a1) (s := a2) hM hP (by decide) (by decide)
    rw [kq_b2_s (show x_isEdge 4000 m μ 1 a1 a2 = _ from b1), if_pos (b2.n (fun q1 => hg ((cp_he hC hP (by decide)).mpr q1)))]
theorem st_dominates {μ : kt_M} {o m : Nat} (h : kInv μ o m) (a1 : Int32) (a2 : Int32) : ∃ (n : Nat) (μ1 : kt_M), x_dominates n m (ut_dom μ o a1 a2).2 a1 a2 = some ((ut_dom μ o a1 a2).1, μ1) ∧ kInv μ1 o m := by
  obtain ⟨P0, P1, PI, L, lim, h⟩ := h
  obtain ⟨hP, hC, hM⟩ := h.2.2.1
  have hs : P1.1 ≤ 16 := hP.1
  refine ⟨4000, ?_⟩
  unfold ut_dom x_dominates
  by_cases hg : k_hs μ (o + 81) a1 ∧ k_hs μ (o + 81) a2
  · rw [if_pos hg]; dsimp only
    obtain ⟨a, ha, rfl⟩ := (cp_hs hC hs).mp hg.1
    obtain ⟨b, hb, rfl⟩ := (cp_hs hC hs).mp hg.2
    obtain ⟨hR, A, hL, hF, hO, hPA⟩ := h.ref
    obtain ⟨-, hC2, hM2⟩ := hR.2.2.1
    obtain ⟨r1, b1, b2⟩ := pu_isBlock (n := 4000) (a := nI a) hM2 (by decide) hs
    obtain ⟨r2, c1, c2⟩ := pu_isBlock (n := 4000) (a := nI b) hM2 (by decide) hs
    obtain ⟨r, μ1, d1, d2, d3⟩ := pu_dom (n := 4000) (a := a) (b := b) hP (by decide) hM2 (by omega) (by omega)
    rw [kq_b2_s (show x_isBlock 4000 m (ut_ref μ o) 1 (nI a) = _ from b1), if_neg (b2.t ⟨a, ha, rfl⟩), kq_b2_s (show x_isBlock 4000 m (ut_ref μ o) 1 (nI b) = _ from c1), if_neg (c2.t ⟨b, hb, rfl⟩), kq_b2_s d1, kq_b1_s (pu_flag d2.b)]
    refine ⟨μ1, pu_pair (d2.inj (kz.f.iff ?_)) rfl, (hR.S d3.S).inv⟩
    rw [nI_clamp (by omega), k_bt_ib (by omega), hPA.2.1 b (by omega) a (by omega)]
    exact ⟨fun h => h.2.2.2, fun h => ⟨nI_pos' (by omega), nI_lt (show b < 16 by omega) (by decide), by omega, h⟩⟩
  · rw [if_neg hg]; dsimp only
    refine ⟨μ, ?_, h.inv⟩
    obtain ⟨r1, b1, b2⟩ := pu_isBlock (n := 4000) (a := a1) hM (by decide) hs
    obtain ⟨r2, c1, c2⟩ := pu_isBlock (n := 4000) (a := a2) hM (by decide) hs
    rw [kq_b2_s (show x_isBlock 4000 m μ 1 a1 = _ from b1)]
    by_cases q1 : ∃ j, j < P1.1 ∧ a1 = nI j
    · rw [if_neg (b2.t q1), kq_b2_s (show x_isBlock 4000 m μ 1 a2 = _ from c1), if_pos (c2.n (fun q2 => hg ⟨(cp_hs hC hs).mpr q1, (cp_hs hC hs).mpr q2⟩))]
    · rw [if_pos (b2.n q1)]
theorem st_loop {μ : kt_M} {o m : Nat} (h : kInv μ o m) (a1 : Int32) (a2 : Int32) : ∃ (n : Nat) (μ1 : kt_M), x_loop n m (ut_loop μ o a1 a2).2 a1 a2 = some ((ut_loop μ o a1 a2).1, μ1) ∧ kInv μ1 o m := by
  obtain ⟨P0, P1, PI, L, lim, h⟩ := h
  obtain ⟨hP, hC, hM⟩ := h.2.2.1
  have hs : P1.1 ≤ 16 := hP.1
  refine ⟨4000, ?_⟩
  unfold ut_loop x_loop
  by_cases hg : k_hs μ (o + 81) a1 ∧ k_wi a2 1
  · rw [if_pos hg]; dsimp only
    obtain ⟨b, hb, rfl⟩ := (cp_hs hC hs).mp hg.1
    obtain ⟨hR, A, hL, hF, hO, hPA⟩ := h.ref
    obtain ⟨-, hC2, hM2⟩ := hR.2.2.1
    obtain ⟨r1, b1, b2⟩ := pu_isBlock (n := 4000) (a := nI b) hM2 (by decide) hs
    rw [kq_b2_s (show x_isBlock 4000 m (ut_ref μ o) 1 (nI b) = _ from b1), if_neg (b2.t ⟨b, hb, rfl⟩), kq_b1_s (pu_wi (h := 1) (hi := 1) rfl), if_neg (kz.f.t hg.2)]
    by_cases c : a2 = 0
    · rw [if_pos c, if_pos c]
      obtain ⟨r, μ1, d1, d2, d3⟩ := pu_head (n := 4000) (h := b) hP (by decide) (by omega) hM2
      rw [kq_b2_s d1, kq_b1_s (pu_flag d2.b)]
      exact ⟨μ1, pu_pair (d2.inj (kz.f.iff (hPA.hd (by omega)))) rfl, (hR.S d3.S).inv⟩
    · rw [if_neg c, if_neg c]
      obtain ⟨v, μ1, d1, d2, d3⟩ := pu_near (n := 4000) (b := b) hP (by decide) (by omega) hM2
      rw [kq_b2_s d1]
      refine ⟨μ1, pu_pair (d2.inj (cl_idL hP hPA (by omega) 16 0 (by omega) (fun c hc => by omega)) (fun a ha => ?_)) rfl, (hR.S d3.S).inv⟩
      have := ha.lt hP
      omega
  · rw [if_neg hg]; dsimp only
    refine ⟨μ, ?_, h.inv⟩
    obtain ⟨r1, b1, b2⟩ := pu_isBlock (n := 4000) (a := a1) hM (by decide) hs
    rw [kq_b2_s (show x_isBlock 4000 m μ 1 a1 = _ from b1)]
    by_cases q1 : ∃ j, j < P1.1 ∧ a1 = nI j
    · rw [if_neg (b2.t q1), kq_b1_s (pu_wi (h := 1) (hi := 1) rfl), if_pos (kz.f.n (fun q2 => hg ⟨(cp_hs hC hs).mpr q1, q2⟩))]
    · rw [if_pos (b2.n q1)]

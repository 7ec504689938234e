/-! PURE: sheets, blocks, acts -/
theorem pu_isSheet {n : Nat} {a b : Int32} : ∃ r, x_isSheet n a b = some r ∧ kz r (k_wi a 3 ∧ k_wi b 2) := by
  unfold x_isSheet
  rw [kq_b1_s (pu_wi (h := 3) (hi := 3) rfl)]
  by_cases c1 : k_wi a 3
  · rw [if_neg (kz.f.t c1), kq_b1_s (pu_wi (h := 2) (hi := 2) rfl)]
    by_cases c2 : k_wi b 2
    · rw [if_neg (kz.f.t c2)]; exact ⟨1, rfl, Or.inr ⟨rfl, c1, c2⟩⟩
    · rw [if_pos (kz.f.n c2)]; exact ⟨0, rfl, Or.inl ⟨rfl, fun h => c2 h.2⟩⟩
  · rw [if_pos (kz.f.n c1)]; exact ⟨0, rfl, Or.inl ⟨rfl, fun h => c1 h.1⟩⟩
theorem pu_40 {a b : Nat} : 40 * nI a + nI b = nI (40 * a + b) := by rw [show (40 : Int32) = nI 40 from rfl, nI_mul, nI_add]
theorem pu_sheetL {n m q : Nat} (hq : q < 4) : ∀ (k i : Nat) (μ : kt_M), i ≤ 40 → 40 < i + k → ∃ μ1, x_sheet_L40 n m k (nI q) (nI i) μ = some (1, μ1) ∧ ∀ y j, kt_i μ1 y j = if y = m + 18 ∧ 40 * q + i ≤ j ∧ j < 40 * q + 40 then 0 else kt_i μ y j
  | 0, i, μ, h1, h2 => by omega
  | k + 1, i, μ, h1, h2 => by
    rw [x_sheet_L40]
    unfold x_sheet_B40
    by_cases e : i = 40
    · subst e
      rw [if_pos (by decide)]
      exact ⟨μ, rfl, fun y j => by rw [if_neg (by omega)]⟩
    · rw [if_neg (fun q => by have := (nI_leI (a := 40) (by decide) (by omega)).mp q; omega), pu_40, kq_ck_t (pu_kin (by omega) (by decide)), nI_clamp (by omega), nI_1]
      simp only [kq_lt]
      obtain ⟨μ1, a1, a2⟩ := pu_sheetL (n := n) (m := m) hq k (i + 1) (kt_si μ (m + 18) (40 * q + i) 0) (by omega) (by omega)
      refine ⟨μ1, a1, fun y j => ?_⟩
      rw [a2, kt_i_si]
      by_cases c : y = m + 18 ∧ 40 * q + i ≤ j ∧ j < 40 * q + 40
      · rw [if_pos c]
        by_cases c2 : j = 40 * q + i
        · rw [if_neg (by omega), if_pos ⟨c.1, c2⟩]
        · rw [if_pos (by omega)]
      · rw [if_neg c, if_neg (by omega), if_neg (by omega)]
theorem st_sheet {μ : kt_M} {o m : Nat} (h : kInv μ o m) (a1 : Int32) (a2 : Int32) (a3 : Int32) : ∃ (n : Nat) (μ1 : kt_M), x_sheet n m (ut_sheet μ o a1 a2 a3).2 a1 a2 a3 = some ((ut_sheet μ o a1 a2 a3).1, μ1) ∧ kInv μ1 o m := by
  obtain ⟨P0, P1, PI, L, lim, h⟩ := h
  have hom := h.1
  refine ⟨60, ?_⟩
  unfold ut_sheet x_sheet
  obtain ⟨r, s1, s2⟩ := pu_isSheet (n := 60) (a := a1) (b := a2)
  rw [kq_b1_s s1]
  by_cases hg : k_wi a1 3 ∧ k_wi a2 2
  · rw [if_neg (s2.t hg)]
    by_cases h40 : a3 ≤ 40
    · rw [if_pos (show k_wi a1 3 ∧ k_wi a2 2 ∧ a3 ≤ 40 from ⟨hg.1, hg.2, h40⟩), if_pos h40]
      by_cases h0 : 0 ≤ a3
      · rw [if_pos h0, if_pos h0]; dsimp only
        obtain ⟨q, hq, rfl⟩ := k_wi_nI (n := 4) hg.1 (by decide) (by decide)
        obtain ⟨t, ht, rfl⟩ := k_wi_nI (n := 3) hg.2 (by decide) (by decide)
        obtain ⟨c, hc, rfl⟩ := k_wi_nI (n := 41) (b := 40) ⟨h0, h40⟩ (by decide) (by decide)
        rw [kq_ck_t (pu_kin hq (by decide)), nI_clamp (by omega)]
        simp only [kq_lt]
        rw [kq_ck_t (pu_kin hq (by decide))]
        obtain ⟨μ1, b1, b2⟩ := pu_sheetL (n := 60) (m := m) hq 60 0 (kt_si (kt_si (m_fillL (o + 514 + 2 * q + 1) 0 40 0 (kt_si (kt_si μ (o + 514 + 2 * q) 1 (nI t)) (o + 514 + 2 * q) 2 (nI c))) (m + 16) q (nI t)) (m + 17) q (nI c)) (by omega) (by omega)
        have hv : ∀ y j, kt_i μ1 y j = if y = m + 18 ∧ 40 * q ≤ j ∧ j < 40 * q + 40 then 0 else if y = m + 17 ∧ j = q then nI c else if y = m + 16 ∧ j = q then nI t else if y = o + 514 + 2 * q + 1 ∧ 0 ≤ j ∧ j < 0 + 40 then 0 else if y = o + 514 + 2 * q ∧ j = 2 then nI c else if y = o + 514 + 2 * q ∧ j = 1 then nI t else kt_i μ y j := fun y j => by
          rw [b2, kt_i_si, kt_i_si, m_fillL_i, kt_i_si, kt_i_si]; rfl
        have hf : ∀ y j, ¬ (y = o + 514 + 2 * q ∨ y = o + 514 + 2 * q + 1 ∨ y = m + 16 ∧ j = q ∨ y = m + 17 ∧ j = q ∨ y = m + 18 ∧ 40 * q ≤ j ∧ j < 40 * q + 40) → kt_i μ1 y j = kt_i μ y j := fun y j hy => by
          rw [hv, if_neg (by omega), if_neg (by omega), if_neg (by omega), if_neg (by omega), if_neg (by omega), if_neg (by omega)]
        refine ⟨μ1, b1, (h.upd (lim' := lim) (L' := L) (fun y k hy => hf y k (by unfold kPc at hy; omega)) (h.lm.ext (fun y k hy => hf y k (by omega))) (h.rd.ext (fun y k hy => hf y k (by omega))) ?_ ?_ (h.inp.ext (fun y k hy => hf y k (by omega))) (fun k hk => ?_)).inv⟩
        · rw [hf _ _ (by omega), hf _ _ (by omega)]; exact h.fl
        · rw [hf _ _ (by omega), hf _ _ (by omega)]; exact h.to
        · by_cases e : k = q
          · subst e
            refine ⟨Or.inr ⟨t, ht, ?_, ?_⟩, ⟨c, by omega, ?_, ?_⟩, fun i hi => ?_⟩
            · rw [hv, if_neg (by omega), if_neg (by omega), if_neg (by omega), if_neg (by omega), if_neg (by omega), if_pos ⟨rfl, rfl⟩]
            · rw [hv, if_neg (by omega), if_neg (by omega), if_pos ⟨rfl, rfl⟩]
            · rw [hv, if_neg (by omega), if_neg (by omega), if_neg (by omega), if_neg (by omega), if_pos ⟨rfl, rfl⟩]
            · rw [hv, if_neg (by omega), if_pos ⟨rfl, rfl⟩]
            · rw [hv, hv, if_neg (by omega), if_neg (by omega), if_neg (by omega), if_pos (by omega), if_pos (by omega)]
          · rw [hf (o + 514 + 2 * k) 1 (by omega), hf (o + 514 + 2 * k) 2 (by omega), hf (m + 16) k (by omega), hf (m + 17) k (by omega)]
            refine ⟨(h.shs k hk).1, (h.shs k hk).2.1, fun i hi => ?_⟩
            rw [hf _ _ (by omega), hf _ _ (by omega)]
            exact (h.shs k hk).2.2 i hi
      · rw [if_neg h0, if_neg h0]
        exact ⟨μ, rfl, h.inv⟩
    · rw [if_neg (show ¬ (k_wi a1 3 ∧ k_wi a2 2 ∧ a3 ≤ 40) from fun q => h40 q.2.2), if_neg h40]
      exact ⟨μ, rfl, h.inv⟩
  · rw [if_pos (s2.n hg), if_neg (show ¬ (k_wi a1 3 ∧ k_wi a2 2 ∧ a3 ≤ 40) from fun q => hg ⟨q.1, q.2.1⟩)]
    exact ⟨μ, rfl, h.inv⟩
theorem nI_ne1 {a : Nat} (h : a < 2 ^ 31) : ¬ nI a = -1 := fun q => by
  have := congrArg Int32.toInt q
  rw [nI_toInt h, show ((-1 : Int32)).toInt = -1 from rfl] at this
  omega
theorem st_lay {μ : kt_M} {o m : Nat} (h : kInv μ o m) (a1 : Int32) (a2 : Int32) (a3 : Int32) : ∃ (n : Nat) (μ1 : kt_M), x_lay n m (ut_lay μ o a1 a2 a3).2 a1 a2 a3 = some ((ut_lay μ o a1 a2 a3).1, μ1) ∧ kInv μ1 o m := by
  obtain ⟨P0, P1, PI, L, lim, h⟩ := h
  have hom := h.1
  refine ⟨60, ?_⟩
  unfold x_lay
  obtain ⟨r, s1, s2⟩ := pu_isSheet (n := 60) (a := a1) (b := 0)
  rw [kq_b1_s s1]
  by_cases hg : k_wi a1 3
  · rw [if_neg (s2.t ⟨hg, by decide⟩)]
    obtain ⟨q, hq, rfl⟩ := k_wi_nI (n := 4) hg (by decide) (by decide)
    obtain ⟨t1, ⟨c, hc, c1, c2⟩, t3⟩ := h.shs q hq
    have hu : ut_lay μ o (nI q) a2 a3 = if kt_i μ (o + 514 + 2 * q) 1 = -1 then (-11, μ) else if k_has μ (o + 514 + 2 * q) a2 then (1, kt_si μ (o + 514 + 2 * q + 1) a2.toNatClampNeg (k_lane (kt_i μ (o + 514 + 2 * q) 1) a3)) else (-12, μ) := by
      unfold ut_lay; rw [if_pos hg, nI_clamp (by omega)]
    rw [nI_clamp (by omega)]
    rcases t1 with ⟨e1, e2⟩ | ⟨t, ht, e1, e2⟩
    · rw [if_pos e1] at hu
      rw [hu]; dsimp only
      rw [kq_ck_t (pu_kin hq (by decide)), if_pos e2]
      exact ⟨μ, rfl, h.inv⟩
    · rw [if_neg (show ¬ kt_i μ (o + 514 + 2 * q) 1 = -1 by rw [e1]; exact nI_ne1 (by omega))] at hu
      have hh : k_has μ (o + 514 + 2 * q) a2 ↔ 0 ≤ a2 ∧ a2 ≤ nI c - 1 := by
        rw [pu_lt1 (by omega)]
        unfold k_has
        rw [c1]
        refine ⟨fun w => ⟨w.1, w.2.1⟩, fun w => ⟨w.1, w.2, ?_⟩⟩
        have := w.2
        rw [Int32.lt_iff_toInt_lt, nI_toInt (by omega)] at this
        rw [Int32.lt_iff_toInt_lt, ki_40]; omega
      by_cases hx : k_has μ (o + 514 + 2 * q) a2
      · rw [if_pos hx] at hu
        rw [hu]; dsimp only
        obtain ⟨i, hi, rfl⟩ : ∃ i : Nat, i < 40 ∧ a2 = nI i := by
          obtain ⟨i, hi, e⟩ := nI_of (x := a2) (by rw [Int32.not_lt]; exact hx.1)
          exact ⟨i, (nI_ltI (b := 40) hi (by decide)).mp (e ▸ hx.2.2), e⟩
        have n1 : ∀ y k, y ≠ o + 514 + 2 * q + 1 → kt_i (kt_si μ (o + 514 + 2 * q + 1) i (k_lane (nI t) a3)) y k = kt_i μ y k := fun y k hy => kt_i_sin hy
        rw [e1, nI_clamp (by omega), kq_ck_t (pu_kin hq (by decide)), n1 _ _ (by omega), n1 _ _ (by omega), if_neg (by rw [e2]; exact pu_ne4 (by omega)), kq_ck_t (pu_kin hq (by decide)), kq_b1_s (show x_in 60 (Int32.toInt64 (nI i)) 0 (Int32.toInt64 (kt_i μ (m + 17) q - 1)) = some (kt_f (0 ≤ nI i ∧ nI i ≤ nI c - 1)) by rw [c2]; exact pu_in (lo := 0) rfl rfl), if_neg (kz.f.t (hh.mp hx)), kq_ck_t (pu_kin hq (by decide)), kq_ck_t (pu_kin hq (by decide)), pu_40, e2]
        have hj : ∀ s2 : Int32, x_lay_J85 60 m (nI (40 * q + i)) s2 (kt_si μ (o + 514 + 2 * q + 1) i (k_lane (nI t) a3)) = some (1, kt_si (kt_si μ (o + 514 + 2 * q + 1) i (k_lane (nI t) a3)) (m + 18) (40 * q + i) s2) := fun s2 => by
          unfold x_lay_J85
          rw [kq_ck_t (pu_kin (by omega) (by decide)), nI_clamp (by omega)]; rfl
        rw [hj, hj, hj]
        have hone : (if nI t = 0 then some ((1 : Int32), kt_si (kt_si μ (o + 514 + 2 * q + 1) i (k_lane (nI t) a3)) (m + 18) (40 * q + i) a3.toInt8.toInt32) else if nI t = 1 then some ((1 : Int32), kt_si (kt_si μ (o + 514 + 2 * q + 1) i (k_lane (nI t) a3)) (m + 18) (40 * q + i) a3.toInt16.toInt32) else some ((1 : Int32), kt_si (kt_si μ (o + 514 + 2 * q + 1) i (k_lane (nI t) a3)) (m + 18) (40 * q + i) a3)) = some ((1 : Int32), kt_si (kt_si μ (o + 514 + 2 * q + 1) i (k_lane (nI t) a3)) (m + 18) (40 * q + i) (k_lane (nI t) a3)) := by
          by_cases g0 : nI t = 0
          · rw [if_pos g0, show k_lane (nI t) a3 = a3.toInt8.toInt32 from if_pos g0]
          · rw [if_neg g0]
            by_cases g1 : nI t = 1
            · rw [if_pos g1, show k_lane (nI t) a3 = a3.toInt16.toInt32 from (if_neg g0).trans (if_pos g1)]
            · rw [if_neg g1, show k_lane (nI t) a3 = a3 from (if_neg g0).trans (if_neg g1)]
        rw [hone]
        have hf : ∀ y j, ¬ (y = o + 514 + 2 * q + 1 ∧ j = i) → ¬ (y = m + 18 ∧ j = 40 * q + i) → kt_i (kt_si (kt_si μ (o + 514 + 2 * q + 1) i (k_lane (nI t) a3)) (m + 18) (40 * q + i) (k_lane (nI t) a3)) y j = kt_i μ y j := fun y k q1 q2 => by rw [kt_i_si, if_neg q2, kt_i_si, if_neg q1]
        refine ⟨_, rfl, (h.upd (lim' := lim) (L' := L) (fun y k hy => hf y k (by unfold kPc at hy; omega) (by unfold kPc at hy; omega)) (h.lm.ext (fun y k hy => hf y k (by omega) (by omega))) (h.rd.ext (fun y k hy => hf y k (by omega) (by omega))) ?_ ?_ (h.inp.ext (fun y k hy => hf y k (by omega) (by omega))) (fun k hk => ?_)).inv⟩
        · rw [hf _ _ (by omega) (by omega), hf _ _ (by omega) (by omega)]; exact h.fl
        · rw [hf _ _ (by omega) (by omega), hf _ _ (by omega) (by omega)]; exact h.to
        · rw [hf (o + 514 + 2 * k) 1 (by omega) (by omega), hf (o + 514 + 2 * k) 2 (by omega) (by omega), hf (m + 16) k (by omega) (by omega), hf (m + 17) k (by omega) (by omega)]
          refine ⟨(h.shs k hk).1, (h.shs k hk).2.1, fun j hj => ?_⟩
          by_cases e : k = q ∧ j = i
          · obtain ⟨rfl, rfl⟩ := e
            rw [kt_i_sin (by omega), kt_i_sie, kt_i_sie]
          · rw [hf _ _ (by omega) (by omega), hf _ _ (by omega) (by omega)]
            exact (h.shs k hk).2.2 j hj
      · rw [if_neg hx] at hu
        rw [hu]; dsimp only
        rw [kq_ck_t (pu_kin hq (by decide)), if_neg (by rw [e2]; exact pu_ne4 (by omega)), kq_ck_t (pu_kin hq (by decide)), kq_b1_s (show x_in 60 (Int32.toInt64 a2) 0 (Int32.toInt64 (kt_i μ (m + 17) q - 1)) = some (kt_f (0 ≤ a2 ∧ a2 ≤ nI c - 1)) by rw [c2]; exact pu_in (lo := 0) rfl rfl), if_pos (kz.f.n (fun w => hx (hh.mpr w)))]
        exact ⟨μ, rfl, h.inv⟩
  · rw [show ut_lay μ o a1 a2 a3 = (-1, μ) from if_neg hg, if_pos (s2.n (fun w => hg w.1))]
    exact ⟨μ, rfl, h.inv⟩
theorem pu_isProg {n m : Nat} {a : Int32} {μ : kt_M} : x_isProgram n m μ a = some (kt_f (k_wi a 1), μ) := by
  unfold x_isProgram
  rw [kq_b1_s (pu_wi (h := 1) (hi := 1) rfl), kq_ck_t kt_f_01]
theorem WP.up {P : DP} (h : WP P 8) : WP P 16 := ⟨by have := h.1; omega, h.2⟩
theorem kIS.ch {μ : kt_M} {o m : Nat} {P0 P1 : DP} {PI : Nat → DP} {L lim p : Nat} (h : kIS μ o m P0 P1 PI L lim) (hp : p < 2) : ∃ P, WP P 16 ∧ CP μ (ut_ch o (nI p)) P ∧ MP μ m p P := by
  have : p = 0 ∨ p = 1 := by omega
  rcases this with rfl | rfl
  · exact ⟨P0, h.2.1.1.1.up, by rw [show ut_ch o (nI 0) = o + 42 from if_pos rfl]; exact h.2.1.2.1, h.2.1.2.2⟩
  · exact ⟨P1, h.2.2.1.1, by rw [show ut_ch o (nI 1) = o + 81 from if_neg (by decide)]; exact h.2.2.1.2.1, h.2.2.1.2.2⟩
theorem cb_bw {μ : kt_M} {m p b k s w : Nat} {D : DB} (hD : WB D s) (hC : CB μ k D) (hM : MB μ m p b D) (hw : w < 8) : ut_bw μ k (nI w) = mr μ m p b (if w = 0 then 0 else 12 + w) := by
  obtain ⟨c1, c2, c3, c4, c5, c6, c7⟩ := hC
  obtain ⟨m1, m2, m3, m4, m5, m6, m7, m8, m9⟩ := hM
  have he := hD.2.2.1
  have hne : kb_edges (kt_i μ k 4) = nI (db_ne D) := by rw [c3]; exact kb_ed_nI he rfl
  have hte : kb_test (kt_i μ k 4) ↔ 2 ≤ db_en D := by rw [c3]; exact kb_test_nI he
  have h1 : ((0 : Int32) ≤ 0 ∧ 0 < kb_edges (kt_i μ k 4)) ↔ 1 ≤ db_en D := by
    rw [hne]
    constructor
    · intro q
      have := (nI_ltI (a := 0) (by decide) (by have := db_ne_le D; omega)).mp q.2
      unfold db_ne at this; split at this <;> omega
    · intro q
      refine ⟨by decide, nI_lt (a := 0) ?_ (by have := db_ne_le D; omega)⟩
      unfold db_ne; rw [if_neg (by omega)]; split <;> decide
  have h2 : ((0 : Int32) ≤ 1 ∧ 1 < kb_edges (kt_i μ k 4)) ↔ 2 ≤ db_en D := by
    rw [hne]
    constructor
    · intro q
      have := (nI_ltI (a := 1) (by decide) (by have := db_ne_le D; omega)).mp q.2
      unfold db_ne at this; split at this
      · omega
      · split at this <;> omega
    · intro q
      refine ⟨by decide, nI_lt (a := 1) ?_ (by have := db_ne_le D; omega)⟩
      unfold db_ne; rw [if_neg (by omega), if_neg (by omega)]; decide
  have hc : w = 0 ∨ w = 1 ∨ w = 2 ∨ w = 3 ∨ w = 4 ∨ w = 5 ∨ w = 6 ∨ w = 7 := by omega
  unfold ut_bw
  rcases hc with rfl | rfl | rfl | rfl | rfl | rfl | rfl | rfl
  · exact c1.trans m1.symm
  · exact c3.trans m3.symm
  · show (if (0 : Int32) ≤ 0 ∧ 0 < kb_edges (kt_i μ k 4) then kt_i μ k 8 else -4) = mr μ m p b 14
    rw [m4]
    by_cases q : 1 ≤ db_en D
    · rw [if_pos (h1.mpr q), if_pos q, c4 q]
    · rw [if_neg (fun z => q (h1.mp z)), if_neg q]
  · show (if (0 : Int32) ≤ 1 ∧ 1 < kb_edges (kt_i μ k 4) then kt_i μ k 9 else -4) = mr μ m p b 15
    rw [m5]
    by_cases q : 2 ≤ db_en D
    · rw [if_pos (h2.mpr q), if_pos q, (c5 q).1]
    · rw [if_neg (fun z => q (h2.mp z)), if_neg q]
  · show (if kb_test (kt_i μ k 4) then kt_i μ k 5 else -4) = mr μ m p b 16
    rw [m6]
    by_cases q : 2 ≤ db_en D
    · rw [if_pos (hte.mpr q), if_pos q, (c5 q).2.1]
    · rw [if_neg (fun z => q (hte.mp z)), if_neg q]
  · show (if kb_test (kt_i μ k 4) then kt_i μ k 6 else -4) = mr μ m p b 17
    rw [m7]
    by_cases q : 2 ≤ db_en D
    · rw [if_pos (hte.mpr q), if_pos q, (c5 q).2.2.1]
    · rw [if_neg (fun z => q (hte.mp z)), if_neg q]
  · show (if kb_test (kt_i μ k 4) then kt_i μ k 7 else -4) = mr μ m p b 18
    rw [m8]
    by_cases q : 2 ≤ db_en D
    · rw [if_pos (hte.mpr q), if_pos q, (c5 q).2.2.2]
    · rw [if_neg (fun z => q (hte.mp z)), if_neg q]
  · exact c6.trans m9.symm
theorem st_block {μ : kt_M} {o m : Nat} (h : kInv μ o m) (a1 : Int32) (a2 : Int32) (a3 : Int32) : ∃ (n : Nat) (μ1 : kt_M), x_block n m ((ut_block μ o a1 a2 a3, μ) : Int32 × kt_M).2 a1 a2 a3 = some (((ut_block μ o a1 a2 a3, μ) : Int32 × kt_M).1, μ1) ∧ kInv μ1 o m := by
  obtain ⟨P0, P1, PI, L, lim, h⟩ := h
  refine ⟨60, μ, ?_, h.inv⟩
  dsimp only
  unfold x_block
  rw [kq_b2_s pu_isProg]
  by_cases hg : k_wi a1 1
  · rw [if_neg (kz.f.t hg)]
    obtain ⟨p, hp, rfl⟩ := k_wi_nI (n := 2) hg (by decide) (by decide)
    obtain ⟨P, hP, hC, hM⟩ := h.ch hp
    have hs : P.1 ≤ 16 := hP.1
    obtain ⟨r1, b1, b2⟩ := pu_isBlock (n := 60) (a := a2) hM (by omega) hs
    rw [kq_b2_s b1]
    by_cases q1 : ∃ j, j < P.1 ∧ a2 = nI j
    · rw [if_neg (b2.t q1)]
      obtain ⟨j, hj, rfl⟩ := q1
      have hat : k_at μ (ut_ch o (nI p)) (nI j) = ut_ch o (nI p) + 7 + 4 * j := k_at_nI hC.1 (by omega) hj
      by_cases q2 : k_wi a3 7
      · rw [show ut_block μ o (nI p) (nI j) a3 = ut_bw μ (k_at μ (ut_ch o (nI p)) (nI j)) a3 from if_pos ⟨hg, q2, (cp_hs hC hs).mpr ⟨j, hj, rfl⟩⟩, hat]
        obtain ⟨w, hw, rfl⟩ := k_wi_nI (n := 8) q2 (by decide) (by decide)
        have hof : ∀ v, v < 20 → x_of 60 m μ (nI p) (nI j) (nI v) = some (mr μ m p j v, μ) := fun v hv => (hM.2 j hj).of (by omega) (by omega) hv rfl
        rw [cb_bw (hP.2 j hj) (hC.2 j hj) (hM.2 j hj) hw]
        have hc : w = 0 ∨ w = 1 ∨ w = 2 ∨ w = 3 ∨ w = 4 ∨ w = 5 ∨ w = 6 ∨ w = 7 := by omega
        rcases hc with rfl | rfl | rfl | rfl | rfl | rfl | rfl | rfl
        · exact show kq_b2 (x_of 60 m μ (nI p) (nI j) (nI 0)) (fun r μ' => some (r, μ')) = some (mr μ m p j 0, μ) from kq_b2_s (hof 0 (by decide))
        · exact show kq_b2 (x_of 60 m μ (nI p) (nI j) (nI 13)) (fun r μ' => some (r, μ')) = some (mr μ m p j 13, μ) from kq_b2_s (hof 13 (by decide))
        · exact show kq_b2 (x_of 60 m μ (nI p) (nI j) (nI 14)) (fun r μ' => some (r, μ')) = some (mr μ m p j 14, μ) from kq_b2_s (hof 14 (by decide))
        · exact show kq_b2 (x_of 60 m μ (nI p) (nI j) (nI 15)) (fun r μ' => some (r, μ')) = some (mr μ m p j 15, μ) from kq_b2_s (hof 15 (by decide))
        · exact show kq_b2 (x_of 60 m μ (nI p) (nI j) (nI 16)) (fun r μ' => some (r, μ')) = some (mr μ m p j 16, μ) from kq_b2_s (hof 16 (by decide))
        · exact show kq_b2 (x_of 60 m μ (nI p) (nI j) (nI 17)) (fun r μ' => some (r, μ')) = some (mr μ m p j 17, μ) from kq_b2_s (hof 17 (by decide))
        · exact show kq_b2 (x_of 60 m μ (nI p) (nI j) (nI 18)) (fun r μ' => some (r, μ')) = some (mr μ m p j 18, μ) from kq_b2_s (hof 18 (by decide))
        · exact show kq_b2 (x_of 60 m μ (nI p) (nI j) (nI 19)) (fun r μ' => some (r, μ')) = some (mr μ m p j 19, μ) from kq_b2_s (hof 19 (by decide))
      · rw [show ut_block μ o (nI p) (nI j) a3 = -1 from if_neg (fun z => q2 z.2.1)]
        have hne : ∀ w : Nat, w < 8 → ¬ a3 = nI w := fun w hw e => q2 (by rw [e]; exact ⟨nI_pos' (by omega), (nI_leI (b := 7) (by omega) (by decide)).mpr (by omega)⟩)
        rw [if_neg (show ¬ a3 = 0 from hne 0 (by decide)), if_neg (show ¬ a3 = 1 from hne 1 (by decide)), if_neg (show ¬ a3 = 2 from hne 2 (by decide)), if_neg (show ¬ a3 = 3 from hne 3 (by decide)), if_neg (show ¬ a3 = 4 from hne 4 (by decide)), if_neg (show ¬ a3 = 5 from hne 5 (by decide)), if_neg (show ¬ a3 = 6 from hne 6 (by decide)), if_neg (show ¬ a3 = 7 from hne 7 (by decide))]
    · rw [if_pos (b2.n q1), show ut_block μ o (nI p) a2 a3 = -1 from if_neg (fun z => q1 ((cp_hs hC hs).mp z.2.2))]
  · rw [if_pos (kz.f.n hg), show ut_block μ o a1 a2 a3 = -1 from if_neg (fun z => hg z.1)]
theorem st_act {μ : kt_M} {o m : Nat} (h : kInv μ o m) (a1 : Int32) (a2 : Int32) (a3 : Int32) (a4 : Int32) : ∃ (n : Nat) (μ1 : kt_M), x_act n m ((ut_act μ o a1 a2 a3 a4, μ) : Int32 × kt_M).2 a1 a2 a3 a4 = some (((ut_act μ o a1 a2 a3 a4, μ) : Int32 × kt_M).1, μ1) ∧ kInv μ1 o m := by
  obtain ⟨P0, P1, PI, L, lim, h⟩ := h
  refine ⟨60, μ, ?_, h.inv⟩
  dsimp only
  unfold ut_act x_act
  rw [kq_b2_s pu_isProg]
  by_cases hg : k_wi a1 1
  · rw [if_neg (kz.f.t hg)]
    obtain ⟨p, hp, rfl⟩ := k_wi_nI (n := 2) hg (by decide) (by decide)
    obtain ⟨P, hP, hC, hM⟩ := h.ch hp
    have hs : P.1 ≤ 16 := hP.1
    obtain ⟨r1, b1, b2⟩ := pu_isBlock (n := 60) (a := a2) hM (by omega) hs
    rw [kq_b2_s b1]
    by_cases q1 : ∃ j, j < P.1 ∧ a2 = nI j
    · rw [if_neg (b2.t q1)]
      obtain ⟨j, hj, rfl⟩ := q1
      have hat : k_at μ (ut_ch o (nI p)) (nI j) = ut_ch o (nI p) + 7 + 4 * j := k_at_nI hC.1 (by omega) hj
      by_cases q2 : a3 < 0
      · rw [if_pos q2, if_neg (fun z => absurd q2 (by rw [Int32.not_lt]; exact z.2.2.2))]
      · rw [if_neg q2, kq_b1_s (pu_wi (h := 2) (hi := 2) rfl)]
        by_cases q3 : k_wi a4 2
        · rw [if_neg (kz.f.t q3), if_pos ⟨hg, q3, (cp_hs hC hs).mpr ⟨j, hj, rfl⟩, by rw [← Int32.not_lt]; exact q2⟩, hat]
          obtain ⟨i, hi, rfl⟩ := nI_of (x := a3) q2
          obtain ⟨w, hw, rfl⟩ := k_wi_nI (n := 3) q3 (by decide) (by decide)
          have hof : ∀ v, v < 20 → x_of 60 m μ (nI p) (nI j) (nI v) = some (mr μ m p j v, μ) := fun v hv => (hM.2 j hj).of (by omega) (by omega) hv rfl
          have hD := hP.2 j hj
          have hCj := hC.2 j hj
          have hMj := hM.2 j hj
          rw [kq_b2_s (show x_of 60 m μ (nI p) (nI j) 0 = _ from hof 0 (by decide)), hMj.1]
          unfold ut_av
          rw [hCj.1]
          by_cases q4 : nI (db_na (P.2 j)) ≤ nI i
          · rw [if_pos q4, if_pos (Or.inr q4)]
          · rw [if_neg q4, if_neg (fun z => z.elim q2 q4)]
            have hn := hD.1
            have hin : i < db_na (P.2 j) := by
              have : ¬ db_na (P.2 j) ≤ i := fun z => q4 ((nI_leI (by omega) hi).mpr z)
              omega
            obtain ⟨d1, d2, d3⟩ := hCj.2.1 i hin
            obtain ⟨e1, e2, e3⟩ := hMj.2.1 i hin
            obtain ⟨k1, -⟩ := hD.2.1 i hin
            rw [show (1 : Int32) + 3 * nI i + nI w = nI (1 + 3 * i + w) by rw [show (1 : Int32) = nI 1 from rfl, show (3 : Int32) = nI 3 from rfl, nI_mul, nI_add, nI_add], kq_b2_s (hof _ (by omega)), nI_clamp hi]
            have hc : w = 0 ∨ w = 1 ∨ w = 2 := by omega
            rcases hc with rfl | rfl | rfl
            · rw [if_pos (show nI 0 = 0 from rfl)]; exact pu_pair (e1.trans d1.symm) rfl
            · rw [if_neg (show ¬ nI 1 = 0 by decide), if_pos (show nI 1 = 1 from rfl)]; exact pu_pair (e2.trans d2.symm) rfl
            · rw [if_neg (show ¬ nI 2 = 0 by decide), if_neg (show ¬ nI 2 = 1 by decide), d1, e3]
              by_cases q5 : db_ki (P.2 j) i < 4
              · rw [if_pos q5, if_neg (fun z => by
                  rcases z with z | z
                  · have := (nI_eq (b := 4) (by omega) (by decide)).mp z; omega
                  · have := (nI_eq (b := 5) (by omega) (by decide)).mp z; omega)]
                exact pu_pair (d3 q5).symm rfl
              · rw [if_neg q5, if_pos (by
                  have : db_ki (P.2 j) i = 4 ∨ db_ki (P.2 j) i = 5 := by omega
                  rcases this with z | z <;> rw [z]
                  · exact Or.inl rfl
                  · exact Or.inr rfl)]
        · rw [if_pos (kz.f.n q3), if_neg (fun z => q3 z.2.1)]
    · rw [if_pos (b2.n q1), if_neg (fun z => q1 ((cp_hs hC hs).mp z.2.2.1))]
  · rw [if_pos (kz.f.n hg), if_neg (fun z => hg z.1)]

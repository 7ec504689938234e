/-! PURE: threading -/
def db_jmp (D : DB) (t : Nat) : DB := (D.1, D.2.1, 1, (t, D.2.2.2.1.2), D.2.2.2.2)
def dp_add (P : DP) (D : DB) : DP := (P.1 + 1, fun i => if i = P.1 then D else P.2 i)
theorem WB.mono {D : DB} {s s' : Nat} (h : WB D s) (hs : s ≤ s') : WB D s' := by
  obtain ⟨h1, h2, h3, h4, h5, h6⟩ := h
  exact ⟨h1, h2, h3, fun q => by have := h4 q; omega, fun q => ⟨by have := (h5 q).1; omega, (h5 q).2⟩, h6⟩
theorem WB.jmp {D : DB} {s t : Nat} (h : WB D s) (ht : t < s) : WB (db_jmp D t) s := by
  obtain ⟨h1, h2, h3, h4, h5, h6⟩ := h
  exact ⟨h1, h2, by show 1 ≤ 3; omega, fun _ => ht, fun q => absurd (show 2 ≤ 1 from q) (by omega), h6⟩
theorem WP.add {P : DP} {D : DB} {N : Nat} (h : WP P N) (hN : P.1 < N) (hD : WB D (P.1 + 1)) : WP (dp_add P D) N := ⟨hN, fun i hi => by
  have hi : i < P.1 + 1 := hi
  show WB (if i = P.1 then D else P.2 i) (P.1 + 1)
  by_cases e : i = P.1
  · rw [if_pos e]; exact hD
  · rw [if_neg e]; exact (h.2 i (by omega)).mono (by omega)⟩
theorem CB.jmp {μ : kt_M} {k t : Nat} {D : DB} (h : CB μ k D) : CB (kt_si (kt_si μ k 4 1) k 8 (nI t)) k (db_jmp D t) := by
  obtain ⟨c1, c2, c3, c4, c5, c6, c7⟩ := h
  refine ⟨by rw [kt_i_sik (by decide), kt_i_sik (by decide)]; exact c1, fun i hi => by rw [kt_i_sin (by omega), kt_i_sin (by omega), kt_i_sin (by omega), kt_i_sin (by omega), kt_i_sin (by omega), kt_i_sin (by omega)]; exact c2 i hi, by rw [kt_i_sik (by decide), kt_i_sie]; rfl, fun _ => kt_i_sie, fun q => absurd (show 2 ≤ 1 from q) (by omega), by rw [kt_i_sik (by decide), kt_i_sik (by decide)]; exact c6, by rw [kt_i_sik (by decide), kt_i_sik (by decide)]; exact c7⟩
theorem pu_goesTo {n m s t : Nat} {μ : kt_M} (hs : s < 16) : ∃ μ1, x_goesTo n m μ (nI s) (nI t) = some ((), μ1) ∧ ∀ y j, kt_i μ1 y j = if y = m + 1 ∧ j = 322 + 20 * s + 14 then nI t else if y = m + 1 ∧ j = 322 + 20 * s + 13 then 1 else if y = m + 1 ∧ 322 + 20 * s + 14 ≤ j ∧ j ≤ 322 + 20 * s + 18 then -4 else kt_i μ y j := by
  unfold x_goesTo x_noTest
  rw [kq_b1_s (show x_at n 1 (nI s) 0 = some (nI (322 + 20 * s)) from (pu_at (p := 1) (w := 0)).trans (congrArg (fun z => some (nI z)) (by omega)))]
  have e13 : nI (322 + 20 * s) + 13 = nI (322 + 20 * s + 13) := by rw [show (13 : Int32) = nI 13 from rfl, nI_add]
  have e14 : nI (322 + 20 * s) + 14 = nI (322 + 20 * s + 14) := by rw [show (14 : Int32) = nI 14 from rfl, nI_add]
  have e15 : nI (322 + 20 * s + 14) + 1 = nI (322 + 20 * s + 15) := by rw [nI_1]
  have e16 : nI (322 + 20 * s) + 16 = nI (322 + 20 * s + 16) := by rw [show (16 : Int32) = nI 16 from rfl, nI_add]
  have e17 : nI (322 + 20 * s) + 17 = nI (322 + 20 * s + 17) := by rw [show (17 : Int32) = nI 17 from rfl, nI_add]
  have e18 : nI (322 + 20 * s) + 18 = nI (322 + 20 * s + 18) := by rw [show (18 : Int32) = nI 18 from rfl, nI_add]
  simp only [kq_lt, e13, e14, e15, e16, e17, e18]
  rw [kq_ck_t (pu_kin (by omega) (by decide)), kq_ck_t (pu_kin (by omega) (by decide)), kq_ck_t (pu_kin (by omega) (by decide)), kq_ck_t (pu_kin (by omega) (by decide)), kq_ck_t (pu_kin (by omega) (by decide)), kq_b2_s rfl, kq_ck_t (pu_kin (by omega) (by decide)), kq_ck_t (pu_kin (by omega) (by decide))]
  rw [nI_clamp (by omega), nI_clamp (by omega), nI_clamp (by omega), nI_clamp (by omega), nI_clamp (by omega), nI_clamp (by omega)]
  refine ⟨_, rfl, fun y j => ?_⟩
  rw [kt_i_si, kt_i_si, kt_i_si, kt_i_si, kt_i_si, kt_i_si, kt_i_si]
  by_cases c1 : y = m + 1 ∧ j = 322 + 20 * s + 14
  · rw [if_pos c1, if_pos c1]
  simp only [if_neg c1]
  by_cases c2 : y = m + 1 ∧ j = 322 + 20 * s + 13
  · rw [if_pos c2, if_pos c2]
  rw [if_neg c2, if_neg c2]
  by_cases c3 : y = m + 1 ∧ 322 + 20 * s + 14 ≤ j ∧ j ≤ 322 + 20 * s + 18
  · rw [if_pos c3]
    by_cases d1 : j = 322 + 20 * s + 18
    · rw [if_pos ⟨c3.1, d1⟩]
    by_cases d2 : j = 322 + 20 * s + 17
    · rw [if_neg (by omega), if_pos ⟨c3.1, d2⟩]
    by_cases d3 : j = 322 + 20 * s + 16
    · rw [if_neg (by omega), if_neg (by omega), if_pos ⟨c3.1, d3⟩]
    · rw [if_neg (by omega), if_neg (by omega), if_neg (by omega), if_pos ⟨c3.1, by omega⟩]
  · rw [if_neg c3, if_neg (by omega), if_neg (by omega), if_neg (by omega), if_neg (by omega)]
theorem MB.jmp {μ μ1 : kt_M} {m b t s : Nat} {D : DB} (h : MB μ m 1 b D) (hD : WB D s) (he : ∀ y j, kt_i μ1 y j = if y = m + 1 ∧ j = 322 + 20 * b + 14 then nI t else if y = m + 1 ∧ j = 322 + 20 * b + 13 then 1 else if y = m + 1 ∧ 322 + 20 * b + 14 ≤ j ∧ j ≤ 322 + 20 * b + 18 then -4 else kt_i μ y j) : MB μ1 m 1 b (db_jmp D t) := by
  obtain ⟨m1, m2, m3, m4, m5, m6, m7, m8, m9⟩ := h
  have hn := hD.1
  have e : ∀ w, (w < 13 ∨ w = 19) → mr μ1 m 1 b w = mr μ m 1 b w := fun w hw => by
    unfold mr; rw [he, if_neg (by omega), if_neg (by omega), if_neg (by omega)]
  have e4 : ∀ w, 15 ≤ w → w ≤ 18 → mr μ1 m 1 b w = -4 := fun w h1 h2 => by
    unfold mr; rw [he, if_neg (by omega), if_neg (by omega), if_pos (by omega)]
  refine ⟨by rw [e _ (by omega)]; exact m1, fun i hi => ?_, ?_, ?_, ?_, ?_, ?_, ?_, by rw [e _ (by omega)]; exact m9⟩
  · have hi : i < db_na D := hi
    rw [e _ (by omega), e _ (by omega), e _ (by omega)]; exact m2 i hi
  · unfold mr; rw [he, if_neg (by omega), if_pos (by omega)]; rfl
  · refine Eq.trans ?_ (if_pos (show 1 ≤ db_en (db_jmp D t) from Nat.le_refl 1)).symm
    unfold mr; rw [he, if_pos (by omega)]; rfl
  · exact (e4 15 (by omega) (by omega)).trans (if_neg (show ¬ 2 ≤ db_en (db_jmp D t) from fun q => absurd (show 2 ≤ 1 from q) (by omega))).symm
  · exact (e4 16 (by omega) (by omega)).trans (if_neg (show ¬ 2 ≤ db_en (db_jmp D t) from fun q => absurd (show 2 ≤ 1 from q) (by omega))).symm
  · exact (e4 17 (by omega) (by omega)).trans (if_neg (show ¬ 2 ≤ db_en (db_jmp D t) from fun q => absurd (show 2 ≤ 1 from q) (by omega))).symm
  · exact (e4 18 (by omega) (by omega)).trans (if_neg (show ¬ 2 ≤ db_en (db_jmp D t) from fun q => absurd (show 2 ≤ 1 from q) (by omega))).symm
theorem pu_thrL {n m T s : Nat} {a b c : Int32} (hT : T < 16) (hs : s < 16) (hne : T ≠ s) : ∀ (k i : Nat) (μ : kt_M), i ≤ 20 → 20 < i + k → ∃ μ1, x_threaded_L40 n m k a b (nI T) c (nI s) (nI i) μ = x_threaded_B40 n m (fun _ _ _ _ _ _ _ => none) a b (nI T) c (nI s) 20 μ1 ∧ ∀ y j, kt_i μ1 y j = if y = m + 1 ∧ 322 + 20 * s + i ≤ j ∧ j < 322 + 20 * s + 20 then kt_i μ (m + 1) (322 + 20 * T + (j - (322 + 20 * s))) else kt_i μ y j
  | 0, i, μ, h1, h2 => by omega
  | k + 1, i, μ, h1, h2 => by
    rw [x_threaded_L40]
    by_cases e : i = 20
    · subst e
      refine ⟨μ, ?_, fun y j => by rw [if_neg (by omega)]⟩
      unfold x_threaded_B40
      rw [if_pos (show (20 : Int32) ≤ nI 20 by decide), if_pos (show (20 : Int32) ≤ 20 by decide)]
    · unfold x_threaded_B40
      rw [if_neg (fun q => by have := (nI_leI (a := 20) (by decide) (by omega)).mp q; omega), kq_b1_s (show x_at n 1 (nI s) (nI i) = _ from pu_at (p := 1)), kq_b2_s (show x_of n m μ 1 (nI T) (nI i) = _ from pu_of (p := 1) (by omega)), kq_ck_t (pu_kin (by omega) (by decide)), nI_clamp (by omega), nI_1]
      simp only [kq_lt]
      obtain ⟨μ1, a1, a2⟩ := pu_thrL (n := n) (m := m) (a := a) (b := b) (c := c) hT hs hne k (i + 1) (kt_si μ (m + 1) (321 * 1 + 1 + 20 * s + i) (kt_i μ (m + 1) (321 * 1 + 1 + 20 * T + i))) (by omega) (by omega)
      refine ⟨μ1, ?_, fun y j => ?_⟩
      · rw [a1]; unfold x_threaded_B40; rfl
      · rw [a2]
        by_cases c : y = m + 1 ∧ 322 + 20 * s + i ≤ j ∧ j < 322 + 20 * s + 20
        · rw [if_pos c]
          by_cases c2 : j = 322 + 20 * s + i
          · rw [if_neg (by omega), kt_i_si, if_pos ⟨c.1, by omega⟩]; congr 1; omega
          · rw [if_pos (by omega), kt_i_sik (by omega)]
        · rw [if_neg c, if_neg (by omega), kt_i_si, if_neg (by omega)]
/-- the program when an edge is threaded -/
def dp_thr (P : DP) (b x w : Nat) : DP := dp_set (dp_add P (db_jmp (P.2 (db_tg (P.2 b) x)) (db_tg (P.2 (db_tg (P.2 b) x)) w))) b (db_aim (P.2 b) x P.1)
theorem WP.thr {P : DP} {b x w : Nat} (hP : WP P 16) (h16 : P.1 < 16) (hb : b < P.1) (hx : x < db_ne (P.2 b)) (hw : w < db_ne (P.2 (db_tg (P.2 b) x))) : WP (dp_thr P b x w) 16 := by
  have hT := (hP.2 b hb).tg hx
  have ht := (hP.2 _ hT).tg hw
  exact (hP.add h16 (((hP.2 _ hT).mono (Nat.le_succ _)).jmp (by omega))).set (((hP.2 b hb).mono (Nat.le_succ _)).aim (Nat.lt_succ_self _))
theorem pu_thr {n m b x w : Nat} {μ : kt_M} {P : DP} {v : Int32} (hP : WP P 16) (h16 : P.1 < 16) (hb : b < P.1) (hx : x < db_ne (P.2 b)) (hw : w < db_ne (P.2 (db_tg (P.2 b) x))) (hM : MP μ m 1 P) (hn : 52 ≤ n) {μo : kt_M} (ho : x_outcomeAlong n m μ (nI b) (nI x) = some (nI (w + 1), μo)) (hq : LQ m μ μo) : ∃ μ1, x_threaded n m μ (nI b) (nI x) = some (nI P.1, μ1) ∧ MP μ1 m 1 (dp_thr P b x w) ∧ ∀ y j, ¬ (y = m + 1 ∧ 321 ≤ j ∧ j < 642) → kt_i μ1 y j = kt_i μ y j := by
  have hT := (hP.2 b hb).tg hx
  have hDT := hP.2 _ hT
  have ht := hDT.tg hw
  have hx2 : x < 2 := by have := db_ne_le (P.2 b); omega
  have hw2 : w < 2 := by have := db_ne_le (P.2 (db_tg (P.2 b) x)); omega
  have hMo : MP μo m 1 P := hq.MP hM
  unfold x_threaded
  rw [kq_b2_s (show x_of n m μ 1 (nI b) (14 + nI x) = _ from (hM.2 b hb).to (hP.2 b hb) (by decide) (by omega) hx), kq_b2_s ho, show (14 : Int32) + nI (w + 1) - 1 = 14 + nI w by rw [show (14 : Int32) = nI 14 from rfl, nI_add, nI_add, show (1 : Int32) = nI 1 from rfl, nI_sub (by omega)]; congr 1, kq_b2_s (show x_of n m μo 1 (nI (db_tg (P.2 b) x)) (14 + nI w) = _ from (hMo.2 _ hT).to hDT (by decide) (by omega) hw), kq_b2_s (show x_many n m μo 1 = some (nI P.1, μo) from (pu_many (p := 1) (by decide)).trans (pu_pair hMo.1 rfl))]
  obtain ⟨μ1, a1, a2⟩ := pu_thrL (n := n) (m := m) (a := nI b) (b := nI x) (c := nI (db_tg (P.2 (db_tg (P.2 b) x)) w)) (T := db_tg (P.2 b) x) (s := P.1) (by omega) h16 (by omega) n 0 μo (by omega) (by omega)
  rw [show x_threaded_L40 n m n (nI b) (nI x) (nI (db_tg (P.2 b) x)) (nI (db_tg (P.2 (db_tg (P.2 b) x)) w)) (nI P.1) 0 μo = _ from a1]
  obtain ⟨μ2, b1, b2⟩ := pu_goesTo (n := n) (m := m) (t := db_tg (P.2 (db_tg (P.2 b) x)) w) (μ := μ1) h16
  unfold x_threaded_B40
  rw [if_pos (show (20 : Int32) ≤ 20 by decide), kq_b2_s b1, kq_b1_s (show x_at n 1 (nI b) (14 + nI x) = some (nI (321 * 1 + 1 + 20 * b + (14 + x))) by rw [show (14 : Int32) = nI 14 from rfl, nI_add]; exact pu_at (p := 1)), kq_ck_t (pu_kin (by omega) (by decide)), nI_clamp (by omega)]
  simp only [kq_lt]
  rw [show Int32.toNatClampNeg 321 = 321 from rfl, kt_i_sik (show (321 : Nat) ≠ 321 * 1 + 1 + 20 * b + (14 + x) by omega), b2, if_neg (by omega), if_neg (by omega), if_neg (by omega), a2, if_neg (by omega), show kt_i μo (m + 1) 321 = nI P.1 from hMo.1, nI_1]
  have hMT : MB μ1 m 1 P.1 (P.2 (db_tg (P.2 b) x)) := (hMo.2 _ hT).tr hDT (fun u hu => by unfold mr; rw [a2, if_pos (by omega)]; congr 1; omega)
  have hMs : MB μ2 m 1 P.1 (db_jmp (P.2 (db_tg (P.2 b) x)) (db_tg (P.2 (db_tg (P.2 b) x)) w)) := hMT.jmp hDT b2
  have hk : ∀ y j, ¬ (y = m + 1 ∧ 322 + 20 * P.1 ≤ j ∧ j < 322 + 20 * P.1 + 20) → kt_i μ2 y j = kt_i μo y j := fun y j q => by
    rw [b2, if_neg (by omega), if_neg (by omega), if_neg (by omega), a2, if_neg (by omega)]
  have hMadd : MP (kt_si μ2 (m + 1) 321 (nI (P.1 + 1))) m 1 (dp_add P (db_jmp (P.2 (db_tg (P.2 b) x)) (db_tg (P.2 (db_tg (P.2 b) x)) w))) := by
    refine ⟨kt_i_sie, fun i hi => ?_⟩
    have hi : i < P.1 + 1 := hi
    show MB _ m 1 i (if i = P.1 then _ else P.2 i)
    by_cases e : i = P.1
    · subst e; rw [if_pos rfl]
      exact hMs.tr (hDT.jmp ht) (fun u hu => by unfold mr; rw [kt_i_sik (by omega)])
    · rw [if_neg e]
      exact (hMo.2 i (by omega)).tr (hP.2 i (by omega)) (fun u hu => by unfold mr; rw [kt_i_sik (by omega), hk _ _ (by omega)])
  have hWadd : WP (dp_add P (db_jmp (P.2 (db_tg (P.2 b) x)) (db_tg (P.2 (db_tg (P.2 b) x)) w))) 16 := hP.add h16 ((hDT.mono (Nat.le_succ _)).jmp (by omega))
  have hbD : MB (kt_si μ2 (m + 1) 321 (nI (P.1 + 1))) m 1 b (P.2 b) := by
    have := hMadd.2 b (show b < P.1 + 1 by omega)
    have e : (dp_add P (db_jmp (P.2 (db_tg (P.2 b) x)) (db_tg (P.2 (db_tg (P.2 b) x)) w))).2 b = P.2 b := if_neg (by omega)
    rw [e] at this; exact this
  have hfin : MP (kt_si (kt_si μ2 (m + 1) 321 (nI (P.1 + 1))) (m + 1) (321 * 1 + 1 + 20 * b + (14 + x)) (nI P.1)) m 1 (dp_thr P b x w) := hMadd.set hWadd (hbD.aim (hP.2 b hb) hx) (fun j j1 j2 j3 => kt_i_sik (by omega))
  refine ⟨_, rfl, hfin.ext (fun j => ?_), fun y j q => ?_⟩
  · rw [kt_i_si, kt_i_si, kt_i_si, kt_i_si]
    by_cases c1 : j = 321
    · rw [if_pos ⟨rfl, c1⟩, if_neg (by omega), if_pos ⟨rfl, c1⟩]
    · rw [if_neg (fun z => c1 z.2)]
      by_cases c2 : j = 321 * 1 + 1 + 20 * b + (14 + x)
      · rw [if_pos ⟨rfl, c2⟩, if_pos ⟨rfl, c2⟩]
      · rw [if_neg (fun z => c2 z.2), if_neg (fun z => c2 z.2), if_neg (fun z => c1 z.2)]
  · rw [kt_i_si, if_neg (by omega), kt_i_si, if_neg (by omega), hk _ _ (by omega), hq.1]
theorem cl_thr {μ : kt_M} {o b x w : Nat} {P : DP} (hP : WP P 16) (h16 : P.1 < 16) (hb : b < P.1) (hx : x < db_ne (P.2 b)) (hw : w < db_ne (P.2 (db_tg (P.2 b) x))) (hC : CP μ (o + 81) P) (hv : f_oal μ (o + 154) (nI b) (nI x) = nI (w + 1)) : CP (ut_thr μ o P.1 (nI b) (nI x)) (o + 81) (dp_thr P b x w) ∧ kt_i (ut_thr μ o P.1 (nI b) (nI x)) o 15 = 0 ∧ ∀ y k, ¬ (y = o ∧ k = 15) → (y < o + 81 ∨ o + 152 ≤ y ∨ y = o + 82) → kt_i (ut_thr μ o P.1 (nI b) (nI x)) y k = kt_i μ y k := by
  have hT := (hP.2 b hb).tg hx
  have hDT := hP.2 _ hT
  have hx2 : x < 2 := by have := db_ne_le (P.2 b); omega
  have hat : k_at μ (o + 81) (nI b) = o + 81 + 7 + 4 * b := k_at_nI hC.1 (by omega) hb
  have hcy : ∀ y k, ¬ (o + 81 + 7 + 4 * P.1 ≤ y ∧ y < o + 81 + 7 + 4 * P.1 + 4) → ¬ (y = o + 81 ∧ k = 3) → kt_i (ut_cpy μ o P.1 (nI b) (nI x)) y k = kt_i μ y k := fun y k q1 q2 => by
    unfold ut_cpy
    rw [kt_cpB_out q1, kt_i_si, if_neg q2, m_wipe_out (by omega)]
  have hcs : CB (ut_cpy μ o P.1 (nI b) (nI x)) (o + 81 + 7 + 4 * P.1) (P.2 (db_tg (P.2 b) x)) := by
    unfold ut_cpy
    rw [(cp_nxt hC hP hb hx).2]
    refine CB.sm (CB.ext (hC.2 _ hT) (μ' := kt_si (m_wipe μ (o + 81 + 7 + 4 * P.1)) (o + 81) 3 (nI (P.1 + 1))) (fun y j q1 q2 => by rw [kt_i_sin (by omega), m_wipe_out (by omega)])) hDT (kt_cpB_same (by omega))
  have h3 : kt_i (ut_cpy μ o P.1 (nI b) (nI x)) (o + 81) 3 = nI (P.1 + 1) := by
    unfold ut_cpy; rw [kt_cpB_out (by omega), kt_i_sie]
  have htg : k_tg (ut_cpy μ o P.1 (nI b) (nI x)) (k_nxt μ (o + 81) (nI b) (nI x)) (f_oal μ (o + 154) (nI b) (nI x) - 1) = nI (db_tg (P.2 (db_tg (P.2 b) x)) w) := by
    rw [hv, (cp_nxt hC hP hb hx).2, show nI (w + 1) - 1 = nI w by rw [show (1 : Int32) = nI 1 from rfl, nI_sub (by omega)]; congr 1]
    exact cl_tg (CB.ext (hC.2 _ hT) (fun y j q1 q2 => hcy y j (by omega) (by omega))) hDT hw
  have hu : ut_thr μ o P.1 (nI b) (nI x) = kt_si (kt_si (kt_si (kt_si (ut_cpy μ o P.1 (nI b) (nI x)) (o + 81 + 7 + 4 * P.1) 4 1) (o + 81 + 7 + 4 * P.1) 8 (nI (db_tg (P.2 (db_tg (P.2 b) x)) w))) (o + 81 + 7 + 4 * b) (8 + x) (nI P.1)) o 15 0 := by
    unfold ut_thr; rw [htg, hat, pu_89 hx2]
  rw [hu]
  generalize ut_cpy μ o P.1 (nI b) (nI x) = μc at hcy hcs h3
  have hadd : CP (kt_si (kt_si μc (o + 81 + 7 + 4 * P.1) 4 1) (o + 81 + 7 + 4 * P.1) 8 (nI (db_tg (P.2 (db_tg (P.2 b) x)) w))) (o + 81) (dp_add P (db_jmp (P.2 (db_tg (P.2 b) x)) (db_tg (P.2 (db_tg (P.2 b) x)) w))) := by
    refine ⟨by rw [kt_i_sin (by omega), kt_i_sin (by omega)]; exact h3, fun i hi => ?_⟩
    have hi : i < P.1 + 1 := hi
    show CB _ (o + 81 + 7 + 4 * i) (if i = P.1 then _ else P.2 i)
    by_cases e : i = P.1
    · subst e; rw [if_pos rfl]; exact hcs.jmp
    · rw [if_neg e]; exact (hC.2 i (by omega)).ext (fun y k q1 q2 => by rw [kt_i_sin (by omega), kt_i_sin (by omega), hcy _ _ (by omega) (by omega)])
  have hbD : CB (kt_si (kt_si μc (o + 81 + 7 + 4 * P.1) 4 1) (o + 81 + 7 + 4 * P.1) 8 (nI (db_tg (P.2 (db_tg (P.2 b) x)) w))) (o + 81 + 7 + 4 * b) (P.2 b) := by
    have := hadd.2 b (show b < P.1 + 1 by omega)
    have e : (dp_add P (db_jmp (P.2 (db_tg (P.2 b) x)) (db_tg (P.2 (db_tg (P.2 b) x)) w))).2 b = P.2 b := if_neg (by omega)
    rw [e] at this; exact this
  have hset := hadd.set (hbD.aim (t := P.1) hx2) (fun y k q1 q2 q3 => kt_i_sin (by omega))
  refine ⟨CP.ext hset (N := 16) h16 (fun y k q1 q2 => kt_i_sin (by omega)), kt_i_sie, fun y k q1 q2 => ?_⟩
  rw [kt_i_si, if_neg q1, kt_i_sin (by omega), kt_i_sin (by omega), kt_i_sin (by omega), hcy _ _ (by omega) (by omega)]

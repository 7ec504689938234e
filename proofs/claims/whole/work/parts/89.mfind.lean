/-! PURE: the model's least fixed point -/
theorem nI_4 : (4 : Int32) = nI 4 := rfl
theorem pu_goesL {n m b x s : Nat} {D : DB} {E : EV} (hD : WB D s) (hb : b < 16) (hn : 52 ≤ n) (hE : e_v E) (hk : e_ok E) (hx : x < 2) : ∀ (k i : Nat) (μ : kt_M), MB μ m 1 b D → i ≤ 4 → 4 < i + k → LE μ (m + 7) E → (∀ v, v < i → En (kt_l μ (m + 8) v) (E v)) → ∃ r μ1, x_goesAlong_L2 n m k (nI b) (nI x) (nI i) μ = some (r, μ1) ∧ kz r (e_ok (e_side D x E)) ∧ LQ m μ μ1 ∧ kt_l μ1 (m + 7) = kt_l μ (m + 7) ∧ LE μ1 (m + 8) (e_side D x E)
  | 0, i, μ, hM, h1, h2, hL, hW => by omega
  | k + 1, i, μ, hM, h1, h2, hL, hW => by
    rw [x_goesAlong_L2]
    unfold x_goesAlong_B2
    by_cases e : i = 4
    · subst e
      have hW : LE μ (m + 8) E := hW
      rw [if_pos (by decide)]
      rw [kq_b2_s (show x_of n m μ 1 (nI b) 16 = some (if 2 ≤ db_en D then nI (db_lf D) else -4, μ) from hM.of (p := 1) (w := 16) (by decide) hb (by decide) hM.2.2.2.2.2.1)]
      rw [kq_b2_s (show x_of n m μ 1 (nI b) 18 = some (if 2 ≤ db_en D then nI (db_rt D) else -4, μ) from hM.of (p := 1) (w := 18) (by decide) hb (by decide) hM.2.2.2.2.2.2.2.1)]
      rw [kq_b2_s (show x_of n m μ 1 (nI b) 17 = some (if 2 ≤ db_en D then nI (db_rv D) else -4, μ) from hM.of (p := 1) (w := 17) (by decide) hb (by decide) hM.2.2.2.2.2.2.1)]
      have hen : ∀ μ', kt_i μ' = kt_i μ → x_of n m μ' 1 (nI b) 13 = some (nI (db_en D), μ') := fun μ' h => (hM.mem h).en (p := 1) (by decide) hb
      have hle := hD.2.2.1
      have hsv : e_v (e_side D x E) := hE.side hD
      have fin : ∀ (f : Option (Unit × kt_M)), (∃ μ1, f = some ((), μ1) ∧ LQ m μ μ1 ∧ kt_l μ1 (m + 7) = kt_l μ (m + 7) ∧ LE μ1 (m + 8) (e_side D x E)) → ∃ r μ1, kq_b2 f (fun _ μ2 => x_goesAlong_J136 n m μ2) = some (r, μ1) ∧ kz r (e_ok (e_side D x E)) ∧ LQ m μ μ1 ∧ kt_l μ1 (m + 7) = kt_l μ (m + 7) ∧ LE μ1 (m + 8) (e_side D x E) := by
        rintro f ⟨μ1, h1, h2, h3, h4⟩
        rw [kq_b2_s h1]
        obtain ⟨r, hr, hz⟩ := pu_J136 (n := n) hsv h4
        exact ⟨r, μ1, hr, hz, h2, h3, h4⟩
      have hxs : nI x = 0 ↔ x = 0 := by
        have : x = 0 ∨ x = 1 := by omega
        rcases this with h | h <;> subst h <;> decide
      by_cases ht : db_en D < 2
      · have h01 : db_en D = 0 ∨ db_en D = 1 := by omega
        have ne3 : ¬ nI (db_en D) = 3 := by rcases h01 with h | h <;> rw [h] <;> decide
        have ne2 : ¬ nI (db_en D) = 2 := by rcases h01 with h | h <;> rw [h] <;> decide
        simp only [if_neg (show ¬ 2 ≤ db_en D by omega)]
        rw [if_neg (show ¬ ((-4 : Int32) = 1) by decide)]
        unfold x_goesAlong_J61
        rw [kq_b2_s (hen μ rfl), if_neg ne3, kq_b2_s (hen μ rfl), if_neg ne2]
        unfold x_goesAlong_J116
        rw [kq_b2_s (hen μ rfl), if_neg ne2]
        have he : e_side D x E = E := if_pos ht
        rw [he]
        obtain ⟨r, hr, hz⟩ := pu_J136 (n := n) hE hW
        exact ⟨r, μ, hr, hz, LQ.refl, rfl, hW⟩
      · obtain ⟨-, hl, hrv, h0, h1⟩ := hD.2.2.2.2.1 (by omega)
        simp only [if_pos (show 2 ≤ db_en D by omega)]
        have hside : e_side D x E = (if db_rv D = 0 then
    (if db_en D = 2 then (if x = 0 then e_set E (db_lf D) (r_nn (r_cut (E (db_lf D)) 0 ((db_rt D : Int) - 1))) else e_set E (db_lf D) (r_cut (E (db_lf D)) (db_rt D : Int) 50))
     else (if x = 0 then e_set E (db_lf D) (r_nn (r_cut (E (db_lf D)) (db_rt D : Int) (db_rt D : Int))) else e_set E (db_lf D) (r_rm (E (db_lf D)) (db_rt D : Int))))
  else
    (if db_en D = 2 then (if x = 0 then e_two E (db_lf D) (db_rt D) 0 ((E (db_rt D)).2.1 - 1) ((E (db_lf D)).1 + 1) 50
        else if (E (db_lf D)).2.2 = false ∧ (E (db_rt D)).2.2 = false then e_twk E (db_lf D) (db_rt D) (E (db_rt D)).1 50 0 (E (db_lf D)).2.1 else E)
     else (if x = 0 then e_two E (db_lf D) (db_rt D) (max (E (db_lf D)).1 (E (db_rt D)).1) (min (E (db_lf D)).2.1 (E (db_rt D)).2.1) (max (E (db_lf D)).1 (E (db_rt D)).1) (min (E (db_lf D)).2.1 (E (db_rt D)).2.1) else E))) := if_neg ht
        have he : db_en D = 2 ∨ db_en D = 3 := by omega
        have hr : db_rv D = 0 ∨ db_rv D = 1 := by omega
        rcases hr with hr | hr
        · have hr50 := h0 hr
          rw [hr, if_neg (by decide)]
          rw [if_pos hr] at hside
          rcases he with he | he
          · rw [if_pos he] at hside
            unfold x_goesAlong_J61
            rw [kq_b2_s (hen μ rfl), he, if_neg (by decide), kq_b2_s (show x_of n m μ 1 (nI b) 13 = some (nI 2, μ) from by rw [hen μ rfl, he]), if_pos (by decide), if_pos rfl]
            unfold x_goesAlong_J116
            rw [kq_b2_s (show x_of n m μ 1 (nI b) 13 = some (nI 2, μ) from by rw [hen μ rfl, he]), if_pos (by decide)]
            refine fin _ ?_
            have := pu_lessN (n := n) (s := x) hl hr50 hn hE hL hW
            rw [hside]
            simp only [hxs] at this
            exact this
          · rw [if_neg (by omega)] at hside
            unfold x_goesAlong_J61
            rw [kq_b2_s (hen μ rfl), he, if_pos (by decide)]
            refine fin _ ?_
            have := pu_likeN (n := n) (s := x) hl hr50 hn hE hL hW
            rw [hside]
            simp only [hxs] at this
            exact this
        · have hr4 := h1 hr
          rw [hr, if_pos (by decide)]
          rw [if_neg (by omega)] at hside
          rcases he with he | he
          · rw [if_pos he] at hside
            unfold x_goesAlong_J61
            rw [kq_b2_s (hen μ rfl), he, if_neg (by decide), kq_b2_s (show x_of n m μ 1 (nI b) 13 = some (nI 2, μ) from by rw [hen μ rfl, he]), if_pos (by decide), if_neg (by decide)]
            refine fin _ ?_
            have := pu_lessV (n := n) (s := x) hl hr4 hn hE hk hL hW
            rw [hside]
            simp only [hxs] at this
            exact this
          · rw [if_neg (by omega)] at hside
            unfold x_goesAlong_J61
            rw [kq_b2_s (hen μ rfl), he, if_pos (by decide)]
            refine fin _ ?_
            have := pu_likeV (n := n) (s := x) hl hr4 hE hL hW
            rw [hside]
            simp only [hxs] at this
            exact this
    · rw [if_neg (by rw [nI_4]; exact nI_ge (by omega) (by decide))]
      rw [kq_ck_t (pu_kin (by omega) (by decide)), kq_ck_t (pu_kin (by omega) (by decide)), nI_clamp (by omega), nI_1]
      simp only [kq_lt]
      obtain ⟨r, μ1, r1, r2, r3, r4, r5⟩ := pu_goesL hD hb hn hE hk hx k (i + 1) (kt_sl μ (m + 8) i (kt_l μ (m + 7) i)) (hM.mem rfl) (by omega) (by omega) (hL.far (kt_l_sln (by omega))) (fun v hv => by
        rw [kt_l_sl]
        by_cases ev : v = i
        · rw [if_pos ⟨rfl, ev⟩, ev]; exact hL i (by omega)
        · rw [if_neg (fun h => ev h.2)]; exact hW v (by omega))
      exact ⟨r, μ1, r1, r2, (LQ.sl (Or.inr rfl)).trans r3, r4.trans (kt_l_sln (by omega)), r5⟩
theorem pu_goes {n m b x s : Nat} {D : DB} {E : EV} {μ : kt_M} (hD : WB D s) (hb : b < 16) (hn : 52 ≤ n) (hE : e_v E) (hk : e_ok E) (hx : x < 2) (hM : MB μ m 1 b D) (hL : LE μ (m + 7) E) : ∃ r μ1, x_goesAlong n m μ (nI b) (nI x) = some (r, μ1) ∧ kz r (e_ok (e_side D x E)) ∧ LQ m μ μ1 ∧ kt_l μ1 (m + 7) = kt_l μ (m + 7) ∧ LE μ1 (m + 8) (e_side D x E) := pu_goesL hD hb hn hE hk hx n 0 μ hM (by omega) (by omega) hL (fun v hv => by omega)
/-- the model's ahead holds A -/
def MA (μ : kt_M) (m : Nat) (A : AV) : Prop := ∀ b v, b < 16 → v < 4 → En (kt_l μ (m + 6) (4 * b + v)) (A b v)
theorem MA.far {μ μ' : kt_M} {m : Nat} {A : AV} (h : MA μ m A) (he : kt_l μ' (m + 6) = kt_l μ (m + 6)) : MA μ' m A := fun b v hb hv => by rw [he]; exact h b v hb hv
theorem pu_reached {n m b : Nat} {μ : kt_M} {P : DP} {A : AV} (hb : b < 16) (hJ : JF P A) (hA : MA μ m A) : ∃ r, x_isReached n m μ (nI b) = some (r, μ) ∧ kz r (e_ok (A b)) := by
  unfold x_isReached
  rw [nI_4, nI_mul, kq_ck_t (pu_kin (by omega) (by decide)), nI_clamp (by omega)]
  simp only [lg_cmp_eq]
  have h0 : kt_l μ (m + 6) (4 * b) = 0 ↔ ¬ r_ok (A b 0) := (hA b 0 hb (by decide)).nz (hJ.1 b hb 0 (by decide))
  by_cases e : kt_l μ (m + 6) (4 * b) = 0
  · rw [if_pos e]; exact ⟨0, rfl, Or.inl ⟨rfl, fun h => h0.mp e (h 0 (by decide))⟩⟩
  · rw [if_neg e]
    refine ⟨1, rfl, Or.inr ⟨rfl, ?_⟩⟩
    rcases hJ.2.1 b hb with h | h
    · exact h
    · exfalso
      apply e
      rw [h0, h 0 (by decide)]
      unfold r_ok r0
      simp
/-- bringing: the four variables one by one -/
theorem pu_bringL {n m t : Nat} {A : AV} {E : EV} (ht : t < 16) (hn : 52 ≤ n) (hA : e_v (A t)) (hE : e_v E) : ∀ (k i : Nat) (q : Int32) (μ : kt_M), i ≤ 4 → 4 < i + k → kz q (∃ v, v < i ∧ r_jn (A t v) (E v) ≠ A t v) → LE μ (m + 8) E → (∀ b v, b < 16 → v < 4 → En (kt_l μ (m + 6) (4 * b + v)) (if b = t ∧ v < i then r_jn (A t v) (E v) else A b v)) → ∃ r μ1, x_brings_L30 n m k (nI (4 * t)) q (nI i) μ = some (r, μ1) ∧ kz r (∃ v, v < 4 ∧ r_jn (A t v) (E v) ≠ A t v) ∧ kt_i μ1 = kt_i μ ∧ (∀ x, x ≠ m + 6 → kt_l μ1 x = kt_l μ x) ∧ MA μ1 m (a_up A t E)
  | 0, i, q, μ, h1, h2, hq, hW, hM => by omega
  | k + 1, i, q, μ, h1, h2, hq, hW, hM => by
    rw [x_brings_L30]
    unfold x_brings_B30
    by_cases e : i = 4
    · subst e
      rw [if_pos (by decide), kq_ck_t hq.b]
      refine ⟨q, μ, rfl, hq, rfl, fun _ _ => rfl, fun b v hb hv => ?_⟩
      have := hM b v hb hv
      unfold a_up
      by_cases eb : b = t
      · rw [if_pos eb]; rw [if_pos ⟨eb, hv⟩] at this; exact this
      · rw [if_neg eb]; rw [if_neg (fun h => eb h.1)] at this; exact this
    · have hi : i < 4 := by omega
      rw [if_neg (by rw [nI_4]; exact nI_ge hi (by decide)), nI_add, kq_ck_t (pu_kin (by omega) (by decide)), kq_ck_t (pu_kin hi (by decide)), nI_clamp (by omega), nI_clamp (by omega)]
      have hold : En (kt_l μ (m + 6) (4 * t + i)) (A t i) := by
        have := hM t i ht hi
        rw [if_neg (by omega)] at this; exact this
      obtain ⟨K, hK, hEK⟩ := hold.jn (hW i hi) (hA i hi) (hE i hi) hn
      rw [kq_b1_s hK]
      have hsame : K = kt_l μ (m + 6) (4 * t + i) ↔ r_jn (A t i) (E i) = A t i := by
        constructor
        · intro h; exact hEK.same (h ▸ hold) ((hA i hi).jn (hE i hi)) (hA i hi)
        · intro h; rw [h] at hEK; exact hEK.inj hold
      have go : ∀ q2 : Int32, kz q2 (∃ v, v < i + 1 ∧ r_jn (A t v) (E v) ≠ A t v) → ∃ r μ1, x_brings_J83 n m (x_brings_L30 n m k) (nI (4 * t)) (nI i) K q2 μ = some (r, μ1) ∧ kz r (∃ v, v < 4 ∧ r_jn (A t v) (E v) ≠ A t v) ∧ kt_i μ1 = kt_i μ ∧ (∀ x, x ≠ m + 6 → kt_l μ1 x = kt_l μ x) ∧ MA μ1 m (a_up A t E) := by
        intro q2 hq2
        unfold x_brings_J83
        rw [nI_add, kq_ck_t (pu_kin (by omega) (by decide)), nI_clamp (by omega), nI_1]
        simp only [kq_lt]
        obtain ⟨r, μ1, r1, r2, r3, r4, r5⟩ := pu_bringL ht hn hA hE k (i + 1) q2 (kt_sl μ (m + 6) (4 * t + i) K) (by omega) (by omega) hq2 (hW.far (kt_l_sln (by omega))) (fun b v hb hv => by
          rw [kt_l_sl]
          by_cases ec : b = t ∧ v = i
          · rw [if_pos ⟨rfl, by rw [ec.1, ec.2]⟩, if_pos ⟨ec.1, by omega⟩, ec.2]; exact hEK
          · rw [if_neg (fun h => ec (by omega))]
            have := hM b v hb hv
            by_cases ed : b = t ∧ v < i
            · rw [if_pos ⟨ed.1, by omega⟩]; rw [if_pos ed] at this; exact this
            · rw [if_neg (by omega)]; rw [if_neg ed] at this; exact this)
        exact ⟨r, μ1, r1, r2, r3, fun x hx => (r4 x hx).trans (kt_l_sln hx), r5⟩
      simp only [lg_cmp_eq]
      rcases hq with ⟨h3, h4⟩ | ⟨h3, h4⟩
      · rw [if_pos h3, kq_ck_t (pu_kin (by omega) (by decide))]
        by_cases ek : K = kt_l μ (m + 6) (4 * t + i)
        · rw [if_pos ek]
          refine go 0 (Or.inl ⟨rfl, ?_⟩)
          rintro ⟨v, hv, hne⟩
          by_cases ev : v = i
          · subst ev; exact hne (hsame.mp ek)
          · exact h4 ⟨v, by omega, hne⟩
        · rw [if_neg ek]
          exact go 1 (Or.inr ⟨rfl, i, by omega, fun h => ek (hsame.mpr h)⟩)
      · rw [if_neg (by rw [h3]; decide)]
        obtain ⟨v, hv, hne⟩ := h4
        exact go 1 (Or.inr ⟨rfl, v, by omega, hne⟩)
theorem pu_brings {n m b x : Nat} {P : DP} {A : AV} {μ : kt_M} (hP : WP P 16) (hb : b < P.1) (hn : 52 ≤ n) (hx : x < db_ne (P.2 b)) (hJ : JF P A) (hk : e_ok (A b)) (hM : MP μ m 1 P) (hA : MA μ m A) (hL : LE μ (m + 7) (e_all (P.2 b) (A b))) : ∃ r μ1, x_brings n m μ (nI b) (nI x) = some (r, μ1) ∧ kt_i μ1 = kt_i μ ∧ kz r (e_ok (a_al P A b x) ∧ ∃ v, v < 4 ∧ r_jn (A (db_tg (P.2 b) x) v) (a_al P A b x v) ≠ A (db_tg (P.2 b) x) v) ∧ ((e_ok (a_al P A b x) ∧ MA μ1 m (a_up A (db_tg (P.2 b) x) (a_al P A b x))) ∨ (¬ e_ok (a_al P A b x) ∧ MA μ1 m A)) := by
  have hD := hP.2 b hb
  have hb16 : b < 16 := by have := hP.1; omega
  have hne := db_ne_le (P.2 b)
  have ht := hD.tg hx
  have ht16 : db_tg (P.2 b) x < 16 := by have := hP.1; omega
  unfold x_brings
  obtain ⟨r, μ1, r1, r2, r3, r4, r5⟩ := pu_goes (n := n) (x := x) hD hb16 hn ((hJ.1 b hb16).all hD) (hk.all hD) (by omega) (hM.2 b hb) hL
  rw [kq_b2_s r1]
  have hA1 : MA μ1 m A := hA.far (r3.2 _ (by omega) (by omega))
  rcases r2 with ⟨e0, hno⟩ | ⟨e1, hok⟩
  · rw [if_pos e0]
    exact ⟨0, μ1, rfl, r3.1, Or.inl ⟨rfl, fun h => hno h.1⟩, Or.inr ⟨hno, hA1⟩⟩
  · rw [if_neg (by rw [e1]; decide)]
    rw [kq_b2_s (show x_of n m μ1 1 (nI b) (14 + nI x) = some (nI (db_tg (P.2 b) x), μ1) from ((hM.2 b hb).mem r3.1).to (p := 1) hD (by decide) hb16 hx)]
    rw [nI_4, nI_mul]
    have hv := e_v.al (x := x) hP hb (hJ.1 b hb16)
    obtain ⟨q, μ2, s1, s2, s3, s4, s5⟩ := pu_bringL (n := n) (A := A) ht16 hn (hJ.1 _ ht16) hv n 0 0 μ1 (by omega) (by omega) (Or.inl ⟨rfl, fun h => by obtain ⟨v, hv, _⟩ := h; omega⟩) r5 (fun c v hc hv => by rw [if_neg (by omega)]; exact hA1 c v hc hv)
    exact ⟨q, μ2, s1, s3.trans r3.1, s2.iff ⟨fun h => ⟨hok, h⟩, fun h => h.2⟩, Or.inl ⟨hok, s5⟩⟩
/-- the edges of block b from side x on bring nothing -/
def QF (P : DP) (A : AV) (b x : Nat) : Prop := ∀ y, x ≤ y → y < db_ne (P.2 b) → e_ok (A b) → e_ok (a_al P A b y) → e_le (a_al P A b y) (A (db_tg (P.2 b) y))
theorem pu_find72 {n m b : Nat} {P : DP} {μ0 : kt_M} (hP : WP P 16) (hb : b < P.1) (hn : 52 ≤ n) (hM : MP μ0 m 1 P) (K53 : Int32 → kt_M → Option (Unit × kt_M)) (K61 : Int32 → Int32 → kt_M → Option (Unit × kt_M)) : ∀ (k x : Nat) (q : Int32) (μ : kt_M) (A : AV), x ≤ db_ne (P.2 b) → db_ne (P.2 b) < x + k → (q = 0 ∨ q = 1) → kt_i μ = kt_i μ0 → JF P A → MA μ m A → ∃ q2 μ1 A2, x_findRanges_L72 n m K53 K61 k q (nI b) (nI x) μ = K61 q2 (nI (b + 1)) μ1 ∧ kt_i μ1 = kt_i μ0 ∧ JF P A2 ∧ MA μ1 m A2 ∧ a_w A ≤ a_w A2 ∧ ((q2 = 0 ∧ q = 0 ∧ A2 = A ∧ QF P A b x) ∨ (q2 = 1 ∧ (q = 1 ∨ a_w A < a_w A2)))
  | 0, x, q, μ, A, h1, h2, hq, hi, hJ, hA => by omega
  | k + 1, x, q, μ, A, h1, h2, hq, hi, hJ, hA => by
    have hD := hP.2 b hb
    have hb16 : b < 16 := by have := hP.1; omega
    have hMu : MP μ m 1 P := hM.ext (fun j => by rw [hi])
    have hne := db_ne_le (P.2 b)
    rw [x_findRanges_L72]
    unfold x_findRanges_B72
    rw [kq_b2_s (show x_edgesOf n m μ 1 (nI b) = some (nI (db_ne (P.2 b)), μ) from (hMu.2 b hb).edges (p := 1) hD (by decide) hb16), nI_1]
    have stop : ∀ hQ : QF P A b x, ∃ q2 μ1 A2, K61 q (nI (b + 1)) μ = K61 q2 (nI (b + 1)) μ1 ∧ kt_i μ1 = kt_i μ0 ∧ JF P A2 ∧ MA μ1 m A2 ∧ a_w A ≤ a_w A2 ∧ ((q2 = 0 ∧ q = 0 ∧ A2 = A ∧ QF P A b x) ∨ (q2 = 1 ∧ (q = 1 ∨ a_w A < a_w A2))) := fun hQ => ⟨q, μ, A, rfl, hi, hJ, hA, Nat.le_refl _, hq.imp (fun h => ⟨h, h, rfl, hQ⟩) (fun h => ⟨h, Or.inl h⟩)⟩
    by_cases e : x = db_ne (P.2 b)
    · rw [if_pos (by rw [e]; exact Int32.le_refl _)]
      exact stop (fun y h3 h4 => by omega)
    · have hx : x < db_ne (P.2 b) := by omega
      rw [if_neg (nI_ge hx (by omega))]
      obtain ⟨r, r1, r2⟩ := pu_reached (n := n) hb16 hJ hA
      rw [kq_b2_s r1]
      rcases r2 with ⟨e0, hno⟩ | ⟨e1, hok⟩
      · rw [if_pos e0]
        exact stop (fun y h3 h4 h5 => absurd h5 hno)
      · rw [if_neg (by rw [e1]; decide)]
        obtain ⟨μ2, s1, s2, s3⟩ := pu_comesTo (n := n) hD hb16 hn (hJ.1 b hb16) (hMu.2 b hb) (fun v hv => hA b v hb16 hv)
        rw [kq_b2_s s1]
        obtain ⟨w, μ3, t1, t2, t3, t4⟩ := pu_brings (n := n) hP hb hn hx hJ hok (hMu.ext (fun j => by rw [s2.1])) (hA.far (s2.2 _ (by omega) (by omega))) s3
        rw [kq_b2_s t1]
        have hi3 : kt_i μ3 = kt_i μ0 := t2.trans (s2.1.trans hi)
        have ht16 : db_tg (P.2 b) x < 16 := by have := hD.tg hx; have := hP.1; omega
        -- nothing new
        have quiet : ¬ (e_ok (a_al P A b x) ∧ ∃ v, v < 4 ∧ r_jn (A (db_tg (P.2 b) x) v) (a_al P A b x v) ≠ A (db_tg (P.2 b) x) v) → MA μ3 m A ∧ (e_ok (a_al P A b x) → e_le (a_al P A b x) (A (db_tg (P.2 b) x))) := by
          intro hnn
          have hsame : e_ok (a_al P A b x) → ∀ v, v < 4 → r_jn (A (db_tg (P.2 b) x) v) (a_al P A b x v) = A (db_tg (P.2 b) x) v := fun ho v hv => Classical.not_not.mp (fun h => hnn ⟨ho, v, hv, h⟩)
          refine ⟨?_, fun ho v hv => by have := r_jn_r (r := A (db_tg (P.2 b) x) v) (s := a_al P A b x v); rw [hsame ho v hv] at this; exact this⟩
          rcases t4 with ⟨ho, hm⟩ | ⟨_, hm⟩
          · intro c v hc hv
            have := hm c v hc hv
            unfold a_up at this
            split at this
            · rename_i ec; rw [hsame ho v hv] at this; subst ec; exact this
            · exact this
          · exact hm
        have goOn : ∀ q3 : Int32, (q3 = 0 ∨ q3 = 1) → ∀ A3, JF P A3 → MA μ3 m A3 → a_w A ≤ a_w A3 → (q3 = 0 → q = 0 ∧ A3 = A ∧ (e_ok (a_al P A b x) → e_le (a_al P A b x) (A (db_tg (P.2 b) x)))) → (q3 = 1 → q = 1 ∨ a_w A < a_w A3) → ∃ q2 μ1 A2, x_findRanges_L72 n m K53 K61 k q3 (nI b) (nI (x + 1)) μ3 = K61 q2 (nI (b + 1)) μ1 ∧ kt_i μ1 = kt_i μ0 ∧ JF P A2 ∧ MA μ1 m A2 ∧ a_w A ≤ a_w A2 ∧ ((q2 = 0 ∧ q = 0 ∧ A2 = A ∧ QF P A b x) ∨ (q2 = 1 ∧ (q = 1 ∨ a_w A < a_w A2))) := by
          intro q3 hq3 A3 hJ3 hA3 hw3 h0 h1'
          obtain ⟨q2, μ1, A2, u1, u2, u3, u4, u5, u6⟩ := pu_find72 hP hb hn hM K53 K61 k (x + 1) q3 μ3 A3 (by omega) (by omega) hq3 hi3 hJ3 hA3
          refine ⟨q2, μ1, A2, u1, u2, u3, u4, by omega, ?_⟩
          rcases u6 with ⟨v1, v2, v3, v4⟩ | ⟨v1, v2⟩
          · obtain ⟨w1, w2, w3⟩ := h0 v2
            subst w2
            refine Or.inl ⟨v1, w1, v3, fun y h3 h4 h5 h6 => ?_⟩
            by_cases ey : y = x
            · subst ey; exact w3 h6
            · exact v4 y (by omega) h4 h5 h6
          · refine Or.inr ⟨v1, ?_⟩
            rcases v2 with v2 | v2
            · rcases h1' v2 with h | h
              · exact Or.inl h
              · exact Or.inr (by omega)
            · exact Or.inr (by omega)
        rcases t3 with ⟨z0, hnn⟩ | ⟨z1, hyes⟩
        · rw [if_pos z0]
          obtain ⟨hm, hle⟩ := quiet hnn
          rcases hq with hq0 | hq1
          · rw [if_pos hq0, nI_1]
            exact goOn 0 (Or.inl rfl) A hJ hm (Nat.le_refl _) (fun _ => ⟨hq0, rfl, hle⟩) (fun h => absurd h (by decide))
          · rw [if_neg (by rw [hq1]; decide), nI_1]
            exact goOn 1 (Or.inr rfl) A hJ hm (Nat.le_refl _) (fun h => absurd h (by decide)) (fun _ => Or.inl hq1)
        · rw [if_neg (by rw [z1]; decide), nI_1]
          have hm := (t4.resolve_right (fun h => h.1 hyes.1)).2
          have hJ3 := hJ.step hP hb hok hx hyes.1
          obtain ⟨v, hv, hne2⟩ := hyes.2
          have hlt : a_w A < a_w (a_up A (db_tg (P.2 b) x) (a_al P A b x)) := a_w_lt a_up_le hJ.1 hJ3.1 ht16 hv (by unfold a_up; rw [if_pos rfl]; exact Ne.symm hne2)
          exact goOn 1 (Or.inr rfl) _ hJ3 hm (by omega) (fun h => absurd h (by decide)) (fun _ => Or.inr hlt)
theorem pu_find61 {n m : Nat} {P : DP} {μ0 : kt_M} (hP : WP P 16) (hn : 52 ≤ n) (hM : MP μ0 m 1 P) (K53 : Int32 → kt_M → Option (Unit × kt_M)) : ∀ (k b : Nat) (q : Int32) (μ : kt_M) (A : AV), b ≤ P.1 → P.1 < b + k → (q = 0 ∨ q = 1) → kt_i μ = kt_i μ0 → JF P A → MA μ m A → ∃ q2 μ1 A2, x_findRanges_L61 n m K53 k q (nI b) μ = K53 q2 μ1 ∧ kt_i μ1 = kt_i μ0 ∧ JF P A2 ∧ MA μ1 m A2 ∧ a_w A ≤ a_w A2 ∧ ((q2 = 0 ∧ q = 0 ∧ A2 = A ∧ ∀ c, b ≤ c → c < P.1 → QF P A c 0) ∨ (q2 = 1 ∧ (q = 1 ∨ a_w A < a_w A2)))
  | 0, b, q, μ, A, h1, h2, hq, hi, hJ, hA => by omega
  | k + 1, b, q, μ, A, h1, h2, hq, hi, hJ, hA => by
    have hMu : MP μ m 1 P := hM.ext (fun j => by rw [hi])
    have h16 := hP.1
    rw [x_findRanges_L61]
    unfold x_findRanges_B61
    rw [kq_b2_s (show x_many n m μ 1 = some (nI P.1, μ) from (pu_many (p := 1) (by decide)).trans (pu_pair hMu.1 rfl))]
    by_cases e : b = P.1
    · rw [if_pos (by rw [e]; exact Int32.le_refl _)]
      exact ⟨q, μ, A, rfl, hi, hJ, hA, Nat.le_refl _, hq.imp (fun h => ⟨h, h, rfl, fun c h3 h4 => by omega⟩) (fun h => ⟨h, Or.inl h⟩)⟩
    · have hb : b < P.1 := by omega
      rw [if_neg (nI_ge hb (by omega))]
      have hne := db_ne_le (P.2 b)
      obtain ⟨q3, μ3, A3, t1, t2, t3, t4, t5, t6⟩ := pu_find72 hP hb hn hM K53 (x_findRanges_L61 n m K53 k) n 0 q μ A (by omega) (by omega) hq hi hJ hA
      rw [show (0 : Int32) = nI 0 from rfl, t1]
      have hq3 : q3 = 0 ∨ q3 = 1 := t6.imp (fun h => h.1) (fun h => h.1)
      obtain ⟨q2, μ1, A2, u1, u2, u3, u4, u5, u6⟩ := pu_find61 hP hn hM K53 k (b + 1) q3 μ3 A3 (by omega) (by omega) hq3 t2 t3 t4
      refine ⟨q2, μ1, A2, u1, u2, u3, u4, by omega, ?_⟩
      rcases u6 with ⟨v1, v2, v3, v4⟩ | ⟨v1, v2⟩
      · rcases t6 with ⟨w1, w2, w3, w4⟩ | ⟨w1, w2⟩
        · subst w3
          refine Or.inl ⟨v1, w2, v3, fun c h3 h4 => ?_⟩
          by_cases ec : c = b
          · subst ec; exact w4
          · exact v4 c (by omega) h4
        · rw [v2] at w1; exact absurd w1 (by decide)
      · refine Or.inr ⟨v1, ?_⟩
        rcases v2 with v2 | v2
        · rcases t6 with ⟨w1, -⟩ | ⟨w1, w2⟩
          · rw [v2] at w1; exact absurd w1 (by decide)
          · exact w2.imp id (fun h => by omega)
        · exact Or.inr (by omega)
theorem pu_find53 {n m : Nat} {P : DP} {μ0 : kt_M} (hP : WP P 16) (hn : 52 ≤ n) (hM : MP μ0 m 1 P) : ∀ (k : Nat) (q : Int32) (μ : kt_M) (A : AV), (q = 1 ∧ 3330 < a_w A + k) ∨ (q = 0 ∧ 0 < k ∧ PF P A) → kt_i μ = kt_i μ0 → JF P A → MA μ m A → ∃ μ1 A2, x_findRanges_L53 n m k q μ = some ((), μ1) ∧ kt_i μ1 = kt_i μ0 ∧ LF P A2 ∧ MA μ1 m A2
  | 0, q, μ, A, hq, hi, hJ, hA => by
    have := a_w_le hJ.1
    omega
  | k + 1, q, μ, A, hq, hi, hJ, hA => by
    have hw := a_w_le hJ.1
    rw [x_findRanges_L53]
    unfold x_findRanges_B53
    rcases hq with ⟨hq, hk⟩ | ⟨hq, _, hPF⟩
    · rw [if_neg (by rw [hq]; decide)]
      obtain ⟨q2, μ1, A2, u1, u2, u3, u4, u5, u6⟩ := pu_find61 hP hn hM (x_findRanges_L53 n m k) n 0 0 μ A (by omega) (by have := hP.1; omega) (Or.inl rfl) hi hJ hA
      rw [show (x_findRanges_L61 n m (x_findRanges_L53 n m k) n 0 0 μ) = x_findRanges_L61 n m (x_findRanges_L53 n m k) n 0 (nI 0) μ from rfl, u1]
      have hw2 := a_w_le u3.1
      rcases u6 with ⟨v1, v2, v3, v4⟩ | ⟨v1, v2⟩
      · subst v3
        exact pu_find53 hP hn hM k q2 μ1 A2 (Or.inr ⟨v1, by omega, ⟨u3.2.2.1, fun b hb hk x hx ho => v4 b (by omega) hb x (by omega) hx hk ho⟩⟩) u2 u3 u4
      · exact pu_find53 hP hn hM k q2 μ1 A2 (Or.inl ⟨v1, by rcases v2 with v2 | v2; exact absurd v2 (by decide); omega⟩) u2 u3 u4
    · rw [if_pos hq]
      exact ⟨μ, A, rfl, hi, ⟨hJ, hPF⟩, hA⟩
theorem en_r0 : En 0 r0 := en_zero rfl
theorem pu_find23 {n m : Nat} {P : DP} (hP : WP P 16) (hn : 3400 ≤ n) : ∀ (k i : Nat) (μ : kt_M), MP μ m 1 P → i ≤ 4 → 4 < i + k → (∀ j, j < 64 → kt_l μ (m + 6) j = if j < i ∧ 0 < P.1 then 2251799813685248 else 0) → (P.1 = 0 → i = 0) → ∃ μ1 A, x_findRanges_L23 n m k (nI i) μ = some ((), μ1) ∧ kt_i μ1 = kt_i μ ∧ LF P A ∧ MA μ1 m A
  | 0, i, μ, hM, h1, h2, hL, hz => by omega
  | k + 1, i, μ, hM, h1, h2, hL, hz => by
    rw [x_findRanges_L23]
    unfold x_findRanges_B23
    have h16 := hP.1
    have fin : (i = 4 ∨ P.1 = 0) → ∃ μ1 A, x_findRanges_L53 n m n 1 μ = some ((), μ1) ∧ kt_i μ1 = kt_i μ ∧ LF P A ∧ MA μ1 m A := by
      intro hc
      refine pu_find53 hP (by omega) hM n 1 μ (a_0 P) (Or.inl ⟨rfl, by omega⟩) rfl (JF.start P) (fun b v hb hv => ?_)
      rw [hL _ (by omega)]
      unfold a_0
      by_cases e : b = 0 ∧ 0 < P.1
      · rw [if_pos ⟨by omega, e.2⟩, if_pos e]; exact en_nil
      · rw [if_neg (by omega), if_neg e]; exact en_r0
    by_cases e : i = 4
    · rw [if_pos (by rw [e]; decide)]
      exact fin (Or.inl e)
    · rw [if_neg (by rw [nI_4]; exact nI_ge (by omega) (by decide))]
      rw [kq_b2_s (show x_many n m μ 1 = some (nI P.1, μ) from (pu_many (p := 1) (by decide)).trans (pu_pair hM.1 rfl))]
      by_cases e0 : P.1 = 0
      · rw [if_pos (by rw [e0]; decide)]
        exact fin (Or.inr e0)
      · rw [if_neg (nI_nle (by omega) (by omega)), kq_ck_t (pu_kin (by omega) (by decide)), nI_clamp (by omega), nI_1]
        simp only [kq_lt]
        obtain ⟨μ1, A, r1, r2, r3, r4⟩ := pu_find23 hP hn k (i + 1) (kt_sl μ (m + 6) i 2251799813685248) (hM.ext (fun j => rfl)) (by omega) (by omega) (fun j hj => by
          rw [kt_l_sl]
          by_cases ej : j = i
          · rw [if_pos ⟨rfl, ej⟩, if_pos (by omega)]
          · rw [if_neg (fun h => ej h.2), hL j hj]
            by_cases el : j < i ∧ 0 < P.1
            · rw [if_pos el, if_pos (by omega)]
            · rw [if_neg el, if_neg (by omega)]) (fun h => by omega)
        exact ⟨μ1, A, r1, r2, r3, r4⟩
theorem pu_find2 {n m : Nat} {P : DP} (hP : WP P 16) (hn : 3400 ≤ n) : ∀ (k i : Nat) (μ : kt_M), MP μ m 1 P → i ≤ 64 → 64 < i + k → (∀ j, j < i → kt_l μ (m + 6) j = 0) → ∃ μ1 A, x_findRanges_L2 n m k (nI i) μ = some ((), μ1) ∧ kt_i μ1 = kt_i μ ∧ LF P A ∧ MA μ1 m A
  | 0, i, μ, hM, h1, h2, hL => by omega
  | k + 1, i, μ, hM, h1, h2, hL => by
    rw [x_findRanges_L2]
    unfold x_findRanges_B2
    by_cases e : i = 64
    · rw [if_pos (by rw [e]; decide)]
      exact pu_find23 hP hn n 0 μ hM (by omega) (by omega) (fun j hj => by rw [if_neg (by omega)]; exact hL j (by omega)) (fun _ => rfl)
    · rw [if_neg (by rw [pu_lit]; exact nI_ge (by omega) (by decide)), kq_ck_t (pu_kin (by omega) (by decide)), nI_clamp (by omega), nI_1]
      simp only [kq_lt]
      obtain ⟨μ1, A, r1, r2, r3, r4⟩ := pu_find2 hP hn k (i + 1) (kt_sl μ (m + 6) i 0) (hM.ext (fun j => rfl)) (by omega) (by omega) (fun j hj => by
        rw [kt_l_sl]
        by_cases ej : j = i
        · rw [if_pos ⟨rfl, ej⟩]
        · rw [if_neg (fun h => ej h.2)]; exact hL j (by omega))
      exact ⟨μ1, A, r1, r2, r3, r4⟩
theorem pu_find {n m : Nat} {P : DP} {μ : kt_M} (hP : WP P 16) (hn : 3400 ≤ n) (hM : MP μ m 1 P) : ∃ μ1 A, x_findRanges n m μ = some ((), μ1) ∧ kt_i μ1 = kt_i μ ∧ LF P A ∧ MA μ1 m A := pu_find2 hP hn n 0 μ hM (by omega) (by omega) (fun j hj => by omega)

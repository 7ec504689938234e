/-! PURE: the model's ranges -/
theorem MB.of {μ : kt_M} {m p b w : Nat} {n : Nat} {D : DB} (_ : MB μ m p b D) (hp : p ≤ 3) (hb : b < 16) (hw : w < 20) {v : Int32} (hv : mr μ m p b w = v) : x_of n m μ (nI p) (nI b) (nI w) = some (v, μ) := by
  rw [pu_of (by omega)]
  exact pu_pair hv rfl
theorem MB.edges {μ : kt_M} {m p b n s : Nat} {D : DB} (h : MB μ m p b D) (hD : WB D s) (hp : p ≤ 3) (hb : b < 16) : x_edgesOf n m μ (nI p) (nI b) = some (nI (db_ne D), μ) := by
  unfold x_edgesOf
  rw [kq_b2_s (show x_of n m μ (nI p) (nI b) 13 = some (nI (db_en D), μ) from h.of hp hb (by decide) h.2.2.1)]
  unfold db_ne
  have he := hD.2.2.1
  have : db_en D = 0 ∨ db_en D = 1 ∨ db_en D = 2 ∨ db_en D = 3 := by omega
  rcases this with e | e | e | e <;> rw [e] <;> rfl
theorem MB.en {μ : kt_M} {m p b n : Nat} {D : DB} (h : MB μ m p b D) (hp : p ≤ 3) (hb : b < 16) : x_of n m μ (nI p) (nI b) 13 = some (nI (db_en D), μ) := h.of hp hb (w := 13) (by decide) h.2.2.1
theorem MB.to {μ : kt_M} {m p b n x s : Nat} {D : DB} (h : MB μ m p b D) (hD : WB D s) (hp : p ≤ 3) (hb : b < 16) (hx : x < db_ne D) : x_of n m μ (nI p) (nI b) (14 + nI x) = some (nI (db_tg D x), μ) := by
  have hne := db_ne_le D
  rw [show (14 : Int32) + nI x = nI (14 + x) from nI_add 14 x]
  refine h.of hp hb (by omega) ?_
  have hen : (x = 0 → 1 ≤ db_en D) ∧ (x = 1 → 2 ≤ db_en D) := by
    unfold db_ne at hx
    split at hx
    · omega
    · split at hx <;> omega
  have : x = 0 ∨ x = 1 := by omega
  rcases this with e | e
  · subst e; rw [h.2.2.2.1, if_pos (hen.1 rfl)]; rfl
  · subst e; rw [h.2.2.2.2.1, if_pos (hen.2 rfl)]; rfl
/-- four ranges in a row of longs -/
def LE (μ : kt_M) (a : Nat) (E : EV) : Prop := ∀ v, v < 4 → En (kt_l μ a v) (E v)
/-- only longs of behind and way have changed -/
def LQ (m : Nat) (μ μ' : kt_M) : Prop := kt_i μ' = kt_i μ ∧ ∀ x, x ≠ m + 7 → x ≠ m + 8 → kt_l μ' x = kt_l μ x
theorem LQ.refl {m : Nat} {μ : kt_M} : LQ m μ μ := ⟨rfl, fun _ _ _ => rfl⟩
theorem LQ.trans {m : Nat} {μ μ1 μ2 : kt_M} (h : LQ m μ μ1) (h2 : LQ m μ1 μ2) : LQ m μ μ2 := ⟨h2.1.trans h.1, fun x a b => (h2.2 x a b).trans (h.2 x a b)⟩
theorem kt_l_sln {μ : kt_M} {a k x : Nat} {v : Int64} (h : x ≠ a) : kt_l (kt_sl μ a k v) x = kt_l μ x := funext fun y => by rw [kt_l_sl, if_neg (fun e => h e.1)]
theorem LQ.sl {m a k : Nat} {μ : kt_M} {v : Int64} (h : a = m + 7 ∨ a = m + 8) : LQ m μ (kt_sl μ a k v) := ⟨rfl, fun x h1 h2 => kt_l_sln (by omega)⟩
theorem LE.set {μ : kt_M} {a v : Nat} {E : EV} {L : Int64} {r : R3} (h : LE μ a E) (hL : En L r) : LE (kt_sl μ a v L) a (e_set E v r) := fun w hw => by
  rw [kt_l_sl]
  unfold e_set
  by_cases e : w = v
  · rw [if_pos ⟨rfl, e⟩, if_pos e]; exact hL
  · rw [if_neg (fun h => e h.2), if_neg e]; exact h w hw
theorem LE.far {μ μ' : kt_M} {a : Nat} {E : EV} (h : LE μ a E) (he : kt_l μ' a = kt_l μ a) : LE μ' a E := fun w hw => by rw [he]; exact h w hw
theorem MB.mem {μ μ' : kt_M} {m p b : Nat} {D : DB} (h : MB μ m p b D) (he : kt_i μ' = kt_i μ) : MB μ' m p b D := h.ext (fun j => by rw [he])
theorem en_one {x : Nat} (hx : x ≤ 50) : En ((1 : Int64) <<< ((nI x).toInt64 &&& 63)) ((x : Int), (x : Int), false) := fun j hj => by
  rw [lb_shl (by omega) hj, decide_eq_true_iff]
  simp only [Bool.false_eq_true, and_false, or_false]
  omega
theorem en_all : En 4503599627370495 (0, 50, true) := fun j hj => by
  have : ∀ j, j < 64 → lb 4503599627370495 j = decide (j ≤ 51) := by decide +kernel
  rw [this j hj, decide_eq_true_iff]
  simp only [and_true]
  omega
theorem en_nil : En 2251799813685248 rN := fun j hj => by
  rw [lb_nil j hj, decide_eq_true_iff]
  unfold rN
  simp only [and_true]
  omega
theorem nI_negI {x : Nat} (h : x ≤ 1000) : (-(nI x)).toInt = -(x : Int) := by
  rw [Int32.toInt_neg, nI_toInt (by omega)]
  exact Int.bmod_eq_of_le (by omega) (by omega)
theorem pu_actsL {n m b s : Nat} {D : DB} (hD : WB D s) (hb : b < 16) (hn : 52 ≤ n) : ∀ (k i : Nat) (μ : kt_M) (E : EV), MB μ m 1 b D → i ≤ db_na D → db_na D < i + k → e_v E → LE μ (m + 7) E → ∃ μ1, x_actsOn_L2 n m k (nI b) (nI i) μ = some ((), μ1) ∧ LQ m μ μ1 ∧ (kt_l μ1 (m + 8) = kt_l μ (m + 8)) ∧ LE μ1 (m + 7) (e_acts D (db_na D - i) i E)
  | 0, i, μ, E, hM, h1, h2, hE, hL => by omega
  | k + 1, i, μ, E, hM, h1, h2, hE, hL => by
    have hna := hD.1
    rw [x_actsOn_L2]
    unfold x_actsOn_B2
    rw [kq_b2_s (show x_of n m μ 1 (nI b) 0 = some (nI (db_na D), μ) from hM.of (p := 1) (w := 0) (by decide) hb (by decide) hM.1)]
    by_cases e : i = db_na D
    · rw [if_pos (by rw [e]; exact Int32.le_refl _)]
      refine ⟨μ, rfl, LQ.refl, rfl, ?_⟩
      rw [e, Nat.sub_self]; exact hL
    · have hi : i < db_na D := by omega
      rw [if_neg (nI_ge hi (by omega))]
      obtain ⟨g1, g2, g3⟩ := hM.2.1 i hi
      have hw := hD.2.1 i hi
      rw [kq_b2_s (show x_of n m μ 1 (nI b) (((1 : Int32) + ((3 : Int32) * nI i)) + (1 : Int32)) = some (nI (db_va D i), μ) from by
        simp only [pu_lit, nI_mul, nI_add]; exact hM.of (p := 1) (by decide) hb (by omega) g2)]
      rw [kq_b2_s (show x_of n m μ 1 (nI b) (((1 : Int32) + ((3 : Int32) * nI i)) + (2 : Int32)) = some (if db_ki D i < 4 then nI (db_op D i) else -4, μ) from by
        simp only [pu_lit, nI_mul, nI_add]; exact hM.of (p := 1) (by decide) hb (by omega) g3)]
      rw [kq_b2_s (show x_of n m μ 1 (nI b) ((1 : Int32) + ((3 : Int32) * nI i)) = some (nI (db_ki D i), μ) from by
        simp only [pu_lit, nI_mul, nI_add]; exact hM.of (p := 1) (by decide) hb (by omega) g1)]
      have hva := hw.2.1
      have hin : kq_in (nI (db_va D i)) 4 := pu_kin hva (by decide)
      have hcl : (nI (db_va D i)).toNatClampNeg = db_va D i := nI_clamp (by omega)
      have hsub : db_na D - i = (db_na D - (i + 1)) + 1 := by omega
      have next : ∀ (μ2 : kt_M) (F : EV), LQ m μ μ2 → kt_l μ2 (m + 8) = kt_l μ (m + 8) → LE μ2 (m + 7) F → F = e_act E (db_ki D i) (db_va D i) (db_op D i) → ∃ μ1, x_actsOn_L2 n m k (nI b) (nI i + 1) μ2 = some ((), μ1) ∧ LQ m μ μ1 ∧ (kt_l μ1 (m + 8) = kt_l μ (m + 8)) ∧ LE μ1 (m + 7) (e_acts D (db_na D - i) i E) := by
        intro μ2 F hq hq8 hL2 hF
        subst hF
        rw [nI_1]
        obtain ⟨μ1, r1, r2, r3, r4⟩ := pu_actsL hD hb hn k (i + 1) μ2 _ (hM.mem hq.1) (by omega) (by omega) (hE.act hw) hL2
        refine ⟨μ1, r1, hq.trans r2, r3.trans hq8, ?_⟩
        rw [hsub]; exact r4
      have hk : db_ki D i = 0 ∨ db_ki D i = 1 ∨ db_ki D i = 2 ∨ db_ki D i = 3 ∨ db_ki D i = 4 ∨ db_ki D i = 5 := by have := hw.1; omega
      have far8 : ∀ (v : Nat) (L : Int64), kt_l (kt_sl μ (m + 7) v L) (m + 8) = kt_l μ (m + 8) := fun v L => kt_l_sln (by omega)
      have key : ∀ (r : R3) (L : Int64), En L r → e_set E (db_va D i) r = e_act E (db_ki D i) (db_va D i) (db_op D i) → ∃ μ1, x_actsOn_L2 n m k (nI b) (nI i + 1) (kt_sl μ (m + 7) (db_va D i) L) = some ((), μ1) ∧ LQ m μ μ1 ∧ (kt_l μ1 (m + 8) = kt_l μ (m + 8)) ∧ LE μ1 (m + 7) (e_acts D (db_na D - i) i E) := fun r L hLr he => next _ _ (LQ.sl (Or.inl rfl)) (far8 _ _) (hL.set hLr) he
      have hLv := hL _ hva
      have hvv := hE _ hva
      rcases hk with hk | hk | hk | hk | hk | hk <;> rw [hk] at key ⊢
      · have hop := hw.2.2.1 (by omega)
        rw [if_pos (by decide), kq_ck_t hin, hcl, if_pos (by decide)]
        exact key _ _ (en_one hop) rfl
      · have hop := hw.2.2.1 (by omega)
        rw [if_neg (by decide), if_pos (by decide), kq_ck_t hin, if_pos (by decide), hcl]
        obtain ⟨K, hK, hE2⟩ := hLv.sft (k := nI (db_op D i)) hvv (by rw [nI_toInt (by omega)]; omega) hn
        rw [kq_b1_s hK, kq_ck_t hin]
        rw [nI_toInt (by omega)] at hE2
        exact key _ _ hE2 rfl
      · have hop := hw.2.2.1 (by omega)
        rw [if_neg (by decide), if_neg (by decide), if_pos (by decide), kq_ck_t hin, if_pos (by decide), hcl]
        obtain ⟨K, hK, hE2⟩ := hLv.sft (k := -(nI (db_op D i))) hvv (by rw [nI_negI (by omega)]; omega) hn
        rw [kq_b1_s hK, kq_ck_t hin]
        rw [nI_negI (by omega)] at hE2
        exact key _ _ hE2 rfl
      · have hop := hw.2.2.2 (by omega)
        rw [if_neg (by decide), if_neg (by decide), if_neg (by decide), if_pos (by decide), if_pos (by decide), kq_ck_t (pu_kin hop (by decide)), kq_ck_t hin, hcl, nI_clamp (by omega)]
        exact key _ _ (hL _ hop) rfl
      · rw [if_neg (by decide), if_neg (by decide), if_neg (by decide), if_neg (by decide), if_pos (by decide), kq_ck_t hin, hcl]
        exact key _ _ en_all rfl
      · rw [if_neg (by decide), if_neg (by decide), if_neg (by decide), if_neg (by decide), if_neg (by decide)]
        exact next μ E LQ.refl rfl hL (by rw [hk]; rfl)
theorem pu_actsOn {n m b s : Nat} {D : DB} {μ : kt_M} {E : EV} (hD : WB D s) (hb : b < 16) (hn : 52 ≤ n) (hM : MB μ m 1 b D) (hE : e_v E) (hL : LE μ (m + 7) E) : ∃ μ1, x_actsOn n m μ (nI b) = some ((), μ1) ∧ LQ m μ μ1 ∧ (kt_l μ1 (m + 8) = kt_l μ (m + 8)) ∧ LE μ1 (m + 7) (e_all D E) := by
  have := pu_actsL hD hb hn n 0 μ E hM (by omega) (by have := hD.1; omega) hE hL
  exact this
/-- copying four longs into behind -/
theorem pu_comesL {n m b s : Nat} {D : DB} {E : EV} (hD : WB D s) (hb : b < 16) (hn : 52 ≤ n) (hE : e_v E) : ∀ (k i : Nat) (μ : kt_M), MB μ m 1 b D → i ≤ 4 → 4 < i + k → (∀ v, v < 4 → En (kt_l μ (m + 6) (4 * b + v)) (E v)) → (∀ v, v < i → En (kt_l μ (m + 7) v) (E v)) → ∃ μ1, x_comesTo_L2 n m k (nI b) (nI i) μ = some ((), μ1) ∧ LQ m μ μ1 ∧ LE μ1 (m + 7) (e_all D E)
  | 0, i, μ, hM, h1, h2, hA, hL => by omega
  | k + 1, i, μ, hM, h1, h2, hA, hL => by
    rw [x_comesTo_L2]
    unfold x_comesTo_B2
    by_cases e : i = 4
    · subst e
      rw [if_pos (by decide)]
      obtain ⟨μ1, r1, r2, r3, r4⟩ := pu_actsOn (n := n) hD hb hn hM hE hL
      rw [kq_b2_s r1]
      exact ⟨μ1, rfl, r2, r4⟩
    · rw [if_neg (by rw [pu_lit]; exact nI_ge (by omega) (by decide))]
      simp only [pu_lit, nI_mul, nI_add]
      rw [kq_ck_t (pu_kin (by omega) (by decide)), kq_ck_t (pu_kin (by omega) (by decide)), nI_clamp (by omega), nI_clamp (by omega)]
      unfold kq_lt
      obtain ⟨μ1, r1, r2, r3⟩ := pu_comesL hD hb hn hE k (i + 1) (kt_sl μ (m + 7) i (kt_l μ (m + 6) (4 * b + i))) (hM.mem rfl) (by omega) (by omega) (fun v hv => by rw [kt_l_sln (by omega)]; exact hA v hv) (fun v hv => by
        rw [kt_l_sl]
        by_cases ev : v = i
        · rw [if_pos ⟨rfl, ev⟩, ev]; exact hA i (by omega)
        · rw [if_neg (fun h => ev h.2)]; exact hL v (by omega))
      exact ⟨μ1, r1, (LQ.sl (Or.inl rfl)).trans r2, r3⟩
theorem pu_comesTo {n m b s : Nat} {D : DB} {E : EV} {μ : kt_M} (hD : WB D s) (hb : b < 16) (hn : 52 ≤ n) (hE : e_v E) (hM : MB μ m 1 b D) (hA : ∀ v, v < 4 → En (kt_l μ (m + 6) (4 * b + v)) (E v)) : ∃ μ1, x_comesTo n m μ (nI b) = some ((), μ1) ∧ LQ m μ μ1 ∧ LE μ1 (m + 7) (e_all D E) := pu_comesL hD hb hn hE n 0 μ hM (by omega) (by omega) hA (fun v hv => by omega)

/-! PURE: the immediate dominator -/
def Ip (P : DP) (b a : Nat) : Prop := a ≠ b ∧ Dm P a b ∧ ∀ c, c ≠ b → Dm P c b → Dm P c a
/-- v is the first below N of which T holds, or NONE -/
def Fs (T : Nat → Prop) (N : Nat) (v : Int32) : Prop := (∃ a, a < N ∧ T a ∧ (∀ c, c < a → ¬ T c) ∧ v = nI a) ∨ ((∀ a, a < N → ¬ T a) ∧ v = -4)
theorem Fs.inj {T : Nat → Prop} {N M : Nat} {v w : Int32} (h : Fs T N v) (h2 : Fs T M w) (hT : ∀ a, T a → a < N ∧ a < M) : v = w := by
  rcases h with ⟨a, a1, a2, a3, a4⟩ | ⟨a1, a2⟩ <;> rcases h2 with ⟨b, b1, b2, b3, b4⟩ | ⟨b1, b2⟩
  · have : a = b := by
      by_cases e : a < b
      · exact absurd a2 (b3 a e)
      · by_cases e2 : b < a
        · exact absurd b2 (a3 b e2)
        · omega
    rw [a4, b4, this]
  · exact absurd a2 (b1 a (hT a a2).2)
  · exact absurd b2 (a1 b (hT b b2).1)
  · rw [a2, b2]
theorem Ip.lt {P : DP} {b a : Nat} (hP : WP P 16) (h : Ip P b a) : a < P.1 := (h.2.1.ra hP).lt hP
theorem cl_id1 {μ : kt_M} {p a b : Nat} {P : DP} (hP : WP P 16) (h : PA μ p P) (ha : a < 16) (hb : b < 16) : (k_bt (k_oth μ p (nI b)) (nI a) ∧ kt_i μ (p + 2) a = k_oth μ p (nI b)) ↔ Ip P b a := by
  have ho : ∀ c, c < 32 → (ib (k_oth μ p (nI b)) c = true ↔ (c < 16 ∧ Dm P c b) ∧ c ≠ b) := fun c hc => by
    unfold k_oth
    rw [nI_clamp (by omega), ib_and, ib_xor, ib_shl (by omega) hc, ib_m1 c hc, Bool.and_eq_true, h.2.1 b hb c hc]
    by_cases e : c = b <;> simp [e]
  rw [k_bt_ib (by omega), ho a (by omega)]
  constructor
  · rintro ⟨⟨⟨-, h1⟩, h2⟩, h3⟩
    refine ⟨h2, h1, fun c hc hd => ?_⟩
    have hc16 : c < 16 := by have := (hd.ra hP).lt hP; have := hP.1; omega
    have := (ho c (by omega)).mpr ⟨⟨hc16, hd⟩, hc⟩
    rw [← h3] at this
    exact ((h.2.1 a ha c (by omega)).mp this).2
  · rintro ⟨h1, h2, h3⟩
    refine ⟨⟨⟨ha, h2⟩, h1⟩, ib_ext (fun c hc => Bool.eq_iff_iff.mpr ?_)⟩
    rw [h.2.1 a ha c hc, ho c hc]
    constructor
    · rintro ⟨h4, h5⟩
      exact ⟨⟨h4, h5.trans h2⟩, fun e => h1 (by rw [e] at h5; exact h2.anti hP h5)⟩
    · rintro ⟨⟨h4, h5⟩, h6⟩
      exact ⟨h4, h3 c h6 h5⟩
theorem cl_idL {μ : kt_M} {p b : Nat} {P : DP} (hP : WP P 16) (h : PA μ p P) (hb : b < 16) : ∀ (n i : Nat), i + n = 16 → (∀ c, c < i → ¬ Ip P b c) → Fs (Ip P b) 16 (k_idL μ p (k_oth μ p (nI b)) n i)
  | 0, i, hi, hc => Or.inr ⟨fun a ha => hc a (by omega), rfl⟩
  | n + 1, i, hi, hc => by
    rw [k_idL]
    by_cases e : Ip P b i
    · rw [if_pos ((cl_id1 hP h (by omega) hb).mpr e)]
      exact Or.inl ⟨i, by omega, e, hc, rfl⟩
    · rw [if_neg (fun h2 => e ((cl_id1 hP h (by omega) hb).mp h2))]
      refine cl_idL hP h hb n (i + 1) (by omega) (fun c hc1 => ?_)
      by_cases ec : c = i
      · rw [ec]; exact e
      · exact hc c (by omega)
theorem pu_near34 {n m a b : Nat} {P : DP} {μ0 : kt_M} (hP : WP P 16) (hn : 20 ≤ n) (ha : a < 16) (hb : b < 16) (hM : MP μ0 m 1 P) (K2 : Int32 → Int32 → kt_M → Option (Int32 × kt_M)) : ∀ (k c : Nat) (q : Int32) (T : Prop) (μ : kt_M), c ≤ P.1 → P.1 < c + k → kz q T → IQ m μ0 μ → ∃ q2 μ1, x_nearest_L34 n m K2 k (nI b) (nI a) q (nI c) μ = x_nearest_J86 n m K2 (nI b) (nI a) q2 μ1 ∧ kz q2 (T ∧ ∀ d, c ≤ d → d < P.1 → d ≠ b → Dm P d b → Dm P d a) ∧ IQ m μ0 μ1
  | 0, c, q, T, μ, h1, h2, hq, hI => by omega
  | k + 1, c, q, T, μ, h1, h2, hq, hI => by
    have hP16 := hP.1
    have hMu := hI.MP hM
    rw [x_nearest_L34]
    unfold x_nearest_B34
    rw [kq_b2_s (show x_many n m μ 1 = some (nI P.1, μ) from (pu_many (p := 1) (by decide)).trans (pu_pair hMu.1 rfl))]
    by_cases e : c = P.1
    · rw [if_pos (by rw [e]; exact Int32.le_refl _)]
      exact ⟨q, μ, rfl, hq.iff ⟨fun h => ⟨h, fun d h3 h4 => by omega⟩, fun h => h.1⟩, hI⟩
    · have hc : c < P.1 := by omega
      rw [if_neg (nI_ge hc (by omega))]
      rcases hq with ⟨z, hno⟩ | ⟨z, hyes⟩
      · rw [if_pos z]
        exact ⟨q, μ, rfl, Or.inl ⟨z, fun h => hno h.1⟩, hI⟩
      · rw [if_neg (by rw [z]; decide)]
        have next : ∀ (q3 : Int32) (μ3 : kt_M), IQ m μ0 μ3 → kz q3 (c ≠ b → Dm P c b → Dm P c a) → ∃ q2 μ1, x_nearest_L34 n m K2 k (nI b) (nI a) q3 (nI (c + 1)) μ3 = x_nearest_J86 n m K2 (nI b) (nI a) q2 μ1 ∧ kz q2 (T ∧ ∀ d, c ≤ d → d < P.1 → d ≠ b → Dm P d b → Dm P d a) ∧ IQ m μ0 μ1 := fun q3 μ3 hI3 hq3 => by
          obtain ⟨q2, μ1, u1, u2, u3⟩ := pu_near34 hP hn ha hb hM K2 k (c + 1) q3 _ μ3 (by omega) (by omega) hq3 hI3
          refine ⟨q2, μ1, u1, u2.iff ⟨fun h => ⟨hyes, fun d h3 h4 => ?_⟩, fun h => ⟨h.2 c (Nat.le_refl _) hc, fun d h3 h4 => h.2 d (by omega) h4⟩⟩, u3⟩
          by_cases ed : d = c
          · rw [ed]; exact h.1
          · exact h.2 d (by omega) h4
        by_cases ecb : c = b
        · rw [if_pos (by rw [ecb]), nI_1]
          exact next 1 μ hI (Or.inr ⟨rfl, fun h => absurd ecb h⟩)
        · rw [if_neg (fun h => ecb ((nI_eq (by omega) (by omega)).mp h))]
          obtain ⟨r, μ1, a1, a2, a3⟩ := pu_dom (n := n) hP hn hMu (a := c) (b := b) (by omega) hb
          rw [kq_b2_s a1]
          rcases a2 with ⟨z2, hno⟩ | ⟨z2, hyes2⟩
          · rw [if_pos z2, nI_1]
            exact next 1 μ1 (hI.trans a3) (Or.inr ⟨rfl, fun _ h => absurd h hno⟩)
          · rw [if_neg (by rw [z2]; decide)]
            obtain ⟨r2, μ2, b1, b2, b3⟩ := pu_dom (n := n) hP hn (a3.MP hMu) (a := c) (b := a) (by omega) ha
            rw [kq_b2_s b1]
            rcases b2 with ⟨z3, hno3⟩ | ⟨z3, hyes3⟩
            · rw [if_pos z3, nI_1]
              exact next 0 μ2 ((hI.trans a3).trans b3) (Or.inl ⟨rfl, fun h => hno3 (h ecb hyes2)⟩)
            · rw [if_neg (by rw [z3]; decide), nI_1]
              exact next 1 μ2 ((hI.trans a3).trans b3) (Or.inr ⟨rfl, fun _ _ => hyes3⟩)
theorem pu_near2 {n m b : Nat} {P : DP} {μ0 : kt_M} (hP : WP P 16) (hn : 20 ≤ n) (hb : b < 16) (hM : MP μ0 m 1 P) : ∀ (k a : Nat) (μ : kt_M), a ≤ P.1 → P.1 < a + k → IQ m μ0 μ → (∀ c, c < a → ¬ Ip P b c) → ∃ v μ1, x_nearest_L2 n m k (nI b) (nI a) μ = some (v, μ1) ∧ Fs (Ip P b) P.1 v ∧ IQ m μ0 μ1
  | 0, a, μ, h1, h2, hI, hc => by omega
  | k + 1, a, μ, h1, h2, hI, hc => by
    have hP16 := hP.1
    have hMu := hI.MP hM
    rw [x_nearest_L2]
    unfold x_nearest_B2
    rw [kq_b2_s (show x_many n m μ 1 = some (nI P.1, μ) from (pu_many (p := 1) (by decide)).trans (pu_pair hMu.1 rfl))]
    by_cases e : a = P.1
    · rw [if_pos (by rw [e]; exact Int32.le_refl _)]
      exact ⟨-4, μ, rfl, Or.inr ⟨fun c h => hc c (by omega), rfl⟩, hI⟩
    · have ha : a < P.1 := by omega
      rw [if_neg (nI_ge ha (by omega))]
      have fin : ∀ (q : Int32) (μ2 : kt_M) (T : Prop), kz q T → IQ m μ0 μ2 → (T ↔ a ≠ b ∧ Dm P a b) → ∃ v μ1, x_nearest_L34 n m (x_nearest_L2 n m k) n (nI b) (nI a) q (nI 0) μ2 = some (v, μ1) ∧ Fs (Ip P b) P.1 v ∧ IQ m μ0 μ1 := fun q μ2 T hq hI2 hT => by
        obtain ⟨q2, μ3, u1, u2, u3⟩ := pu_near34 (n := n) hP hn (show a < 16 by omega) hb hM (x_nearest_L2 n m k) n 0 q T μ2 (by omega) (by omega) hq hI2
        rw [u1]
        have hIp : (T ∧ ∀ d, 0 ≤ d → d < P.1 → d ≠ b → Dm P d b → Dm P d a) ↔ Ip P b a := by
          rw [hT]
          constructor
          · rintro ⟨⟨g1, g2⟩, g3⟩; exact ⟨g1, g2, fun c g4 g5 => g3 c (Nat.zero_le _) ((g5.ra hP).lt hP) g4 g5⟩
          · rintro ⟨g1, g2, g3⟩; exact ⟨⟨g1, g2⟩, fun d _ _ g4 g5 => g3 d g4 g5⟩
        unfold x_nearest_J86
        rcases u2.iff hIp with ⟨z, hno⟩ | ⟨z, hyes⟩
        · rw [if_pos z, nI_1]
          refine pu_near2 hP hn hb hM k (a + 1) μ3 (by omega) (by omega) u3 (fun c hc1 => ?_)
          by_cases ec : c = a
          · rw [ec]; exact hno
          · exact hc c (by omega)
        · rw [if_neg (by rw [z]; decide)]
          exact ⟨nI a, μ3, rfl, Or.inl ⟨a, ha, hyes, hc, rfl⟩, u3⟩
      by_cases eab : a = b
      · rw [if_pos (by rw [eab])]
        exact fin 0 μ False (Or.inl ⟨rfl, id⟩) hI ⟨False.elim, fun h => h.1 eab⟩
      · rw [if_neg (fun h => eab ((nI_eq (by omega) (by omega)).mp h))]
        obtain ⟨r, μ1, a1, a2, a3⟩ := pu_dom (n := n) hP hn hMu (a := a) (b := b) (by omega) hb
        rw [kq_b2_s a1]
        rcases a2 with ⟨z2, hno⟩ | ⟨z2, hyes⟩
        · rw [if_pos z2]
          exact fin 0 μ1 False (Or.inl ⟨rfl, id⟩) (hI.trans a3) ⟨False.elim, fun h => hno h.2⟩
        · rw [if_neg (by rw [z2]; decide)]
          exact fin 1 μ1 True (Or.inr ⟨rfl, trivial⟩) (hI.trans a3) ⟨fun _ => ⟨eab, hyes⟩, fun _ => trivial⟩
theorem pu_near {n m b : Nat} {P : DP} {μ : kt_M} (hP : WP P 16) (hn : 20 ≤ n) (hb : b < 16) (hM : MP μ m 1 P) : ∃ v μ1, x_nearest n m μ (nI b) = some (v, μ1) ∧ Fs (Ip P b) P.1 v ∧ IQ m μ μ1 := pu_near2 hP hn hb hM n 0 μ (by omega) (by have := hP.1; omega) IQ.refl (fun c hc => by omega)
/-! the reason against threading an edge -/
/-- only scratch of the model has changed: behind, way, isMet -/
def SQ (m : Nat) (μ μ' : kt_M) : Prop := (∀ y k, y ≠ m + 9 → kt_i μ' y k = kt_i μ y k) ∧ ∀ x, x ≠ m + 7 → x ≠ m + 8 → kt_l μ' x = kt_l μ x
theorem SQ.refl {m : Nat} {μ : kt_M} : SQ m μ μ := ⟨fun _ _ _ => rfl, fun _ _ _ => rfl⟩
theorem SQ.trans {m : Nat} {μ μ1 μ2 : kt_M} (h : SQ m μ μ1) (h2 : SQ m μ1 μ2) : SQ m μ μ2 := ⟨fun y k a => (h2.1 y k a).trans (h.1 y k a), fun x a b => (h2.2 x a b).trans (h.2 x a b)⟩
theorem LQ.S {m : Nat} {μ μ' : kt_M} (h : LQ m μ μ') : SQ m μ μ' := ⟨fun y k _ => by rw [h.1], h.2⟩
theorem IQ.S {m : Nat} {μ μ' : kt_M} (h : IQ m μ μ') : SQ m μ μ' := ⟨h.1, fun x _ _ => by rw [h.2]⟩
theorem SQ.MP {m p : Nat} {μ μ' : kt_M} {P : DP} (h : SQ m μ μ') (hM : MP μ m p P) : MP μ' m p P := hM.ext (fun j => h.1 _ j (by omega))
theorem SQ.MA {m : Nat} {μ μ' : kt_M} {A : AV} (h : SQ m μ μ') (hA : MA μ m A) : MA μ' m A := hA.far (h.2 _ (by omega) (by omega))
/-- v is the reason against threading the edge -/
def Rs (P : DP) (A : AV) (lim b x : Nat) (v : Int32) : Prop :=
  (v = 1 ∧ ¬ (e_ok (A b) ∧ e_ok (a_al P A b x))) ∨ (e_ok (A b) ∧ e_ok (a_al P A b x) ∧
    ((v = 2 ∧ ¬ 2 ≤ db_en (P.2 (db_tg (P.2 b) x))) ∨ (2 ≤ db_en (P.2 (db_tg (P.2 b) x)) ∧
      ((v = 3 ∧ e_ok (a_nx P A b x 0) ∧ e_ok (a_nx P A b x 1)) ∨ (¬ (e_ok (a_nx P A b x 0) ∧ e_ok (a_nx P A b x 1)) ∧
        ((v = 4 ∧ Hd P (db_tg (P.2 b) x)) ∨ (¬ Hd P (db_tg (P.2 b) x) ∧
          ((v = 5 ∧ lim < db_na (P.2 (db_tg (P.2 b) x))) ∨ (¬ lim < db_na (P.2 (db_tg (P.2 b) x)) ∧ ((v = 6 ∧ P.1 = 16) ∨ (v = 0 ∧ P.1 ≠ 16)))))))))))
theorem Rs.inj {P : DP} {A : AV} {lim b x : Nat} {v w : Int32} (h : Rs P A lim b x v) (h2 : Rs P A lim b x w) : v = w := by
  unfold Rs at h h2
  rcases h with ⟨a, c⟩ | ⟨o1, o2, h⟩ <;> rcases h2 with ⟨d, e⟩ | ⟨p1, p2, h2⟩
  · exact a.trans d.symm
  · exact absurd ⟨p1, p2⟩ c
  · exact absurd ⟨o1, o2⟩ e
  rcases h with ⟨a, c⟩ | ⟨o3, h⟩ <;> rcases h2 with ⟨d, e⟩ | ⟨p3, h2⟩
  · exact a.trans d.symm
  · exact absurd p3 c
  · exact absurd o3 e
  rcases h with ⟨a, c⟩ | ⟨o4, h⟩ <;> rcases h2 with ⟨d, e⟩ | ⟨p4, h2⟩
  · exact a.trans d.symm
  · exact absurd c p4
  · exact absurd e o4
  rcases h with ⟨a, c⟩ | ⟨o5, h⟩ <;> rcases h2 with ⟨d, e⟩ | ⟨p5, h2⟩
  · exact a.trans d.symm
  · exact absurd c p5
  · exact absurd e o5
  rcases h with ⟨a, c⟩ | ⟨o6, h⟩ <;> rcases h2 with ⟨d, e⟩ | ⟨p6, h2⟩
  · exact a.trans d.symm
  · exact absurd c p6
  · exact absurd e o6
  rcases h with ⟨a, c⟩ | ⟨a, c⟩ <;> rcases h2 with ⟨d, e⟩ | ⟨d, e⟩
  · exact a.trans d.symm
  · exact absurd c e
  · exact absurd e c
  · exact a.trans d.symm
theorem pu_against {n m b x lim : Nat} {P : DP} {A : AV} {μ : kt_M} (hP : WP P 16) (hb : b < P.1) (hn : 52 ≤ n) (hx : x < db_ne (P.2 b)) (hL : LF P A) (hM : MP μ m 1 P) (hA : MA μ m A) (hlim : kt_i μ m 4 = nI lim) (hl4 : lim ≤ 4) : ∃ v μ1, x_against n m μ (nI b) (nI x) = some (v, μ1) ∧ Rs P A lim b x v ∧ SQ m μ μ1 := by
  have hP16 := hP.1
  have hb16 : b < 16 := by omega
  have hD := hP.2 b hb
  have hne := db_ne_le (P.2 b)
  have htl := hD.tg hx
  have hT := hP.2 _ htl
  have ht16 : db_tg (P.2 b) x < 16 := by omega
  unfold x_against
  obtain ⟨r, μ1, a1, a2, a3, -⟩ := pu_isOpen (n := n) (x := x) hP hb hn (by omega) hL hM hA
  rw [kq_b2_s a1]
  rcases a2 with ⟨z, hno⟩ | ⟨z, hk, ho⟩
  · rw [if_pos z]; exact ⟨1, μ1, rfl, Or.inl ⟨rfl, hno⟩, a3.S⟩
  rw [if_neg (by rw [z]; decide)]
  have hM1 := a3.MP hM
  rw [kq_b2_s (show x_of n m μ1 1 (nI b) (14 + nI x) = some (nI (db_tg (P.2 b) x), μ1) from (hM1.2 b hb).to (p := 1) hD (by decide) hb16 hx)]
  rw [kq_b2_s (show x_of n m μ1 1 (nI (db_tg (P.2 b) x)) 13 = some (nI (db_en (P.2 (db_tg (P.2 b) x))), μ1) from (hM1.2 _ htl).en (p := 1) (by decide) ht16), kq_b1_s (pu_isTest hT.2.2.1)]
  by_cases h2 : 2 ≤ db_en (P.2 (db_tg (P.2 b) x))
  · rw [kt_f_t h2, if_neg (by decide)]
    obtain ⟨v, μ2, b1, b2, b3⟩ := pu_outAl (n := n) hP hb hn hx hk ho h2 hL hM1 (a3.MA hA)
    rw [kq_b2_s b1]
    have hM2 := b3.MP hM1
    by_cases e3 : e_ok (a_nx P A b x 0) ∧ e_ok (a_nx P A b x 1)
    · have hv : v = 0 := Oc.inj b2 (Or.inl ⟨rfl, e3⟩)
      rw [if_pos hv]
      exact ⟨3, μ2, rfl, Or.inr ⟨hk, ho, Or.inr ⟨h2, Or.inl ⟨rfl, e3⟩⟩⟩, (a3.trans b3).S⟩
    · have hv : ¬ v = 0 := by
        rcases b2 with ⟨-, g⟩ | ⟨g, -⟩ | ⟨g, -⟩
        · exact absurd g e3
        · rw [g]; decide
        · rw [g]; decide
      rw [if_neg hv]
      obtain ⟨r4, μ4, c1, c2, c3⟩ := pu_head (n := n) hP (by omega) ht16 hM2
      rw [kq_b2_s c1]
      have hM4 := c3.MP hM2
      have hS4 : SQ m μ μ4 := ((a3.trans b3).S).trans c3.S
      rcases c2 with ⟨z4, hno4⟩ | ⟨z4, hyes4⟩
      · rw [if_pos z4, kq_b2_s (show x_of n m μ4 1 (nI (db_tg (P.2 b) x)) 0 = some (nI (db_na (P.2 (db_tg (P.2 b) x))), μ4) from (hM4.2 _ htl).of (p := 1) (w := 0) (by decide) ht16 (by decide) (hM4.2 _ htl).1)]
        have hl : kt_i μ4 m 4 = nI lim := by rw [hS4.1 _ _ (by omega)]; exact hlim
        have hna := hT.1
        rw [hl]
        by_cases e5 : lim < db_na (P.2 (db_tg (P.2 b) x))
        · rw [if_neg (by rw [nI_leI (by omega) (by omega)]; omega)]
          exact ⟨5, μ4, rfl, Or.inr ⟨hk, ho, Or.inr ⟨h2, Or.inr ⟨e3, Or.inr ⟨hno4, Or.inl ⟨rfl, e5⟩⟩⟩⟩⟩, hS4⟩
        · rw [if_pos (by rw [nI_leI (by omega) (by omega)]; omega), kq_b2_s (show x_many n m μ4 1 = some (nI P.1, μ4) from (pu_many (p := 1) (by decide)).trans (pu_pair hM4.1 rfl))]
          by_cases e6 : P.1 = 16
          · rw [if_pos (by rw [e6]; rfl)]
            exact ⟨6, μ4, rfl, Or.inr ⟨hk, ho, Or.inr ⟨h2, Or.inr ⟨e3, Or.inr ⟨hno4, Or.inr ⟨e5, Or.inl ⟨rfl, e6⟩⟩⟩⟩⟩⟩, hS4⟩
          · rw [if_neg (show ¬ nI P.1 = 16 from fun h => e6 ((nI_eq (a := P.1) (b := 16) (by omega) (by decide)).mp h))]
            exact ⟨0, μ4, rfl, Or.inr ⟨hk, ho, Or.inr ⟨h2, Or.inr ⟨e3, Or.inr ⟨hno4, Or.inr ⟨e5, Or.inr ⟨rfl, e6⟩⟩⟩⟩⟩⟩, hS4⟩
      · rw [if_neg (by rw [z4]; decide)]
        exact ⟨4, μ4, rfl, Or.inr ⟨hk, ho, Or.inr ⟨h2, Or.inr ⟨e3, Or.inl ⟨rfl, hyes4⟩⟩⟩⟩, hS4⟩
  · rw [kt_f_f h2, if_pos rfl]
    exact ⟨2, μ1, rfl, Or.inr ⟨hk, ho, Or.inl ⟨rfl, h2⟩⟩, a3.S⟩

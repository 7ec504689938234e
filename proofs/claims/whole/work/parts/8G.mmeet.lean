/-! PURE: the model's ways -/
/-- only isMet has changed -/
def IQ (m : Nat) (μ μ' : kt_M) : Prop := (∀ y k, y ≠ m + 9 → kt_i μ' y k = kt_i μ y k) ∧ kt_l μ' = kt_l μ
theorem IQ.refl {m : Nat} {μ : kt_M} : IQ m μ μ := ⟨fun _ _ _ => rfl, rfl⟩
theorem IQ.trans {m : Nat} {μ μ1 μ2 : kt_M} (h : IQ m μ μ1) (h2 : IQ m μ1 μ2) : IQ m μ μ2 := ⟨fun y k a => (h2.1 y k a).trans (h.1 y k a), h2.2.trans h.2⟩
theorem IQ.si {m k : Nat} {μ : kt_M} {v : Int32} : IQ m μ (kt_si μ (m + 9) k v) := ⟨fun y j h => kt_i_sin h, rfl⟩
theorem IQ.MP {m p : Nat} {μ μ' : kt_M} {P : DP} (h : IQ m μ μ') (hM : MP μ m p P) : MP μ' m p P := hM.ext (fun j => h.1 _ j (by omega))
theorem IQ.MA {m : Nat} {μ μ' : kt_M} {A : AV} (h : IQ m μ μ') (hA : MA μ m A) : MA μ' m A := hA.far (by rw [h.2])
/-- what is met so far can be come to -/
def MS (μ : kt_M) (m : Nat) (P : DP) (av : Nat) : Prop := ∀ b, b < 16 → kt_i μ (m + 9) b = 0 ∨ (kt_i μ (m + 9) b = 1 ∧ Rc P av b)
def m_cnt (μ : kt_M) (m : Nat) : Nat := sumF (fun i => if kt_i μ (m + 9) i = 1 then 1 else 0) 16
theorem m_cnt_le {μ : kt_M} {m : Nat} : m_cnt μ m ≤ 16 := by
  unfold m_cnt
  refine Nat.le_trans (sumF_le 16 (g := fun _ => 1) (fun i _ => by split <;> omega)) ?_
  rw [sumF_const]; decide
theorem m_cnt_lt {μ : kt_M} {m b : Nat} (hb : b < 16) (h : kt_i μ (m + 9) b = 0) : m_cnt μ m < m_cnt (kt_si μ (m + 9) b 1) m := by
  refine sumF_lt 16 (fun i _ => ?_) b hb ?_
  · by_cases e : i = b
    · rw [e, kt_i_sie, if_pos (show (1 : Int32) = 1 from rfl)]; split <;> omega
    · rw [kt_i_sik e]; exact Nat.le_refl _
  · rw [h, kt_i_sie]; decide
/-- the edges of b from side x on bring nothing -/
def MQ1 (μ : kt_M) (m : Nat) (P : DP) (av b x : Nat) : Prop := kt_i μ (m + 9) b = 1 → ∀ y, x ≤ y → y < db_ne (P.2 b) → db_tg (P.2 b) y ≠ av → kt_i μ (m + 9) (db_tg (P.2 b) y) = 1
theorem pu_meet63 {n m b av : Nat} {wv : Int32} {P : DP} {μ0 : kt_M} (hP : WP P 16) (hb : b < P.1) (hM : MP μ0 m 1 P) (hwv : ∀ c, c < 16 → (nI c = wv ↔ c = av)) (K43 : Int32 → Int32 → kt_M → Option (Unit × kt_M)) (K51 : Int32 → Int32 → Int32 → kt_M → Option (Unit × kt_M)) : ∀ (k x : Nat) (q : Int32) (μ : kt_M), x ≤ db_ne (P.2 b) → db_ne (P.2 b) < x + k → (q = 0 ∨ q = 1) → IQ m μ0 μ → MS μ m P av → ∃ q2 μ1, x_meets_L63 n m K43 K51 k wv q (nI b) (nI x) μ = K51 wv q2 (nI (b + 1)) μ1 ∧ IQ m μ0 μ1 ∧ MS μ1 m P av ∧ m_cnt μ m ≤ m_cnt μ1 m ∧ (∀ c, c < 16 → kt_i μ (m + 9) c = 1 → kt_i μ1 (m + 9) c = 1) ∧ ((q2 = 0 ∧ q = 0 ∧ μ1 = μ ∧ MQ1 μ m P av b x) ∨ (q2 = 1 ∧ (q = 1 ∨ m_cnt μ m < m_cnt μ1 m)))
  | 0, x, q, μ, h1, h2, hq, hI, hS => by omega
  | k + 1, x, q, μ, h1, h2, hq, hI, hS => by
    have hD := hP.2 b hb
    have hP16 := hP.1
    have hb16 : b < 16 := by omega
    have hMu := hI.MP hM
    have hne := db_ne_le (P.2 b)
    rw [x_meets_L63]
    unfold x_meets_B63
    rw [kq_b2_s (show x_edgesOf n m μ 1 (nI b) = some (nI (db_ne (P.2 b)), μ) from (hMu.2 b hb).edges (p := 1) hD (by decide) hb16), nI_1]
    have stop : MQ1 μ m P av b x → ∃ q2 μ1, K51 wv q (nI (b + 1)) μ = K51 wv q2 (nI (b + 1)) μ1 ∧ IQ m μ0 μ1 ∧ MS μ1 m P av ∧ m_cnt μ m ≤ m_cnt μ1 m ∧ (∀ c, c < 16 → kt_i μ (m + 9) c = 1 → kt_i μ1 (m + 9) c = 1) ∧ ((q2 = 0 ∧ q = 0 ∧ μ1 = μ ∧ MQ1 μ m P av b x) ∨ (q2 = 1 ∧ (q = 1 ∨ m_cnt μ m < m_cnt μ1 m))) := fun hQ => ⟨q, μ, rfl, hI, hS, Nat.le_refl _, fun _ _ h => h, hq.imp (fun h => ⟨h, h, rfl, hQ⟩) (fun h => ⟨h, Or.inl h⟩)⟩
    by_cases e : x = db_ne (P.2 b)
    · rw [if_pos (by rw [e]; exact Int32.le_refl _)]
      exact stop (fun _ y h3 h4 => by omega)
    · have hx : x < db_ne (P.2 b) := by omega
      rw [if_neg (nI_ge hx (by omega)), kq_ck_t (pu_kin hb16 (by decide)), nI_clamp (by omega)]
      by_cases hm : kt_i μ (m + 9) b = 0
      · rw [if_pos hm]
        exact stop (fun h => by rw [hm] at h; exact absurd h (by decide))
      · rw [if_neg hm]
        obtain ⟨hm1, hrb⟩ := (hS b hb16).resolve_left hm
        have htl := hD.tg hx
        have heg : eg P b (db_tg (P.2 b) x) := ⟨hb, x, hx, rfl⟩
        rw [kq_b2_s (show x_of n m μ 1 (nI b) (14 + nI x) = some (nI (db_tg (P.2 b) x), μ) from (hMu.2 b hb).to (p := 1) hD (by decide) hb16 hx)]
        generalize ht : db_tg (P.2 b) x = t at *
        have ht16 : t < 16 := by omega
        -- what is stored
        have J149 : ∀ (q3 s2 : Int32), (s2 = 0 ∨ s2 = 1) → x_meets_J149 n m K43 K51 (x_meets_L63 n m K43 K51 k) wv q3 (nI b) (nI x) (nI t) s2 μ = x_meets_L63 n m K43 K51 k wv q3 (nI b) (nI (x + 1)) (kt_si μ (m + 9) t s2) := fun q3 s2 hs => by
          unfold x_meets_J149
          rw [kq_ck_t (pu_kin ht16 (by decide)), kq_ck_t hs, nI_clamp (by omega), nI_1]
          rfl
        by_cases htm : kt_i μ (m + 9) t = 0
        · by_cases htw : t = av
          · -- it is the one to pass by
            have hw := (hwv t ht16).mpr htw
            have J121 : ∀ q3, x_meets_J121 n m K43 K51 (x_meets_L63 n m K43 K51 k) wv (nI b) (nI x) (nI t) q3 μ = x_meets_L63 n m K43 K51 k wv q3 (nI b) (nI (x + 1)) μ := fun q3 => by
              unfold x_meets_J121
              rw [kq_ck_t (pu_kin ht16 (by decide)), nI_clamp (by omega), if_pos htm, if_pos hw, J149 q3 0 (Or.inl rfl), kt_si_self htm.symm]
            have hres : ∀ q3, (q3 = 0 ∨ q3 = 1) → q3 = q → ∃ q2 μ1, x_meets_L63 n m K43 K51 k wv q3 (nI b) (nI (x + 1)) μ = K51 wv q2 (nI (b + 1)) μ1 ∧ IQ m μ0 μ1 ∧ MS μ1 m P av ∧ m_cnt μ m ≤ m_cnt μ1 m ∧ (∀ c, c < 16 → kt_i μ (m + 9) c = 1 → kt_i μ1 (m + 9) c = 1) ∧ ((q2 = 0 ∧ q = 0 ∧ μ1 = μ ∧ MQ1 μ m P av b x) ∨ (q2 = 1 ∧ (q = 1 ∨ m_cnt μ m < m_cnt μ1 m))) := by
              intro q3 hq3 eq
              subst eq
              obtain ⟨q2, μ1, u1, u2, u3, u4, u5, u6⟩ := pu_meet63 hP hb hM hwv K43 K51 k (x + 1) q3 μ (by omega) (by omega) hq3 hI hS
              refine ⟨q2, μ1, u1, u2, u3, u4, u5, u6.imp (fun h => ⟨h.1, h.2.1, h.2.2.1, fun hb1 y h3 h4 h5 => ?_⟩) id⟩
              by_cases ey : y = x
              · subst ey; rw [ht] at h5; exact absurd htw h5
              · exact h.2.2.2 hb1 y (by omega) h4 h5
            rcases hq with hq | hq
            · rw [if_pos hq, if_pos hw, J121]; exact hres 0 (Or.inl rfl) hq.symm
            · rw [if_neg (by rw [hq]; decide), J121]; exact hres 1 (Or.inr rfl) hq.symm
          · -- it is new
            have hw : ¬ nI t = wv := fun h => htw ((hwv t ht16).mp h)
            have J121 : ∀ q3, x_meets_J121 n m K43 K51 (x_meets_L63 n m K43 K51 k) wv (nI b) (nI x) (nI t) q3 μ = x_meets_L63 n m K43 K51 k wv q3 (nI b) (nI (x + 1)) (kt_si μ (m + 9) t 1) := fun q3 => by
              unfold x_meets_J121
              rw [kq_ck_t (pu_kin ht16 (by decide)), nI_clamp (by omega), if_pos htm, if_neg hw, J149 q3 1 (Or.inr rfl)]
            have hgo : (if q = 0 then (if nI t = wv then x_meets_J121 n m K43 K51 (x_meets_L63 n m K43 K51 k) wv (nI b) (nI x) (nI t) 0 μ else kq_ck (kq_in (nI t) 16) (if kt_i μ (m + 9) (nI t).toNatClampNeg = 0 then x_meets_J121 n m K43 K51 (x_meets_L63 n m K43 K51 k) wv (nI b) (nI x) (nI t) 1 μ else x_meets_J121 n m K43 K51 (x_meets_L63 n m K43 K51 k) wv (nI b) (nI x) (nI t) 0 μ)) else x_meets_J121 n m K43 K51 (x_meets_L63 n m K43 K51 k) wv (nI b) (nI x) (nI t) 1 μ) = x_meets_L63 n m K43 K51 k wv 1 (nI b) (nI (x + 1)) (kt_si μ (m + 9) t 1) := by
              rcases hq with hq | hq
              · rw [if_pos hq, if_neg hw, kq_ck_t (pu_kin ht16 (by decide)), nI_clamp (by omega), if_pos htm, J121]
              · rw [if_neg (by rw [hq]; decide), J121]
            rw [hgo]
            have hlt := m_cnt_lt ht16 htm
            obtain ⟨q2, μ1, u1, u2, u3, u4, u5, u6⟩ := pu_meet63 hP hb hM hwv K43 K51 k (x + 1) 1 (kt_si μ (m + 9) t 1) (by omega) (by omega) (Or.inr rfl) (hI.trans IQ.si) (fun c hc => by
              rw [kt_i_si]
              by_cases ec : c = t
              · rw [if_pos ⟨rfl, ec⟩, ec]; exact Or.inr ⟨rfl, hrb.next heg htw⟩
              · rw [if_neg (fun h => ec h.2)]; exact hS c hc)
            refine ⟨q2, μ1, u1, u2, u3, by omega, fun c hc h3 => u5 c hc ?_, Or.inr ⟨u6.elim (fun h => absurd h.2.1 (by decide)) (fun h => h.1), Or.inr (by omega)⟩⟩
            rw [kt_i_si]
            by_cases ec : c = t
            · rw [if_pos ⟨rfl, ec⟩]
            · rw [if_neg (fun h => ec h.2)]; exact h3
        · -- it was met
          have htm1 := ((hS t ht16).resolve_left htm).1
          have J121 : ∀ q3, x_meets_J121 n m K43 K51 (x_meets_L63 n m K43 K51 k) wv (nI b) (nI x) (nI t) q3 μ = x_meets_L63 n m K43 K51 k wv q3 (nI b) (nI (x + 1)) μ := fun q3 => by
            unfold x_meets_J121
            rw [kq_ck_t (pu_kin ht16 (by decide)), nI_clamp (by omega), if_neg htm, J149 q3 1 (Or.inr rfl), kt_si_self htm1.symm]
          have hres : ∀ q3, (q3 = 0 ∨ q3 = 1) → q3 = q → ∃ q2 μ1, x_meets_L63 n m K43 K51 k wv q3 (nI b) (nI (x + 1)) μ = K51 wv q2 (nI (b + 1)) μ1 ∧ IQ m μ0 μ1 ∧ MS μ1 m P av ∧ m_cnt μ m ≤ m_cnt μ1 m ∧ (∀ c, c < 16 → kt_i μ (m + 9) c = 1 → kt_i μ1 (m + 9) c = 1) ∧ ((q2 = 0 ∧ q = 0 ∧ μ1 = μ ∧ MQ1 μ m P av b x) ∨ (q2 = 1 ∧ (q = 1 ∨ m_cnt μ m < m_cnt μ1 m))) := by
            intro q3 hq3 eq
            subst eq
            obtain ⟨q2, μ1, u1, u2, u3, u4, u5, u6⟩ := pu_meet63 hP hb hM hwv K43 K51 k (x + 1) q3 μ (by omega) (by omega) hq3 hI hS
            refine ⟨q2, μ1, u1, u2, u3, u4, u5, u6.imp (fun h => ⟨h.1, h.2.1, h.2.2.1, fun hb1 y h3 h4 h5 => ?_⟩) id⟩
            by_cases ey : y = x
            · subst ey; rw [ht]; exact htm1
            · exact h.2.2.2 hb1 y (by omega) h4 h5
          rcases hq with hq | hq
          · by_cases hw : nI t = wv
            · rw [if_pos hq, if_pos hw, J121]; exact hres 0 (Or.inl rfl) hq.symm
            · rw [if_pos hq, if_neg hw, kq_ck_t (pu_kin ht16 (by decide)), nI_clamp (by omega), if_neg htm, J121]; exact hres 0 (Or.inl rfl) hq.symm
          · rw [if_neg (by rw [hq]; decide), J121]; exact hres 1 (Or.inr rfl) hq.symm
theorem pu_meet51 {n m av : Nat} {wv : Int32} {P : DP} {μ0 : kt_M} (hP : WP P 16) (hn : 20 ≤ n) (hM : MP μ0 m 1 P) (hwv : ∀ c, c < 16 → (nI c = wv ↔ c = av)) (K43 : Int32 → Int32 → kt_M → Option (Unit × kt_M)) : ∀ (k b : Nat) (q : Int32) (μ : kt_M), b ≤ P.1 → P.1 < b + k → (q = 0 ∨ q = 1) → IQ m μ0 μ → MS μ m P av → ∃ q2 μ1, x_meets_L51 n m K43 k wv q (nI b) μ = K43 wv q2 μ1 ∧ IQ m μ0 μ1 ∧ MS μ1 m P av ∧ m_cnt μ m ≤ m_cnt μ1 m ∧ (∀ c, c < 16 → kt_i μ (m + 9) c = 1 → kt_i μ1 (m + 9) c = 1) ∧ ((q2 = 0 ∧ q = 0 ∧ μ1 = μ ∧ ∀ c, b ≤ c → c < P.1 → MQ1 μ m P av c 0) ∨ (q2 = 1 ∧ (q = 1 ∨ m_cnt μ m < m_cnt μ1 m)))
  | 0, b, q, μ, h1, h2, hq, hI, hS => by omega
  | k + 1, b, q, μ, h1, h2, hq, hI, hS => by
    have hP16 := hP.1
    have hMu := hI.MP hM
    rw [x_meets_L51]
    unfold x_meets_B51
    rw [kq_b2_s (show x_many n m μ 1 = some (nI P.1, μ) from (pu_many (p := 1) (by decide)).trans (pu_pair hMu.1 rfl))]
    by_cases e : b = P.1
    · rw [if_pos (by rw [e]; exact Int32.le_refl _)]
      exact ⟨q, μ, rfl, hI, hS, Nat.le_refl _, fun _ _ h => h, hq.imp (fun h => ⟨h, h, rfl, fun c h3 h4 => by omega⟩) (fun h => ⟨h, Or.inl h⟩)⟩
    · have hb : b < P.1 := by omega
      have hne := db_ne_le (P.2 b)
      rw [if_neg (nI_ge hb (by omega)), show (0 : Int32) = nI 0 from rfl]
      obtain ⟨q3, μ3, t1, t2, t3, t4, t5, t6⟩ := pu_meet63 (n := n) hP hb hM hwv K43 (x_meets_L51 n m K43 k) n 0 q μ (by omega) (by omega) hq hI hS
      rw [t1]
      have hq3 : q3 = 0 ∨ q3 = 1 := t6.imp (fun h => h.1) (fun h => h.1)
      obtain ⟨q2, μ1, u1, u2, u3, u4, u5, u6⟩ := pu_meet51 hP hn hM hwv K43 k (b + 1) q3 μ3 (by omega) (by omega) hq3 t2 t3
      refine ⟨q2, μ1, u1, u2, u3, by omega, fun c hc h => u5 c hc (t5 c hc h), ?_⟩
      rcases u6 with ⟨v1, v2, v3, v4⟩ | ⟨v1, v2⟩
      · rcases t6 with ⟨w1, w2, w3, w4⟩ | ⟨w1, w2⟩
        · subst w3
          refine Or.inl ⟨v1, w2, v3, fun c h3 h4 => ?_⟩
          by_cases ec : c = b
          · subst ec; exact w4
          · exact v4 c (by omega) h4
        · rw [v2] at w1; exact absurd w1 (by decide)
      · refine Or.inr ⟨v1, ?_⟩
        rcases v2 with v2 | v2
        · rcases t6 with ⟨w1, -⟩ | ⟨w1, w2⟩
          · rw [v2] at w1; exact absurd w1 (by decide)
          · exact w2.imp id (fun h => by omega)
        · exact Or.inr (by omega)
theorem pu_meet43 {n m av : Nat} {wv : Int32} {P : DP} {μ0 : kt_M} (hP : WP P 16) (hn : 20 ≤ n) (hM : MP μ0 m 1 P) (hwv : ∀ c, c < 16 → (nI c = wv ↔ c = av)) : ∀ (k : Nat) (q : Int32) (μ : kt_M), (q = 1 ∧ 18 < m_cnt μ m + k) ∨ (q = 0 ∧ 0 < k ∧ ∀ c, c < P.1 → MQ1 μ m P av c 0) → IQ m μ0 μ → MS μ m P av → (0 < P.1 → av ≠ 0 → kt_i μ (m + 9) 0 = 1) → ∃ μ1, x_meets_L43 n m k wv q μ = some ((), μ1) ∧ IQ m μ0 μ1 ∧ ∀ b, b < 16 → kz (kt_i μ1 (m + 9) b) (Rc P av b)
  | 0, q, μ, hq, hI, hS, h0 => by have := m_cnt_le (μ := μ) (m := m); omega
  | k + 1, q, μ, hq, hI, hS, h0 => by
    have hw := m_cnt_le (μ := μ) (m := m)
    have hP16 := hP.1
    rw [x_meets_L43]
    unfold x_meets_B43
    rcases hq with ⟨hq, hk⟩ | ⟨hq, _, hQ⟩
    · rw [if_neg (by rw [hq]; decide)]
      obtain ⟨q2, μ1, u1, u2, u3, u4, u5, u6⟩ := pu_meet51 (n := n) hP hn hM hwv (x_meets_L43 n m k) n 0 0 μ (by omega) (by omega) (Or.inl rfl) hI hS
      rw [show x_meets_L51 n m (x_meets_L43 n m k) n wv 0 0 μ = x_meets_L51 n m (x_meets_L43 n m k) n wv 0 (nI 0) μ from rfl, u1]
      rcases u6 with ⟨v1, v2, v3, v4⟩ | ⟨v1, v2⟩
      · subst v3
        exact pu_meet43 hP hn hM hwv k q2 μ1 (Or.inr ⟨v1, by omega, fun c hc => v4 c (Nat.zero_le _) hc⟩) u2 u3 h0
      · exact pu_meet43 hP hn hM hwv k q2 μ1 (Or.inl ⟨v1, by rcases v2 with v2 | v2; exact absurd v2 (by decide); omega⟩) u2 u3 (fun a b => u5 0 (by decide) (h0 a b))
    · rw [if_pos hq]
      refine ⟨μ, rfl, hI, fun b hb => ?_⟩
      rcases hS b hb with h1 | ⟨h1, h2⟩
      · refine Or.inl ⟨h1, fun hr => ?_⟩
        have := hr (fun d => d < P.1 ∧ kt_i μ (m + 9) d = 1) (fun a b => ⟨a, h0 a b⟩) (fun d e hd he hne => by
          obtain ⟨k1, x, k2, k3⟩ := he
          subst k3
          exact ⟨(hP.2 d k1).tg k2, hQ d k1 hd.2 x (Nat.zero_le _) k2 hne⟩)
        rw [h1] at this; exact absurd this.2 (by decide)
      · exact Or.inr ⟨h1, h2⟩
theorem pu_meet2 {n m av : Nat} {wv : Int32} {P : DP} {μ0 : kt_M} (hP : WP P 16) (hn : 20 ≤ n) (hM : MP μ0 m 1 P) (hwv : ∀ c, c < 16 → (nI c = wv ↔ c = av)) : ∀ (k i : Nat) (μ : kt_M), i ≤ 16 → 16 < i + k → IQ m μ0 μ → (∀ b, b < i → kt_i μ (m + 9) b = if b = 0 ∧ 0 < P.1 ∧ av ≠ 0 then 1 else 0) → ∃ μ1, x_meets_L2 n m k wv (nI i) μ = some ((), μ1) ∧ IQ m μ0 μ1 ∧ ∀ b, b < 16 → kz (kt_i μ1 (m + 9) b) (Rc P av b)
  | 0, i, μ, h1, h2, hI, hS => by omega
  | k + 1, i, μ, h1, h2, hI, hS => by
    have hP16 := hP.1
    have hMu := hI.MP hM
    rw [x_meets_L2]
    unfold x_meets_B2
    by_cases e : i = 16
    · subst e
      rw [if_pos (by decide)]
      refine pu_meet43 hP hn hM hwv n 1 μ (Or.inl ⟨rfl, by omega⟩) hI (fun b hb => ?_) (fun a b => by rw [hS 0 (by decide), if_pos ⟨rfl, a, b⟩])
      rw [hS b hb]
      by_cases ec : b = 0 ∧ 0 < P.1 ∧ av ≠ 0
      · rw [if_pos ec]; exact Or.inr ⟨rfl, by rw [ec.1]; exact Rc.zero ec.2.1 ec.2.2⟩
      · rw [if_neg ec]; exact Or.inl rfl
    · have hi : i < 16 := by omega
      rw [if_neg (by rw [pu_lit]; exact nI_ge hi (by decide))]
      have J34 : ∀ s2 : Int32, (s2 = 0 ∨ s2 = 1) → x_meets_J34 n m (x_meets_L2 n m k) wv (nI i) (nI i) s2 μ = x_meets_L2 n m k wv (nI (i + 1)) (kt_si μ (m + 9) i s2) := fun s2 hs => by
        unfold x_meets_J34
        rw [kq_ck_t (pu_kin hi (by decide)), kq_ck_t hs, nI_clamp (by omega), nI_1]
        rfl
      have go : ∀ s2 : Int32, s2 = (if i = 0 ∧ 0 < P.1 ∧ av ≠ 0 then 1 else 0) → ∃ μ1, x_meets_L2 n m k wv (nI (i + 1)) (kt_si μ (m + 9) i s2) = some ((), μ1) ∧ IQ m μ0 μ1 ∧ ∀ b, b < 16 → kz (kt_i μ1 (m + 9) b) (Rc P av b) := fun s2 hs => by
        refine pu_meet2 hP hn hM hwv k (i + 1) _ (by omega) (by omega) (hI.trans IQ.si) (fun b hb => ?_)
        rw [kt_i_si]
        by_cases ec : b = i
        · rw [if_pos ⟨rfl, ec⟩, ec, hs]
        · rw [if_neg (fun h => ec h.2)]; exact hS b (by omega)
      by_cases e0 : i = 0
      · subst e0
        rw [if_pos (show nI 0 = 0 from rfl), kq_b2_s (show x_many n m μ 1 = some (nI P.1, μ) from (pu_many (p := 1) (by decide)).trans (pu_pair hMu.1 rfl))]
        by_cases ep : P.1 = 0
        · rw [if_pos (by rw [ep]; decide), J34 0 (Or.inl rfl)]
          exact go 0 (by rw [if_neg (by omega)])
        · rw [if_neg (nI_nle (by omega) (by omega))]
          have hw0 : wv = 0 ↔ av = 0 := by
            have := hwv 0 (by decide)
            constructor
            · intro h; exact (this.mp (by rw [h]; rfl)).symm
            · intro h; exact (this.mpr h.symm).symm
          by_cases ew : wv = 0
          · rw [if_pos ew, J34 0 (Or.inl rfl)]
            exact go 0 (by rw [if_neg (fun h => h.2.2 (hw0.mp ew))])
          · rw [if_neg ew, J34 1 (Or.inr rfl)]
            exact go 1 (by rw [if_pos ⟨rfl, by omega, fun h => ew (hw0.mpr h)⟩])
      · rw [if_neg (nI_ne0 (by omega) (by omega)), J34 0 (Or.inl rfl)]
        exact go 0 (by rw [if_neg (fun h => e0 h.1)])
theorem pu_meets {n m av : Nat} {wv : Int32} {P : DP} {μ : kt_M} (hP : WP P 16) (hn : 20 ≤ n) (hM : MP μ m 1 P) (hwv : ∀ c, c < 16 → (nI c = wv ↔ c = av)) : ∃ μ1, x_meets n m μ wv = some ((), μ1) ∧ IQ m μ μ1 ∧ ∀ b, b < 16 → kz (kt_i μ1 (m + 9) b) (Rc P av b) := pu_meet2 hP hn hM hwv n 0 μ (by omega) (by omega) IQ.refl (fun b hb => by omega)
theorem wv_none : ∀ c, c < 16 → (nI c = (-4) ↔ c = 99) := fun c hc => ⟨fun h => absurd h (pu_ne4 (by omega)), fun h => by omega⟩
theorem wv_some {a : Nat} (ha : a < 16) : ∀ c, c < 16 → (nI c = nI a ↔ c = a) := fun c hc => nI_eq (by omega) (by omega)
theorem pu_dom {n m a b : Nat} {P : DP} {μ : kt_M} (hP : WP P 16) (hn : 20 ≤ n) (hM : MP μ m 1 P) (ha : a < 16) (hb : b < 16) : ∃ r μ1, x_doesDominate n m μ (nI a) (nI b) = some (r, μ1) ∧ kz r (Dm P a b) ∧ IQ m μ μ1 := by
  unfold x_doesDominate
  obtain ⟨μ1, a1, a2, a3⟩ := pu_meets (n := n) hP hn hM wv_none
  rw [kq_b2_s a1, kq_ck_t (pu_kin ha (by decide)), nI_clamp (by omega)]
  by_cases e1 : kt_i μ1 (m + 9) a = 0
  · rw [if_pos e1]
    exact ⟨0, μ1, rfl, Or.inl ⟨rfl, fun h => ((a3 a ha).elim (fun h2 => h2.2) (fun h2 => by rw [h2.1] at e1; exact absurd e1 (by decide))) (h.ra hP)⟩, a2⟩
  · rw [if_neg e1, kq_ck_t (pu_kin hb (by decide)), nI_clamp (by omega)]
    by_cases e2 : kt_i μ1 (m + 9) b = 0
    · rw [if_pos e2]
      exact ⟨0, μ1, rfl, Or.inl ⟨rfl, fun h => ((a3 b hb).elim (fun h2 => h2.2) (fun h2 => by rw [h2.1] at e2; exact absurd e2 (by decide))) h.1⟩, a2⟩
    · rw [if_neg e2]
      have hrb : Rc P 99 b := ((a3 b hb).resolve_left (fun h => e2 h.1)).2
      obtain ⟨μ2, b1, b2, b3⟩ := pu_meets (n := n) hP hn (a2.MP hM) (wv_some ha)
      rw [kq_b2_s b1]
      by_cases e3 : a = b
      · rw [if_pos (by rw [e3])]
        exact ⟨1, μ2, rfl, Or.inr ⟨rfl, by rw [e3]; exact Dm.self hrb⟩, a2.trans b2⟩
      · rw [if_neg (fun h => e3 ((nI_eq (by omega) (by omega)).mp h)), kq_ck_t (pu_kin hb (by decide))]
        rcases b3 b hb with ⟨h1, h2⟩ | ⟨h1, h2⟩
        · rw [if_pos h1]; exact ⟨1, μ2, rfl, Or.inr ⟨rfl, hrb, h2⟩, a2.trans b2⟩
        · rw [if_neg (by rw [h1]; decide)]; exact ⟨0, μ2, rfl, Or.inl ⟨rfl, fun h => h.2 h2⟩, a2.trans b2⟩
/-- h is a head -/
def Hd (P : DP) (h : Nat) : Prop := ∃ b, eg P b h ∧ Dm P h b
theorem pu_head13 {n m h b : Nat} {P : DP} {μ0 : kt_M} (hP : WP P 16) (hn : 20 ≤ n) (hb : b < P.1) (hh : h < 16) (hM : MP μ0 m 1 P) (K2 : Int32 → Int32 → kt_M → Option (Int32 × kt_M)) : ∀ (k x : Nat) (μ : kt_M), x ≤ db_ne (P.2 b) → db_ne (P.2 b) < x + k → IQ m μ0 μ → ∃ μ1, IQ m μ0 μ1 ∧ ((x_isHead_L13 n m K2 k (nI h) (nI b) (nI x) μ = some (1, μ1) ∧ Hd P h) ∨ (x_isHead_L13 n m K2 k (nI h) (nI b) (nI x) μ = K2 (nI h) (nI (b + 1)) μ1 ∧ ∀ y, x ≤ y → y < db_ne (P.2 b) → db_tg (P.2 b) y = h → ¬ Dm P h b))
  | 0, x, μ, h1, h2, hI => by omega
  | k + 1, x, μ, h1, h2, hI => by
    have hD := hP.2 b hb
    have hP16 := hP.1
    have hb16 : b < 16 := by omega
    have hMu := hI.MP hM
    have hne := db_ne_le (P.2 b)
    rw [x_isHead_L13]
    unfold x_isHead_B13
    rw [kq_b2_s (show x_edgesOf n m μ 1 (nI b) = some (nI (db_ne (P.2 b)), μ) from (hMu.2 b hb).edges (p := 1) hD (by decide) hb16), nI_1, nI_1]
    by_cases e : x = db_ne (P.2 b)
    · rw [if_pos (by rw [e]; exact Int32.le_refl _)]
      exact ⟨μ, hI, Or.inr ⟨rfl, fun y h3 h4 => by omega⟩⟩
    · have hx : x < db_ne (P.2 b) := by omega
      have htl := hD.tg hx
      rw [if_neg (nI_ge hx (by omega)), kq_b2_s (show x_of n m μ 1 (nI b) (14 + nI x) = some (nI (db_tg (P.2 b) x), μ) from (hMu.2 b hb).to (p := 1) hD (by decide) hb16 hx)]
      by_cases et : db_tg (P.2 b) x = h
      · rw [if_pos (by rw [et])]
        obtain ⟨r, μ1, a1, a2, a3⟩ := pu_dom (n := n) hP hn hMu hh hb16
        rw [kq_b2_s a1]
        rcases a2 with ⟨z, hno⟩ | ⟨z, hyes⟩
        · rw [if_pos z]
          obtain ⟨μ2, b1, b2⟩ := pu_head13 hP hn hb hh hM K2 k (x + 1) μ1 (by omega) (by omega) (hI.trans a3)
          exact ⟨μ2, b1, b2.imp id (fun g => ⟨g.1, fun y h3 h4 h5 => hno⟩)⟩
        · rw [if_neg (by rw [z]; decide)]
          exact ⟨μ1, hI.trans a3, Or.inl ⟨rfl, b, ⟨hb, x, hx, et⟩, hyes⟩⟩
      · rw [if_neg (fun g => et ((nI_eq (by omega) (by omega)).mp g))]
        obtain ⟨μ2, b1, b2⟩ := pu_head13 hP hn hb hh hM K2 k (x + 1) μ (by omega) (by omega) hI
        refine ⟨μ2, b1, b2.imp id (fun g => ⟨g.1, fun y h3 h4 h5 => ?_⟩)⟩
        by_cases ey : y = x
        · subst ey; exact absurd h5 et
        · exact g.2 y (by omega) h4 h5
theorem pu_head2 {n m h : Nat} {P : DP} {μ0 : kt_M} (hP : WP P 16) (hn : 20 ≤ n) (hh : h < 16) (hM : MP μ0 m 1 P) : ∀ (k b : Nat) (μ : kt_M), b ≤ P.1 → P.1 < b + k → IQ m μ0 μ → (∀ c, c < b → eg P c h → ¬ Dm P h c) → ∃ r μ1, x_isHead_L2 n m k (nI h) (nI b) μ = some (r, μ1) ∧ kz r (Hd P h) ∧ IQ m μ0 μ1
  | 0, b, μ, h1, h2, hI, hc => by omega
  | k + 1, b, μ, h1, h2, hI, hc => by
    have hP16 := hP.1
    have hMu := hI.MP hM
    rw [x_isHead_L2]
    unfold x_isHead_B2
    rw [kq_b2_s (show x_many n m μ 1 = some (nI P.1, μ) from (pu_many (p := 1) (by decide)).trans (pu_pair hMu.1 rfl))]
    by_cases e : b = P.1
    · rw [if_pos (by rw [e]; exact Int32.le_refl _)]
      exact ⟨0, μ, rfl, Or.inl ⟨rfl, fun ⟨c, h3, h4⟩ => hc c (by have := h3.1; omega) h3 h4⟩, hI⟩
    · have hb : b < P.1 := by omega
      have hne := db_ne_le (P.2 b)
      rw [if_neg (nI_ge hb (by omega)), show (0 : Int32) = nI 0 from rfl]
      obtain ⟨μ1, a1, a2⟩ := pu_head13 (n := n) hP hn hb hh hM (x_isHead_L2 n m k) n 0 μ (by omega) (by omega) hI
      rcases a2 with ⟨a2, a3⟩ | ⟨a2, a3⟩
      · rw [a2]; exact ⟨1, μ1, rfl, Or.inr ⟨rfl, a3⟩, a1⟩
      · rw [a2]
        refine pu_head2 hP hn hh hM k (b + 1) μ1 (by omega) (by omega) a1 (fun c hc1 hc2 => ?_)
        by_cases ec : c = b
        · subst ec
          obtain ⟨k1, x, k2, k3⟩ := hc2
          exact a3 x (Nat.zero_le _) k2 k3
        · exact hc c (by omega) hc2
theorem pu_head {n m h : Nat} {P : DP} {μ : kt_M} (hP : WP P 16) (hn : 20 ≤ n) (hh : h < 16) (hM : MP μ m 1 P) : ∃ r μ1, x_isHead n m μ (nI h) = some (r, μ1) ∧ kz r (Hd P h) ∧ IQ m μ μ1 := pu_head2 hP hn hh hM n 0 μ (by omega) (by have := hP.1; omega) IQ.refl (fun c hc => by omega)

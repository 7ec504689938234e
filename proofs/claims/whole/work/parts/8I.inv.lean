/-! PURE: what holds of class and model between two calls -/
def AN (μ : kt_M) (o : Nat) (P : DP) : Prop := ∃ A, LF P A ∧ FA μ (o + 154) P A ∧ FO μ (o + 154) P A 32 ∧ PA μ (o + 361) P
def kSh (μ : kt_M) (o m : Nat) : Prop := ∀ k, k < 4 → ((kt_i μ (o + 514 + 2 * k) 1 = -1 ∧ kt_i μ (m + 16) k = -4) ∨ ∃ t, t < 3 ∧ kt_i μ (o + 514 + 2 * k) 1 = nI t ∧ kt_i μ (m + 16) k = nI t) ∧ (∃ n, n ≤ 40 ∧ kt_i μ (o + 514 + 2 * k) 2 = nI n ∧ kt_i μ (m + 17) k = nI n) ∧ ∀ i, i < 40 → kt_i μ (o + 514 + 2 * k + 1) i = kt_i μ (m + 18) (40 * k + i)
/-- the original: its blocks know their places -/
def WO (P : DP) : Prop := WP P 8 ∧ ∀ b, b < P.1 → db_or (P.2 b) = b
def kIS (μ : kt_M) (o m : Nat) (P0 P1 : DP) (PI : Nat → DP) (L lim : Nat) : Prop := o + 522 ≤ m ∧ (WO P0 ∧ CP μ (o + 42) P0 ∧ MP μ m 0 P0) ∧ (WP P1 16 ∧ CP μ (o + 81) P1 ∧ MP μ m 1 P1) ∧ (∀ k, k < 2 → WP (PI k) 16 ∧ CP μ (o + 372 + 71 * k) (PI k) ∧ (kt_i μ (o + 153) k = 1 → MP μ m (2 + k) (PI k))) ∧ (NW μ (o + 3) ∧ NW μ (o + 42) ∧ NW μ (o + 81) ∧ ∀ k, k < 2 → NW μ (o + 372 + 71 * k)) ∧ kf_n μ (o + 154) ∧ (¬ kt_i μ o 15 = 0 → AN μ o P1) ∧ (kt_01 μ (o + 153) ∧ ∀ k, k < 2 → kt_i μ (m + 4) k = kt_i μ (o + 153) k) ∧ (lim ≤ 4 ∧ kt_i μ o 13 = nI lim ∧ kt_i μ m 4 = nI lim) ∧ (L ≤ 200 ∧ kt_i μ (o + 1) 1 = nI L ∧ kt_i μ m 6 = nI L ∧ ∀ i, i < L → ∃ c, c ≤ 127 ∧ kt_i μ (o + 2) i = nI c ∧ kt_i μ (m + 5) i = nI c) ∧ kt_i μ (o + 1) 2 = kt_i μ m 11 ∧ kt_i μ o 14 = kt_i μ m 33 ∧ (∀ i, i < 8 → ∃ c, c ≤ 51 ∧ kt_i μ (o + 369) i = nI c ∧ kt_i μ (m + 3) i = nI c) ∧ kSh μ o m
def kInv (μ : kt_M) (o m : Nat) : Prop := ∃ P0 P1 PI L lim, kIS μ o m P0 P1 PI L lim
/-- the cells that last -/
def kCel (o m y k : Nat) : Prop := (o ≤ y ∧ y < o + 522 ∧ ¬ (y = o + 1 ∧ 3 ≤ k) ∧ ¬ (o + 3 ≤ y ∧ y < o + 42 ∧ y ≠ o + 4) ∧ ¬ (o + 364 ≤ y ∧ y ≤ o + 368) ∧ y ≠ o + 370) ∨ (m ≤ y ∧ y < m + 19 ∧ ¬ (y = m ∧ ((7 ≤ k ∧ k ≤ 10) ∨ k = 12 ∨ (22 ≤ k ∧ k ≤ 28))) ∧ y ≠ m + 2 ∧ ¬ (m + 6 ≤ y ∧ y ≤ m + 15))
theorem FO.ext {μ μ' : kt_M} {p e : Nat} {P : DP} {A : AV} (h : FO μ p P A e) (he : ∀ k, kt_i μ' (p + 6) k = kt_i μ (p + 6) k) : FO μ' p P A e := fun b x h1 h2 h3 h4 h5 h6 => by rw [he]; exact h b x h1 h2 h3 h4 h5 h6
theorem PA.ext {μ μ' : kt_M} {p : Nat} {P : DP} (h : PA μ p P) (he : ∀ y k, p ≤ y → y < p + 3 → kt_i μ' y k = kt_i μ y k) : PA μ' p P := by
  obtain ⟨h1, h2, h3⟩ := h
  exact ⟨fun c hc => by rw [he _ _ (by omega) (by omega)]; exact h1 c hc, fun b hb a ha => by rw [he _ _ (by omega) (by omega)]; exact h2 b hb a ha, fun c hc => by rw [he _ _ (by omega) (by omega)]; exact h3 c hc⟩
theorem AN.ext {μ μ' : kt_M} {o : Nat} {P : DP} (h : AN μ o P) (he : ∀ y k, o + 154 ≤ y → y < o + 364 → kt_i μ' y k = kt_i μ y k) : AN μ' o P := by
  obtain ⟨A, h1, h2, h3, h4⟩ := h
  exact ⟨A, h1, h2.ext (fun y k hy => he y k (by omega) (by omega)), h3.ext (fun k => he _ k (by omega) (by omega)), h4.ext (fun y k h5 h6 => he y k (by omega) (by omega))⟩
theorem NW.ext {μ μ' : kt_M} {q : Nat} (h : NW μ q) (he : ∀ k, kt_i μ' (q + 1) k = kt_i μ (q + 1) k) : NW μ' q := ⟨by rw [he]; exact h.1, by rw [he]; exact h.2⟩
theorem kIS.ext {μ μ' : kt_M} {o m : Nat} {P0 P1 : DP} {PI : Nat → DP} {L lim : Nat} (h : kIS μ o m P0 P1 PI L lim) (he : ∀ y k, kCel o m y k → kt_i μ' y k = kt_i μ y k) : kIS μ' o m P0 P1 PI L lim := by
  obtain ⟨h1, ⟨a1, a2, a3⟩, ⟨b1, b2, b3⟩, c, ⟨d1, d2, d3, d4⟩, e, f, ⟨g1, g2⟩, ⟨i1, i2, i3⟩, ⟨j1, j2, j3, j4⟩, k1, k2, l, s⟩ := h
  have hc : ∀ y k, o + 42 ≤ y → y < o + 364 → kt_i μ' y k = kt_i μ y k := fun y k q1 q2 => he y k (Or.inl (by omega))
  have hm : ∀ y k, (y = m + 1 ∨ y = m + 3 ∨ y = m + 4 ∨ y = m + 5 ∨ y = m + 16 ∨ y = m + 17 ∨ y = m + 18) → kt_i μ' y k = kt_i μ y k := fun y k q => he y k (Or.inr (by omega))
  have hi : ∀ y k, o + 371 ≤ y → y < o + 522 → kt_i μ' y k = kt_i μ y k := fun y k q1 q2 => he y k (Or.inl (by omega))
  refine ⟨h1, ⟨a1, a2.ext a1.1.1 (fun y k q1 q2 => hc y k (by omega) (by omega)), a3.ext (fun j => hm _ j (by omega))⟩, ⟨b1, b2.ext b1.1 (fun y k q1 q2 => hc y k (by omega) (by omega)), b3.ext (fun j => hm _ j (by omega))⟩, fun k hk => ⟨(c k hk).1, (c k hk).2.1.ext (c k hk).1.1 (fun y j q1 q2 => hi y j (by omega) (by omega)), fun hq => ((c k hk).2.2 (by rw [← hc _ _ (by omega) (by omega)]; exact hq)).ext (fun j => hm _ j (by omega))⟩, ⟨d1.ext (fun k => he _ k (Or.inl (by omega))), d2.ext (fun k => hc _ k (by omega) (by omega)), d3.ext (fun k => hc _ k (by omega) (by omega)), fun k hk => (d4 k hk).ext (fun j => hi _ j (by omega) (by omega))⟩, e.far (fun y k q1 q2 => hc y k (by omega) (by omega)), fun hq => (f (by rw [← he o 15 (Or.inl (by omega))]; exact hq)).ext (fun y k q1 q2 => hc y k (by omega) (by omega)), ⟨fun k => by rw [hc _ _ (by omega) (by omega)]; exact g1 k, fun k hk => by rw [hm _ _ (by omega), hc _ _ (by omega) (by omega)]; exact g2 k hk⟩, ⟨i1, by rw [he _ _ (Or.inl (by omega))]; exact i2, by rw [he _ _ (Or.inr (by omega))]; exact i3⟩, ⟨j1, by rw [he _ _ (Or.inl (by omega))]; exact j2, by rw [he _ _ (Or.inr (by omega))]; exact j3, fun i hi2 => by rw [he _ _ (Or.inl (by omega)), hm _ _ (by omega)]; exact j4 i hi2⟩, by rw [he _ _ (Or.inl (by omega)), he _ _ (Or.inr (by omega))]; exact k1, by rw [he _ _ (Or.inl (by omega)), he _ _ (Or.inr (by omega))]; exact k2, fun i hi2 => by rw [he _ _ (Or.inl (by omega)), hm _ _ (by omega)]; exact l i hi2, fun k hk => ?_⟩
  rw [hi (o + 514 + 2 * k) 1 (by omega) (by omega), hi (o + 514 + 2 * k) 2 (by omega) (by omega), hm (m + 16) k (by omega), hm (m + 17) k (by omega)]
  refine ⟨(s k hk).1, (s k hk).2.1, fun i hi2 => ?_⟩
  rw [hi _ _ (by omega) (by omega), hm _ _ (by omega)]
  exact (s k hk).2.2 i hi2
theorem SQ.cel {o m : Nat} {μ μ' : kt_M} (h : SQ m μ μ') (hom : o + 522 ≤ m) : ∀ y k, kCel o m y k → kt_i μ' y k = kt_i μ y k := fun y k hc => h.1 y k (by unfold kCel at hc; omega)
/-! conditions -/
theorem cp_hs {μ : kt_M} {q : Nat} {P : DP} {b : Int32} (h : CP μ q P) (hs : P.1 ≤ 16) : k_hs μ q b ↔ ∃ j, j < P.1 ∧ b = nI j := by
  unfold k_hs
  rw [h.1]
  constructor
  · rintro ⟨h1, h2⟩
    obtain ⟨j, hj, rfl⟩ := nI_of (x := b) (by rw [Int32.not_lt]; exact h1)
    exact ⟨j, (nI_ltI hj (by omega)).mp h2, rfl⟩
  · rintro ⟨j, hj, rfl⟩
    exact ⟨nI_pos' (by omega), nI_lt hj (by omega)⟩
theorem pu_lt1 {a : Int32} {s : Nat} (hs : s ≤ 1000) : (0 ≤ a ∧ a ≤ nI s - 1) ↔ (0 ≤ a ∧ a < nI s) := by
  have : (nI s - 1).toInt = (s : Int) - 1 := by
    rw [Int32.toInt_sub, nI_toInt (by omega), ki_1]; exact Int.bmod_eq_of_le (by omega) (by omega)
  rw [Int32.le_iff_toInt_le, Int32.le_iff_toInt_le, Int32.lt_iff_toInt_lt, this, nI_toInt (by omega)]
  omega
theorem kt_f_iff {c d : Prop} [Decidable c] [Decidable d] (h : c ↔ d) : kt_f c = kt_f d := by unfold kt_f; by_cases hc : c <;> simp [hc, h.mp, h.symm, ← h]
theorem pu_isBlock {n m p : Nat} {μ : kt_M} {P : DP} {a : Int32} (h : MP μ m p P) (hp : p ≤ 3) (hs : P.1 ≤ 16) : ∃ r, x_isBlock n m μ (nI p) a = some (r, μ) ∧ kz r (∃ j, j < P.1 ∧ a = nI j) := by
  unfold x_isBlock
  rw [kq_b2_s ((pu_many hp).trans (pu_pair h.1 rfl)), kq_b1_s (show x_in n (Int32.toInt64 a) 0 (Int32.toInt64 (nI P.1 - 1)) = _ from pu_in (lo := 0) rfl rfl)]
  have hz : kz (kt_f (0 ≤ a ∧ a ≤ nI P.1 - 1)) (∃ j, j < P.1 ∧ a = nI j) := (kz.f (c := 0 ≤ a ∧ a ≤ nI P.1 - 1)).iff ((pu_lt1 (by omega)).trans ⟨fun h => by
    obtain ⟨j, hj, rfl⟩ := nI_of (x := a) (by rw [Int32.not_lt]; exact h.1)
    exact ⟨j, (nI_ltI hj (by omega)).mp h.2, rfl⟩, fun ⟨j, hj, e⟩ => by subst e; exact ⟨nI_pos' (by omega), nI_lt hj (by omega)⟩⟩)
  rw [kq_ck_t hz.b]
  exact ⟨_, rfl, hz⟩
theorem pu_isEdge {n m p : Nat} {μ : kt_M} {P : DP} {a s : Int32} {N : Nat} (h : MP μ m p P) (hP : WP P N) (hN : N ≤ 16) (hp : p ≤ 3) : ∃ r, x_isEdge n m μ (nI p) a s = some (r, μ) ∧ kz r (∃ j x, j < P.1 ∧ x < db_ne (P.2 j) ∧ a = nI j ∧ s = nI x) := by
  have hs := hP.1
  unfold x_isEdge
  obtain ⟨r, h1, h2⟩ := pu_isBlock (n := n) (a := a) h hp (by omega)
  rw [kq_b2_s h1]
  rcases h2 with ⟨z, hno⟩ | ⟨z, j, hj, e⟩
  · rw [if_pos z]
    exact ⟨0, rfl, Or.inl ⟨rfl, fun ⟨j, x, g1, g2, g3, g4⟩ => hno ⟨j, g1, g3⟩⟩⟩
  · rw [if_neg (by rw [z]; decide)]
    subst e
    rw [kq_b2_s ((h.2 j hj).edges (hP.2 j hj) hp (by omega)), kq_b1_s (show x_in n (Int32.toInt64 s) 0 (Int32.toInt64 (nI (db_ne (P.2 j)) - 1)) = _ from pu_in (lo := 0) rfl rfl)]
    have hne := db_ne_le (P.2 j)
    have hz : kz (kt_f (0 ≤ s ∧ s ≤ nI (db_ne (P.2 j)) - 1)) (∃ j2 x, j2 < P.1 ∧ x < db_ne (P.2 j2) ∧ nI j = nI j2 ∧ s = nI x) := (kz.f (c := 0 ≤ s ∧ s ≤ nI (db_ne (P.2 j)) - 1)).iff ((pu_lt1 (by omega)).trans ⟨fun h => by
      obtain ⟨x, hx, rfl⟩ := nI_of (x := s) (by rw [Int32.not_lt]; exact h.1)
      exact ⟨j, x, hj, (nI_ltI hx (by omega)).mp h.2, rfl, rfl⟩, fun ⟨j2, x, g1, g2, g3, g4⟩ => by
      have : j = j2 := (nI_eq (by omega) (by omega)).mp g3
      subst this; subst g4
      exact ⟨nI_pos' (by omega), nI_lt g2 (by omega)⟩⟩)
    rcases hz with ⟨z2, hno⟩ | ⟨z2, hyes⟩
    · rw [if_pos z2]; exact ⟨0, rfl, Or.inl ⟨rfl, hno⟩⟩
    · rw [if_neg (by rw [z2]; decide)]; exact ⟨1, rfl, Or.inr ⟨rfl, hyes⟩⟩
theorem kb_ed_nI {e : Nat} (h : e ≤ 3) {D : DB} (hD : db_en D = e) : kb_edges (nI e) = nI (db_ne D) := by
  subst hD
  unfold db_ne
  have : db_en D = 0 ∨ db_en D = 1 ∨ db_en D = 2 ∨ db_en D = 3 := by omega
  rcases this with e | e | e | e <;> rw [e] <;> rfl
theorem cp_he {μ : kt_M} {q N : Nat} {P : DP} {b s : Int32} (h : CP μ q P) (hP : WP P N) (hN : N ≤ 16) : k_he μ q b s ↔ ∃ j x, j < P.1 ∧ x < db_ne (P.2 j) ∧ b = nI j ∧ s = nI x := by
  have hs := hP.1
  unfold k_he
  rw [cp_hs h (by omega)]
  constructor
  · rintro ⟨⟨j, hj, e⟩, h1, h2⟩
    subst e
    rw [k_at_nI h.1 (by omega) hj, (h.2 j hj).2.2.1, kb_ed_nI (hP.2 j hj).2.2.1 rfl] at h2
    have hne := db_ne_le (P.2 j)
    obtain ⟨x, hx, rfl⟩ := nI_of (x := s) (by rw [Int32.not_lt]; exact h1)
    exact ⟨j, x, hj, (nI_ltI hx (by omega)).mp h2, rfl, rfl⟩
  · rintro ⟨j, x, hj, hx, e1, e2⟩
    subst e1; subst e2
    have hne := db_ne_le (P.2 j)
    refine ⟨⟨j, hj, rfl⟩, nI_pos' (by omega), ?_⟩
    rw [k_at_nI h.1 (by omega) hj, (h.2 j hj).2.2.1, kb_ed_nI (hP.2 j hj).2.2.1 rfl]
    exact nI_lt hx (by omega)
theorem pu_isVar {n : Nat} {a : Int32} : ∃ r, x_isVariable n a = some r ∧ kz r (0 ≤ a ∧ a < 4) := by
  unfold x_isVariable
  rw [kq_b1_s (show x_in n (Int32.toInt64 a) 0 3 = _ from pu_in (lo := 0) (hi := 3) rfl rfl), kq_ck_t kt_f_01]
  refine ⟨_, rfl, (kz.f (c := 0 ≤ a ∧ a ≤ 3)).iff ?_⟩
  rw [Int32.le_iff_toInt_le, Int32.le_iff_toInt_le, Int32.lt_iff_toInt_lt, ki_0, ki_3, ki_4]; omega
/-! class's contracts' premises -/
theorem CP.kp {μ : kt_M} {q N : Nat} {P : DP} (h : CP μ q P) (hP : WP P N) (hN : N ≤ 16) (hW : NW μ q) : kp μ q N P.1 := by
  have hs := hP.1
  refine ⟨h.1, hP.1, fun b => ?_, fun b hb => (h.2 b hb).2.2.2.2.2.2⟩
  by_cases e : k_hs μ q b
  · obtain ⟨j, hj, rfl⟩ := (cp_hs h (by omega)).mp e
    rw [k_at_nI h.1 (by omega) hj]
    exact ⟨db_na (P.2 j), (hP.2 j hj).1, (h.2 j hj).1⟩
  · rw [show k_at μ q b = q + 1 from if_neg e]
    exact ⟨0, by decide, hW.1⟩
def kPre (μ : kt_M) (o : Nat) : Prop := ∃ s0 s1 L : Nat, kp μ (o + 42) 8 s0 ∧ kc μ o s1 ∧ kt_01 μ (o + 153) ∧ (kt_i μ (o + 1) 1 = nI L ∧ L ≤ 200) ∧ kt_i μ (o + 3 + 1) 0 = 0 ∧ kt_i μ (o + 42 + 1) 0 = 0 ∧ ∀ k, ∃ s, k_wi k 1 → kp μ (ut_im o k) 16 s
theorem kInv.pre {μ : kt_M} {o m : Nat} (h : kInv μ o m) : kPre μ o := by
  obtain ⟨P0, P1, PI, L, lim, h1, ⟨a1, a2, a3⟩, ⟨b1, b2, b3⟩, c, ⟨d1, d2, d3, d4⟩, e, f, ⟨g1, g2⟩, i, ⟨j1, j2, j3, j4⟩, rest⟩ := h
  refine ⟨P0.1, P1.1, L, a2.kp a1.1 (by decide) d2, ⟨b2.kp b1 (by decide) d3, e, d3.2⟩, g1, ⟨j2, j1⟩, d1.1, d2.1, fun k => ?_⟩
  by_cases hk : k_wi k 1
  · obtain ⟨j, hj, rfl⟩ := k_wi_nI (n := 2) hk (by decide) (by decide)
    refine ⟨(PI j).1, fun _ => ?_⟩
    unfold ut_im
    rw [nI_clamp (by omega)]
    exact (c j hj).2.1.kp (c j hj).1 (by decide) (d4 j hj)
  · exact ⟨0, fun h => absurd h hk⟩
/-! solving anew -/
theorem kIS.ref {μ : kt_M} {o m : Nat} {P0 P1 : DP} {PI : Nat → DP} {L lim : Nat} (h : kIS μ o m P0 P1 PI L lim) : kIS (ut_ref μ o) o m P0 P1 PI L lim ∧ AN (ut_ref μ o) o P1 := by
  obtain ⟨h1, a, ⟨b1, b2, b3⟩, c, ⟨d1, d2, d3, d4⟩, e, f, g, i, j, k1, k2, l, s⟩ := h
  by_cases hz : kt_i μ o 15 = 0
  · have hAN : AN (ut_ref μ o) o P1 := by
      unfold ut_ref
      rw [if_neg (fun h => h hz)]
      obtain ⟨A, s1, s2, s3⟩ := cl_solve (p := o + 154) b1 (by omega) b2
      obtain ⟨t1, t2, t3⟩ := cl_la b1 (by omega) s1 s2 s3
      have hW : NW (f_la (f_solve μ (o + 154) (o + 81)) (o + 154) (o + 81)) (o + 81) := d3.ext (fun k => by rw [f_la_out (by omega), f_solve_out (by omega)])
      have u := cl_psolve (p := o + 361) b1 (by omega) t2 hW
      refine ⟨A, s1, t1.ext (fun y k hy => by rw [kt_i_sin (by omega), q_psolve_out (by omega)]), t3.ext (fun k => by rw [kt_i_sin (by omega), q_psolve_out (by omega)]), u.ext (fun y k h5 h6 => by rw [kt_i_sin (by omega)])⟩
    have hn := ut_ref_n (o := o) e
    have h0 : ∀ y k, (y = o → k ≠ 15) → (y < o + 154 ∨ o + 364 ≤ y) → kt_i (ut_ref μ o) y k = kt_i μ y k := fun y k q1 q2 => by
      by_cases ey : y = o
      · rw [ey]; exact ut_ref_o (q1 ey)
      · exact ut_ref_out ⟨ey, q2⟩
    refine ⟨⟨h1, ⟨a.1, a.2.1.ext a.1.1.1 (fun y k q1 q2 => h0 y k (by omega) (by omega)), a.2.2.ext (fun j => h0 _ j (by omega) (by omega))⟩, ⟨b1, b2.ext b1.1 (fun y k q1 q2 => h0 y k (by omega) (by omega)), b3.ext (fun j => h0 _ j (by omega) (by omega))⟩, fun k hk => ⟨(c k hk).1, (c k hk).2.1.ext (c k hk).1.1 (fun y j q1 q2 => h0 y j (by omega) (by omega)), fun hq => ((c k hk).2.2 (by rw [← h0 _ _ (by omega) (by omega)]; exact hq)).ext (fun j => h0 _ j (by omega) (by omega))⟩, ⟨d1.ext (fun k => h0 _ k (by omega) (by omega)), d2.ext (fun k => h0 _ k (by omega) (by omega)), d3.ext (fun k => h0 _ k (by omega) (by omega)), fun k hk => (d4 k hk).ext (fun j => h0 _ j (by omega) (by omega))⟩, hn, fun _ => hAN, ⟨fun k => by rw [h0 _ _ (by omega) (by omega)]; exact g.1 k, fun k hk => by rw [h0 _ _ (by omega) (by omega), h0 _ _ (by omega) (by omega)]; exact g.2 k hk⟩, ⟨i.1, by rw [h0 _ _ (by omega) (by omega)]; exact i.2.1, by rw [h0 _ _ (by omega) (by omega)]; exact i.2.2⟩, ⟨j.1, by rw [h0 _ _ (by omega) (by omega)]; exact j.2.1, by rw [h0 _ _ (by omega) (by omega)]; exact j.2.2.1, fun q hq => by rw [h0 _ _ (by omega) (by omega), h0 _ _ (by omega) (by omega)]; exact j.2.2.2 q hq⟩, by rw [h0 _ _ (by omega) (by omega), h0 _ _ (by omega) (by omega)]; exact k1, by rw [h0 _ _ (by omega) (by omega), h0 _ _ (by omega) (by omega)]; exact k2, fun q hq => by rw [h0 _ _ (by omega) (by omega), h0 _ _ (by omega) (by omega)]; exact l q hq, fun k hk => ?_⟩, hAN⟩
    rw [h0 (o + 514 + 2 * k) 1 (by omega) (by omega), h0 (o + 514 + 2 * k) 2 (by omega) (by omega), h0 (m + 16) k (by omega) (by omega), h0 (m + 17) k (by omega) (by omega)]
    refine ⟨(s k hk).1, (s k hk).2.1, fun q hq => ?_⟩
    rw [h0 _ _ (by omega) (by omega), h0 _ _ (by omega) (by omega)]
    exact (s k hk).2.2 q hq
  · have : ut_ref μ o = μ := if_pos hz
    rw [this]
    exact ⟨⟨h1, a, ⟨b1, b2, b3⟩, c, ⟨d1, d2, d3, d4⟩, e, f, g, i, j, k1, k2, l, s⟩, f hz⟩

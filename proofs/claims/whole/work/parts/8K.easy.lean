/-! PURE: the easy steps -/
/-- cells that speak of programs -/
def kPc (o m y k : Nat) : Prop := (o + 42 ≤ y ∧ y < o + 364) ∨ (o + 372 ≤ y ∧ y < o + 514) ∨ y = o + 4 ∨ (y = o ∧ k = 15) ∨ y = m + 1 ∨ y = m + 4
def kRd (μ : kt_M) (o m L : Nat) : Prop := L ≤ 200 ∧ kt_i μ (o + 1) 1 = nI L ∧ kt_i μ m 6 = nI L ∧ ∀ i, i < L → ∃ c, c ≤ 127 ∧ kt_i μ (o + 2) i = nI c ∧ kt_i μ (m + 5) i = nI c
def kIn (μ : kt_M) (o m : Nat) : Prop := ∀ i, i < 8 → ∃ c, c ≤ 51 ∧ kt_i μ (o + 369) i = nI c ∧ kt_i μ (m + 3) i = nI c
def kLm (μ : kt_M) (o m lim : Nat) : Prop := lim ≤ 4 ∧ kt_i μ o 13 = nI lim ∧ kt_i μ m 4 = nI lim
theorem kIS.rd {μ : kt_M} {o m : Nat} {P0 P1 : DP} {PI : Nat → DP} {L lim : Nat} (h : kIS μ o m P0 P1 PI L lim) : kRd μ o m L := h.2.2.2.2.2.2.2.2.2.1
theorem kIS.lm {μ : kt_M} {o m : Nat} {P0 P1 : DP} {PI : Nat → DP} {L lim : Nat} (h : kIS μ o m P0 P1 PI L lim) : kLm μ o m lim := h.2.2.2.2.2.2.2.2.1
theorem kIS.fl {μ : kt_M} {o m : Nat} {P0 P1 : DP} {PI : Nat → DP} {L lim : Nat} (h : kIS μ o m P0 P1 PI L lim) : kt_i μ (o + 1) 2 = kt_i μ m 11 := h.2.2.2.2.2.2.2.2.2.2.1
theorem kIS.to {μ : kt_M} {o m : Nat} {P0 P1 : DP} {PI : Nat → DP} {L lim : Nat} (h : kIS μ o m P0 P1 PI L lim) : kt_i μ o 14 = kt_i μ m 33 := h.2.2.2.2.2.2.2.2.2.2.2.1
theorem kIS.inp {μ : kt_M} {o m : Nat} {P0 P1 : DP} {PI : Nat → DP} {L lim : Nat} (h : kIS μ o m P0 P1 PI L lim) : kIn μ o m := h.2.2.2.2.2.2.2.2.2.2.2.2.1
theorem kIS.shs {μ : kt_M} {o m : Nat} {P0 P1 : DP} {PI : Nat → DP} {L lim : Nat} (h : kIS μ o m P0 P1 PI L lim) : kSh μ o m := h.2.2.2.2.2.2.2.2.2.2.2.2.2
theorem kIS.kp {μ : kt_M} {o m : Nat} {P0 P1 : DP} {PI : Nat → DP} {L lim : Nat} (h : kIS μ o m P0 P1 PI L lim) : kt_01 μ (o + 153) ∧ ∀ k, k < 2 → kt_i μ (m + 4) k = kt_i μ (o + 153) k := h.2.2.2.2.2.2.2.1
theorem kIS.upd {μ μ' : kt_M} {o m : Nat} {P0 P1 : DP} {PI : Nat → DP} {L lim L' lim' : Nat} (h : kIS μ o m P0 P1 PI L lim) (he : ∀ y k, kPc o m y k → kt_i μ' y k = kt_i μ y k) (hl : kLm μ' o m lim') (hr : kRd μ' o m L') (hf : kt_i μ' (o + 1) 2 = kt_i μ' m 11) (ht : kt_i μ' o 14 = kt_i μ' m 33) (hi : kIn μ' o m) (hs : kSh μ' o m) : kIS μ' o m P0 P1 PI L' lim' := by
  obtain ⟨h1, ⟨a1, a2, a3⟩, ⟨b1, b2, b3⟩, c, ⟨d1, d2, d3, d4⟩, e, f, ⟨g1, g2⟩, -⟩ := h
  have hc : ∀ y k, o + 42 ≤ y → y < o + 364 → kt_i μ' y k = kt_i μ y k := fun y k q1 q2 => he y k (Or.inl (by omega))
  have hm : ∀ y k, (y = m + 1 ∨ y = m + 4) → kt_i μ' y k = kt_i μ y k := fun y k q => he y k (by unfold kPc; omega)
  have hj : ∀ y k, o + 372 ≤ y → y < o + 514 → kt_i μ' y k = kt_i μ y k := fun y k q1 q2 => he y k (by unfold kPc; omega)
  exact ⟨h1, ⟨a1, a2.ext a1.1.1 (fun y k q1 q2 => hc y k (by omega) (by omega)), a3.ext (fun j => hm _ j (by omega))⟩, ⟨b1, b2.ext b1.1 (fun y k q1 q2 => hc y k (by omega) (by omega)), b3.ext (fun j => hm _ j (by omega))⟩, fun k hk => ⟨(c k hk).1, (c k hk).2.1.ext (c k hk).1.1 (fun y j q1 q2 => hj y j (by omega) (by omega)), fun hq => ((c k hk).2.2 (by rw [← hc _ _ (by omega) (by omega)]; exact hq)).ext (fun j => hm _ j (by omega))⟩, ⟨d1.ext (fun k => he _ k (by unfold kPc; omega)), d2.ext (fun k => hc _ k (by omega) (by omega)), d3.ext (fun k => hc _ k (by omega) (by omega)), fun k hk => (d4 k hk).ext (fun j => hj _ j (by omega) (by omega))⟩, e.far (fun y k q1 q2 => hc y k (by omega) (by omega)), fun hq => (f (by rw [← he o 15 (by unfold kPc; omega)]; exact hq)).ext (fun y k q1 q2 => hc y k (by omega) (by omega)), ⟨fun k => by rw [hc _ _ (by omega) (by omega)]; exact g1 k, fun k hk => by rw [hm _ _ (by omega), hc _ _ (by omega) (by omega)]; exact g2 k hk⟩, hl, hr, hf, ht, hi, hs⟩
theorem kRd.ext {μ μ' : kt_M} {o m L : Nat} (h : kRd μ o m L) (he : ∀ y k, (y = o + 1 ∧ k = 1) ∨ y = o + 2 ∨ (y = m ∧ k = 6) ∨ y = m + 5 → kt_i μ' y k = kt_i μ y k) : kRd μ' o m L :=
  ⟨h.1, by rw [he _ _ (by omega)]; exact h.2.1, by rw [he _ _ (by omega)]; exact h.2.2.1, fun i hi => by rw [he _ _ (by omega), he _ _ (by omega)]; exact h.2.2.2 i hi⟩
theorem kLm.ext {μ μ' : kt_M} {o m L : Nat} (h : kLm μ o m L) (he : ∀ y k, (y = o ∧ k = 13) ∨ (y = m ∧ k = 4) → kt_i μ' y k = kt_i μ y k) : kLm μ' o m L :=
  ⟨h.1, by rw [he _ _ (by omega)]; exact h.2.1, by rw [he _ _ (by omega)]; exact h.2.2⟩
theorem kIn.ext {μ μ' : kt_M} {o m : Nat} (h : kIn μ o m) (he : ∀ y k, y = o + 369 ∨ y = m + 3 → kt_i μ' y k = kt_i μ y k) : kIn μ' o m :=
  fun i hi => by rw [he _ _ (by omega), he _ _ (by omega)]; exact h i hi
theorem kSh.ext {μ μ' : kt_M} {o m : Nat} (h : kSh μ o m) (he : ∀ y k, (o + 514 ≤ y ∧ y < o + 522) ∨ y = m + 16 ∨ y = m + 17 ∨ y = m + 18 → kt_i μ' y k = kt_i μ y k) : kSh μ' o m := fun k hk => by
  rw [he (o + 514 + 2 * k) 1 (by omega), he (o + 514 + 2 * k) 2 (by omega), he (m + 16) k (by omega), he (m + 17) k (by omega)]
  refine ⟨(h k hk).1, (h k hk).2.1, fun i hi => ?_⟩
  rw [he _ _ (by omega), he _ _ (by omega)]
  exact (h k hk).2.2 i hi
theorem st_fault {μ : kt_M} {o m : Nat} (h : kInv μ o m) : ∃ (n : Nat) (μ1 : kt_M), x_fault n m ((kt_i μ (o + 1) 2, μ) : Int32 × kt_M).2 = some (((kt_i μ (o + 1) 2, μ) : Int32 × kt_M).1, μ1) ∧ kInv μ1 o m := by
  obtain ⟨P0, P1, PI, L, lim, h⟩ := h
  exact ⟨0, μ, pu_pair h.fl.symm rfl, h.inv⟩
theorem st_torn {μ : kt_M} {o m : Nat} (h : kInv μ o m) : ∃ (n : Nat) (μ1 : kt_M), x_torn n m ((kt_i μ o 14, μ) : Int32 × kt_M).2 = some (((kt_i μ o 14, μ) : Int32 × kt_M).1, μ1) ∧ kInv μ1 o m := by
  obtain ⟨P0, P1, PI, L, lim, h⟩ := h
  exact ⟨0, μ, pu_pair h.to.symm rfl, h.inv⟩
theorem st_limit {μ : kt_M} {o m : Nat} (h : kInv μ o m) (a1 : Int32) : ∃ (n : Nat) (μ1 : kt_M), x_limit n m (ut_limit μ o a1).2 a1 = some ((ut_limit μ o a1).1, μ1) ∧ kInv μ1 o m := by
  obtain ⟨P0, P1, PI, L, lim, h⟩ := h
  have hom := h.1
  refine ⟨0, ?_⟩
  unfold ut_limit x_limit
  rw [kq_b1_s (pu_wi (h := 4) (hi := 4) rfl)]
  by_cases hg : k_wi a1 4
  · rw [if_pos hg, if_neg (kz.f.t hg)]; dsimp only
    obtain ⟨l, hl, rfl⟩ := k_wi_nI (n := 5) hg (by decide) (by decide)
    simp only [kq_lt]
    have hf : ∀ y k, ¬ (y = o ∧ k = 13) → ¬ (y = m ∧ k = 4) → kt_i (kt_si (kt_si μ o 13 (nI l)) m 4 (nI l)) y k = kt_i μ y k := fun y k q1 q2 => by rw [kt_i_si, if_neg q2, kt_i_si, if_neg q1]
    refine ⟨_, pu_pair (by rw [kt_i_sin (by omega), h.lm.2.1, h.lm.2.2]) rfl, (h.upd (lim' := l) (L' := L) (fun y k hy => hf y k (by unfold kPc at hy; omega) (by unfold kPc at hy; omega)) ⟨by omega, by rw [kt_i_sin (by omega), kt_i_sie], kt_i_sie⟩ (h.rd.ext (fun y k hy => hf y k (by omega) (by omega))) ?_ ?_ (h.inp.ext (fun y k hy => hf y k (by omega) (by omega))) (h.shs.ext (fun y k hy => hf y k (by omega) (by omega)))).inv⟩
    · rw [hf _ _ (by omega) (by omega), hf _ _ (by omega) (by omega)]; exact h.fl
    · rw [hf _ _ (by omega) (by omega), hf _ _ (by omega) (by omega)]; exact h.to
  · rw [if_neg hg, if_pos (kz.f.n hg)]
    exact ⟨μ, rfl, h.inv⟩
theorem st_input {μ : kt_M} {o m : Nat} (h : kInv μ o m) (a1 : Int32) (a2 : Int32) : ∃ (n : Nat) (μ1 : kt_M), x_input n m (ut_input μ o a1 a2).2 a1 a2 = some ((ut_input μ o a1 a2).1, μ1) ∧ kInv μ1 o m := by
  obtain ⟨P0, P1, PI, L, lim, h⟩ := h
  have hom := h.1
  refine ⟨0, ?_⟩
  unfold ut_input x_input
  rw [kq_b1_s (pu_wi (h := 7) (hi := 7) rfl)]
  by_cases hg : k_wi a1 7 ∧ k_wi a2 51
  · rw [if_pos hg, if_neg (kz.f.t hg.1), kq_b1_s (pu_wi (h := 51) (hi := 51) rfl), if_neg (kz.f.t hg.2)]; dsimp only
    obtain ⟨i, hi, rfl⟩ := k_wi_nI (n := 8) hg.1 (by decide) (by decide)
    obtain ⟨c, hc, rfl⟩ := k_wi_nI (n := 52) hg.2 (by decide) (by decide)
    simp only [kq_lt]
    rw [kq_ck_t (pu_kin hi (by decide)), kq_ck_t (pu_kin hi (by decide)), nI_clamp (by omega)]
    have hf : ∀ y k, ¬ (y = o + 369 ∧ k = i) → ¬ (y = m + 3 ∧ k = i) → kt_i (kt_si (kt_si μ (o + 369) i (nI c)) (m + 3) i (nI c)) y k = kt_i μ y k := fun y k q1 q2 => by rw [kt_i_si, if_neg q2, kt_i_si, if_neg q1]
    obtain ⟨c0, e0, e1, e2⟩ := h.inp i hi
    refine ⟨_, pu_pair (by rw [kt_i_sin (by omega), e1, e2]) rfl, (h.upd (lim' := lim) (L' := L) (fun y k hy => hf y k (by unfold kPc at hy; omega) (by unfold kPc at hy; omega)) (h.lm.ext (fun y k hy => hf y k (by omega) (by omega))) (h.rd.ext (fun y k hy => hf y k (by omega) (by omega))) ?_ ?_ (fun j hj => ?_) (h.shs.ext (fun y k hy => hf y k (by omega) (by omega)))).inv⟩
    · rw [hf _ _ (by omega) (by omega), hf _ _ (by omega) (by omega)]; exact h.fl
    · rw [hf _ _ (by omega) (by omega), hf _ _ (by omega) (by omega)]; exact h.to
    · by_cases e : j = i
      · subst e
        exact ⟨c, by omega, by rw [kt_i_sin (by omega), kt_i_sie], kt_i_sie⟩
      · rw [hf _ _ (by omega) (by omega), hf _ _ (by omega) (by omega)]; exact h.inp j hj
  · rw [if_neg hg]; dsimp only
    refine ⟨μ, ?_, h.inv⟩
    by_cases q : k_wi a1 7
    · rw [if_neg (kz.f.t q), kq_b1_s (pu_wi (h := 51) (hi := 51) rfl), if_pos (kz.f.n (fun q2 => hg ⟨q, q2⟩))]
    · rw [if_pos (kz.f.n q)]
theorem st_end {μ : kt_M} {o m : Nat} (h : kInv μ o m) (a1 : Int32) : ∃ (n : Nat) (μ1 : kt_M), x_end n m (ut_end μ o a1).2 a1 = some ((ut_end μ o a1).1, μ1) ∧ kInv μ1 o m := by
  obtain ⟨P0, P1, PI, L, lim, h⟩ := h
  have hom := h.1
  obtain ⟨r1, r2, r3, r4⟩ := h.rd
  refine ⟨0, ?_⟩
  unfold ut_end x_end
  rw [r2]
  by_cases hg : k_wi a1 (nI L)
  · rw [if_pos hg]; dsimp only
    rw [kt_i_sin (by omega), r3, kq_b1_s (pu_wi (hi := nI L) rfl), if_neg (kz.f.t hg)]
    obtain ⟨l, hl, rfl⟩ := k_wi_nI (n := L + 1) hg (by rw [nI_toInt (by omega)]; rfl) (by omega)
    simp only [kq_lt]
    have hf : ∀ y k, ¬ (y = o + 1 ∧ k = 1) → ¬ (y = m ∧ k = 6) → kt_i (kt_si (kt_si μ (o + 1) 1 (nI l)) m 6 (nI l)) y k = kt_i μ y k := fun y k q1 q2 => by rw [kt_i_si, if_neg q2, kt_i_si, if_neg q1]
    refine ⟨_, rfl, (h.upd (lim' := lim) (L' := l) (fun y k hy => hf y k (by unfold kPc at hy; omega) (by unfold kPc at hy; omega)) (h.lm.ext (fun y k hy => hf y k (by omega) (by omega))) ⟨by omega, by rw [kt_i_sin (by omega), kt_i_sie], kt_i_sie, fun i hi => ?_⟩ ?_ ?_ (h.inp.ext (fun y k hy => hf y k (by omega) (by omega))) (h.shs.ext (fun y k hy => hf y k (by omega) (by omega)))).inv⟩
    · rw [hf _ _ (by omega) (by omega), hf _ _ (by omega) (by omega)]; exact r4 i (by omega)
    · rw [hf _ _ (by omega) (by omega), hf _ _ (by omega) (by omega)]; exact h.fl
    · rw [hf _ _ (by omega) (by omega), hf _ _ (by omega) (by omega)]; exact h.to
  · rw [if_neg hg]; dsimp only
    rw [r3, kq_b1_s (pu_wi (hi := nI L) rfl), if_pos (kz.f.n hg)]
    exact ⟨μ, rfl, h.inv⟩
theorem st_feed {μ : kt_M} {o m : Nat} (h : kInv μ o m) (a1 : Int32) : ∃ (n : Nat) (μ1 : kt_M), x_feed n m (ut_feed μ o a1).2 a1 = some ((ut_feed μ o a1).1, μ1) ∧ kInv μ1 o m := by
  obtain ⟨P0, P1, PI, L, lim, h⟩ := h
  have hom := h.1
  obtain ⟨r1, r2, r3, r4⟩ := h.rd
  refine ⟨0, ?_⟩
  unfold ut_feed x_feed
  rw [r2, kq_b1_s (pu_wi (h := 127) (hi := 127) rfl)]
  by_cases hg : k_wi a1 127
  · rw [if_pos hg, if_neg (kz.f.t hg)]; dsimp only
    obtain ⟨c, hc, rfl⟩ := k_wi_nI (n := 128) hg (by decide) (by decide)
    by_cases hL : L = 200
    · have hno : ¬ (¬ nI L < 0 ∧ nI L < 200) := fun q => by have := (nI_ltI (b := 200) (by omega) (by decide)).mp q.2; omega
      rw [if_neg hno]
      simp only [if_neg hno]
      rw [r3, if_pos (by rw [hL]; rfl)]
      exact ⟨μ, rfl, h.inv⟩
    · have hyes : ¬ nI L < 0 ∧ nI L < 200 := ⟨by rw [Int32.not_lt]; exact nI_pos' (by omega), nI_lt (b := 200) (by omega) (by decide)⟩
      rw [if_pos hyes]
      simp only [if_pos hyes]
      rw [nI_clamp (by omega), nI_1, kt_i_sin (by omega), kt_i_sin (by omega), r3, if_neg (fun q => by have := (nI_eq (b := 200) (by omega) (by decide)).mp q; omega), kq_ck_t (pu_kin (by omega) (by decide)), nI_clamp (by omega)]
      simp only [kq_lt]
      rw [kt_i_sie, kt_i_sie, kt_i_sin (show m ≠ m + 5 by omega), kt_i_sin (show m ≠ o + 1 by omega), kt_i_sin (show m ≠ o + 1 + 1 by omega), r3, nI_1]
      have hf : ∀ y k, ¬ (y = o + 2 ∧ k = L) → ¬ (y = o + 1 ∧ k = 1) → ¬ (y = m + 5 ∧ k = L) → ¬ (y = m ∧ k = 6) → kt_i (kt_si (kt_si (kt_si (kt_si μ (o + 1 + 1) L (nI c)) (o + 1) 1 (nI (L + 1))) (m + 5) L (nI c)) m 6 (nI (L + 1))) y k = kt_i μ y k := fun y k q1 q2 q3 q4 => by rw [kt_i_si, if_neg q4, kt_i_si, if_neg q3, kt_i_si, if_neg q2, kt_i_si, if_neg q1]
      refine ⟨_, rfl, (h.upd (lim' := lim) (L' := L + 1) (fun y k hy => hf y k (by unfold kPc at hy; omega) (by unfold kPc at hy; omega) (by unfold kPc at hy; omega) (by unfold kPc at hy; omega)) (h.lm.ext (fun y k hy => hf y k (by omega) (by omega) (by omega) (by omega))) ⟨by omega, by rw [kt_i_sin (by omega), kt_i_sin (by omega), kt_i_sie], kt_i_sie, fun i hi => ?_⟩ ?_ ?_ (h.inp.ext (fun y k hy => hf y k (by omega) (by omega) (by omega) (by omega))) (h.shs.ext (fun y k hy => hf y k (by omega) (by omega) (by omega) (by omega)))).inv⟩
      · by_cases e : i = L
        · subst e
          exact ⟨c, by omega, by rw [kt_i_sin (by omega), kt_i_sin (by omega), kt_i_sin (by omega), show o + 2 = o + 1 + 1 from rfl, kt_i_sie], by rw [kt_i_sin (by omega), kt_i_sie]⟩
        · rw [hf _ _ (by omega) (by omega) (by omega) (by omega), hf _ _ (by omega) (by omega) (by omega) (by omega)]; exact r4 i (by omega)
      · rw [hf _ _ (by omega) (by omega) (by omega) (by omega), hf _ _ (by omega) (by omega) (by omega) (by omega)]; exact h.fl
      · rw [hf _ _ (by omega) (by omega) (by omega) (by omega), hf _ _ (by omega) (by omega) (by omega) (by omega)]; exact h.to
  · rw [if_neg hg, if_pos (kz.f.n hg)]
    exact ⟨μ, rfl, h.inv⟩
theorem pu_nilL {n m o : Nat} {μ : kt_M} (hI : kIn μ o m) : ∀ (k i : Nat) (c : Int32), i ≤ 8 → 8 < i + k → x_nilInputs_L4 n m k c (nI i) μ = some (ut_nilL μ o (8 - i) i c, μ)
  | 0, i, c, h1, h2 => by omega
  | k + 1, i, c, h1, h2 => by
    rw [x_nilInputs_L4]
    unfold x_nilInputs_B4
    by_cases e : i = 8
    · subst e
      rw [if_pos (by decide)]; rfl
    · rw [if_neg (fun q => by have := (nI_leI (a := 8) (by decide) (by omega)).mp q; omega), kq_ck_t (pu_kin (by omega) (by decide)), nI_clamp (by omega)]
      obtain ⟨v, hv, e1, e2⟩ := hI i (by omega)
      rw [show 8 - i = (8 - (i + 1)) + 1 by omega, ut_nilL, e1, e2]
      unfold x_nilInputs_J27
      by_cases q : nI v = 51
      · rw [if_pos q, if_pos q, kq_b1_s (pu_flag (Or.inr rfl)), nI_1]
        exact pu_nilL hI k (i + 1) _ (by omega) (by omega)
      · rw [if_neg q, if_neg q, kq_b1_s (pu_flag (Or.inl rfl)), nI_1, Int32.add_zero]
        exact pu_nilL hI k (i + 1) _ (by omega) (by omega)
theorem st_count {μ : kt_M} {o m : Nat} (h : kInv μ o m) (a1 : Int32) : ∃ (n : Nat) (μ1 : kt_M), x_count n m ((ut_cnt μ o a1, μ) : Int32 × kt_M).2 a1 = some (((ut_cnt μ o a1, μ) : Int32 × kt_M).1, μ1) ∧ kInv μ1 o m := by
  obtain ⟨P0, P1, PI, L, lim, h⟩ := h
  refine ⟨20, μ, ?_, h.inv⟩
  dsimp only
  unfold ut_cnt x_count
  obtain ⟨g1, g2⟩ := h.kp
  by_cases c0 : a1 = 0
  · rw [if_pos c0, if_pos c0, show Int32.toNatClampNeg 0 = 0 from rfl, show Int32.toNatClampNeg 1 = 1 from rfl, g2 0 (by decide), g2 1 (by decide), kq_b1_s (pu_flag (g1 0)), kq_b1_s (pu_flag (g1 1))]
  rw [if_neg c0, if_neg c0]
  by_cases c1 : a1 = 1
  · rw [if_pos c1, if_pos c1, h.rd.2.1, h.rd.2.2.1]
  rw [if_neg c1, if_neg c1]
  by_cases c2 : a1 = 2
  · rw [if_pos c2, if_pos c2]
    unfold x_nilInputs
    rw [kq_b2_s (show x_nilInputs_L4 20 m 20 0 0 μ = _ from pu_nilL (o := o) h.inp 20 0 0 (by omega) (by omega))]
  rw [if_neg c2, if_neg c2]
  by_cases c3 : a1 = 3
  · rw [if_pos c3, if_pos c3, show Int32.toNatClampNeg 0 = 0 from rfl]
    obtain ⟨s1, ⟨q, q1, q2, q3⟩, -⟩ := h.shs 0 (by decide)
    rw [show o + 514 = o + 514 + 2 * 0 from rfl, q2, q3]
    rcases s1 with ⟨e1, e2⟩ | ⟨t, t1, e1, e2⟩
    · rw [if_pos e1, if_pos e2]
    · rw [e1, e2, if_neg (pu_ne4 (by omega)), if_neg (fun q => by
        have := congrArg Int32.toInt q
        rw [nI_toInt (by omega), show ((-1 : Int32)).toInt = -1 from rfl] at this
        omega)]
  rw [if_neg c3, if_neg c3]
  by_cases c4 : a1 = 4
  · rw [if_pos c4, if_pos c4, h.lm.2.1, h.lm.2.2]
  rw [if_neg c4, if_neg c4]

/-! PURE: reading a sheet -/
theorem pu_add64 {a b : Nat} (ha : a < 1000) (hb : b < 1000) : Int32.toInt64 (nI a) + Int32.toInt64 (nI b) = Int32.toInt64 (nI (a + b)) := by
  refine Int64.toInt_inj.mp ?_
  rw [Int64.toInt_add, Int32.toInt_toInt64, Int32.toInt_toInt64, Int32.toInt_toInt64, nI_toInt (by omega), nI_toInt (by omega), nI_toInt (by omega)]
  rw [Int.bmod_eq_of_le (by omega) (by omega)]
  omega
theorem pu_lane {μ : kt_M} {o m k : Nat} (hS : kSh μ o m) (hk : k < 4) : kt_i μ (o + 514 + 2 * k) 1 = -1 ↔ kt_i μ (m + 16) k = -4 := by
  rcases (hS k hk).1 with ⟨e1, e2⟩ | ⟨t, t1, e1, e2⟩
  · rw [e1, e2]; exact ⟨fun _ => rfl, fun _ => rfl⟩
  · rw [e1, e2]; exact ⟨fun h => absurd h (nI_ne1 (by omega)), fun h => absurd h (pu_ne4 (by omega))⟩
theorem pu_rdB {n m o k i cnt : Nat} {μ μc μf : kt_M} {l f idx : Int32} (K : Int32 → Int32 → Int32 → Int32 → Int32 → Int32 → kt_M → Option (Int32 × kt_M)) (hS : kSh μ o m) (hk : k < 4) (hom : o + 522 ≤ m) (hc : ∀ y j, y ≠ o + 370 → kt_i μc y j = kt_i μ y j) (hf : ∀ y j, m + 16 ≤ y → kt_i μf y j = kt_i μ y j) (hi : i < cnt) (hcnt : cnt ≤ 8) (hin : x_in n (Int32.toInt64 f + Int32.toInt64 (nI i)) 0 (Int32.toInt64 (kt_i μ (m + 17) k - 1)) = some (kt_f (k_has μc (o + 514 + 2 * k) idx))) : x_read_B29 n m K (nI k) l f (nI cnt) 0 (nI i) μf = x_read_J101 n m K (nI k) l f (nI cnt) (nI i) (Int32.toInt64 f + Int32.toInt64 (nI i)) (k_fault μc (o + 514 + 2 * k) l idx) μf := by
  unfold x_read_B29
  rw [if_neg (show ¬ nI cnt ≤ nI i from fun q => by have := (nI_leI (by omega) (by omega)).mp q; omega), if_pos (show (0 : Int32) = 0 from rfl), kq_ck_t (pu_kin hk (by decide)), nI_clamp (by omega), hf _ _ (by omega), hf _ _ (by omega)]
  unfold k_fault
  rw [hc _ _ (by omega)]
  have hl := pu_lane hS hk
  by_cases c1 : kt_i μ (o + 514 + 2 * k) 1 = -1
  · rw [if_pos (hl.mp c1), if_pos c1]
  · rw [if_neg (fun q => c1 (hl.mpr q)), if_neg c1, kq_ck_t (pu_kin hk (by decide)), kq_ck_t (pu_kin hk (by decide))]
    have he : kt_i μ (m + 16) k = kt_i μ (o + 514 + 2 * k) 1 := by
      rcases (hS k hk).1 with ⟨e1, e2⟩ | ⟨t, t1, e1, e2⟩
      · exact absurd e1 c1
      · rw [e1, e2]
    rw [he]
    by_cases c2 : kt_i μ (o + 514 + 2 * k) 1 = l
    · rw [if_pos c2, if_pos c2, kq_b1_s hin]
      by_cases c3 : k_has μc (o + 514 + 2 * k) idx
      · rw [if_neg (kz.f.t c3), if_pos c3]
      · rw [if_pos (kz.f.n c3), if_neg c3]
    · rw [if_neg c2, if_neg c2]
theorem k_fault_0 {μ : kt_M} {q : Nat} {l i : Int32} (h : k_fault μ q l i = 0) : k_has μ q i := by
  unfold k_fault at h
  by_cases c1 : kt_i μ q 1 = -1
  · rw [if_pos c1] at h; exact absurd h (by decide)
  · rw [if_neg c1] at h
    by_cases c2 : kt_i μ q 1 = l
    · rw [if_pos c2] at h
      by_cases c3 : k_has μ q i
      · exact c3
      · rw [if_neg c3] at h; exact absurd h (by decide)
    · rw [if_neg c2] at h; exact absurd h (by decide)
/-- what both have when reading ends -/
def Rd (n m o k cnt : Nat) (μ μf : kt_M) (f : Int32) (fv : Nat) (R : Int32 × kt_M) (X : Option (Int32 × kt_M)) : Prop :=
  (∃ j : Int32, R.1 = -20 - j ∧ X = some (-20 - j, μf) ∧ ∀ y x, y ≠ o + 370 → kt_i R.2 y x = kt_i μ y x) ∨
  ∃ (j : Nat) (c : Int32) (μj : kt_M), j ≤ cnt ∧ R = (nI j, ut_rdf μj o j c) ∧ X = x_read_L147 n m n (nI k) f c (nI j) 0 μf ∧ (∀ y x, y ≠ o + 370 → kt_i μj y x = kt_i μ y x) ∧ (0 < j → fv + j ≤ 40 ∧ f = nI fv) ∧ ∀ x, x < j → ∃ v, v ≤ 51 ∧ kt_i μj (o + 370) x = nI v ∧ kt_i μ (m + 18) (40 * k + fv + x) = nI v
theorem pu_rd29 {n m o k cnt fv : Nat} {μ μf : kt_M} {l : Int32} (hS : kSh μ o m) (hk : k < 4) (hom : o + 522 ≤ m) (hf : ∀ y j, m + 16 ≤ y → kt_i μf y j = kt_i μ y j) (hcnt : cnt ≤ 8) (hfv : fv < 40) : ∀ (r i fu : Nat) (μc : kt_M), i + r = cnt → r + 1 < fu → (∀ y j, y ≠ o + 370 → kt_i μc y j = kt_i μ y j) → (0 < i → fv + i ≤ 40) → (∀ x, x < i → ∃ v, v ≤ 51 ∧ kt_i μc (o + 370) x = nI v ∧ kt_i μ (m + 18) (40 * k + fv + x) = nI v) → Rd n m o k cnt μ μf (nI fv) fv (ut_rdL o (o + 514 + 2 * k) l (nI fv) r i μc) (x_read_L29 n m fu (nI k) l (nI fv) (nI cnt) 0 (nI i) μf)
  | 0, i, fu + 1, μc, h1, h2, hc, h3, h4 => by
    refine Or.inr ⟨i, 0, μc, by omega, rfl, ?_, hc, fun q => ⟨h3 q, rfl⟩, h4⟩
    rw [x_read_L29]
    unfold x_read_B29
    rw [if_pos (show nI cnt ≤ nI i from (nI_leI (by omega) (by omega)).mpr (by omega))]
  | r + 1, i, fu + 1, μc, h1, h2, hc, h3, h4 => by
    obtain ⟨-, ⟨sz, hsz, z1, z2⟩, hel⟩ := hS k hk
    have hh : k_has μc (o + 514 + 2 * k) (nI fv + nI i) ↔ fv + i < sz := by
      unfold k_has
      rw [hc _ _ (by omega), z1, nI_add]
      exact ⟨fun q => (nI_ltI (by omega) (by omega)).mp q.2.1, fun q => ⟨nI_pos' (by omega), nI_lt q (by omega), nI_lt (b := 40) (by omega) (by decide)⟩⟩
    have hin : x_in n (Int32.toInt64 (nI fv) + Int32.toInt64 (nI i)) 0 (Int32.toInt64 (kt_i μ (m + 17) k - 1)) = some (kt_f (k_has μc (o + 514 + 2 * k) (nI fv + nI i))) := by
      rw [pu_add64 (by omega) (by omega), z2, show x_in n (Int32.toInt64 (nI (fv + i))) 0 (Int32.toInt64 (nI sz - 1)) = _ from pu_in (lo := 0) rfl rfl]
      congr 1
      refine kt_f_iff ((pu_lt1 (by omega)).trans ?_)
      rw [hh]
      exact ⟨fun q => (nI_ltI (by omega) (by omega)).mp q.2, fun q => ⟨nI_pos' (by omega), nI_lt q (by omega)⟩⟩
    rw [x_read_L29, pu_rdB (x_read_L29 n m fu) hS hk hom hc hf (by omega) hcnt hin, ut_rdL]
    unfold x_read_J101
    by_cases c : k_fault μc (o + 514 + 2 * k) l (nI fv + nI i) = 0
    · have hlt := hh.mp (k_fault_0 c)
      have hel2 : ut_el μc (o + 514 + 2 * k) (nI fv + nI i) = kt_i μ (m + 18) (40 * k + fv + i) := by
        unfold ut_el
        rw [if_pos (k_fault_0 c), nI_add, nI_clamp (by omega), hc _ _ (by omega), hel _ (by omega), Nat.add_assoc]
      rw [if_pos c, if_pos c, c, pu_add64 (by omega) (by omega), Int32.toInt32_toInt64, pu_40, kq_ck_t (pu_kin (by omega) (by decide)), nI_clamp (by omega), hf _ _ (by omega), kq_b1_s (pu_wi (h := 51) (hi := 51) rfl), hel2, ← Nat.add_assoc]
      by_cases c2 : k_wi (kt_i μ (m + 18) (40 * k + fv + i)) 51
      · rw [if_pos c2, if_neg (kz.f.t c2), nI_1]
        obtain ⟨v, hv, ev⟩ := k_wi_nI (n := 52) c2 (by decide) (by decide)
        refine pu_rd29 hS hk hom hf hcnt hfv r (i + 1) fu _ (by omega) (by omega) (fun y j hy => by rw [kt_i_sin hy]; exact hc y j hy) (fun _ => by omega) (fun x hx => ?_)
        by_cases e : x = i
        · subst e
          exact ⟨v, by omega, by rw [kt_i_sie, ev], ev⟩
        · rw [kt_i_sik e]; exact h4 x (by omega)
      · rw [if_neg c2, if_pos (kz.f.n c2)]
        exact Or.inl ⟨nI i, rfl, rfl, hc⟩
    · rw [if_neg c, if_neg c]
      obtain ⟨fu, rfl⟩ : ∃ g, fu = g + 1 := ⟨fu - 1, by omega⟩
      refine Or.inr ⟨i, _, μc, by omega, rfl, ?_, hc, fun q => ⟨h3 q, rfl⟩, h4⟩
      rw [x_read_L29]
      unfold x_read_B29
      rw [if_neg (show ¬ nI cnt ≤ nI i from fun q => by have := (nI_leI (by omega) (by omega)).mp q; omega), if_neg c]
  termination_by r => r
theorem pu_rd0 {n m o k cnt fu : Nat} {μ μf : kt_M} {l f : Int32} (hS : kSh μ o m) (hk : k < 4) (hom : o + 522 ≤ m) (hf : ∀ y j, m + 16 ≤ y → kt_i μf y j = kt_i μ y j) (hcnt : cnt ≤ 8) (hno : ¬ k_has μ (o + 514 + 2 * k) f) (hfu : 1 < fu) : Rd n m o k cnt μ μf f 0 (ut_rdL o (o + 514 + 2 * k) l f cnt 0 μ) (x_read_L29 n m fu (nI k) l f (nI cnt) 0 0 μf) := by
  obtain ⟨fu, rfl⟩ : ∃ g, fu = g + 2 := ⟨fu - 2, by omega⟩
  cases cnt with
  | zero =>
    refine Or.inr ⟨0, 0, μ, by omega, rfl, ?_, fun _ _ _ => rfl, fun q => by omega, fun x hx => by omega⟩
    rw [x_read_L29]
    unfold x_read_B29
    rw [if_pos (show nI 0 ≤ 0 by decide)]; rfl
  | succ r =>
    obtain ⟨-, ⟨sz, hsz, z1, z2⟩, -⟩ := hS k hk
    have e0 : f + nI 0 = f := by rw [show nI 0 = 0 from rfl, Int32.add_zero]
    have hin : x_in n (Int32.toInt64 f + Int32.toInt64 (nI 0)) 0 (Int32.toInt64 (kt_i μ (m + 17) k - 1)) = some (kt_f (k_has μ (o + 514 + 2 * k) f)) := by
      rw [show Int32.toInt64 (nI 0) = 0 from rfl, Int64.add_zero, z2, show x_in n (Int32.toInt64 f) 0 (Int32.toInt64 (nI sz - 1)) = _ from pu_in (lo := 0) rfl rfl]
      congr 1
      refine kt_f_iff ((pu_lt1 (by omega)).trans ?_)
      unfold k_has
      rw [z1]
      refine ⟨fun w => ⟨w.1, w.2, ?_⟩, fun w => ⟨w.1, w.2.1⟩⟩
      have := w.2
      rw [Int32.lt_iff_toInt_lt, nI_toInt (by omega)] at this
      rw [Int32.lt_iff_toInt_lt, ki_40]; omega
    have hc : ¬ k_fault μ (o + 514 + 2 * k) l f = 0 := fun q => hno (k_fault_0 q)
    refine Or.inr ⟨0, k_fault μ (o + 514 + 2 * k) l f, μ, by omega, ?_, ?_, fun _ _ _ => rfl, fun q => by omega, fun x hx => by omega⟩
    · rw [ut_rdL, e0, if_neg hc]
    · rw [x_read_L29, show (0 : Int32) = nI 0 from rfl]
      rw [show x_read_B29 n m (x_read_L29 n m (fu + 1)) (nI k) l f (nI (r + 1)) (nI 0) (nI 0) μf = _ from pu_rdB (x_read_L29 n m (fu + 1)) hS hk hom (fun _ _ _ => rfl) hf (by omega) hcnt hin]
      unfold x_read_J101
      rw [if_neg hc, x_read_L29]
      unfold x_read_B29
      rw [if_neg (show ¬ nI (r + 1) ≤ nI 0 from fun q => by have := (nI_leI (by omega) (by omega)).mp q; omega), if_neg hc]
      rfl
theorem pu_rd147 {n m k fv j : Nat} {c : Int32} (hk : k < 4) (hj : j ≤ 8) (hfj : fv + j ≤ 40) : ∀ (fu x : Nat) (μ : kt_M), x ≤ j → j < x + fu → ∃ μ1, x_read_L147 n m fu (nI k) (nI fv) c (nI j) (nI x) μ = some (nI j, μ1) ∧ ∀ y i, kt_i μ1 y i = if y = m ∧ i = 33 then c else if y = m + 3 ∧ x ≤ i ∧ i < j then kt_i μ (m + 18) (40 * k + fv + i) else kt_i μ y i
  | 0, x, μ, h1, h2 => by omega
  | fu + 1, x, μ, h1, h2 => by
    rw [x_read_L147]
    unfold x_read_B147
    by_cases e : x = j
    · subst e
      rw [if_pos (show nI x ≤ nI x from (nI_leI (by omega) (by omega)).mpr (by omega))]
      simp only [kq_lt]
      refine ⟨_, rfl, fun y i => ?_⟩
      rw [kt_i_si]
      by_cases q : y = m ∧ i = 33
      · rw [if_pos q, if_pos q]
      · rw [if_neg q, if_neg q, if_neg (by omega)]
    · rw [if_neg (show ¬ nI j ≤ nI x from fun q => by have := (nI_leI (by omega) (by omega)).mp q; omega), pu_40, nI_add, kq_ck_t (pu_kin (by omega) (by decide)), kq_ck_t (pu_kin (by omega) (by decide)), nI_clamp (by omega), nI_clamp (by omega), nI_1]
      simp only [kq_lt]
      obtain ⟨μ1, a1, a2⟩ := pu_rd147 (n := n) (m := m) (c := c) hk hj hfj fu (x + 1) (kt_si μ (m + 3) x (kt_i μ (m + 18) (40 * k + fv + x))) (by omega) (by omega)
      refine ⟨μ1, a1, fun y i => ?_⟩
      rw [a2]
      by_cases q : y = m ∧ i = 33
      · rw [if_pos q, if_pos q]
      · rw [if_neg q, if_neg q, kt_i_sin (show m + 18 ≠ m + 3 by omega), kt_i_si]
        by_cases q2 : y = m + 3 ∧ x ≤ i ∧ i < j
        · rw [if_pos q2]
          by_cases q3 : i = x
          · rw [if_neg (by omega), if_pos ⟨q2.1, q3⟩, q3]
          · rw [if_pos (by omega)]
        · rw [if_neg q2, if_neg (by omega), if_neg (by omega)]
theorem ut_rdL_m {o q m : Nat} {l f : Int32} (hom : o + 522 ≤ m) : ∀ (r i : Nat) (μ : kt_M) (y j : Nat), m + 16 ≤ y → kt_i (ut_rdL o q l f r i μ).2 y j = kt_i μ y j
  | 0, i, μ, y, j, hy => by
    show kt_i (ut_rdf μ o i 0) y j = _
    unfold ut_rdf
    rw [kt_i_sin (by omega), kt_i_cpy, if_neg (by omega)]
  | r + 1, i, μ, y, j, hy => by
    rw [ut_rdL]
    split
    · split
      · rw [ut_rdL_m hom r (i + 1) _ y j hy, kt_i_sin (by omega)]
      · rfl
    · show kt_i (ut_rdf μ o i _) y j = _
      unfold ut_rdf
      rw [kt_i_sin (by omega), kt_i_cpy, if_neg (by omega)]
theorem Rd.fin {m o k cnt fv : Nat} {μ : kt_M} {f : Int32} {P0 P1 : DP} {PI : Nat → DP} {L lim : Nat} {R : Int32 × kt_M} {X : Option (Int32 × kt_M)} (h : kIS μ o m P0 P1 PI L lim) (hk : k < 4) (hcnt : cnt ≤ 8) (hR : Rd 60 m o k cnt μ R.2 f fv R X) : ∃ μ1, X = some (R.1, μ1) ∧ kInv μ1 o m := by
  have hom := h.1
  rcases hR with ⟨j, a1, a2, a3⟩ | ⟨j, c, μj, a1, a2, a3, a4, a5, a6⟩
  · refine ⟨R.2, by rw [a2, a1], (h.ext (fun y x hy => a3 y x ?_)).inv⟩
    unfold kCel at hy; omega
  · have hRf : ∀ y x, kt_i R.2 y x = if y = o ∧ x = 14 then c else if y = o + 369 ∧ x < j then kt_i μj (o + 370) x else kt_i μj y x := fun y x => by
      rw [a2]
      show kt_i (ut_rdf μj o j c) y x = _
      unfold ut_rdf
      rw [kt_i_si, kt_i_cpy]
    obtain ⟨μ1, b1, b2⟩ : ∃ μ1, X = some (nI j, μ1) ∧ ∀ y i, kt_i μ1 y i = if y = m ∧ i = 33 then c else if y = m + 3 ∧ i < j then kt_i R.2 (m + 18) (40 * k + fv + i) else kt_i R.2 y i := by
      by_cases hj : 0 < j
      · obtain ⟨q1, q2⟩ := a5 hj
        subst q2
        obtain ⟨μ1, c1, c2⟩ := pu_rd147 (n := 60) (m := m) (c := c) hk (by omega) q1 60 0 R.2 (by omega) (by omega)
        refine ⟨μ1, a3.trans c1, fun y i => ?_⟩
        rw [c2]
        by_cases q : y = m ∧ i = 33
        · rw [if_pos q, if_pos q]
        · rw [if_neg q, if_neg q]
          by_cases q2 : y = m + 3 ∧ i < j
          · rw [if_pos q2, if_pos ⟨q2.1, by omega, q2.2⟩]
          · rw [if_neg q2, if_neg (fun z => q2 ⟨z.1, z.2.2⟩)]
      · have : j = 0 := by omega
        subst this
        refine ⟨kt_si R.2 m 33 c, ?_, fun y i => ?_⟩
        · rw [a3]
          show x_read_L147 60 m (59 + 1) (nI k) f c 0 0 R.2 = _
          rw [x_read_L147]
          unfold x_read_B147
          rw [if_pos (by decide)]
          rfl
        · rw [kt_i_si]
          by_cases q : y = m ∧ i = 33
          · rw [if_pos q, if_pos q]
          · rw [if_neg q, if_neg q, if_neg (by omega)]
    have hg : ∀ y x, ¬ (y = m ∧ x = 33) → ¬ (y = m + 3 ∧ x < j) → ¬ (y = o ∧ x = 14) → ¬ (y = o + 369 ∧ x < j) → y ≠ o + 370 → kt_i μ1 y x = kt_i μ y x := fun y x q1 q2 q3 q4 q5 => by
      rw [b2, if_neg q1, if_neg q2, hRf, if_neg q3, if_neg q4, a4 y x q5]
    refine ⟨μ1, by rw [b1, a2], (h.upd (lim' := lim) (L' := L) (fun y x hy => ?_) (h.lm.ext (fun y x hy => ?_)) (h.rd.ext (fun y x hy => ?_)) ?_ ?_ (fun i hi => ?_) (h.shs.ext (fun y x hy => ?_))).inv⟩
    · unfold kPc at hy; exact hg y x (by omega) (by omega) (by omega) (by omega) (by omega)
    · exact hg y x (by omega) (by omega) (by omega) (by omega) (by omega)
    · exact hg y x (by omega) (by omega) (by omega) (by omega) (by omega)
    · rw [hg _ _ (by omega) (by omega) (by omega) (by omega) (by omega), hg _ _ (by omega) (by omega) (by omega) (by omega) (by omega)]; exact h.fl
    · rw [b2, if_neg (by omega), if_neg (by omega), hRf, if_pos ⟨rfl, rfl⟩, b2, if_pos ⟨rfl, rfl⟩]
    · by_cases q : i < j
      · obtain ⟨v, hv, e1, e2⟩ := a6 i q
        refine ⟨v, hv, ?_, ?_⟩
        · rw [b2, if_neg (by omega), if_neg (by omega), hRf, if_neg (by omega), if_pos ⟨rfl, q⟩, e1]
        · rw [b2, if_neg (by omega), if_pos ⟨rfl, q⟩, hRf, if_neg (by omega), if_neg (by omega), a4 _ _ (by omega), e2]
      · rw [hg _ _ (by omega) (by omega) (by omega) (by omega) (by omega), hg _ _ (by omega) (by omega) (by omega) (by omega) (by omega)]; exact h.inp i hi
    · exact hg y x (by omega) (by omega) (by omega) (by omega) (by omega)
theorem st_read {μ : kt_M} {o m : Nat} (h : kInv μ o m) (a1 : Int32) (a2 : Int32) (a3 : Int32) (a4 : Int32) : ∃ (n : Nat) (μ1 : kt_M), x_read n m (ut_read μ o a1 a2 a3 a4).2 a1 a2 a3 a4 = some ((ut_read μ o a1 a2 a3 a4).1, μ1) ∧ kInv μ1 o m := by
  obtain ⟨P0, P1, PI, L, lim, h⟩ := h
  have hom := h.1
  refine ⟨60, ?_⟩
  obtain ⟨r, s1, s2⟩ := pu_isSheet (n := 60) (a := a1) (b := a2)
  by_cases hg : k_wi a1 3 ∧ k_wi a2 2 ∧ k_wi a4 8
  · obtain ⟨q, hq, rfl⟩ := k_wi_nI (n := 4) hg.1 (by decide) (by decide)
    obtain ⟨cnt, hcnt, rfl⟩ := k_wi_nI (n := 9) hg.2.2 (by decide) (by decide)
    have hu : ut_read μ o (nI q) a2 a3 (nI cnt) = ut_rdL o (o + 514 + 2 * q) a2 a3 cnt 0 μ := by
      unfold ut_read; rw [if_pos hg, nI_clamp (by omega), nI_clamp (by omega)]
    rw [hu]
    unfold x_read
    rw [kq_b1_s s1, if_neg (s2.t ⟨hg.1, hg.2.1⟩), kq_b1_s (pu_wi (h := 8) (hi := 8) rfl), if_neg (kz.f.t hg.2.2)]
    have hf := fun y j hy => ut_rdL_m (q := o + 514 + 2 * q) (l := a2) (f := a3) hom cnt 0 μ y j hy
    by_cases hx : k_has μ (o + 514 + 2 * q) a3
    · obtain ⟨fv, hfv, rfl⟩ : ∃ i : Nat, i < 40 ∧ a3 = nI i := by
        obtain ⟨i, hi, e⟩ := nI_of (x := a3) (by rw [Int32.not_lt]; exact hx.1)
        exact ⟨i, (nI_ltI (b := 40) hi (by decide)).mp (e ▸ hx.2.2), e⟩
      exact (pu_rd29 (n := 60) h.shs hq hom hf (by omega) hfv cnt 0 60 μ (by omega) (by omega) (fun _ _ _ => rfl) (fun q => by omega) (fun x hx => by omega)).fin h hq (by omega)
    · exact (pu_rd0 (n := 60) h.shs hq hom hf (by omega) hx (by decide)).fin h hq (by omega)
  · have hu : ut_read μ o a1 a2 a3 a4 = (-1, μ) := if_neg hg
    rw [hu]
    unfold x_read
    refine ⟨μ, ?_, h.inv⟩
    rw [kq_b1_s s1]
    by_cases c : k_wi a1 3 ∧ k_wi a2 2
    · rw [if_neg (s2.t c), kq_b1_s (pu_wi (h := 8) (hi := 8) rfl), if_pos (kz.f.n (fun z => hg ⟨c.1, c.2, z⟩))]
    · rw [if_pos (s2.n c)]

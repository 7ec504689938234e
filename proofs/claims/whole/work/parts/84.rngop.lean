/-! PURE: what acts and tests do to ranges -/
def r0 : R3 := (51, -1, false)
def r_cut (r : R3) (f t : Int) : R3 := if max f r.1 ≤ min t r.2.1 then (max f r.1, min t r.2.1, r.2.2) else (51, -1, r.2.2)
def r_cl (x : Int) : Int := max 0 (min 50 x)
def r_sft (r : R3) (k : Int) : R3 := if r.1 ≤ r.2.1 then (r_cl (r.1 + k), r_cl (r.2.1 + k), r.2.2) else r
def r_nn (r : R3) : R3 := (r.1, r.2.1, false)
def r_jn (r s : R3) : R3 := (min r.1 s.1, max r.2.1 s.2.1, r.2.2 || s.2.2)
def r_ok (r : R3) : Prop := r.2.2 = true ∨ r.1 ≤ r.2.1
/-- v without x, if x is its least or its greatest number -/
def r_rm (r : R3) (x : Int) : R3 := if r.1 = x then r_cut r (x + 1) 50 else if r.2.1 = x then r_cut r 0 (x - 1) else r
theorem vr.cut {r : R3} (h : vr r) {f t : Int} (hf : 0 ≤ f) (ht : t ≤ 50) : vr (r_cut r f t) := by
  unfold r_cut
  split
  · rcases h with h | h <;> (left; simp only; omega)
  · right; exact ⟨rfl, rfl⟩
theorem vr.sft {r : R3} (h : vr r) {k : Int} : vr (r_sft r k) := by
  unfold r_sft
  split
  · unfold r_cl; left; simp only; omega
  · exact h
theorem vr.nn {r : R3} (h : vr r) : vr (r_nn r) := h
theorem vr.jn {r s : R3} (h : vr r) (h2 : vr s) : vr (r_jn r s) := by
  unfold r_jn vr at *
  simp only at *
  omega
theorem vr.rm {r : R3} (h : vr r) {x : Int} (hx : 0 ≤ x) (hx2 : x ≤ 50) : vr (r_rm r x) := by
  unfold r_rm
  split
  · exact h.cut (by omega) (by decide)
  · split
    · exact h.cut (by decide) (by omega)
    · exact h
theorem vr0 : vr r0 := Or.inr ⟨rfl, rfl⟩
/-- cutting, in bits -/
theorem En.cut {L F : Int64} {r : R3} (h : En L r) (hr : vr r) {f t : Int} (hf : 0 ≤ f) (ht : t ≤ 50) (hF : Fr F f t) : En (L &&& F) (r_nn (r_cut r f t)) := by
  intro j hj
  rw [lb_and, Bool.and_eq_true, h j hj, hF j hj]
  unfold r_cut r_nn
  simp only
  split
  · simp only [Bool.false_eq_true, and_false, or_false]
    rcases hr with hr | hr <;> omega
  · simp only [Bool.false_eq_true, and_false, or_false]
    rcases hr with hr | hr <;> omega
theorem En.cutN {L F : Int64} {r : R3} (h : En L r) (hr : vr r) {f t : Int} (hf : 0 ≤ f) (ht : t ≤ 50) (hF : Fr F f t) : En (L &&& (F ||| 2251799813685248)) (r_cut r f t) := by
  obtain ⟨lo, hi, b⟩ := r
  intro j hj
  rw [lb_and, lb_or, Bool.and_eq_true, Bool.or_eq_true, h j hj, hF j hj, lb_nil j hj, decide_eq_true_iff]
  unfold vr at hr
  unfold r_cut
  simp only at hr ⊢
  split <;> cases b <;> simp only [Bool.false_eq_true, and_false, or_false, and_true] <;> omega
theorem En.nz {L : Int64} {r : R3} (h : En L r) (hr : vr r) : L = 0 ↔ ¬ r_ok r := by
  constructor
  · intro e hok
    subst e
    rcases hok with hok | hok
    · have := (h 51 (by decide)).mpr (Or.inr ⟨rfl, hok⟩)
      rw [lb_0] at this; cases this
    · rcases hr with hr | hr
      · have := (h r.1.toNat (by omega)).mpr (Or.inl (by omega))
        rw [lb_0] at this; cases this
      · omega
  · intro hok
    refine lb_ext (fun i hi => ?_)
    rw [lb_0]
    cases hb : lb L i with
    | false => rfl
    | true =>
      exfalso
      apply hok
      rcases (h i hi).mp hb with h1 | h1
      · exact Or.inr (by omega)
      · exact Or.inl h1.2
/-- filling what lies between -/
theorem pu_fill {n : Nat} {L : Int64} {lo hi : Nat} {b : Bool} (h : LH L lo hi) (hb : ∀ j, 51 ≤ j → j < 64 → (lb L j = true ↔ j = 51 ∧ b = true)) (hn : 52 ≤ n) : ∃ M, x_filled n L = some M ∧ En M ((lo : Int), (hi : Int), b) := by
  unfold x_filled
  have h50 := h.2.2.2.1
  have hlh := h.2.2.1
  rw [kq_b1_s (h.low hn), if_neg (pu_ne4 (by omega)), kq_b1_s (h.low hn), kq_b1_s (h.high hn)]
  obtain ⟨F, hF, hFr⟩ := pu_from (n := n) (a := nI lo) (b := nI hi) (by rw [nI_toInt (by omega)]; omega) hn
  rw [kq_b1_s hF]
  refine ⟨_, rfl, fun j hj => ?_⟩
  rw [lb_or, Bool.or_eq_true, hFr j hj, nI_toInt (by omega), nI_toInt (by omega)]
  simp only
  by_cases e : j ≤ 50
  · constructor
    · rintro (h1 | h1)
      · have := h.2.2.2.2 j e h1; left; omega
      · left; omega
    · rintro (h1 | h1)
      · right; omega
      · omega
  · rw [hb j (by omega) hj]
    constructor
    · rintro (h1 | h1)
      · exact Or.inr h1
      · omega
    · rintro (h1 | h1)
      · omega
      · exact Or.inl h1
theorem pu_fill0 {n : Nat} {L : Int64} (h : ∀ j, j ≤ 50 → lb L j = false) (hn : 52 ≤ n) : x_filled n L = some L := by
  unfold x_filled
  rw [kq_b1_s (pu_low0 h hn), if_pos rfl]
theorem En.hi {L : Int64} {r : R3} (h : En L r) (hr : vr r) : ∀ j, 51 ≤ j → j < 64 → (lb L j = true ↔ j = 51 ∧ r.2.2 = true) := fun j h1 h2 => by
  rw [h j h2]
  rcases hr with hr | hr <;> (constructor; (rintro (h3 | h3); omega; exact h3); exact Or.inr)
theorem En.jn {n : Nat} {L M : Int64} {r s : R3} (h : En L r) (h2 : En M s) (hr : vr r) (hs : vr s) (hn : 52 ≤ n) : ∃ K, x_filled n (L ||| M) = some K ∧ En K (r_jn r s) := by
  have hb : ∀ j, 51 ≤ j → j < 64 → (lb (L ||| M) j = true ↔ j = 51 ∧ (r.2.2 || s.2.2) = true) := fun j h3 h4 => by
    rw [lb_or, Bool.or_eq_true, h.hi hr j h3 h4, h2.hi hs j h3 h4, Bool.or_eq_true]
    constructor
    · rintro (h5 | h5)
      · exact ⟨h5.1, Or.inl h5.2⟩
      · exact ⟨h5.1, Or.inr h5.2⟩
    · rintro ⟨h5, h6 | h6⟩
      · exact Or.inl ⟨h5, h6⟩
      · exact Or.inr ⟨h5, h6⟩
  have hl : ∀ j : Nat, j ≤ 50 → (lb (L ||| M) j = true ↔ (r.1 ≤ j ∧ (j : Int) ≤ r.2.1) ∨ (s.1 ≤ j ∧ (j : Int) ≤ s.2.1)) := fun j h3 => by
    rw [lb_or, Bool.or_eq_true, h j (by omega), h2 j (by omega)]
    constructor
    · rintro ((h5 | h5) | (h5 | h5))
      · exact Or.inl h5
      · omega
      · exact Or.inr h5
      · omega
    · rintro (h5 | h5)
      · exact Or.inl (Or.inl h5)
      · exact Or.inr (Or.inl h5)
  by_cases e : r.1 ≤ r.2.1 ∨ s.1 ≤ s.2.1
  · have hLH : LH (L ||| M) (min r.1 s.1).toNat (max r.2.1 s.2.1).toNat := by
      unfold vr at hr hs
      refine ⟨(hl _ (by omega)).mpr (by omega), (hl _ (by omega)).mpr (by omega), by omega, by omega, fun j hj hbj => ?_⟩
      have := (hl j hj).mp hbj
      omega
    obtain ⟨K, hK, hE⟩ := pu_fill (b := r.2.2 || s.2.2) hLH hb hn
    refine ⟨K, hK, ?_⟩
    unfold r_jn
    have e1 : ((min r.1 s.1).toNat : Int) = min r.1 s.1 := by unfold vr at hr hs; omega
    have e2 : ((max r.2.1 s.2.1).toNat : Int) = max r.2.1 s.2.1 := by unfold vr at hr hs; omega
    rw [e1, e2] at hE
    exact hE
  · refine ⟨L ||| M, pu_fill0 (fun j hj => ?_) hn, fun j hj => ?_⟩
    · cases hbj : lb (L ||| M) j with
      | false => rfl
      | true => have := (hl j hj).mp hbj; omega
    · unfold r_jn
      simp only
      by_cases e2 : j ≤ 50
      · rw [hl j e2]; unfold vr at hr hs; omega
      · rw [hb j (by omega) hj]
        constructor
        · exact Or.inr
        · rintro (h5 | h5)
          · unfold vr at hr hs; omega
          · exact h5
theorem En.rm {n x : Nat} {L : Int64} {r : R3} (h : En L r) (hr : vr r) (hx : x ≤ 50) (hn : 52 ≤ n) : ∃ K, x_filled n (L &&& (((1 : Int64) <<< ((nI x).toInt64 &&& 63)) ^^^ (-1))) = some K ∧ En K (r_rm r x) := by
  have hl : ∀ j : Nat, j < 64 → (lb (L &&& (((1 : Int64) <<< ((nI x).toInt64 &&& 63)) ^^^ (-1))) j = true ↔ lb L j = true ∧ j ≠ x) := fun j hj => by
    rw [lb_and, lb_xor, lb_shl (by omega) hj, lb_m1 j hj, Bool.and_eq_true]
    by_cases e : j = x <;> simp [e]
  have hb : ∀ j, 51 ≤ j → j < 64 → (lb (L &&& (((1 : Int64) <<< ((nI x).toInt64 &&& 63)) ^^^ (-1))) j = true ↔ j = 51 ∧ r.2.2 = true) := fun j h3 h4 => by
    rw [hl j h4, h.hi hr j h3 h4]
    constructor
    · exact fun h5 => h5.1
    · exact fun h5 => ⟨h5, by omega⟩
  have hs : ∀ j : Nat, j ≤ 50 → (lb (L &&& (((1 : Int64) <<< ((nI x).toInt64 &&& 63)) ^^^ (-1))) j = true ↔ (r.1 ≤ j ∧ (j : Int) ≤ r.2.1) ∧ j ≠ x) := fun j h3 => by
    rw [hl j (by omega), h j (by omega)]
    constructor
    · rintro ⟨h5 | h5, h6⟩
      · exact ⟨h5, h6⟩
      · omega
    · exact fun h5 => ⟨Or.inl h5.1, h5.2⟩
  by_cases e0 : r.1 ≤ r.2.1 ∧ ¬ (r.1 = x ∧ r.2.1 = x)
  · have hv : 0 ≤ r.1 ∧ r.2.1 ≤ 50 := by unfold vr at hr; omega
    have hLH : LH (L &&& (((1 : Int64) <<< ((nI x).toInt64 &&& 63)) ^^^ (-1))) (r_rm r x).1.toNat (r_rm r x).2.1.toNat ∧ 0 ≤ (r_rm r x).1 ∧ 0 ≤ (r_rm r x).2.1 ∧ (r_rm r x).2.2 = r.2.2 := by
      unfold r_rm r_cut LH
      split
      · rw [if_pos (by omega)]
        simp only
        refine ⟨⟨(hs _ (by omega)).mpr (by omega), (hs _ (by omega)).mpr (by omega), by omega, by omega, fun j hj hbj => ?_⟩, by omega, by omega, trivial⟩
        have := (hs j hj).mp hbj
        omega
      · split
        · rw [if_pos (by omega)]
          simp only
          refine ⟨⟨(hs _ (by omega)).mpr (by omega), (hs _ (by omega)).mpr (by omega), by omega, by omega, fun j hj hbj => ?_⟩, by omega, by omega, trivial⟩
          have := (hs j hj).mp hbj
          omega
        · refine ⟨⟨(hs _ (by omega)).mpr (by omega), (hs _ (by omega)).mpr (by omega), by omega, by omega, fun j hj hbj => ?_⟩, by omega, by omega, rfl⟩
          have := (hs j hj).mp hbj
          omega
    obtain ⟨K, hK, hE⟩ := pu_fill (b := r.2.2) hLH.1 hb hn
    refine ⟨K, hK, ?_⟩
    rw [Int.toNat_of_nonneg hLH.2.1, Int.toNat_of_nonneg hLH.2.2.1, ← hLH.2.2.2] at hE
    exact hE
  · have hz : ∀ j : Nat, j ≤ 50 → lb (L &&& (((1 : Int64) <<< ((nI x).toInt64 &&& 63)) ^^^ (-1))) j = false := fun j hj => by
      cases hbj : lb (L &&& (((1 : Int64) <<< ((nI x).toInt64 &&& 63)) ^^^ (-1))) j with
      | false => rfl
      | true => have := (hs j hj).mp hbj; omega
    refine ⟨_, pu_fill0 hz hn, fun j hj => ?_⟩
    have hr2 : (r_rm r x).2.1 < (r_rm r x).1 ∧ (r_rm r x).2.1 = -1 ∧ (r_rm r x).2.2 = r.2.2 := by
      unfold vr at hr
      unfold r_rm r_cut
      split
      · rw [if_neg (by omega)]; exact ⟨(by show (-1 : Int) < 51; decide), rfl, rfl⟩
      · split
        · rw [if_neg (by omega)]; exact ⟨(by show (-1 : Int) < 51; decide), rfl, rfl⟩
        · exact ⟨by omega, by omega, rfl⟩
    by_cases e2 : j ≤ 50
    · rw [hz j e2]
      simp
      omega
    · rw [hb j (by omega) hj, hr2.2.2]
      constructor
      · exact Or.inr
      · rintro (h5 | h5)
        · omega
        · exact h5
theorem pu_bnd {n : Nat} {a : Int32} : ∃ b, x_bounded n a = some b ∧ b.toInt = r_cl a.toInt := by
  unfold x_bounded r_cl
  by_cases h : 0 ≤ a
  · rw [if_pos h]
    rw [Int32.le_iff_toInt_le, ki_0] at h
    by_cases h2 : a ≤ 50
    · rw [if_pos h2]
      rw [Int32.le_iff_toInt_le, ki_50] at h2
      exact ⟨a, rfl, by omega⟩
    · rw [if_neg h2]
      rw [Int32.le_iff_toInt_le, ki_50] at h2
      exact ⟨50, rfl, by rw [ki_50]; omega⟩
  · rw [if_neg h]
    rw [Int32.le_iff_toInt_le, ki_0] at h
    exact ⟨0, rfl, by rw [ki_0]; omega⟩
theorem pu_add32 {a b : Int32} (h1 : -1000 ≤ a.toInt ∧ a.toInt ≤ 1000) (h2 : -1000 ≤ b.toInt ∧ b.toInt ≤ 1000) : (a + b).toInt = a.toInt + b.toInt := by
  rw [Int32.toInt_add]
  exact Int.bmod_eq_of_le (by omega) (by omega)
theorem En.sft {n : Nat} {L : Int64} {r : R3} {k : Int32} (h : En L r) (hr : vr r) (hk : -1000 ≤ k.toInt ∧ k.toInt ≤ 1000) (hn : 52 ≤ n) : ∃ K, x_moved n L k = some K ∧ En K (r_sft r k.toInt) := by
  unfold x_moved r_sft
  rcases hr with hr0 | hr0
  · have hL := h.lh hr0.1 hr0.2.1 hr0.2.2
    rw [kq_b1_s (hL.low hn), if_neg (pu_ne4 (by omega)), kq_b1_s (hL.low hn)]
    obtain ⟨b1, hb1, e1⟩ := pu_bnd (n := n) (a := nI r.1.toNat + k)
    obtain ⟨b2, hb2, e2⟩ := pu_bnd (n := n) (a := nI r.2.1.toNat + k)
    rw [kq_b1_s hb1, kq_b1_s (hL.high hn), kq_b1_s hb2]
    rw [pu_add32 (by rw [nI_toInt (by omega)]; omega) hk, nI_toInt (by omega)] at e1 e2
    have d1 : ((r.1.toNat : Nat) : Int) = r.1 := by omega
    have d2 : ((r.2.1.toNat : Nat) : Int) = r.2.1 := by omega
    rw [d1] at e1
    rw [d2] at e2
    obtain ⟨F, hF, hFr⟩ := pu_from (n := n) (a := b1) (b := b2) (by rw [e1]; unfold r_cl; omega) hn
    rw [kq_b1_s hF]
    refine ⟨_, rfl, fun j hj => ?_⟩
    rw [if_pos hr0.2.1, lb_or, lb_and, Bool.or_eq_true, Bool.and_eq_true, lb_nil j hj, decide_eq_true_iff, h j hj, hFr j hj, e1, e2]
    unfold r_cl
    simp only
    by_cases e : j = 51
    · subst e; cases hb : r.2.2 <;> simp <;> omega
    · simp only [e, and_false, false_and, or_false, false_or]; omega
  · have hz := h.none (by omega)
    rw [kq_b1_s (pu_low0 hz hn), if_pos rfl]
    refine ⟨L, rfl, ?_⟩
    rw [if_neg (by omega)]
    exact h

/-! PURE: ranges as bits of a long -/
def lb (x : Int64) (i : Nat) : Bool := x.toBitVec.getLsbD i
theorem lb_ext {x y : Int64} (h : ∀ i, i < 64 → lb x i = lb y i) : x = y := Int64.toBitVec_inj.mp (BitVec.eq_of_getLsbD_eq (fun i hi => h i hi))
theorem lb_or (x y : Int64) (i : Nat) : lb (x ||| y) i = (lb x i || lb y i) := by unfold lb; rw [Int64.toBitVec_or, BitVec.getLsbD_or]
theorem lb_and (x y : Int64) (i : Nat) : lb (x &&& y) i = (lb x i && lb y i) := by unfold lb; rw [Int64.toBitVec_and, BitVec.getLsbD_and]
theorem lb_xor (x y : Int64) (i : Nat) : lb (x ^^^ y) i = (lb x i ^^ lb y i) := by unfold lb; rw [Int64.toBitVec_xor, BitVec.getLsbD_xor]
theorem lb_m1 : ∀ i, i < 64 → lb (-1) i = true := by decide +kernel
theorem lb_0 (i : Nat) : lb 0 i = false := BitVec.getLsbD_zero
theorem lb_sh : ∀ k, k < 64 → ((1 : Int64) <<< ((nI k).toInt64 &&& 63)).toBitVec = BitVec.twoPow 64 k := by decide +kernel
theorem lb_shl {k i : Nat} (hk : k < 64) (hi : i < 64) : lb ((1 : Int64) <<< ((nI k).toInt64 &&& 63)) i = decide (i = k) := by
  unfold lb
  rw [lb_sh k hk, BitVec.getLsbD_twoPow]
  simp only [hi, hk, decide_true, Bool.true_and]
  by_cases h : k = i
  · subst h; simp
  · simp [h, Ne.symm h]
theorem lb_sm : ∀ k, k < 64 → (((nI k).toInt64 &&& 63).toBitVec.smod 64).toNat = k := by decide +kernel
theorem lb_bit {x : Int64} {k : Nat} (hk : k < 64) : ((x >>> ((nI k).toInt64 &&& 63)) &&& 1) = 0 ↔ lb x k = false := by
  have h0 : ∀ i, i < 64 → lb ((x >>> ((nI k).toInt64 &&& 63)) &&& 1) i = (decide (i = 0) && lb x k) := by
    intro i hi
    rw [lb_and]
    have h1 : lb 1 i = decide (i = 0) := by
      have : ∀ i, i < 64 → lb 1 i = decide (i = 0) := by decide +kernel
      exact this i hi
    rw [h1]
    by_cases e : i = 0
    · subst e
      simp only [decide_true, Bool.and_true, Bool.true_and]
      unfold lb
      rw [Int64.toBitVec_shiftRight]
      show (x.toBitVec.sshiftRight (((nI k).toInt64 &&& 63).toBitVec.smod 64).toNat).getLsbD 0 = _
      rw [lb_sm k hk, BitVec.getLsbD_sshiftRight]
      simp [hk]
    · simp [e]
  constructor
  · intro h
    have := h0 0 (by decide)
    rw [h, lb_0] at this
    simpa using this.symm
  · intro h
    refine lb_ext (fun i hi => ?_)
    rw [h0 i hi, h, lb_0, Bool.and_false]
theorem lb_nil : ∀ i, i < 64 → lb 2251799813685248 i = decide (i = 51) := by decide +kernel
theorem lb_num : ∀ i, i < 64 → lb 2251799813685247 i = decide (i ≤ 50) := by decide +kernel
/-- a range: least, greatest, whether nil; no number: 51, -1 -/
abbrev R3 : Type := Int × Int × Bool
def vr (r : R3) : Prop := (0 ≤ r.1 ∧ r.1 ≤ r.2.1 ∧ r.2.1 ≤ 50) ∨ (r.1 = 51 ∧ r.2.1 = -1)
def En (L : Int64) (r : R3) : Prop := ∀ j : Nat, j < 64 → (lb L j = true ↔ (r.1 ≤ j ∧ (j : Int) ≤ r.2.1) ∨ (j = 51 ∧ r.2.2 = true))
theorem En.inj {L M : Int64} {r : R3} (h : En L r) (h2 : En M r) : L = M := lb_ext (fun i hi => Bool.eq_iff_iff.mpr ((h i hi).trans (h2 i hi).symm))
theorem En.same {L : Int64} {r s : R3} (h : En L r) (h2 : En L s) (hr : vr r) (hs : vr s) : r = s := by
  obtain ⟨lo, hi, b⟩ := r
  obtain ⟨lo2, hi2, b2⟩ := s
  have key : ∀ j : Nat, j < 64 → (((lo ≤ j ∧ (j : Int) ≤ hi) ∨ (j = 51 ∧ b = true)) ↔ ((lo2 ≤ j ∧ (j : Int) ≤ hi2) ∨ (j = 51 ∧ b2 = true))) := fun j hj => (h j hj).symm.trans (h2 j hj)
  have hb : b = b2 := by
    have := key 51 (by decide)
    rcases hr with hr | hr <;> rcases hs with hs | hs <;> simp only at hr hs <;> (cases b <;> cases b2 <;> simp at this ⊢ <;> omega)
  have hn : lo = lo2 ∧ hi = hi2 := by
    rcases hr with hr | hr <;> rcases hs with hs | hs <;> simp only at hr hs
    · have k1 := key lo.toNat (by omega)
      have k2 := key hi.toNat (by omega)
      have k3 := key lo2.toNat (by omega)
      have k4 := key hi2.toNat (by omega)
      omega
    · have k1 := key lo.toNat (by omega)
      omega
    · have k1 := key lo2.toNat (by omega)
      omega
    · omega
  rw [hb, hn.1, hn.2]
/-- the numbers of a long: least and greatest -/
def LH (L : Int64) (lo hi : Nat) : Prop := lb L lo = true ∧ lb L hi = true ∧ lo ≤ hi ∧ hi ≤ 50 ∧ ∀ j, j ≤ 50 → lb L j = true → lo ≤ j ∧ j ≤ hi
theorem pu_lowL {n : Nat} {L : Int64} {lo : Nat} (hl : lb L lo = true) (h50 : lo ≤ 50) (hmin : ∀ j, j ≤ 50 → lb L j = true → lo ≤ j) : ∀ k i, i ≤ lo → lo < i + k → x_lowOf_L2 n k L (nI i) = some (nI lo)
  | 0, i, h1, h2 => by omega
  | k + 1, i, h1, h2 => by
    rw [x_lowOf_L2]
    unfold x_lowOf_B2
    rw [if_neg (by rw [pu_lit]; exact nI_nlt (by omega) (by omega))]
    simp only [lg_cmp_eq, lb_bit (show i < 64 by omega)]
    by_cases e : i = lo
    · subst e
      rw [if_neg (by rw [hl]; decide)]
      unfold x_lowOf_J24
      rw [if_pos (by rw [pu_lit]; exact nI_le (by omega) (by decide))]
    · have : lb L i = false := by
        cases hb : lb L i with
        | false => rfl
        | true => exact absurd (hmin i (by omega) hb) (by omega)
      rw [if_pos this, nI_1]
      exact pu_lowL hl h50 hmin k (i + 1) (by omega) (by omega)
theorem pu_lowN {n : Nat} {L : Int64} (h : ∀ j, j ≤ 50 → lb L j = false) : ∀ k i, i ≤ 51 → 51 < i + k → x_lowOf_L2 n k L (nI i) = some (-4)
  | 0, i, h1, h2 => by omega
  | k + 1, i, h1, h2 => by
    rw [x_lowOf_L2]
    unfold x_lowOf_B2
    by_cases e : i = 51
    · subst e
      rw [if_pos (by decide)]
      rfl
    · rw [if_neg (by rw [pu_lit]; exact nI_nlt (by omega) (by omega))]
      simp only [lg_cmp_eq, lb_bit (show i < 64 by omega)]
      rw [if_pos (h i (by omega)), nI_1]
      exact pu_lowN h k (i + 1) (by omega) (by omega)
theorem nI_dec {i : Nat} : nI (i + 1) + Int32.ofInt (-1) = nI i := by
  have h : Int32.ofInt (-1) = -1 := by decide
  rw [h, nI_succ, Int32.add_assoc]
  have h2 : (1 : Int32) + -1 = 0 := by decide
  rw [h2, Int32.add_zero]
theorem pu_highL {n : Nat} {L : Int64} {hi : Nat} (hl : lb L hi = true) (hmax : ∀ j, j ≤ 50 → lb L j = true → j ≤ hi) : ∀ k i, hi ≤ i → i ≤ 50 → i < hi + k → x_highOf_L3 n k L (nI i) = some (nI hi)
  | 0, i, h1, h2, h3 => by omega
  | k + 1, i, h1, h2, h3 => by
    rw [x_highOf_L3]
    unfold x_highOf_B3
    rw [if_neg (nI_pos (by omega))]
    simp only [lg_cmp_eq, lb_bit (show i < 64 by omega)]
    by_cases e : i = hi
    · subst e
      rw [if_neg (by rw [hl]; decide)]
      unfold x_highOf_J23
      rw [if_pos (nI_pos' (by omega))]
    · have : lb L i = false := by
        cases hb : lb L i with
        | false => rfl
        | true => exact absurd (hmax i (by omega) hb) (by omega)
      rw [if_pos this]
      obtain ⟨j, rfl⟩ : ∃ j, i = j + 1 := ⟨i - 1, by omega⟩
      rw [nI_dec]
      exact pu_highL hl hmax k j (by omega) (by omega) (by omega)
theorem pu_highN {n : Nat} {L : Int64} (h : ∀ j, j ≤ 50 → lb L j = false) : ∀ k i, i ≤ 51 → i < k → x_highOf_L3 n k L (nI i + Int32.ofInt (-1)) = some (-4)
  | 0, i, h1, h2 => by omega
  | k + 1, 0, h1, h2 => by
    rw [x_highOf_L3]
    unfold x_highOf_B3
    rw [if_pos (by decide)]
    rfl
  | k + 1, i + 1, h1, h2 => by
    rw [x_highOf_L3]
    unfold x_highOf_B3
    rw [nI_dec, if_neg (nI_pos (by omega))]
    simp only [lg_cmp_eq, lb_bit (show i < 64 by omega)]
    rw [if_pos (h i (by omega))]
    exact pu_highN h k i (by omega) (by omega)
theorem LH.low {n : Nat} {L : Int64} {lo hi : Nat} (h : LH L lo hi) (hn : 52 ≤ n) : x_lowOf n L = some (nI lo) := by
  unfold x_lowOf
  exact pu_lowL h.1 (by have := h.2.2.1; have := h.2.2.2.1; omega) (fun j hj hb => (h.2.2.2.2 j hj hb).1) n 0 (by omega) (by have := h.2.2.1; have := h.2.2.2.1; omega)
theorem LH.high {n : Nat} {L : Int64} {lo hi : Nat} (h : LH L lo hi) (hn : 52 ≤ n) : x_highOf n L = some (nI hi) := by
  unfold x_highOf
  exact pu_highL h.2.1 (fun j hj hb => (h.2.2.2.2 j hj hb).2) n 50 h.2.2.2.1 (by decide) (by omega)
theorem pu_low0 {n : Nat} {L : Int64} (h : ∀ j, j ≤ 50 → lb L j = false) (hn : 52 ≤ n) : x_lowOf n L = some (-4) := pu_lowN h n 0 (by omega) (by omega)
theorem pu_high0 {n : Nat} {L : Int64} (h : ∀ j, j ≤ 50 → lb L j = false) (hn : 52 ≤ n) : x_highOf n L = some (-4) := by
  have := pu_highN (n := n) h n 51 (by omega) (by omega)
  rw [nI_dec] at this
  exact this
theorem En.lh {L : Int64} {r : R3} (h : En L r) (h1 : 0 ≤ r.1) (h2 : r.1 ≤ r.2.1) (h3 : r.2.1 ≤ 50) : LH L r.1.toNat r.2.1.toNat := by
  refine ⟨(h _ (by omega)).mpr (Or.inl (by omega)), (h _ (by omega)).mpr (Or.inl (by omega)), by omega, by omega, fun j hj hb => ?_⟩
  rcases (h j (by omega)).mp hb with h4 | h4
  · omega
  · omega
theorem En.none {L : Int64} {r : R3} (h : En L r) (h1 : r.2.1 < r.1) : ∀ j, j ≤ 50 → lb L j = false := fun j hj => by
  cases hb : lb L j with
  | false => rfl
  | true =>
    rcases (h j (by omega)).mp hb with h4 | h4
    · omega
    · omega
/-- bits of numbers from one to another -/
def Fr (L : Int64) (a b : Int) : Prop := ∀ j : Nat, j < 64 → (lb L j = true ↔ a ≤ j ∧ (j : Int) ≤ b ∧ j ≤ 50)
theorem pu_fromL {n : Nat} {b : Int32} : ∀ k i M, i ≤ 51 → 51 < i + k → ∃ L, x_from_L13 n k b M (nI i) = some L ∧ ∀ j : Nat, j < 64 → (lb L j = true ↔ lb M j = true ∨ (i ≤ j ∧ (j : Int) ≤ b.toInt ∧ j ≤ 50))
  | 0, i, M, h1, h2 => by omega
  | k + 1, i, M, h1, h2 => by
    rw [x_from_L13]
    unfold x_from_B13
    by_cases e1 : b < nI i
    · rw [if_pos e1]
      rw [Int32.lt_iff_toInt_lt, nI_toInt (by omega)] at e1
      exact ⟨M, rfl, fun j hj => ⟨Or.inl, fun h => h.elim id (fun h => by omega)⟩⟩
    · rw [if_neg e1]
      rw [Int32.lt_iff_toInt_lt, nI_toInt (by omega)] at e1
      by_cases e2 : i = 51
      · subst e2
        rw [if_pos (by decide)]
        exact ⟨M, rfl, fun j hj => ⟨Or.inl, fun h => h.elim id (fun h => by omega)⟩⟩
      · rw [if_neg (by rw [pu_lit]; exact nI_nlt (by omega) (by omega)), nI_1]
        obtain ⟨L, hL, hb⟩ := pu_fromL (n := n) (b := b) k (i + 1) (M ||| ((1 : Int64) <<< ((nI i).toInt64 &&& 63))) (by omega) (by omega)
        refine ⟨L, hL, fun j hj => ?_⟩
        rw [hb j hj, lb_or, lb_shl (by omega) hj, Bool.or_eq_true, decide_eq_true_iff]
        constructor
        · rintro ((h | h) | h)
          · exact Or.inl h
          · exact Or.inr (by omega)
          · exact Or.inr (by omega)
        · rintro (h | h)
          · exact Or.inl (Or.inl h)
          · by_cases e : j = i
            · exact Or.inl (Or.inr e)
            · exact Or.inr (by omega)
theorem pu_from {n : Nat} {a b : Int32} (ha : a.toInt ≤ 51) (hn : 52 ≤ n) : ∃ L, x_from n a b = some L ∧ Fr L a.toInt b.toInt := by
  unfold x_from
  by_cases h : 0 ≤ a
  · rw [if_pos h]
    obtain ⟨i, hi, rfl⟩ := nI_of (x := a) (by rw [Int32.not_lt]; exact h)
    rw [nI_toInt hi] at ha ⊢
    obtain ⟨L, hL, hb⟩ := pu_fromL (n := n) (b := b) n i 0 (by omega) (by omega)
    refine ⟨L, hL, fun j hj => ?_⟩
    rw [hb j hj, lb_0]
    simp
  · rw [if_neg h]
    obtain ⟨L, hL, hb⟩ := pu_fromL (n := n) (b := b) n 0 0 (by omega) (by omega)
    refine ⟨L, hL, fun j hj => ?_⟩
    rw [hb j hj, lb_0]
    have : a.toInt < 0 := by rw [Int32.le_iff_toInt_le] at h; simpa using h
    simp
    omega
theorem pu_ne4 {a : Nat} (h : a < 2 ^ 31) : ¬ nI a = -4 := by
  intro e
  have := congrArg Int32.toInt e
  rw [nI_toInt h, show (-4 : Int32).toInt = -4 from by decide] at this
  omega

/-! PURE: counting bits -/
theorem and_nI (a b : Nat) : nI a &&& nI b = nI (a &&& b) := Int32.toBitVec_inj.mp (by
  rw [Int32.toBitVec_and]
  show BitVec.ofNat 32 a &&& BitVec.ofNat 32 b = BitVec.ofNat 32 (a &&& b)
  exact BitVec.ofNat_and.symm)
theorem k_ush_nI {N s : Nat} (hN : N < 2 ^ 31) (hs : s < 32) : k_ush (nI N) (nI s) = nI (N >>> s) := by
  refine Int32.toBitVec_inj.mp ?_
  refine BitVec.eq_of_toNat_eq ?_
  have e1 : ((nI s).toUInt32 &&& Int32.toUInt32 31) = UInt32.ofNat s := by
    have : ∀ s, s < 32 → ((nI s).toUInt32 &&& Int32.toUInt32 31) = UInt32.ofNat s := by decide +kernel
    exact this s hs
  have e2 : (UInt32.ofNat s).toNat % 32 = s := by
    rw [UInt32.toNat_ofNat']; omega
  have e3 : (nI N).toUInt32.toNat = N := by
    show (BitVec.ofNat 32 N).toNat = N
    rw [BitVec.toNat_ofNat]; omega
  show ((nI N).toUInt32 >>> ((nI s).toUInt32 &&& Int32.toUInt32 31)).toNat = (BitVec.ofNat 32 (N >>> s)).toNat
  rw [e1, UInt32.toNat_shiftRight, e2, e3, BitVec.toNat_ofNat]
  have : N >>> s ≤ N := Nat.shiftRight_le N s
  exact (Nat.mod_eq_of_lt (Nat.lt_of_le_of_lt this (Nat.lt_trans hN (by decide)))).symm
theorem and_256 {h l M N : Nat} (hl : l < 256) (hN : N < 256) : (256 * h + l) &&& (256 * M + N) = 256 * (h &&& M) + (l &&& N) := by
  have e := Nat.div_add_mod ((256 * h + l) &&& (256 * M + N)) (2 ^ 8)
  rw [Nat.and_div_two_pow, Nat.and_mod_two_pow] at e
  rw [show (256 * h + l) / 2 ^ 8 = h by omega, show (256 * M + N) / 2 ^ 8 = M by omega, show (256 * h + l) % 2 ^ 8 = l by omega, show (256 * M + N) % 2 ^ 8 = N by omega] at e
  exact e.symm
def bA (l : Nat) : Nat := l - ((l >>> 1) &&& 85)
def bB (l : Nat) : Nat := (l &&& 51) + ((l >>> 2) &&& 51)
def bC (l : Nat) : Nat := (l + (l >>> 4)) &&& 15
def bN (l : Nat) : Nat := sumF (fun i => if l.testBit i = true then 1 else 0) 8
theorem b_8 : ∀ l, l < 256 → bC (bB (bA l)) = bN l ∧ ((l >>> 1) &&& 85) ≤ l ∧ bA l < 256 ∧ bB (bA l) < 256 ∧ (bB (bA l)) % 16 ≤ 4 ∧ (bB (bA l)) / 16 ≤ 4 ∧ bN l ≤ 8 := by decide +kernel
theorem sh_1 : ∀ l, l < 256 → ∀ c, c < 2 → ((128 * c + l / 2) &&& 85) = ((l >>> 1) &&& 85) := by decide +kernel
theorem sh_2 : ∀ l, l < 256 → ∀ c, c < 4 → ((64 * c + l / 4) &&& 51) = ((l >>> 2) &&& 51) := by decide +kernel
theorem and_q {h l q : Nat} (hh : h < 256) (hl : l < 256) (hq : q < 256) : (256 * h + l) &&& (q * 16843009) = 256 * (h &&& q) + (l &&& q) := by
  rw [show q * 16843009 = 256 * (q * 65793) + q by omega, and_256 hl hq]
  have e : h &&& (q * 65793) = h &&& q := by
    have := and_256 (h := 0) (l := h) (M := q * 257) (N := q) hh hq
    rw [Nat.mul_zero, Nat.zero_add, Nat.zero_and, Nat.mul_zero, Nat.zero_add] at this
    rw [show q * 65793 = 256 * (q * 257) + q by omega]; exact this
  rw [e]
theorem k_bc_nI {h l : Nat} (hh : h < 256) (hl : l < 256) : k_bc (nI (256 * h + l)) = nI (bN h + bN l) := by
  obtain ⟨h1, h2, h3, h4, h5, h6, h7⟩ := b_8 h hh
  obtain ⟨l1, l2, l3, l4, l5, l6, l7⟩ := b_8 l hl
  have ea : nI (256 * h + l) - (k_ush (nI (256 * h + l)) 1 &&& 1431655765) = nI (256 * bA h + bA l) := by
    rw [show k_ush (nI (256 * h + l)) 1 = nI ((256 * h + l) >>> 1) from k_ush_nI (by omega) (by decide), show (1431655765 : Int32) = nI (85 * 16843009) from rfl, and_nI, Nat.shiftRight_eq_div_pow, show (256 * h + l) / 2 ^ 1 = 256 * (h / 2) + (128 * (h % 2) + l / 2) by omega, and_q (by omega) (by omega) (by decide), sh_1 l hl _ (by omega), show h / 2 = h >>> 1 by rw [Nat.shiftRight_eq_div_pow], nI_sub (by omega)]
    congr 1
    unfold bA
    omega
  have eb : (nI (256 * bA h + bA l) &&& 858993459) + (k_ush (nI (256 * bA h + bA l)) 2 &&& 858993459) = nI (256 * bB (bA h) + bB (bA l)) := by
    rw [show k_ush (nI (256 * bA h + bA l)) 2 = nI ((256 * bA h + bA l) >>> 2) from k_ush_nI (by omega) (by decide), show (858993459 : Int32) = nI (51 * 16843009) from rfl, and_nI, and_nI, Nat.shiftRight_eq_div_pow, show (256 * bA h + bA l) / 2 ^ 2 = 256 * (bA h / 4) + (64 * (bA h % 4) + bA l / 4) by omega, and_q h3 l3 (by decide), and_q (by omega) (by omega) (by decide), sh_2 _ l3 _ (by omega), show bA h / 4 = bA h >>> 2 by rw [Nat.shiftRight_eq_div_pow], nI_add]
    congr 1
    unfold bB
    omega
  have ec : (nI (256 * bB (bA h) + bB (bA l)) + k_ush (nI (256 * bB (bA h) + bB (bA l))) 4) &&& 252645135 = nI (256 * bN h + bN l) := by
    rw [show k_ush (nI (256 * bB (bA h) + bB (bA l))) 4 = nI ((256 * bB (bA h) + bB (bA l)) >>> 4) from k_ush_nI (by omega) (by decide), show (252645135 : Int32) = nI (15 * 16843009) from rfl, nI_add, and_nI, Nat.shiftRight_eq_div_pow, ← h1, ← l1]
    unfold bC
    rw [Nat.shiftRight_eq_div_pow, Nat.shiftRight_eq_div_pow]
    generalize bB (bA h) = B at *
    generalize bB (bA l) = C at *
    rw [show 256 * B + C + (256 * B + C) / 2 ^ 4 = 256 * (B + B / 2 ^ 4) + (C + C / 2 ^ 4 + 16 * (B % 16)) by omega, and_q (by omega) (by omega) (by decide)]
    congr 2
    rw [show (15 : Nat) = 2 ^ 4 - 1 from rfl, Nat.and_two_pow_sub_one_eq_mod, Nat.and_two_pow_sub_one_eq_mod]
    omega
  have ed : nI (256 * bN h + bN l) + k_ush (nI (256 * bN h + bN l)) 8 = nI (256 * bN h + bN l + bN h) := by
    rw [show k_ush (nI (256 * bN h + bN l)) 8 = nI ((256 * bN h + bN l) >>> 8) from k_ush_nI (by omega) (by decide), Nat.shiftRight_eq_div_pow, nI_add]
    congr 1
    omega
  have ee : nI (256 * bN h + bN l + bN h) + k_ush (nI (256 * bN h + bN l + bN h)) 16 = nI (256 * bN h + bN l + bN h) := by
    rw [show k_ush (nI (256 * bN h + bN l + bN h)) 16 = nI ((256 * bN h + bN l + bN h) >>> 16) from k_ush_nI (by omega) (by decide), Nat.shiftRight_eq_div_pow, nI_add]
    congr 1
    omega
  unfold k_bc
  dsimp only
  rw [ea, eb, ec, ed, ee, show (63 : Int32) = nI 63 from rfl, and_nI]
  congr 1
  rw [show (63 : Nat) = 2 ^ 6 - 1 from rfl, Nat.and_two_pow_sub_one_eq_mod]
  omega

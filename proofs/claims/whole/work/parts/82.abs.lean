/-! PURE: numbers -/
theorem pu_in64 {n : Nat} {a lo hi : Int64} : x_in n a lo hi = some (kt_f (lo ≤ a ∧ a ≤ hi)) := by
  unfold x_in
  simp only [lg_cmp_lt, lg_cmp_gt]
  by_cases h1 : a < lo
  · rw [if_pos h1, kt_f_f (fun h => absurd h.1 (by rw [Int64.not_le]; exact h1))]
  · rw [if_neg h1]
    by_cases h2 : hi < a
    · rw [if_pos h2, kt_f_f (fun h => absurd h.2 (by rw [Int64.not_le]; exact h2))]
    · rw [if_neg h2, kt_f_t ⟨Int64.not_lt.mp h1, Int64.not_lt.mp h2⟩]
theorem pu_in {n : Nat} {a lo hi : Int32} {l h : Int64} (hl : l = lo.toInt64) (hh : h = hi.toInt64) : x_in n (Int32.toInt64 a) l h = some (kt_f (lo ≤ a ∧ a ≤ hi)) := by
  subst hl; subst hh
  rw [pu_in64]
  congr 1
  unfold kt_f
  simp only [Int64.le_iff_toInt_le, Int32.toInt_toInt64, Int32.le_iff_toInt_le]
theorem pu_flag {n : Nat} {a : Int32} (h : a = 0 ∨ a = 1) : x_flag n a = some a := by
  unfold x_flag
  rcases h with h | h <;> subst h <;> rfl
theorem pu_lit (n : Nat) : (OfNat.ofNat n : Int32) = nI (OfNat.ofNat n) := rfl
theorem nI_mul (a b : Nat) : nI a * nI b = nI (a * b) := (Int32.ofNat_mul a b).symm
theorem nI_sub {a b : Nat} (h : b ≤ a) : nI a - nI b = nI (a - b) := by
  have := nI_add (a - b) b
  rw [Nat.sub_add_cancel h] at this
  rw [← this, Int32.add_sub_cancel]
theorem pu_kin {a N : Nat} (h : a < N) (hN : N < 2 ^ 31) : kq_in (nI a) N := by
  unfold kq_in; rw [nI_toInt (by omega)]; omega
/-- a check that holds, an index named by a number -/
theorem pu_ck {α : Type} {a N : Nat} {i : Int32} {k : Option α} (hi : i = nI a) (h : a < N) (hN : N < 2 ^ 31) : kq_ck (kq_in i N) k = k := by subst hi; exact kq_ck_t (pu_kin h hN)
theorem pu_cl {a : Nat} {i : Int32} (hi : i = nI a) (h : a < 2 ^ 31) : i.toNatClampNeg = a := by subst hi; exact nI_clamp h
theorem pu_at {n p b w : Nat} : x_at n (nI p) (nI b) (nI w) = some (nI (321 * p + 1 + 20 * b + w)) := by
  unfold x_at
  simp only [pu_lit, nI_add, nI_mul]
theorem pu_of {n m p b w : Nat} {μ : kt_M} (h : 321 * p + 1 + 20 * b + w < 1284) : x_of n m μ (nI p) (nI b) (nI w) = some (kt_i μ (m + 1) (321 * p + 1 + 20 * b + w), μ) := by
  unfold x_of
  rw [kq_b1_s pu_at, pu_ck rfl h (by decide), nI_clamp (by omega)]
theorem pu_many {n m p : Nat} {μ : kt_M} (h : p ≤ 3) : x_many n m μ (nI p) = some (kt_i μ (m + 1) (321 * p), μ) := by
  unfold x_many
  rw [pu_lit, nI_mul, pu_ck rfl (by omega) (by decide), nI_clamp (by omega)]
theorem pu_isTest {n e : Nat} (h : e ≤ 3) : x_isTest n (nI e) = some (kt_f (2 ≤ e)) := by
  have : e = 0 ∨ e = 1 ∨ e = 2 ∨ e = 3 := by omega
  rcases this with h | h | h | h <;> subst h <;> rfl
theorem pu_pair {α β : Type} {a a' : α} {b b' : β} (h1 : a = a') (h2 : b = b') : some (a, b) = some (a', b') := by rw [h1, h2]
/-! PURE: blocks and programs. A block: acts (number; kind, variable, operand), end, where to, test (left, whether the right is a variable, right), origin -/
abbrev DB : Type := Nat × (Nat → Nat × Nat × Nat) × Nat × (Nat × Nat) × (Nat × Nat × Nat) × Nat
abbrev DP : Type := Nat × (Nat → DB)
def db_na (D : DB) : Nat := D.1
def db_ki (D : DB) (i : Nat) : Nat := (D.2.1 i).1
def db_va (D : DB) (i : Nat) : Nat := (D.2.1 i).2.1
def db_op (D : DB) (i : Nat) : Nat := (D.2.1 i).2.2
def db_en (D : DB) : Nat := D.2.2.1
def db_t0 (D : DB) : Nat := D.2.2.2.1.1
def db_t1 (D : DB) : Nat := D.2.2.2.1.2
def db_lf (D : DB) : Nat := D.2.2.2.2.1.1
def db_rv (D : DB) : Nat := D.2.2.2.2.1.2.1
def db_rt (D : DB) : Nat := D.2.2.2.2.1.2.2
def db_or (D : DB) : Nat := D.2.2.2.2.2
def db_tg (D : DB) (s : Nat) : Nat := if s = 0 then db_t0 D else db_t1 D
def db_ne (D : DB) : Nat := if db_en D = 0 then 0 else if db_en D = 1 then 1 else 2
/-- a block is well formed among s blocks -/
def WB (D : DB) (s : Nat) : Prop := db_na D ≤ 4 ∧ (∀ i, i < db_na D → db_ki D i ≤ 5 ∧ db_va D i < 4 ∧ (db_ki D i < 3 → db_op D i ≤ 50) ∧ (db_ki D i = 3 → db_op D i < 4)) ∧ db_en D ≤ 3 ∧ (1 ≤ db_en D → db_t0 D < s) ∧ (2 ≤ db_en D → db_t1 D < s ∧ db_lf D < 4 ∧ db_rv D ≤ 1 ∧ (db_rv D = 0 → db_rt D ≤ 50) ∧ (db_rv D = 1 → db_rt D < 4)) ∧ db_or D < 8
def WP (P : DP) (N : Nat) : Prop := P.1 ≤ N ∧ ∀ b, b < P.1 → WB (P.2 b) P.1
theorem db_ne_le (D : DB) : db_ne D ≤ 2 := by unfold db_ne; split; decide; split; decide; decide
theorem WB.tg {D : DB} {s x : Nat} (h : WB D s) (hx : x < db_ne D) : db_tg D x < s := by
  unfold db_ne at hx
  unfold db_tg
  by_cases e0 : db_en D = 0
  · rw [if_pos e0] at hx; omega
  · rw [if_neg e0] at hx
    by_cases e1 : db_en D = 1
    · rw [if_pos e1] at hx
      rw [if_pos (by omega)]; exact h.2.2.2.1 (by omega)
    · by_cases ex : x = 0
      · rw [if_pos ex]; exact h.2.2.2.1 (by omega)
      · rw [if_neg ex]; exact (h.2.2.2.2.1 (by have := h.2.2.1; omega)).1
/-- the class's block at k -/
def CB (μ : kt_M) (k : Nat) (D : DB) : Prop := kt_i μ k 0 = nI (db_na D) ∧ (∀ i, i < db_na D → kt_i μ (k + 1) i = nI (db_ki D i) ∧ kt_i μ (k + 2) i = nI (db_va D i) ∧ (db_ki D i < 4 → kt_i μ (k + 3) i = nI (db_op D i))) ∧ kt_i μ k 4 = nI (db_en D) ∧ (1 ≤ db_en D → kt_i μ k 8 = nI (db_t0 D)) ∧ (2 ≤ db_en D → kt_i μ k 9 = nI (db_t1 D) ∧ kt_i μ k 5 = nI (db_lf D) ∧ kt_i μ k 6 = nI (db_rv D) ∧ kt_i μ k 7 = nI (db_rt D)) ∧ kt_i μ k 10 = nI (db_or D) ∧ (kt_i μ k 6 = 0 ∨ kt_i μ k 6 = 1)
/-- the model's cell -/
def mr (μ : kt_M) (m p b w : Nat) : Int32 := kt_i μ (m + 1) (321 * p + 1 + 20 * b + w)
def MB (μ : kt_M) (m p b : Nat) (D : DB) : Prop := mr μ m p b 0 = nI (db_na D) ∧ (∀ i, i < db_na D → mr μ m p b (1 + 3 * i) = nI (db_ki D i) ∧ mr μ m p b (1 + 3 * i + 1) = nI (db_va D i) ∧ mr μ m p b (1 + 3 * i + 2) = if db_ki D i < 4 then nI (db_op D i) else -4) ∧ mr μ m p b 13 = nI (db_en D) ∧ mr μ m p b 14 = (if 1 ≤ db_en D then nI (db_t0 D) else -4) ∧ mr μ m p b 15 = (if 2 ≤ db_en D then nI (db_t1 D) else -4) ∧ mr μ m p b 16 = (if 2 ≤ db_en D then nI (db_lf D) else -4) ∧ mr μ m p b 17 = (if 2 ≤ db_en D then nI (db_rv D) else -4) ∧ mr μ m p b 18 = (if 2 ≤ db_en D then nI (db_rt D) else -4) ∧ mr μ m p b 19 = nI (db_or D)
def CP (μ : kt_M) (q : Nat) (P : DP) : Prop := kt_i μ q 3 = nI P.1 ∧ ∀ b, b < P.1 → CB μ (q + 7 + 4 * b) (P.2 b)
def MP (μ : kt_M) (m p : Nat) (P : DP) : Prop := kt_i μ (m + 1) (321 * p) = nI P.1 ∧ ∀ b, b < P.1 → MB μ m p b (P.2 b)
/-- the stand-in block of a Program -/
def NW (μ : kt_M) (q : Nat) : Prop := kt_i μ (q + 1) 0 = 0 ∧ kt_i μ (q + 1) 4 = 0
theorem CB.ext {μ μ' : kt_M} {k : Nat} {D : DB} (h : CB μ k D) (he : ∀ x j, k ≤ x → x < k + 4 → kt_i μ' x j = kt_i μ x j) : CB μ' k D := by
  unfold CB at h ⊢
  have e0 := fun j => he k j (by omega) (by omega)
  have e1 := fun j => he (k + 1) j (by omega) (by omega)
  have e2 := fun j => he (k + 2) j (by omega) (by omega)
  have e3 := fun j => he (k + 3) j (by omega) (by omega)
  simp only [e0, e1, e2, e3]
  exact h
theorem MB.ext {μ μ' : kt_M} {m p b : Nat} {D : DB} (h : MB μ m p b D) (he : ∀ j, kt_i μ' (m + 1) j = kt_i μ (m + 1) j) : MB μ' m p b D := by
  unfold MB mr at h ⊢
  simp only [he]
  exact h
theorem CP.ext {μ μ' : kt_M} {q N : Nat} {P : DP} (h : CP μ q P) (hN : P.1 ≤ N) (he : ∀ x j, q ≤ x → x < q + 7 + 4 * N → kt_i μ' x j = kt_i μ x j) : CP μ' q P :=
  ⟨by rw [he q 3 (by omega) (by omega)]; exact h.1, fun b hb => (h.2 b hb).ext (fun x j h1 h2 => he x j (by omega) (by omega))⟩
theorem MP.ext {μ μ' : kt_M} {m p : Nat} {P : DP} (h : MP μ m p P) (he : ∀ j, kt_i μ' (m + 1) j = kt_i μ (m + 1) j) : MP μ' m p P :=
  ⟨by rw [he]; exact h.1, fun b hb => (h.2 b hb).ext he⟩

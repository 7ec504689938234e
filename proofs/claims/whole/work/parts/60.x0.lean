/-! mirrors in Option: a step that the machine would refuse is none; loops have fuel -/
def kq_ck {α : Type} (c : Prop) [Decidable c] (k : Option α) : Option α := if c then k else none
theorem kq_ck_e {α : Type} {c : Prop} [Decidable c] {k : Option α} {q : α} (h : kq_ck c k = some q) : c ∧ k = some q := by
  unfold kq_ck at h
  by_cases hc : c
  · rw [if_pos hc] at h; exact ⟨hc, h⟩
  · rw [if_neg hc] at h; cases h
theorem kq_ck_t {α : Type} {c : Prop} [Decidable c] {k : Option α} (h : c) : kq_ck c k = k := if_pos h
def kq_lt {α : Type} (x : kt_M) (f : kt_M → Option α) : Option α := f x
def kq_b1 {α β : Type} (x : Option α) (f : α → Option β) : Option β := match x with | none => none | some a => f a
def kq_b2 {α β : Type} (x : Option (α × kt_M)) (f : α → kt_M → Option β) : Option β := match x with | none => none | some a => f a.1 a.2
theorem kq_b1_e {α β : Type} {x : Option α} {f : α → Option β} {q : β} (h : kq_b1 x f = some q) : ∃ a, x = some a ∧ f a = some q := by
  cases x with
  | none => cases h
  | some a => exact ⟨a, rfl, h⟩
theorem kq_b2_e {α β : Type} {x : Option (α × kt_M)} {f : α → kt_M → Option β} {q : β} (h : kq_b2 x f = some q) : ∃ a b, x = some (a, b) ∧ f a b = some q := by
  cases x with
  | none => cases h
  | some a => exact ⟨a.1, a.2, rfl, h⟩
theorem kq_b1_s {α β : Type} {x : Option α} {a : α} {f : α → Option β} (h : x = some a) : kq_b1 x f = f a := by rw [h]; rfl
theorem kq_b2_s {α β : Type} {x : Option (α × kt_M)} {a : α} {b : kt_M} {f : α → kt_M → Option β} (h : x = some (a, b)) : kq_b2 x f = f a b := by rw [h]; rfl
theorem kq_t {α : Type} {c : Prop} [Decidable c] {a b : α} {r : α} (hc : c) (h : (if c then a else b) = r) : a = r := (if_pos hc).symm.trans h
theorem kq_f {α : Type} {c : Prop} [Decidable c] {a b : α} {r : α} (hc : ¬ c) (h : (if c then a else b) = r) : b = r := (if_neg hc).symm.trans h
abbrev kq_in (i : Int32) (N : Nat) : Prop := 0 ≤ i.toInt ∧ i.toInt < N
theorem kr_ltM {G : kt_G} {X : kt_X} {nL pc cs ss : Nat} {lv : List (Nat × Value)} {st : List Value} {σ : kt_Y} {Z : State → Prop} {α : Type} {x : kt_M} {f : kt_M → Option α} {q : α} (h : kq_lt x f = some q) (k : ∀ μ1, f μ1 = some q → kt_W G X nL pc lv st σ μ1 cs ss Z) : kt_W G X nL pc lv st σ x cs ss Z := k x h
theorem kq_rI {v : Int32} {μ : kt_M} {q : Int32 × kt_M} (h : some (v, μ) = some q) : some (Value.int v) = some (.int q.1) ∧ μ = q.2 := by cases h; exact ⟨rfl, rfl⟩
theorem kq_rJ {v : Int64} {μ : kt_M} {q : Int64 × kt_M} (h : some (v, μ) = some q) : some (Value.long v) = some (.long q.1) ∧ μ = q.2 := by cases h; exact ⟨rfl, rfl⟩
theorem kq_rV {μ : kt_M} {q : Unit × kt_M} (h : some ((), μ) = some q) : (none : Option Value) = none ∧ μ = q.2 := by cases h; exact ⟨rfl, rfl⟩
theorem kq_rIs {v : Int32} {μ : kt_M} {q : Int32} (h : some v = some q) : some (Value.int v) = some (.int q) ∧ μ = μ := by cases h; exact ⟨rfl, rfl⟩
theorem kq_rJs {v : Int64} {μ : kt_M} {q : Int64} (h : some v = some q) : some (Value.long v) = some (.long q) ∧ μ = μ := by cases h; exact ⟨rfl, rfl⟩

/-- the model at m: its rows lie behind it, in the order of its fields -/
def kt_md (σ : kt_Y) (m : Nat) : Prop := kt_k σ m = some (0, 10) ∧ kt_r σ m 0 = some (m + 1) ∧ kt_r σ m 1 = some (m + 2) ∧ kt_r σ m 2 = some (m + 3) ∧ kt_r σ m 3 = some (m + 4) ∧ kt_r σ m 5 = some (m + 5) ∧ kt_r σ m 13 = some (m + 6) ∧ kt_r σ m 14 = some (m + 7) ∧ kt_r σ m 15 = some (m + 8) ∧ kt_r σ m 16 = some (m + 9) ∧ kt_r σ m 17 = some (m + 10) ∧ kt_r σ m 18 = some (m + 11) ∧ kt_r σ m 19 = some (m + 12) ∧ kt_r σ m 20 = some (m + 13) ∧ kt_r σ m 21 = some (m + 14) ∧ kt_r σ m 29 = some (m + 15) ∧ kt_r σ m 30 = some (m + 16) ∧ kt_r σ m 31 = some (m + 17) ∧ kt_r σ m 32 = some (m + 18) ∧ kt_k σ (m + 1) = some (1, 1284) ∧ kt_k σ (m + 2) = some (1, 321) ∧ kt_k σ (m + 3) = some (1, 8) ∧ kt_k σ (m + 4) = some (3, 2) ∧ kt_k σ (m + 5) = some (1, 200) ∧ kt_k σ (m + 6) = some (2, 64) ∧ kt_k σ (m + 7) = some (2, 4) ∧ kt_k σ (m + 8) = some (2, 4) ∧ kt_k σ (m + 9) = some (3, 16) ∧ kt_k σ (m + 10) = some (1, 16) ∧ kt_k σ (m + 11) = some (1, 16) ∧ kt_k σ (m + 12) = some (1, 4) ∧ kt_k σ (m + 13) = some (1, 240) ∧ kt_k σ (m + 14) = some (1, 60) ∧ kt_k σ (m + 15) = some (1, 8) ∧ kt_k σ (m + 16) = some (1, 4) ∧ kt_k σ (m + 17) = some (1, 4) ∧ kt_k σ (m + 18) = some (1, 160)
theorem md_k {σ : kt_Y} {m : Nat} (h : kt_md σ m) : kt_k σ m = some (0, 10) := h.1
theorem md_r0 {σ : kt_Y} {m : Nat} (h : kt_md σ m) : kt_r σ m 0 = some (m + 1) := h.2.1
theorem md_r1 {σ : kt_Y} {m : Nat} (h : kt_md σ m) : kt_r σ m 1 = some (m + 2) := h.2.2.1
theorem md_r2 {σ : kt_Y} {m : Nat} (h : kt_md σ m) : kt_r σ m 2 = some (m + 3) := h.2.2.2.1
theorem md_r3 {σ : kt_Y} {m : Nat} (h : kt_md σ m) : kt_r σ m 3 = some (m + 4) := h.2.2.2.2.1
theorem md_r5 {σ : kt_Y} {m : Nat} (h : kt_md σ m) : kt_r σ m 5 = some (m + 5) := h.2.2.2.2.2.1
theorem md_r13 {σ : kt_Y} {m : Nat} (h : kt_md σ m) : kt_r σ m 13 = some (m + 6) := h.2.2.2.2.2.2.1
theorem md_r14 {σ : kt_Y} {m : Nat} (h : kt_md σ m) : kt_r σ m 14 = some (m + 7) := h.2.2.2.2.2.2.2.1
theorem md_r15 {σ : kt_Y} {m : Nat} (h : kt_md σ m) : kt_r σ m 15 = some (m + 8) := h.2.2.2.2.2.2.2.2.1
theorem md_r16 {σ : kt_Y} {m : Nat} (h : kt_md σ m) : kt_r σ m 16 = some (m + 9) := h.2.2.2.2.2.2.2.2.2.1
theorem md_r17 {σ : kt_Y} {m : Nat} (h : kt_md σ m) : kt_r σ m 17 = some (m + 10) := h.2.2.2.2.2.2.2.2.2.2.1
theorem md_r18 {σ : kt_Y} {m : Nat} (h : kt_md σ m) : kt_r σ m 18 = some (m + 11) := h.2.2.2.2.2.2.2.2.2.2.2.1
theorem md_r19 {σ : kt_Y} {m : Nat} (h : kt_md σ m) : kt_r σ m 19 = some (m + 12) := h.2.2.2.2.2.2.2.2.2.2.2.2.1
theorem md_r20 {σ : kt_Y} {m : Nat} (h : kt_md σ m) : kt_r σ m 20 = some (m + 13) := h.2.2.2.2.2.2.2.2.2.2.2.2.2.1
theorem md_r21 {σ : kt_Y} {m : Nat} (h : kt_md σ m) : kt_r σ m 21 = some (m + 14) := h.2.2.2.2.2.2.2.2.2.2.2.2.2.2.1
theorem md_r29 {σ : kt_Y} {m : Nat} (h : kt_md σ m) : kt_r σ m 29 = some (m + 15) := h.2.2.2.2.2.2.2.2.2.2.2.2.2.2.2.1
theorem md_r30 {σ : kt_Y} {m : Nat} (h : kt_md σ m) : kt_r σ m 30 = some (m + 16) := h.2.2.2.2.2.2.2.2.2.2.2.2.2.2.2.2.1
theorem md_r31 {σ : kt_Y} {m : Nat} (h : kt_md σ m) : kt_r σ m 31 = some (m + 17) := h.2.2.2.2.2.2.2.2.2.2.2.2.2.2.2.2.2.1
theorem md_r32 {σ : kt_Y} {m : Nat} (h : kt_md σ m) : kt_r σ m 32 = some (m + 18) := h.2.2.2.2.2.2.2.2.2.2.2.2.2.2.2.2.2.2.1
theorem md_a1 {σ : kt_Y} {m : Nat} (h : kt_md σ m) : kt_k σ (m + 1) = some (1, 1284) := h.2.2.2.2.2.2.2.2.2.2.2.2.2.2.2.2.2.2.2.1
theorem md_a2 {σ : kt_Y} {m : Nat} (h : kt_md σ m) : kt_k σ (m + 2) = some (1, 321) := h.2.2.2.2.2.2.2.2.2.2.2.2.2.2.2.2.2.2.2.2.1
theorem md_a3 {σ : kt_Y} {m : Nat} (h : kt_md σ m) : kt_k σ (m + 3) = some (1, 8) := h.2.2.2.2.2.2.2.2.2.2.2.2.2.2.2.2.2.2.2.2.2.1
theorem md_a4 {σ : kt_Y} {m : Nat} (h : kt_md σ m) : kt_k σ (m + 4) = some (3, 2) := h.2.2.2.2.2.2.2.2.2.2.2.2.2.2.2.2.2.2.2.2.2.2.1
theorem md_a5 {σ : kt_Y} {m : Nat} (h : kt_md σ m) : kt_k σ (m + 5) = some (1, 200) := h.2.2.2.2.2.2.2.2.2.2.2.2.2.2.2.2.2.2.2.2.2.2.2.1
theorem md_a6 {σ : kt_Y} {m : Nat} (h : kt_md σ m) : kt_k σ (m + 6) = some (2, 64) := h.2.2.2.2.2.2.2.2.2.2.2.2.2.2.2.2.2.2.2.2.2.2.2.2.1
theorem md_a7 {σ : kt_Y} {m : Nat} (h : kt_md σ m) : kt_k σ (m + 7) = some (2, 4) := h.2.2.2.2.2.2.2.2.2.2.2.2.2.2.2.2.2.2.2.2.2.2.2.2.2.1
theorem md_a8 {σ : kt_Y} {m : Nat} (h : kt_md σ m) : kt_k σ (m + 8) = some (2, 4) := h.2.2.2.2.2.2.2.2.2.2.2.2.2.2.2.2.2.2.2.2.2.2.2.2.2.2.1
theorem md_a9 {σ : kt_Y} {m : Nat} (h : kt_md σ m) : kt_k σ (m + 9) = some (3, 16) := h.2.2.2.2.2.2.2.2.2.2.2.2.2.2.2.2.2.2.2.2.2.2.2.2.2.2.2.1
theorem md_a10 {σ : kt_Y} {m : Nat} (h : kt_md σ m) : kt_k σ (m + 10) = some (1, 16) := h.2.2.2.2.2.2.2.2.2.2.2.2.2.2.2.2.2.2.2.2.2.2.2.2.2.2.2.2.1
theorem md_a11 {σ : kt_Y} {m : Nat} (h : kt_md σ m) : kt_k σ (m + 11) = some (1, 16) := h.2.2.2.2.2.2.2.2.2.2.2.2.2.2.2.2.2.2.2.2.2.2.2.2.2.2.2.2.2.1
theorem md_a12 {σ : kt_Y} {m : Nat} (h : kt_md σ m) : kt_k σ (m + 12) = some (1, 4) := h.2.2.2.2.2.2.2.2.2.2.2.2.2.2.2.2.2.2.2.2.2.2.2.2.2.2.2.2.2.2.1
theorem md_a13 {σ : kt_Y} {m : Nat} (h : kt_md σ m) : kt_k σ (m + 13) = some (1, 240) := h.2.2.2.2.2.2.2.2.2.2.2.2.2.2.2.2.2.2.2.2.2.2.2.2.2.2.2.2.2.2.2.1
theorem md_a14 {σ : kt_Y} {m : Nat} (h : kt_md σ m) : kt_k σ (m + 14) = some (1, 60) := h.2.2.2.2.2.2.2.2.2.2.2.2.2.2.2.2.2.2.2.2.2.2.2.2.2.2.2.2.2.2.2.2.1
theorem md_a15 {σ : kt_Y} {m : Nat} (h : kt_md σ m) : kt_k σ (m + 15) = some (1, 8) := h.2.2.2.2.2.2.2.2.2.2.2.2.2.2.2.2.2.2.2.2.2.2.2.2.2.2.2.2.2.2.2.2.2.1
theorem md_a16 {σ : kt_Y} {m : Nat} (h : kt_md σ m) : kt_k σ (m + 16) = some (1, 4) := h.2.2.2.2.2.2.2.2.2.2.2.2.2.2.2.2.2.2.2.2.2.2.2.2.2.2.2.2.2.2.2.2.2.2.1
theorem md_a17 {σ : kt_Y} {m : Nat} (h : kt_md σ m) : kt_k σ (m + 17) = some (1, 4) := h.2.2.2.2.2.2.2.2.2.2.2.2.2.2.2.2.2.2.2.2.2.2.2.2.2.2.2.2.2.2.2.2.2.2.2.1
theorem md_a18 {σ : kt_Y} {m : Nat} (h : kt_md σ m) : kt_k σ (m + 18) = some (1, 160) := h.2.2.2.2.2.2.2.2.2.2.2.2.2.2.2.2.2.2.2.2.2.2.2.2.2.2.2.2.2.2.2.2.2.2.2.2
def x_in (n : Nat) (a0 : Int64) (a1 : Int64) (a2 : Int64) : Option Int32 := (if (lg_cmp a0 a1) < 0 then some (0 : Int32) else (if 0 < (lg_cmp a0 a2) then some (0 : Int32) else some (1 : Int32)))
set_option maxHeartbeats 4000000 in
set_option maxRecDepth 100000 in
theorem xs_in {G : kt_G} {σ : kt_Y} {μ : kt_M} {n : Nat} {a0 : Int64} {a1 : Int64} {a2 : Int64} {q : Int32} (h : x_in n a0 a1 a2 = some q) : kt_F G yX10_in cX10_in 6 (some .boolean) 0 [.long a0, .long a1, .long a2] σ μ (fun rv μ2 => rv = some (.int q) ∧ μ2 = μ) := by
  unfold x_in at h
  refine kt_F.of (by decide) (Nat.le_of_ble_eq_true rfl) (fun X hX hr => ?_)
  refine kr_lload_n (i := 0) hX dX10_in_0 rfl rfl ?_
  refine kr_lload_n (i := 2) hX dX10_in_1 rfl rfl ?_
  refine kr_lcmp hX dX10_in_2 ?_
  refine kr_if_lt (tgt := 17) hX dX10_in_3 (by decide) (fun c_3 => ?_) (fun c_3 => ?_)
  · replace h := kq_t c_3 h
    refine kr_iconst (v := 0) hX dX10_in_17 (by decide) ?_
    refine kr_zret hX hr (by decide) dX10_in_18 ⟨rfl, ?_⟩
    exact kq_rIs h
  · replace h := kq_f c_3 h
    refine kr_lload_n (i := 0) hX dX10_in_6 rfl rfl ?_
    refine kr_lload hX dX10_in_7 rfl ?_
    refine kr_lcmp hX dX10_in_9 ?_
    refine kr_if_gt (tgt := 17) hX dX10_in_10 (by decide) (fun c_10 => ?_) (fun c_10 => ?_)
    · replace h := kq_t c_10 h
      refine kr_iconst (v := 0) hX dX10_in_17 (by decide) ?_
      refine kr_zret hX hr (by decide) dX10_in_18 ⟨rfl, ?_⟩
      exact kq_rIs h
    · replace h := kq_f c_10 h
      refine kr_iconst (v := 1) hX dX10_in_13 (by decide) ?_
      refine kr_goto (tgt := 18) hX dX10_in_14 (by decide) ?_
      refine kr_zret hX hr (by decide) dX10_in_18 ⟨rfl, ?_⟩
      exact kq_rIs h
def x_flag (n : Nat) (a0 : Int32) : Option Int32 := (if a0 = 0 then some (0 : Int32) else some (1 : Int32))
set_option maxHeartbeats 4000000 in
set_option maxRecDepth 100000 in
theorem xs_flag {G : kt_G} {σ : kt_Y} {μ : kt_M} {n : Nat} {a0 : Int32} {q : Int32} (h : x_flag n a0 = some q) : kt_F G yX10_flag cX10_flag 1 (some .int) 0 [.int a0] σ μ (fun rv μ2 => rv = some (.int q) ∧ μ2 = μ) := by
  unfold x_flag at h
  refine kt_F.of (by decide) (Nat.le_of_ble_eq_true rfl) (fun X hX hr => ?_)
  refine kr_iload_n (i := 0) hX dX10_flag_0 rfl rfl ?_
  refine kr_if_eq (tgt := 8) hX dX10_flag_1 (by decide) (fun c_1 => ?_) (fun c_1 => ?_)
  · replace h := kq_t c_1 h
    refine kr_iconst (v := 0) hX dX10_flag_8 (by decide) ?_
    refine kr_iret hX hr dX10_flag_9 ⟨rfl, ?_⟩
    exact kq_rIs h
  · replace h := kq_f c_1 h
    refine kr_iconst (v := 1) hX dX10_flag_4 (by decide) ?_
    refine kr_goto (tgt := 9) hX dX10_flag_5 (by decide) ?_
    refine kr_iret hX hr dX10_flag_9 ⟨rfl, ?_⟩
    exact kq_rIs h
def x_at (n : Nat) (a0 : Int32) (a1 : Int32) (a2 : Int32) : Option Int32 := some (((((321 : Int32) * a0) + (1 : Int32)) + ((20 : Int32) * a1)) + a2)
set_option maxHeartbeats 4000000 in
set_option maxRecDepth 100000 in
theorem xs_at {G : kt_G} {σ : kt_Y} {μ : kt_M} {n : Nat} {a0 : Int32} {a1 : Int32} {a2 : Int32} {q : Int32} (h : x_at n a0 a1 a2 = some q) : kt_F G yX10_at cX10_at 3 (some .int) 0 [.int a0, .int a1, .int a2] σ μ (fun rv μ2 => rv = some (.int q) ∧ μ2 = μ) := by
  unfold x_at at h
  refine kt_F.of (by decide) (Nat.le_of_ble_eq_true rfl) (fun X hX hr => ?_)
  refine kr_sipush (v := 321) hX dX10_at_0 (by decide) ?_
  refine kr_iload_n (i := 0) hX dX10_at_3 rfl rfl ?_
  refine kr_imul hX dX10_at_4 ?_
  refine kr_iconst (v := 1) hX dX10_at_5 (by decide) ?_
  refine kr_iadd hX dX10_at_6 ?_
  refine kr_bipush (v := 20) hX dX10_at_7 (by decide) ?_
  refine kr_iload_n (i := 1) hX dX10_at_9 rfl rfl ?_
  refine kr_imul hX dX10_at_10 ?_
  refine kr_iadd hX dX10_at_11 ?_
  refine kr_iload_n (i := 2) hX dX10_at_12 rfl rfl ?_
  refine kr_iadd hX dX10_at_13 ?_
  refine kr_iret hX hr dX10_at_14 ⟨rfl, ?_⟩
  exact kq_rIs h
def x_of (n : Nat) (m : Nat) (μ : kt_M) (a0 : Int32) (a1 : Int32) (a2 : Int32) : Option (Int32 × kt_M) := kq_b1 (x_at n a0 a1 a2) (fun r_7 => kq_ck (kq_in r_7 1284) (some ((kt_i μ (m + 1) (Int32.toNatClampNeg r_7)), μ)))
set_option maxHeartbeats 4000000 in
set_option maxRecDepth 100000 in
theorem xs_of {G : kt_G} {σ : kt_Y} {μ : kt_M} {m : Nat} (hm : kt_md σ m) {n : Nat} {a0 : Int32} {a1 : Int32} {a2 : Int32} {r : Int32} {μ1 : kt_M} (h : x_of n m μ a0 a1 a2 = some (r, μ1)) : kt_F G yX10_of cX10_of 4 (some .int) 1 [.ref m, .int a0, .int a1, .int a2] σ μ (fun rv μ2 => rv = some (.int r) ∧ μ2 = μ1) := by
  have key : ∀ q : (Int32 × kt_M), x_of n m μ a0 a1 a2 = some q → kt_F G yX10_of cX10_of 4 (some .int) 1 [.ref m, .int a0, .int a1, .int a2] σ μ (fun rv μ2 => rv = some (.int q.1) ∧ μ2 = q.2) := by
    intro q h
    unfold x_of at h
    refine kt_F.of (by decide) (Nat.le_of_ble_eq_true rfl) (fun X hX hr => ?_)
    refine kr_aload_n (i := 0) hX dX10_of_0 rfl rfl ?_
    refine kr_getr (c0 := 10) (k := 0) hX ⟨_, kf_10_9⟩ dX10_of_1 rfl (md_k hm) (md_r0 hm) ?_
    refine kr_iload_n (i := 1) hX dX10_of_4 rfl rfl ?_
    refine kr_iload_n (i := 2) hX dX10_of_5 rfl rfl ?_
    refine kr_iload_n (i := 3) hX dX10_of_6 rfl rfl ?_
    obtain ⟨r_7, e_7, h⟩ := kq_b1_e h
    refine kr_dS [_, _, _] hX km_10_70 dX10_of_7 (xs_at e_7) rfl rfl (by decide) (Nat.le_of_ble_eq_true rfl) (Nat.le_refl _) (Nat.le_refl _) ?_
    obtain ⟨i_10, h⟩ := kq_ck_e h
    refine kr_iald hX dX10_of_10 (md_a1 hm) (vp_in_iff.mpr i_10) ?_
    refine kr_iret hX hr dX10_of_11 ⟨rfl, ?_⟩
    exact kq_rI h
  exact key (r, μ1) h
def x_many (n : Nat) (m : Nat) (μ : kt_M) (a0 : Int32) : Option (Int32 × kt_M) := kq_ck (kq_in ((321 : Int32) * a0) 1284) (some ((kt_i μ (m + 1) (Int32.toNatClampNeg ((321 : Int32) * a0))), μ))
set_option maxHeartbeats 4000000 in
set_option maxRecDepth 100000 in
theorem xs_many {G : kt_G} {σ : kt_Y} {μ : kt_M} {m : Nat} (hm : kt_md σ m) {n : Nat} {a0 : Int32} {r : Int32} {μ1 : kt_M} (h : x_many n m μ a0 = some (r, μ1)) : kt_F G yX10_many cX10_many 2 (some .int) 0 [.ref m, .int a0] σ μ (fun rv μ2 => rv = some (.int r) ∧ μ2 = μ1) := by
  have key : ∀ q : (Int32 × kt_M), x_many n m μ a0 = some q → kt_F G yX10_many cX10_many 2 (some .int) 0 [.ref m, .int a0] σ μ (fun rv μ2 => rv = some (.int q.1) ∧ μ2 = q.2) := by
    intro q h
    unfold x_many at h
    refine kt_F.of (by decide) (Nat.le_of_ble_eq_true rfl) (fun X hX hr => ?_)
    refine kr_aload_n (i := 0) hX dX10_many_0 rfl rfl ?_
    refine kr_getr (c0 := 10) (k := 0) hX ⟨_, kf_10_9⟩ dX10_many_1 rfl (md_k hm) (md_r0 hm) ?_
    refine kr_sipush (v := 321) hX dX10_many_4 (by decide) ?_
    refine kr_iload_n (i := 1) hX dX10_many_7 rfl rfl ?_
    refine kr_imul hX dX10_many_8 ?_
    obtain ⟨i_9, h⟩ := kq_ck_e h
    refine kr_iald hX dX10_many_9 (md_a1 hm) (vp_in_iff.mpr i_9) ?_
    refine kr_iret hX hr dX10_many_10 ⟨rfl, ?_⟩
    exact kq_rI h
  exact key (r, μ1) h
def x_copies_B2 (n : Nat) (m : Nat) (K2 : Int32 → Int32 → Int32 → kt_M → Option (Unit × kt_M)) (l1 : Int32) (l2 : Int32) (l3 : Int32) (μ : kt_M) : Option (Unit × kt_M) := (if (321 : Int32) ≤ l3 then some ((), μ) else kq_ck (kq_in (((321 : Int32) * l1) + l3) 1284) (kq_ck (kq_in (((321 : Int32) * l2) + l3) 1284) (kq_lt (kt_si μ (m + 1) (Int32.toNatClampNeg (((321 : Int32) * l2) + l3)) (kt_i μ (m + 1) (Int32.toNatClampNeg (((321 : Int32) * l1) + l3)))) (fun μ_32 => K2 l1 l2 (l3 + 1) μ_32))))
set_option maxHeartbeats 4000000 in
set_option maxRecDepth 100000 in
theorem xw_copies_B2 {G : kt_G} {σ : kt_Y} {X : kt_X} (hX : kt_ok G X RX10 cX10_copies 4 0 0 0) (hr : kt_rt X = none) {m : Nat} (hm : kt_md σ m) {n : Nat} {q : (Unit × kt_M)} {K2 : Int32 → Int32 → Int32 → kt_M → Option (Unit × kt_M)} (hK2 : ∀ (l1 : Int32) (l2 : Int32) (l3 : Int32) (μ : kt_M), K2 l1 l2 l3 μ = some q → kt_W G X 4 2 [(0, .ref m), (1, .int l1), (2, .int l2), (3, .int l3)] [] σ μ 0 0 (kt_Z G X (kt_q σ (fun rv μ2 => rv = none ∧ μ2 = q.2)) 0 0)) {l1 : Int32} {l2 : Int32} {l3 : Int32} {μ : kt_M} (h : x_copies_B2 n m K2 l1 l2 l3 μ = some q) : kt_W G X 4 2 [(0, .ref m), (1, .int l1), (2, .int l2), (3, .int l3)] [] σ μ 0 0 (kt_Z G X (kt_q σ (fun rv μ2 => rv = none ∧ μ2 = q.2)) 0 0) := by
  unfold x_copies_B2 at h
  refine kr_iload_n (i := 3) hX dX10_copies_2 rfl rfl ?_
  refine kr_sipush (v := 321) hX dX10_copies_3 (by decide) ?_
  refine kr_icmp_ge (tgt := 39) hX dX10_copies_6 (by decide) (fun c_6 => ?_) (fun c_6 => ?_)
  · replace h := kq_t c_6 h
    refine kr_vret hX hr dX10_copies_39 ⟨rfl, ?_⟩
    exact kq_rV h
  · replace h := kq_f c_6 h
    refine kr_aload_n (i := 0) hX dX10_copies_9 rfl rfl ?_
    refine kr_getr (c0 := 10) (k := 0) hX ⟨_, kf_10_9⟩ dX10_copies_10 rfl (md_k hm) (md_r0 hm) ?_
    refine kr_sipush (v := 321) hX dX10_copies_13 (by decide) ?_
    refine kr_iload_n (i := 2) hX dX10_copies_16 rfl rfl ?_
    refine kr_imul hX dX10_copies_17 ?_
    refine kr_iload_n (i := 3) hX dX10_copies_18 rfl rfl ?_
    refine kr_iadd hX dX10_copies_19 ?_
    refine kr_aload_n (i := 0) hX dX10_copies_20 rfl rfl ?_
    refine kr_getr (c0 := 10) (k := 0) hX ⟨_, kf_10_9⟩ dX10_copies_21 rfl (md_k hm) (md_r0 hm) ?_
    refine kr_sipush (v := 321) hX dX10_copies_24 (by decide) ?_
    refine kr_iload_n (i := 1) hX dX10_copies_27 rfl rfl ?_
    refine kr_imul hX dX10_copies_28 ?_
    refine kr_iload_n (i := 3) hX dX10_copies_29 rfl rfl ?_
    refine kr_iadd hX dX10_copies_30 ?_
    obtain ⟨i_31, h⟩ := kq_ck_e h
    refine kr_iald hX dX10_copies_31 (md_a1 hm) (vp_in_iff.mpr i_31) ?_
    obtain ⟨i_32, h⟩ := kq_ck_e h
    refine kr_iast hX dX10_copies_32 (md_a1 hm) (vp_in_iff.mpr i_32) ?_
    refine kr_ltM h (fun μ_32 h => ?_)
    refine kr_iinc (v := (l3 + 1)) hX dX10_copies_33 rfl rfl (by decide) rfl rfl ?_
    refine kr_goto (tgt := 2) hX dX10_copies_36 (by decide) ?_
    refine kr_keep (lv' := [(0, .ref m), (1, .int l1), (2, .int l2), (3, .int (l3 + 1))]) [0, 1, 2, 3] rfl ?_
    exact hK2 _ _ _ _ h
def x_copies_L2 (n : Nat) (m : Nat) : Nat → Int32 → Int32 → Int32 → kt_M → Option (Unit × kt_M)
  | 0, _, _, _, _ => none
  | k + 1, l1, l2, l3, μ => x_copies_B2 n m (x_copies_L2 n m k) l1 l2 l3 μ
set_option maxHeartbeats 4000000 in
set_option maxRecDepth 100000 in
theorem xw_copies_L2 {G : kt_G} {σ : kt_Y} {X : kt_X} (hX : kt_ok G X RX10 cX10_copies 4 0 0 0) (hr : kt_rt X = none) {m : Nat} (hm : kt_md σ m) {n : Nat} {q : (Unit × kt_M)} : ∀ (k : Nat) (l1 : Int32) (l2 : Int32) (l3 : Int32) (μ : kt_M), x_copies_L2 n m k l1 l2 l3 μ = some q → kt_W G X 4 2 [(0, .ref m), (1, .int l1), (2, .int l2), (3, .int l3)] [] σ μ 0 0 (kt_Z G X (kt_q σ (fun rv μ2 => rv = none ∧ μ2 = q.2)) 0 0) := by
  intro k
  induction k with
  | zero => intro l1 l2 l3 μ h; cases h
  | succ k ih => intro l1 l2 l3 μ h; exact xw_copies_B2 hX hr hm ih h
def x_copies (n : Nat) (m : Nat) (μ : kt_M) (a0 : Int32) (a1 : Int32) : Option (Unit × kt_M) := x_copies_L2 n m n a0 a1 (0 : Int32) μ
set_option maxHeartbeats 4000000 in
set_option maxRecDepth 100000 in
theorem xs_copies {G : kt_G} {σ : kt_Y} {μ : kt_M} {m : Nat} (hm : kt_md σ m) {n : Nat} {a0 : Int32} {a1 : Int32} {r : Unit} {μ1 : kt_M} (h : x_copies n m μ a0 a1 = some (r, μ1)) : kt_F G yX10_copies cX10_copies 4 none 0 [.ref m, .int a0, .int a1] σ μ (fun rv μ2 => rv = none ∧ μ2 = μ1) := by
  have key : ∀ q : (Unit × kt_M), x_copies n m μ a0 a1 = some q → kt_F G yX10_copies cX10_copies 4 none 0 [.ref m, .int a0, .int a1] σ μ (fun rv μ2 => rv = none ∧ μ2 = q.2) := by
    intro q h
    unfold x_copies at h
    refine kt_F.of (by decide) (Nat.le_of_ble_eq_true rfl) (fun X hX hr => ?_)
    refine kr_iconst (v := 0) hX dX10_copies_0 (by decide) ?_
    refine kr_istore_n (i := 3) hX dX10_copies_1 rfl (by decide) rfl rfl ?_
    refine kr_keep (lv' := [(0, .ref m), (1, .int a0), (2, .int a1), (3, .int (0 : Int32))]) [0, 1, 2, 3] rfl ?_
    exact xw_copies_L2 hX hr hm n _ _ _ _ h
  exact key (r, μ1) h
def x_anew (n : Nat) (m : Nat) (μ : kt_M) : Option (Unit × kt_M) := kq_b2 (x_copies n m μ (0 : Int32) (1 : Int32)) (fun r_3 μ_3 => kq_lt (kt_si μ_3 (m + 4) (Int32.toNatClampNeg (0 : Int32)) (0 : Int32)) (fun μ_12 => kq_lt (kt_si μ_12 (m + 4) (Int32.toNatClampNeg (1 : Int32)) (0 : Int32)) (fun μ_19 => some ((), μ_19))))
set_option maxHeartbeats 4000000 in
set_option maxRecDepth 100000 in
theorem xs_anew {G : kt_G} {σ : kt_Y} {μ : kt_M} {m : Nat} (hm : kt_md σ m) {n : Nat} {r : Unit} {μ1 : kt_M} (h : x_anew n m μ = some (r, μ1)) : kt_F G yX10_anew cX10_anew 1 none 1 [.ref m] σ μ (fun rv μ2 => rv = none ∧ μ2 = μ1) := by
  have key : ∀ q : (Unit × kt_M), x_anew n m μ = some q → kt_F G yX10_anew cX10_anew 1 none 1 [.ref m] σ μ (fun rv μ2 => rv = none ∧ μ2 = q.2) := by
    intro q h
    unfold x_anew at h
    refine kt_F.of (by decide) (Nat.le_of_ble_eq_true rfl) (fun X hX hr => ?_)
    refine kr_aload_n (i := 0) hX dX10_anew_0 rfl rfl ?_
    refine kr_iconst (v := 0) hX dX10_anew_1 (by decide) ?_
    refine kr_iconst (v := 1) hX dX10_anew_2 (by decide) ?_
    obtain ⟨r_3, μ_3, e_3, h⟩ := kq_b2_e h
    refine kr_dV (c1 := 10) [_, _] hX km_10_74 dX10_anew_3 (xs_copies hm e_3) rfl rfl ⟨_, _, rfl⟩ (by decide) (Nat.le_of_ble_eq_true rfl) (Nat.le_refl _) (Nat.le_refl _) (md_k hm) ?_
    refine kr_aload_n (i := 0) hX dX10_anew_6 rfl rfl ?_
    refine kr_getr (c0 := 10) (k := 3) hX ⟨_, kf_10_19⟩ dX10_anew_7 rfl (md_k hm) (md_r3 hm) ?_
    refine kr_iconst (v := 0) hX dX10_anew_10 (by decide) ?_
    refine kr_iconst (v := 0) hX dX10_anew_11 (by decide) ?_
    refine kr_bast hX dX10_anew_12 (by decide) (md_a4 hm) (vp_in_iff.mpr (by decide)) ?_
    refine kr_ltM h (fun μ_12 h => ?_)
    refine kr_aload_n (i := 0) hX dX10_anew_13 rfl rfl ?_
    refine kr_getr (c0 := 10) (k := 3) hX ⟨_, kf_10_19⟩ dX10_anew_14 rfl (md_k hm) (md_r3 hm) ?_
    refine kr_iconst (v := 1) hX dX10_anew_17 (by decide) ?_
    refine kr_iconst (v := 0) hX dX10_anew_18 (by decide) ?_
    refine kr_bast hX dX10_anew_19 (by decide) (md_a4 hm) (vp_in_iff.mpr (by decide)) ?_
    refine kr_ltM h (fun μ_19 h => ?_)
    refine kr_vret hX hr dX10_anew_20 ⟨rfl, ?_⟩
    exact kq_rV h
  exact key (r, μ1) h
def x_isTest (n : Nat) (a0 : Int32) : Option Int32 := (if a0 = (2 : Int32) then some (1 : Int32) else (if a0 = (3 : Int32) then some (1 : Int32) else some (0 : Int32)))
set_option maxHeartbeats 4000000 in
set_option maxRecDepth 100000 in
theorem xs_isTest {G : kt_G} {σ : kt_Y} {μ : kt_M} {n : Nat} {a0 : Int32} {q : Int32} (h : x_isTest n a0 = some q) : kt_F G yX10_isTest cX10_isTest 1 (some .boolean) 0 [.int a0] σ μ (fun rv μ2 => rv = some (.int q) ∧ μ2 = μ) := by
  unfold x_isTest at h
  refine kt_F.of (by decide) (Nat.le_of_ble_eq_true rfl) (fun X hX hr => ?_)
  refine kr_iload_n (i := 0) hX dX10_isTest_0 rfl rfl ?_
  refine kr_iconst (v := 2) hX dX10_isTest_1 (by decide) ?_
  refine kr_icmp_eq (tgt := 10) hX dX10_isTest_2 (by decide) (fun c_2 => ?_) (fun c_2 => ?_)
  · replace h := kq_t c_2 h
    refine kr_iconst (v := 1) hX dX10_isTest_10 (by decide) ?_
    refine kr_goto (tgt := 15) hX dX10_isTest_11 (by decide) ?_
    refine kr_zret hX hr (by decide) dX10_isTest_15 ⟨rfl, ?_⟩
    exact kq_rIs h
  · replace h := kq_f c_2 h
    refine kr_iload_n (i := 0) hX dX10_isTest_5 rfl rfl ?_
    refine kr_iconst (v := 3) hX dX10_isTest_6 (by decide) ?_
    refine kr_icmp_ne (tgt := 14) hX dX10_isTest_7 (by decide) (fun c_7 => ?_) (fun c_7 => ?_)
    · replace h := kq_f c_7 h
      refine kr_iconst (v := 0) hX dX10_isTest_14 (by decide) ?_
      refine kr_zret hX hr (by decide) dX10_isTest_15 ⟨rfl, ?_⟩
      exact kq_rIs h
    · replace h := kq_t c_7 h
      refine kr_iconst (v := 1) hX dX10_isTest_10 (by decide) ?_
      refine kr_goto (tgt := 15) hX dX10_isTest_11 (by decide) ?_
      refine kr_zret hX hr (by decide) dX10_isTest_15 ⟨rfl, ?_⟩
      exact kq_rIs h
def x_feed (n : Nat) (m : Nat) (μ : kt_M) (a0 : Int32) : Option (Int32 × kt_M) := kq_b1 (x_in n (Int32.toInt64 a0) (0 : Int64) (127 : Int64)) (fun r_6 => (if r_6 = 0 then some (((-1) : Int32), μ) else (if (kt_i μ m 6) = (200 : Int32) then some (((-3) : Int32), μ) else kq_ck (kq_in (kt_i μ m 6) 200) (kq_lt (kt_si μ (m + 5) (Int32.toNatClampNeg (kt_i μ m 6)) a0) (fun μ_36 => kq_lt (kt_si μ_36 m 6 ((kt_i μ_36 m 6) + (1 : Int32))) (fun μ_44 => some ((kt_i μ_44 m 6), μ_44)))))))
set_option maxHeartbeats 4000000 in
set_option maxRecDepth 100000 in
theorem xs_feed {G : kt_G} {σ : kt_Y} {μ : kt_M} {m : Nat} (hm : kt_md σ m) {n : Nat} {a0 : Int32} {r : Int32} {μ1 : kt_M} (h : x_feed n m μ a0 = some (r, μ1)) : kt_F G yX10_feed cX10_feed 2 (some .int) 1 [.ref m, .int a0] σ μ (fun rv μ2 => rv = some (.int r) ∧ μ2 = μ1) := by
  have key : ∀ q : (Int32 × kt_M), x_feed n m μ a0 = some q → kt_F G yX10_feed cX10_feed 2 (some .int) 1 [.ref m, .int a0] σ μ (fun rv μ2 => rv = some (.int q.1) ∧ μ2 = q.2) := by
    intro q h
    unfold x_feed at h
    refine kt_F.of (by decide) (Nat.le_of_ble_eq_true rfl) (fun X hX hr => ?_)
    refine kr_iload_n (i := 1) hX dX10_feed_0 rfl rfl ?_
    refine kr_i2l hX dX10_feed_1 rfl ?_
    refine kr_lconst (v := 0) hX dX10_feed_2 (by decide) ?_
    refine kr_ldc2 (v := 127) hX kw_1125 dX10_feed_3 ?_
    obtain ⟨r_6, e_6, h⟩ := kq_b1_e h
    refine kr_dS [_, _, _] hX km_10_80 dX10_feed_6 (xs_in e_6) rfl rfl (by decide) (Nat.le_of_ble_eq_true rfl) (Nat.le_refl _) (Nat.le_refl _) ?_
    refine kr_if_ne (tgt := 14) hX dX10_feed_9 (by decide) (fun c_9 => ?_) (fun c_9 => ?_)
    · replace h := kq_f c_9 h
      refine kr_aload_n (i := 0) hX dX10_feed_14 rfl rfl ?_
      refine kr_geti (c0 := 10) (k := 6) hX ⟨_, kf_10_84⟩ dX10_feed_15 rfl (md_k hm) ?_
      refine kr_sipush (v := 200) hX dX10_feed_18 (by decide) ?_
      refine kr_icmp_ne (tgt := 27) hX dX10_feed_21 (by decide) (fun c_21 => ?_) (fun c_21 => ?_)
      · replace h := kq_f c_21 h
        refine kr_aload_n (i := 0) hX dX10_feed_27 rfl rfl ?_
        refine kr_getr (c0 := 10) (k := 5) hX ⟨_, kf_10_27⟩ dX10_feed_28 rfl (md_k hm) (md_r5 hm) ?_
        refine kr_aload_n (i := 0) hX dX10_feed_31 rfl rfl ?_
        refine kr_geti (c0 := 10) (k := 6) hX ⟨_, kf_10_84⟩ dX10_feed_32 rfl (md_k hm) ?_
        refine kr_iload_n (i := 1) hX dX10_feed_35 rfl rfl ?_
        obtain ⟨i_36, h⟩ := kq_ck_e h
        refine kr_iast hX dX10_feed_36 (md_a5 hm) (vp_in_iff.mpr i_36) ?_
        refine kr_ltM h (fun μ_36 h => ?_)
        refine kr_aload_n (i := 0) hX dX10_feed_37 rfl rfl ?_
        refine kr_dup hX dX10_feed_38 rfl ?_
        refine kr_geti (c0 := 10) (k := 6) hX ⟨_, kf_10_84⟩ dX10_feed_39 rfl (md_k hm) ?_
        refine kr_iconst (v := 1) hX dX10_feed_42 (by decide) ?_
        refine kr_iadd hX dX10_feed_43 ?_
        refine kr_puti (c0 := 10) (k := 6) hX kf_10_84 dX10_feed_44 rfl rfl rfl (md_k hm) ?_
        refine kr_ltM h (fun μ_44 h => ?_)
        refine kr_aload_n (i := 0) hX dX10_feed_47 rfl rfl ?_
        refine kr_geti (c0 := 10) (k := 6) hX ⟨_, kf_10_84⟩ dX10_feed_48 rfl (md_k hm) ?_
        refine kr_iret hX hr dX10_feed_51 ⟨rfl, ?_⟩
        exact kq_rI h
      · replace h := kq_t c_21 h
        refine kr_bipush (v := (-3)) hX dX10_feed_24 (by decide) ?_
        refine kr_iret hX hr dX10_feed_26 ⟨rfl, ?_⟩
        exact kq_rI h
    · replace h := kq_t c_9 h
      refine kr_iconst (v := (-1)) hX dX10_feed_12 (by decide) ?_
      refine kr_iret hX hr dX10_feed_13 ⟨rfl, ?_⟩
      exact kq_rI h
  exact key (r, μ1) h
def x_end (n : Nat) (m : Nat) (μ : kt_M) (a0 : Int32) : Option (Int32 × kt_M) := kq_b1 (x_in n (Int32.toInt64 a0) (0 : Int64) (Int32.toInt64 (kt_i μ m 6))) (fun r_8 => (if r_8 = 0 then some (((-1) : Int32), μ) else kq_lt (kt_si μ m 6 a0) (fun μ_23 => some ((kt_i μ m 6), μ_23))))
set_option maxHeartbeats 4000000 in
set_option maxRecDepth 100000 in
theorem xs_end {G : kt_G} {σ : kt_Y} {μ : kt_M} {m : Nat} (hm : kt_md σ m) {n : Nat} {a0 : Int32} {r : Int32} {μ1 : kt_M} (h : x_end n m μ a0 = some (r, μ1)) : kt_F G yX10_end cX10_end 3 (some .int) 1 [.ref m, .int a0] σ μ (fun rv μ2 => rv = some (.int r) ∧ μ2 = μ1) := by
  have key : ∀ q : (Int32 × kt_M), x_end n m μ a0 = some q → kt_F G yX10_end cX10_end 3 (some .int) 1 [.ref m, .int a0] σ μ (fun rv μ2 => rv = some (.int q.1) ∧ μ2 = q.2) := by
    intro q h
    unfold x_end at h
    refine kt_F.of (by decide) (Nat.le_of_ble_eq_true rfl) (fun X hX hr => ?_)
    refine kr_iload_n (i := 1) hX dX10_end_0 rfl rfl ?_
    refine kr_i2l hX dX10_end_1 rfl ?_
    refine kr_lconst (v := 0) hX dX10_end_2 (by decide) ?_
    refine kr_aload_n (i := 0) hX dX10_end_3 rfl rfl ?_
    refine kr_geti (c0 := 10) (k := 6) hX ⟨_, kf_10_84⟩ dX10_end_4 rfl (md_k hm) ?_
    refine kr_i2l hX dX10_end_7 rfl ?_
    obtain ⟨r_8, e_8, h⟩ := kq_b1_e h
    refine kr_dS [_, _, _] hX km_10_80 dX10_end_8 (xs_in e_8) rfl rfl (by decide) (Nat.le_of_ble_eq_true rfl) (Nat.le_refl _) (Nat.le_refl _) ?_
    refine kr_if_ne (tgt := 16) hX dX10_end_11 (by decide) (fun c_11 => ?_) (fun c_11 => ?_)
    · replace h := kq_f c_11 h
      refine kr_aload_n (i := 0) hX dX10_end_16 rfl rfl ?_
      refine kr_geti (c0 := 10) (k := 6) hX ⟨_, kf_10_84⟩ dX10_end_17 rfl (md_k hm) ?_
      refine kr_istore_n (i := 2) hX dX10_end_20 rfl (by decide) rfl rfl ?_
      refine kr_aload_n (i := 0) hX dX10_end_21 rfl rfl ?_
      refine kr_iload_n (i := 1) hX dX10_end_22 rfl rfl ?_
      refine kr_puti (c0 := 10) (k := 6) hX kf_10_84 dX10_end_23 rfl rfl rfl (md_k hm) ?_
      refine kr_ltM h (fun μ_23 h => ?_)
      refine kr_iload_n (i := 2) hX dX10_end_26 rfl rfl ?_
      refine kr_iret hX hr dX10_end_27 ⟨rfl, ?_⟩
      exact kq_rI h
    · replace h := kq_t c_11 h
      refine kr_iconst (v := (-1)) hX dX10_end_14 (by decide) ?_
      refine kr_iret hX hr dX10_end_15 ⟨rfl, ?_⟩
      exact kq_rI h
  exact key (r, μ1) h
def x_requires (n : Nat) (m : Nat) (μ : kt_M) (a0 : Int32) (a1 : Int32) : Option (Unit × kt_M) := (if a0 = 0 then (if (kt_i μ m 11) = 0 then kq_lt (kt_si μ m 11 a1) (fun μ_13 => kq_lt (kt_si μ_13 m 12 (kt_i μ_13 m 8)) (fun μ_21 => some ((), μ_21))) else some ((), μ)) else some ((), μ))
set_option maxHeartbeats 4000000 in
set_option maxRecDepth 100000 in
theorem xs_requires {G : kt_G} {σ : kt_Y} {μ : kt_M} {m : Nat} (hm : kt_md σ m) {n : Nat} {a0 : Int32} {a1 : Int32} {r : Unit} {μ1 : kt_M} (h : x_requires n m μ a0 a1 = some (r, μ1)) : kt_F G yX10_requires cX10_requires 3 none 0 [.ref m, .int a0, .int a1] σ μ (fun rv μ2 => rv = none ∧ μ2 = μ1) := by
  have key : ∀ q : (Unit × kt_M), x_requires n m μ a0 a1 = some q → kt_F G yX10_requires cX10_requires 3 none 0 [.ref m, .int a0, .int a1] σ μ (fun rv μ2 => rv = none ∧ μ2 = q.2) := by
    intro q h
    unfold x_requires at h
    refine kt_F.of (by decide) (Nat.le_of_ble_eq_true rfl) (fun X hX hr => ?_)
    refine kr_iload_n (i := 1) hX dX10_requires_0 rfl rfl ?_
    refine kr_if_ne (tgt := 24) hX dX10_requires_1 (by decide) (fun c_1 => ?_) (fun c_1 => ?_)
    · replace h := kq_f c_1 h
      refine kr_vret hX hr dX10_requires_24 ⟨rfl, ?_⟩
      exact kq_rV h
    · replace h := kq_t c_1 h
      refine kr_aload_n (i := 0) hX dX10_requires_4 rfl rfl ?_
      refine kr_geti (c0 := 10) (k := 11) hX ⟨_, kf_10_87⟩ dX10_requires_5 rfl (md_k hm) ?_
      refine kr_if_ne (tgt := 24) hX dX10_requires_8 (by decide) (fun c_8 => ?_) (fun c_8 => ?_)
      · replace h := kq_f c_8 h
        refine kr_vret hX hr dX10_requires_24 ⟨rfl, ?_⟩
        exact kq_rV h
      · replace h := kq_t c_8 h
        refine kr_aload_n (i := 0) hX dX10_requires_11 rfl rfl ?_
        refine kr_iload_n (i := 2) hX dX10_requires_12 rfl rfl ?_
        refine kr_puti (c0 := 10) (k := 11) hX kf_10_87 dX10_requires_13 rfl rfl rfl (md_k hm) ?_
        refine kr_ltM h (fun μ_13 h => ?_)
        refine kr_aload_n (i := 0) hX dX10_requires_16 rfl rfl ?_
        refine kr_aload_n (i := 0) hX dX10_requires_17 rfl rfl ?_
        refine kr_geti (c0 := 10) (k := 8) hX ⟨_, kf_10_90⟩ dX10_requires_18 rfl (md_k hm) ?_
        refine kr_puti (c0 := 10) (k := 12) hX kf_10_93 dX10_requires_21 rfl rfl rfl (md_k hm) ?_
        refine kr_ltM h (fun μ_21 h => ?_)
        refine kr_vret hX hr dX10_requires_24 ⟨rfl, ?_⟩
        exact kq_rV h
  exact key (r, μ1) h
def x_byteAt (n : Nat) (m : Nat) (μ : kt_M) (a0 : Int32) : Option (Int32 × kt_M) := (if (kt_i μ m 6) ≤ a0 then some (((-1) : Int32), μ) else kq_ck (kq_in a0 200) (some ((kt_i μ (m + 5) (Int32.toNatClampNeg a0)), μ)))
set_option maxHeartbeats 4000000 in
set_option maxRecDepth 100000 in
theorem xs_byteAt {G : kt_G} {σ : kt_Y} {μ : kt_M} {m : Nat} (hm : kt_md σ m) {n : Nat} {a0 : Int32} {r : Int32} {μ1 : kt_M} (h : x_byteAt n m μ a0 = some (r, μ1)) : kt_F G yX10_byteAt cX10_byteAt 2 (some .int) 0 [.ref m, .int a0] σ μ (fun rv μ2 => rv = some (.int r) ∧ μ2 = μ1) := by
  have key : ∀ q : (Int32 × kt_M), x_byteAt n m μ a0 = some q → kt_F G yX10_byteAt cX10_byteAt 2 (some .int) 0 [.ref m, .int a0] σ μ (fun rv μ2 => rv = some (.int q.1) ∧ μ2 = q.2) := by
    intro q h
    unfold x_byteAt at h
    refine kt_F.of (by decide) (Nat.le_of_ble_eq_true rfl) (fun X hX hr => ?_)
    refine kr_iload_n (i := 1) hX dX10_byteAt_0 rfl rfl ?_
    refine kr_aload_n (i := 0) hX dX10_byteAt_1 rfl rfl ?_
    refine kr_geti (c0 := 10) (k := 6) hX ⟨_, kf_10_84⟩ dX10_byteAt_2 rfl (md_k hm) ?_
    refine kr_icmp_ge (tgt := 17) hX dX10_byteAt_5 (by decide) (fun c_5 => ?_) (fun c_5 => ?_)
    · replace h := kq_t c_5 h
      refine kr_iconst (v := (-1)) hX dX10_byteAt_17 (by decide) ?_
      refine kr_iret hX hr dX10_byteAt_18 ⟨rfl, ?_⟩
      exact kq_rI h
    · replace h := kq_f c_5 h
      refine kr_aload_n (i := 0) hX dX10_byteAt_8 rfl rfl ?_
      refine kr_getr (c0 := 10) (k := 5) hX ⟨_, kf_10_27⟩ dX10_byteAt_9 rfl (md_k hm) (md_r5 hm) ?_
      refine kr_iload_n (i := 1) hX dX10_byteAt_12 rfl rfl ?_
      obtain ⟨i_13, h⟩ := kq_ck_e h
      refine kr_iald hX dX10_byteAt_13 (md_a5 hm) (vp_in_iff.mpr i_13) ?_
      refine kr_goto (tgt := 18) hX dX10_byteAt_14 (by decide) ?_
      refine kr_iret hX hr dX10_byteAt_18 ⟨rfl, ?_⟩
      exact kq_rI h
  exact key (r, μ1) h
def x_is (n : Nat) (m : Nat) (μ : kt_M) (a0 : Int32) (a1 : Int32) (a2 : Int32) (a3 : Int32) : Option (Int32 × kt_M) := (if (kt_i μ m 9) = (1 : Int32) then (if ((kt_i μ m 7) - (kt_i μ m 8)) = a0 then kq_b2 (x_byteAt n m μ ((kt_i μ m 8) + a1)) (fun r_28 μ_28 => (if r_28 = a2 then kq_b2 (x_byteAt n m μ_28 (((kt_i μ_28 m 8) + a1) + (1 : Int32))) (fun r_44 μ_44 => (if r_44 = a3 then some ((1 : Int32), μ_44) else some ((0 : Int32), μ_44))) else some ((0 : Int32), μ_28))) else some ((0 : Int32), μ)) else some ((0 : Int32), μ))
set_option maxHeartbeats 4000000 in
set_option maxRecDepth 100000 in
theorem xs_is {G : kt_G} {σ : kt_Y} {μ : kt_M} {m : Nat} (hm : kt_md σ m) {n : Nat} {a0 : Int32} {a1 : Int32} {a2 : Int32} {a3 : Int32} {r : Int32} {μ1 : kt_M} (h : x_is n m μ a0 a1 a2 a3 = some (r, μ1)) : kt_F G yX10_is cX10_is 5 (some .boolean) 1 [.ref m, .int a0, .int a1, .int a2, .int a3] σ μ (fun rv μ2 => rv = some (.int r) ∧ μ2 = μ1) := by
  have key : ∀ q : (Int32 × kt_M), x_is n m μ a0 a1 a2 a3 = some q → kt_F G yX10_is cX10_is 5 (some .boolean) 1 [.ref m, .int a0, .int a1, .int a2, .int a3] σ μ (fun rv μ2 => rv = some (.int q.1) ∧ μ2 = q.2) := by
    intro q h
    unfold x_is at h
    refine kt_F.of (by decide) (Nat.le_of_ble_eq_true rfl) (fun X hX hr => ?_)
    refine kr_aload_n (i := 0) hX dX10_is_0 rfl rfl ?_
    refine kr_geti (c0 := 10) (k := 9) hX ⟨_, kf_10_96⟩ dX10_is_1 rfl (md_k hm) ?_
    refine kr_iconst (v := 1) hX dX10_is_4 (by decide) ?_
    refine kr_icmp_ne (tgt := 56) hX dX10_is_5 (by decide) (fun c_5 => ?_) (fun c_5 => ?_)
    · replace h := kq_f c_5 h
      refine kr_iconst (v := 0) hX dX10_is_56 (by decide) ?_
      refine kr_zret hX hr (by decide) dX10_is_57 ⟨rfl, ?_⟩
      exact kq_rI h
    · replace h := kq_t c_5 h
      refine kr_aload_n (i := 0) hX dX10_is_8 rfl rfl ?_
      refine kr_geti (c0 := 10) (k := 7) hX ⟨_, kf_10_99⟩ dX10_is_9 rfl (md_k hm) ?_
      refine kr_aload_n (i := 0) hX dX10_is_12 rfl rfl ?_
      refine kr_geti (c0 := 10) (k := 8) hX ⟨_, kf_10_90⟩ dX10_is_13 rfl (md_k hm) ?_
      refine kr_isub hX dX10_is_16 ?_
      refine kr_iload_n (i := 1) hX dX10_is_17 rfl rfl ?_
      refine kr_icmp_ne (tgt := 56) hX dX10_is_18 (by decide) (fun c_18 => ?_) (fun c_18 => ?_)
      · replace h := kq_f c_18 h
        refine kr_iconst (v := 0) hX dX10_is_56 (by decide) ?_
        refine kr_zret hX hr (by decide) dX10_is_57 ⟨rfl, ?_⟩
        exact kq_rI h
      · replace h := kq_t c_18 h
        refine kr_aload_n (i := 0) hX dX10_is_21 rfl rfl ?_
        refine kr_aload_n (i := 0) hX dX10_is_22 rfl rfl ?_
        refine kr_geti (c0 := 10) (k := 8) hX ⟨_, kf_10_90⟩ dX10_is_23 rfl (md_k hm) ?_
        refine kr_iload_n (i := 2) hX dX10_is_26 rfl rfl ?_
        refine kr_iadd hX dX10_is_27 ?_
        obtain ⟨r_28, μ_28, e_28, h⟩ := kq_b2_e h
        refine kr_dV (c1 := 10) [_] hX km_10_102 dX10_is_28 (xs_byteAt hm e_28) rfl rfl ⟨_, _, rfl⟩ (by decide) (Nat.le_of_ble_eq_true rfl) (Nat.le_refl _) (Nat.le_refl _) (md_k hm) ?_
        refine kr_iload_n (i := 3) hX dX10_is_31 rfl rfl ?_
        refine kr_icmp_ne (tgt := 56) hX dX10_is_32 (by decide) (fun c_32 => ?_) (fun c_32 => ?_)
        · replace h := kq_f c_32 h
          refine kr_iconst (v := 0) hX dX10_is_56 (by decide) ?_
          refine kr_zret hX hr (by decide) dX10_is_57 ⟨rfl, ?_⟩
          exact kq_rI h
        · replace h := kq_t c_32 h
          refine kr_aload_n (i := 0) hX dX10_is_35 rfl rfl ?_
          refine kr_aload_n (i := 0) hX dX10_is_36 rfl rfl ?_
          refine kr_geti (c0 := 10) (k := 8) hX ⟨_, kf_10_90⟩ dX10_is_37 rfl (md_k hm) ?_
          refine kr_iload_n (i := 2) hX dX10_is_40 rfl rfl ?_
          refine kr_iadd hX dX10_is_41 ?_
          refine kr_iconst (v := 1) hX dX10_is_42 (by decide) ?_
          refine kr_iadd hX dX10_is_43 ?_
          obtain ⟨r_44, μ_44, e_44, h⟩ := kq_b2_e h
          refine kr_dV (c1 := 10) [_] hX km_10_102 dX10_is_44 (xs_byteAt hm e_44) rfl rfl ⟨_, _, rfl⟩ (by decide) (Nat.le_of_ble_eq_true rfl) (Nat.le_refl _) (Nat.le_refl _) (md_k hm) ?_
          refine kr_iload hX dX10_is_47 rfl ?_
          refine kr_icmp_ne (tgt := 56) hX dX10_is_49 (by decide) (fun c_49 => ?_) (fun c_49 => ?_)
          · replace h := kq_f c_49 h
            refine kr_iconst (v := 0) hX dX10_is_56 (by decide) ?_
            refine kr_zret hX hr (by decide) dX10_is_57 ⟨rfl, ?_⟩
            exact kq_rI h
          · replace h := kq_t c_49 h
            refine kr_iconst (v := 1) hX dX10_is_52 (by decide) ?_
            refine kr_goto (tgt := 57) hX dX10_is_53 (by decide) ?_
            refine kr_zret hX hr (by decide) dX10_is_57 ⟨rfl, ?_⟩
            exact kq_rI h
  exact key (r, μ1) h
def x_nameNow_J210 (n : Nat) (m : Nat) (μ : kt_M) : Option (Int32 × kt_M) := kq_b2 (x_is n m μ (2 : Int32) (0 : Int32) (103 : Int32) (111 : Int32)) (fun r_217 μ_217 => (if r_217 = 0 then kq_b2 (x_is n m μ_217 (2 : Int32) (0 : Int32) (105 : Int32) (102 : Int32)) (fun r_235 μ_235 => (if r_235 = 0 then some (((-4) : Int32), μ_235) else some ((8 : Int32), μ_235))) else some ((7 : Int32), μ_217)))
set_option maxHeartbeats 4000000 in
set_option maxRecDepth 100000 in
theorem xw_nameNow_J210 {G : kt_G} {σ : kt_Y} {X : kt_X} (hX : kt_ok G X RX10 cX10_nameNow 1 2 0 0) (hr : kt_rt X = (some .int)) {m : Nat} (hm : kt_md σ m) {n : Nat} {q : (Int32 × kt_M)} {μ : kt_M} (h : x_nameNow_J210 n m μ = some q) : kt_W G X 1 210 [(0, .ref m)] [] σ μ 0 0 (kt_Z G X (kt_q σ (fun rv μ2 => rv = some (.int q.1) ∧ μ2 = q.2)) 0 0) := by
  unfold x_nameNow_J210 at h
  refine kr_aload_n (i := 0) hX dX10_nameNow_210 rfl rfl ?_
  refine kr_iconst (v := 2) hX dX10_nameNow_211 (by decide) ?_
  refine kr_iconst (v := 0) hX dX10_nameNow_212 (by decide) ?_
  refine kr_bipush (v := 103) hX dX10_nameNow_213 (by decide) ?_
  refine kr_bipush (v := 111) hX dX10_nameNow_215 (by decide) ?_
  obtain ⟨r_217, μ_217, e_217, h⟩ := kq_b2_e h
  refine kr_dV (c1 := 10) [_, _, _, _] hX km_10_106 dX10_nameNow_217 (xs_is hm e_217) rfl rfl ⟨_, _, rfl⟩ (by decide) (Nat.le_of_ble_eq_true rfl) (Nat.le_refl _) (Nat.le_refl _) (md_k hm) ?_
  refine kr_if_eq (tgt := 228) hX dX10_nameNow_220 (by decide) (fun c_220 => ?_) (fun c_220 => ?_)
  · replace h := kq_t c_220 h
    refine kr_aload_n (i := 0) hX dX10_nameNow_228 rfl rfl ?_
    refine kr_iconst (v := 2) hX dX10_nameNow_229 (by decide) ?_
    refine kr_iconst (v := 0) hX dX10_nameNow_230 (by decide) ?_
    refine kr_bipush (v := 105) hX dX10_nameNow_231 (by decide) ?_
    refine kr_bipush (v := 102) hX dX10_nameNow_233 (by decide) ?_
    obtain ⟨r_235, μ_235, e_235, h⟩ := kq_b2_e h
    refine kr_dV (c1 := 10) [_, _, _, _] hX km_10_106 dX10_nameNow_235 (xs_is hm e_235) rfl rfl ⟨_, _, rfl⟩ (by decide) (Nat.le_of_ble_eq_true rfl) (Nat.le_refl _) (Nat.le_refl _) (md_k hm) ?_
    refine kr_if_eq (tgt := 246) hX dX10_nameNow_238 (by decide) (fun c_238 => ?_) (fun c_238 => ?_)
    · replace h := kq_t c_238 h
      refine kr_bipush (v := (-4)) hX dX10_nameNow_246 (by decide) ?_
      refine kr_iret hX hr dX10_nameNow_248 ⟨rfl, ?_⟩
      exact kq_rI h
    · replace h := kq_f c_238 h
      refine kr_bipush (v := 8) hX dX10_nameNow_241 (by decide) ?_
      refine kr_goto (tgt := 248) hX dX10_nameNow_243 (by decide) ?_
      refine kr_iret hX hr dX10_nameNow_248 ⟨rfl, ?_⟩
      exact kq_rI h
  · replace h := kq_f c_220 h
    refine kr_bipush (v := 7) hX dX10_nameNow_223 (by decide) ?_
    refine kr_goto (tgt := 248) hX dX10_nameNow_225 (by decide) ?_
    refine kr_iret hX hr dX10_nameNow_248 ⟨rfl, ?_⟩
    exact kq_rI h
def x_nameNow_J181 (n : Nat) (m : Nat) (μ : kt_M) : Option (Int32 × kt_M) := kq_b2 (x_is n m μ (4 : Int32) (0 : Int32) (115 : Int32) (116 : Int32)) (fun r_188 μ_188 => (if r_188 = 0 then x_nameNow_J210 n m μ_188 else kq_b2 (x_is n m μ_188 (4 : Int32) (2 : Int32) (111 : Int32) (112 : Int32)) (fun r_201 μ_201 => (if r_201 = 0 then x_nameNow_J210 n m μ_201 else some ((6 : Int32), μ_201)))))
set_option maxHeartbeats 4000000 in
set_option maxRecDepth 100000 in
theorem xw_nameNow_J181 {G : kt_G} {σ : kt_Y} {X : kt_X} (hX : kt_ok G X RX10 cX10_nameNow 1 2 0 0) (hr : kt_rt X = (some .int)) {m : Nat} (hm : kt_md σ m) {n : Nat} {q : (Int32 × kt_M)} {μ : kt_M} (h : x_nameNow_J181 n m μ = some q) : kt_W G X 1 181 [(0, .ref m)] [] σ μ 0 0 (kt_Z G X (kt_q σ (fun rv μ2 => rv = some (.int q.1) ∧ μ2 = q.2)) 0 0) := by
  unfold x_nameNow_J181 at h
  refine kr_aload_n (i := 0) hX dX10_nameNow_181 rfl rfl ?_
  refine kr_iconst (v := 4) hX dX10_nameNow_182 (by decide) ?_
  refine kr_iconst (v := 0) hX dX10_nameNow_183 (by decide) ?_
  refine kr_bipush (v := 115) hX dX10_nameNow_184 (by decide) ?_
  refine kr_bipush (v := 116) hX dX10_nameNow_186 (by decide) ?_
  obtain ⟨r_188, μ_188, e_188, h⟩ := kq_b2_e h
  refine kr_dV (c1 := 10) [_, _, _, _] hX km_10_106 dX10_nameNow_188 (xs_is hm e_188) rfl rfl ⟨_, _, rfl⟩ (by decide) (Nat.le_of_ble_eq_true rfl) (Nat.le_refl _) (Nat.le_refl _) (md_k hm) ?_
  refine kr_if_eq (tgt := 210) hX dX10_nameNow_191 (by decide) (fun c_191 => ?_) (fun c_191 => ?_)
  · replace h := kq_t c_191 h
    refine kr_keep (lv' := [(0, .ref m)]) [0] rfl ?_
    exact xw_nameNow_J210 hX hr hm h
  · replace h := kq_f c_191 h
    refine kr_aload_n (i := 0) hX dX10_nameNow_194 rfl rfl ?_
    refine kr_iconst (v := 4) hX dX10_nameNow_195 (by decide) ?_
    refine kr_iconst (v := 2) hX dX10_nameNow_196 (by decide) ?_
    refine kr_bipush (v := 111) hX dX10_nameNow_197 (by decide) ?_
    refine kr_bipush (v := 112) hX dX10_nameNow_199 (by decide) ?_
    obtain ⟨r_201, μ_201, e_201, h⟩ := kq_b2_e h
    refine kr_dV (c1 := 10) [_, _, _, _] hX km_10_106 dX10_nameNow_201 (xs_is hm e_201) rfl rfl ⟨_, _, rfl⟩ (by decide) (Nat.le_of_ble_eq_true rfl) (Nat.le_refl _) (Nat.le_refl _) (md_k hm) ?_
    refine kr_if_eq (tgt := 210) hX dX10_nameNow_204 (by decide) (fun c_204 => ?_) (fun c_204 => ?_)
    · replace h := kq_t c_204 h
      refine kr_keep (lv' := [(0, .ref m)]) [0] rfl ?_
      exact xw_nameNow_J210 hX hr hm h
    · replace h := kq_f c_204 h
      refine kr_bipush (v := 6) hX dX10_nameNow_207 (by decide) ?_
      refine kr_iret hX hr dX10_nameNow_209 ⟨rfl, ?_⟩
      exact kq_rI h
def x_nameNow_J140 (n : Nat) (m : Nat) (μ : kt_M) : Option (Int32 × kt_M) := kq_b2 (x_is n m μ (5 : Int32) (0 : Int32) (119 : Int32) (114 : Int32)) (fun r_147 μ_147 => (if r_147 = 0 then x_nameNow_J181 n m μ_147 else kq_b2 (x_is n m μ_147 (5 : Int32) (2 : Int32) (105 : Int32) (116 : Int32)) (fun r_160 μ_160 => (if r_160 = 0 then x_nameNow_J181 n m μ_160 else kq_b2 (x_is n m μ_160 (5 : Int32) (3 : Int32) (116 : Int32) (101 : Int32)) (fun r_173 μ_173 => (if r_173 = 0 then x_nameNow_J181 n m μ_173 else some ((5 : Int32), μ_173)))))))
set_option maxHeartbeats 4000000 in
set_option maxRecDepth 100000 in
theorem xw_nameNow_J140 {G : kt_G} {σ : kt_Y} {X : kt_X} (hX : kt_ok G X RX10 cX10_nameNow 1 2 0 0) (hr : kt_rt X = (some .int)) {m : Nat} (hm : kt_md σ m) {n : Nat} {q : (Int32 × kt_M)} {μ : kt_M} (h : x_nameNow_J140 n m μ = some q) : kt_W G X 1 140 [(0, .ref m)] [] σ μ 0 0 (kt_Z G X (kt_q σ (fun rv μ2 => rv = some (.int q.1) ∧ μ2 = q.2)) 0 0) := by
  unfold x_nameNow_J140 at h
  refine kr_aload_n (i := 0) hX dX10_nameNow_140 rfl rfl ?_
  refine kr_iconst (v := 5) hX dX10_nameNow_141 (by decide) ?_
  refine kr_iconst (v := 0) hX dX10_nameNow_142 (by decide) ?_
  refine kr_bipush (v := 119) hX dX10_nameNow_143 (by decide) ?_
  refine kr_bipush (v := 114) hX dX10_nameNow_145 (by decide) ?_
  obtain ⟨r_147, μ_147, e_147, h⟩ := kq_b2_e h
  refine kr_dV (c1 := 10) [_, _, _, _] hX km_10_106 dX10_nameNow_147 (xs_is hm e_147) rfl rfl ⟨_, _, rfl⟩ (by decide) (Nat.le_of_ble_eq_true rfl) (Nat.le_refl _) (Nat.le_refl _) (md_k hm) ?_
  refine kr_if_eq (tgt := 181) hX dX10_nameNow_150 (by decide) (fun c_150 => ?_) (fun c_150 => ?_)
  · replace h := kq_t c_150 h
    refine kr_keep (lv' := [(0, .ref m)]) [0] rfl ?_
    exact xw_nameNow_J181 hX hr hm h
  · replace h := kq_f c_150 h
    refine kr_aload_n (i := 0) hX dX10_nameNow_153 rfl rfl ?_
    refine kr_iconst (v := 5) hX dX10_nameNow_154 (by decide) ?_
    refine kr_iconst (v := 2) hX dX10_nameNow_155 (by decide) ?_
    refine kr_bipush (v := 105) hX dX10_nameNow_156 (by decide) ?_
    refine kr_bipush (v := 116) hX dX10_nameNow_158 (by decide) ?_
    obtain ⟨r_160, μ_160, e_160, h⟩ := kq_b2_e h
    refine kr_dV (c1 := 10) [_, _, _, _] hX km_10_106 dX10_nameNow_160 (xs_is hm e_160) rfl rfl ⟨_, _, rfl⟩ (by decide) (Nat.le_of_ble_eq_true rfl) (Nat.le_refl _) (Nat.le_refl _) (md_k hm) ?_
    refine kr_if_eq (tgt := 181) hX dX10_nameNow_163 (by decide) (fun c_163 => ?_) (fun c_163 => ?_)
    · replace h := kq_t c_163 h
      refine kr_keep (lv' := [(0, .ref m)]) [0] rfl ?_
      exact xw_nameNow_J181 hX hr hm h
    · replace h := kq_f c_163 h
      refine kr_aload_n (i := 0) hX dX10_nameNow_166 rfl rfl ?_
      refine kr_iconst (v := 5) hX dX10_nameNow_167 (by decide) ?_
      refine kr_iconst (v := 3) hX dX10_nameNow_168 (by decide) ?_
      refine kr_bipush (v := 116) hX dX10_nameNow_169 (by decide) ?_
      refine kr_bipush (v := 101) hX dX10_nameNow_171 (by decide) ?_
      obtain ⟨r_173, μ_173, e_173, h⟩ := kq_b2_e h
      refine kr_dV (c1 := 10) [_, _, _, _] hX km_10_106 dX10_nameNow_173 (xs_is hm e_173) rfl rfl ⟨_, _, rfl⟩ (by decide) (Nat.le_of_ble_eq_true rfl) (Nat.le_refl _) (Nat.le_refl _) (md_k hm) ?_
      refine kr_if_eq (tgt := 181) hX dX10_nameNow_176 (by decide) (fun c_176 => ?_) (fun c_176 => ?_)
      · replace h := kq_t c_176 h
        refine kr_keep (lv' := [(0, .ref m)]) [0] rfl ?_
        exact xw_nameNow_J181 hX hr hm h
      · replace h := kq_f c_176 h
        refine kr_iconst (v := 5) hX dX10_nameNow_179 (by decide) ?_
        refine kr_iret hX hr dX10_nameNow_180 ⟨rfl, ?_⟩
        exact kq_rI h
def x_nameNow_J112 (n : Nat) (m : Nat) (μ : kt_M) : Option (Int32 × kt_M) := kq_b2 (x_is n m μ (4 : Int32) (0 : Int32) (114 : Int32) (101 : Int32)) (fun r_119 μ_119 => (if r_119 = 0 then x_nameNow_J140 n m μ_119 else kq_b2 (x_is n m μ_119 (4 : Int32) (2 : Int32) (97 : Int32) (100 : Int32)) (fun r_132 μ_132 => (if r_132 = 0 then x_nameNow_J140 n m μ_132 else some ((4 : Int32), μ_132)))))
set_option maxHeartbeats 4000000 in
set_option maxRecDepth 100000 in
theorem xw_nameNow_J112 {G : kt_G} {σ : kt_Y} {X : kt_X} (hX : kt_ok G X RX10 cX10_nameNow 1 2 0 0) (hr : kt_rt X = (some .int)) {m : Nat} (hm : kt_md σ m) {n : Nat} {q : (Int32 × kt_M)} {μ : kt_M} (h : x_nameNow_J112 n m μ = some q) : kt_W G X 1 112 [(0, .ref m)] [] σ μ 0 0 (kt_Z G X (kt_q σ (fun rv μ2 => rv = some (.int q.1) ∧ μ2 = q.2)) 0 0) := by
  unfold x_nameNow_J112 at h
  refine kr_aload_n (i := 0) hX dX10_nameNow_112 rfl rfl ?_
  refine kr_iconst (v := 4) hX dX10_nameNow_113 (by decide) ?_
  refine kr_iconst (v := 0) hX dX10_nameNow_114 (by decide) ?_
  refine kr_bipush (v := 114) hX dX10_nameNow_115 (by decide) ?_
  refine kr_bipush (v := 101) hX dX10_nameNow_117 (by decide) ?_
  obtain ⟨r_119, μ_119, e_119, h⟩ := kq_b2_e h
  refine kr_dV (c1 := 10) [_, _, _, _] hX km_10_106 dX10_nameNow_119 (xs_is hm e_119) rfl rfl ⟨_, _, rfl⟩ (by decide) (Nat.le_of_ble_eq_true rfl) (Nat.le_refl _) (Nat.le_refl _) (md_k hm) ?_
  refine kr_if_eq (tgt := 140) hX dX10_nameNow_122 (by decide) (fun c_122 => ?_) (fun c_122 => ?_)
  · replace h := kq_t c_122 h
    refine kr_keep (lv' := [(0, .ref m)]) [0] rfl ?_
    exact xw_nameNow_J140 hX hr hm h
  · replace h := kq_f c_122 h
    refine kr_aload_n (i := 0) hX dX10_nameNow_125 rfl rfl ?_
    refine kr_iconst (v := 4) hX dX10_nameNow_126 (by decide) ?_
    refine kr_iconst (v := 2) hX dX10_nameNow_127 (by decide) ?_
    refine kr_bipush (v := 97) hX dX10_nameNow_128 (by decide) ?_
    refine kr_bipush (v := 100) hX dX10_nameNow_130 (by decide) ?_
    obtain ⟨r_132, μ_132, e_132, h⟩ := kq_b2_e h
    refine kr_dV (c1 := 10) [_, _, _, _] hX km_10_106 dX10_nameNow_132 (xs_is hm e_132) rfl rfl ⟨_, _, rfl⟩ (by decide) (Nat.le_of_ble_eq_true rfl) (Nat.le_refl _) (Nat.le_refl _) (md_k hm) ?_
    refine kr_if_eq (tgt := 140) hX dX10_nameNow_135 (by decide) (fun c_135 => ?_) (fun c_135 => ?_)
    · replace h := kq_t c_135 h
      refine kr_keep (lv' := [(0, .ref m)]) [0] rfl ?_
      exact xw_nameNow_J140 hX hr hm h
    · replace h := kq_f c_135 h
      refine kr_iconst (v := 4) hX dX10_nameNow_138 (by decide) ?_
      refine kr_iret hX hr dX10_nameNow_139 ⟨rfl, ?_⟩
      exact kq_rI h
def x_nameNow_J84 (n : Nat) (m : Nat) (μ : kt_M) : Option (Int32 × kt_M) := kq_b2 (x_is n m μ (4 : Int32) (0 : Int32) (109 : Int32) (111 : Int32)) (fun r_91 μ_91 => (if r_91 = 0 then x_nameNow_J112 n m μ_91 else kq_b2 (x_is n m μ_91 (4 : Int32) (2 : Int32) (118 : Int32) (101 : Int32)) (fun r_104 μ_104 => (if r_104 = 0 then x_nameNow_J112 n m μ_104 else some ((3 : Int32), μ_104)))))
set_option maxHeartbeats 4000000 in
set_option maxRecDepth 100000 in
theorem xw_nameNow_J84 {G : kt_G} {σ : kt_Y} {X : kt_X} (hX : kt_ok G X RX10 cX10_nameNow 1 2 0 0) (hr : kt_rt X = (some .int)) {m : Nat} (hm : kt_md σ m) {n : Nat} {q : (Int32 × kt_M)} {μ : kt_M} (h : x_nameNow_J84 n m μ = some q) : kt_W G X 1 84 [(0, .ref m)] [] σ μ 0 0 (kt_Z G X (kt_q σ (fun rv μ2 => rv = some (.int q.1) ∧ μ2 = q.2)) 0 0) := by
  unfold x_nameNow_J84 at h
  refine kr_aload_n (i := 0) hX dX10_nameNow_84 rfl rfl ?_
  refine kr_iconst (v := 4) hX dX10_nameNow_85 (by decide) ?_
  refine kr_iconst (v := 0) hX dX10_nameNow_86 (by decide) ?_
  refine kr_bipush (v := 109) hX dX10_nameNow_87 (by decide) ?_
  refine kr_bipush (v := 111) hX dX10_nameNow_89 (by decide) ?_
  obtain ⟨r_91, μ_91, e_91, h⟩ := kq_b2_e h
  refine kr_dV (c1 := 10) [_, _, _, _] hX km_10_106 dX10_nameNow_91 (xs_is hm e_91) rfl rfl ⟨_, _, rfl⟩ (by decide) (Nat.le_of_ble_eq_true rfl) (Nat.le_refl _) (Nat.le_refl _) (md_k hm) ?_
  refine kr_if_eq (tgt := 112) hX dX10_nameNow_94 (by decide) (fun c_94 => ?_) (fun c_94 => ?_)
  · replace h := kq_t c_94 h
    refine kr_keep (lv' := [(0, .ref m)]) [0] rfl ?_
    exact xw_nameNow_J112 hX hr hm h
  · replace h := kq_f c_94 h
    refine kr_aload_n (i := 0) hX dX10_nameNow_97 rfl rfl ?_
    refine kr_iconst (v := 4) hX dX10_nameNow_98 (by decide) ?_
    refine kr_iconst (v := 2) hX dX10_nameNow_99 (by decide) ?_
    refine kr_bipush (v := 118) hX dX10_nameNow_100 (by decide) ?_
    refine kr_bipush (v := 101) hX dX10_nameNow_102 (by decide) ?_
    obtain ⟨r_104, μ_104, e_104, h⟩ := kq_b2_e h
    refine kr_dV (c1 := 10) [_, _, _, _] hX km_10_106 dX10_nameNow_104 (xs_is hm e_104) rfl rfl ⟨_, _, rfl⟩ (by decide) (Nat.le_of_ble_eq_true rfl) (Nat.le_refl _) (Nat.le_refl _) (md_k hm) ?_
    refine kr_if_eq (tgt := 112) hX dX10_nameNow_107 (by decide) (fun c_107 => ?_) (fun c_107 => ?_)
    · replace h := kq_t c_107 h
      refine kr_keep (lv' := [(0, .ref m)]) [0] rfl ?_
      exact xw_nameNow_J112 hX hr hm h
    · replace h := kq_f c_107 h
      refine kr_iconst (v := 3) hX dX10_nameNow_110 (by decide) ?_
      refine kr_iret hX hr dX10_nameNow_111 ⟨rfl, ?_⟩
      exact kq_rI h
def x_nameNow_J56 (n : Nat) (m : Nat) (μ : kt_M) : Option (Int32 × kt_M) := kq_b2 (x_is n m μ (3 : Int32) (0 : Int32) (115 : Int32) (117 : Int32)) (fun r_63 μ_63 => (if r_63 = 0 then x_nameNow_J84 n m μ_63 else kq_b2 (x_is n m μ_63 (3 : Int32) (1 : Int32) (117 : Int32) (98 : Int32)) (fun r_76 μ_76 => (if r_76 = 0 then x_nameNow_J84 n m μ_76 else some ((2 : Int32), μ_76)))))
set_option maxHeartbeats 4000000 in
set_option maxRecDepth 100000 in
theorem xw_nameNow_J56 {G : kt_G} {σ : kt_Y} {X : kt_X} (hX : kt_ok G X RX10 cX10_nameNow 1 2 0 0) (hr : kt_rt X = (some .int)) {m : Nat} (hm : kt_md σ m) {n : Nat} {q : (Int32 × kt_M)} {μ : kt_M} (h : x_nameNow_J56 n m μ = some q) : kt_W G X 1 56 [(0, .ref m)] [] σ μ 0 0 (kt_Z G X (kt_q σ (fun rv μ2 => rv = some (.int q.1) ∧ μ2 = q.2)) 0 0) := by
  unfold x_nameNow_J56 at h
  refine kr_aload_n (i := 0) hX dX10_nameNow_56 rfl rfl ?_
  refine kr_iconst (v := 3) hX dX10_nameNow_57 (by decide) ?_
  refine kr_iconst (v := 0) hX dX10_nameNow_58 (by decide) ?_
  refine kr_bipush (v := 115) hX dX10_nameNow_59 (by decide) ?_
  refine kr_bipush (v := 117) hX dX10_nameNow_61 (by decide) ?_
  obtain ⟨r_63, μ_63, e_63, h⟩ := kq_b2_e h
  refine kr_dV (c1 := 10) [_, _, _, _] hX km_10_106 dX10_nameNow_63 (xs_is hm e_63) rfl rfl ⟨_, _, rfl⟩ (by decide) (Nat.le_of_ble_eq_true rfl) (Nat.le_refl _) (Nat.le_refl _) (md_k hm) ?_
  refine kr_if_eq (tgt := 84) hX dX10_nameNow_66 (by decide) (fun c_66 => ?_) (fun c_66 => ?_)
  · replace h := kq_t c_66 h
    refine kr_keep (lv' := [(0, .ref m)]) [0] rfl ?_
    exact xw_nameNow_J84 hX hr hm h
  · replace h := kq_f c_66 h
    refine kr_aload_n (i := 0) hX dX10_nameNow_69 rfl rfl ?_
    refine kr_iconst (v := 3) hX dX10_nameNow_70 (by decide) ?_
    refine kr_iconst (v := 1) hX dX10_nameNow_71 (by decide) ?_
    refine kr_bipush (v := 117) hX dX10_nameNow_72 (by decide) ?_
    refine kr_bipush (v := 98) hX dX10_nameNow_74 (by decide) ?_
    obtain ⟨r_76, μ_76, e_76, h⟩ := kq_b2_e h
    refine kr_dV (c1 := 10) [_, _, _, _] hX km_10_106 dX10_nameNow_76 (xs_is hm e_76) rfl rfl ⟨_, _, rfl⟩ (by decide) (Nat.le_of_ble_eq_true rfl) (Nat.le_refl _) (Nat.le_refl _) (md_k hm) ?_
    refine kr_if_eq (tgt := 84) hX dX10_nameNow_79 (by decide) (fun c_79 => ?_) (fun c_79 => ?_)
    · replace h := kq_t c_79 h
      refine kr_keep (lv' := [(0, .ref m)]) [0] rfl ?_
      exact xw_nameNow_J84 hX hr hm h
    · replace h := kq_f c_79 h
      refine kr_iconst (v := 2) hX dX10_nameNow_82 (by decide) ?_
      refine kr_iret hX hr dX10_nameNow_83 ⟨rfl, ?_⟩
      exact kq_rI h
def x_nameNow_J28 (n : Nat) (m : Nat) (μ : kt_M) : Option (Int32 × kt_M) := kq_b2 (x_is n m μ (3 : Int32) (0 : Int32) (97 : Int32) (100 : Int32)) (fun r_35 μ_35 => (if r_35 = 0 then x_nameNow_J56 n m μ_35 else kq_b2 (x_is n m μ_35 (3 : Int32) (1 : Int32) (100 : Int32) (100 : Int32)) (fun r_48 μ_48 => (if r_48 = 0 then x_nameNow_J56 n m μ_48 else some ((1 : Int32), μ_48)))))
set_option maxHeartbeats 4000000 in
set_option maxRecDepth 100000 in
theorem xw_nameNow_J28 {G : kt_G} {σ : kt_Y} {X : kt_X} (hX : kt_ok G X RX10 cX10_nameNow 1 2 0 0) (hr : kt_rt X = (some .int)) {m : Nat} (hm : kt_md σ m) {n : Nat} {q : (Int32 × kt_M)} {μ : kt_M} (h : x_nameNow_J28 n m μ = some q) : kt_W G X 1 28 [(0, .ref m)] [] σ μ 0 0 (kt_Z G X (kt_q σ (fun rv μ2 => rv = some (.int q.1) ∧ μ2 = q.2)) 0 0) := by
  unfold x_nameNow_J28 at h
  refine kr_aload_n (i := 0) hX dX10_nameNow_28 rfl rfl ?_
  refine kr_iconst (v := 3) hX dX10_nameNow_29 (by decide) ?_
  refine kr_iconst (v := 0) hX dX10_nameNow_30 (by decide) ?_
  refine kr_bipush (v := 97) hX dX10_nameNow_31 (by decide) ?_
  refine kr_bipush (v := 100) hX dX10_nameNow_33 (by decide) ?_
  obtain ⟨r_35, μ_35, e_35, h⟩ := kq_b2_e h
  refine kr_dV (c1 := 10) [_, _, _, _] hX km_10_106 dX10_nameNow_35 (xs_is hm e_35) rfl rfl ⟨_, _, rfl⟩ (by decide) (Nat.le_of_ble_eq_true rfl) (Nat.le_refl _) (Nat.le_refl _) (md_k hm) ?_
  refine kr_if_eq (tgt := 56) hX dX10_nameNow_38 (by decide) (fun c_38 => ?_) (fun c_38 => ?_)
  · replace h := kq_t c_38 h
    refine kr_keep (lv' := [(0, .ref m)]) [0] rfl ?_
    exact xw_nameNow_J56 hX hr hm h
  · replace h := kq_f c_38 h
    refine kr_aload_n (i := 0) hX dX10_nameNow_41 rfl rfl ?_
    refine kr_iconst (v := 3) hX dX10_nameNow_42 (by decide) ?_
    refine kr_iconst (v := 1) hX dX10_nameNow_43 (by decide) ?_
    refine kr_bipush (v := 100) hX dX10_nameNow_44 (by decide) ?_
    refine kr_bipush (v := 100) hX dX10_nameNow_46 (by decide) ?_
    obtain ⟨r_48, μ_48, e_48, h⟩ := kq_b2_e h
    refine kr_dV (c1 := 10) [_, _, _, _] hX km_10_106 dX10_nameNow_48 (xs_is hm e_48) rfl rfl ⟨_, _, rfl⟩ (by decide) (Nat.le_of_ble_eq_true rfl) (Nat.le_refl _) (Nat.le_refl _) (md_k hm) ?_
    refine kr_if_eq (tgt := 56) hX dX10_nameNow_51 (by decide) (fun c_51 => ?_) (fun c_51 => ?_)
    · replace h := kq_t c_51 h
      refine kr_keep (lv' := [(0, .ref m)]) [0] rfl ?_
      exact xw_nameNow_J56 hX hr hm h
    · replace h := kq_f c_51 h
      refine kr_iconst (v := 1) hX dX10_nameNow_54 (by decide) ?_
      refine kr_iret hX hr dX10_nameNow_55 ⟨rfl, ?_⟩
      exact kq_rI h
def x_nameNow (n : Nat) (m : Nat) (μ : kt_M) : Option (Int32 × kt_M) := kq_b2 (x_is n m μ (3 : Int32) (0 : Int32) (115 : Int32) (101 : Int32)) (fun r_7 μ_7 => (if r_7 = 0 then x_nameNow_J28 n m μ_7 else kq_b2 (x_is n m μ_7 (3 : Int32) (1 : Int32) (101 : Int32) (116 : Int32)) (fun r_20 μ_20 => (if r_20 = 0 then x_nameNow_J28 n m μ_20 else some ((0 : Int32), μ_20)))))
set_option maxHeartbeats 4000000 in
set_option maxRecDepth 100000 in
theorem xs_nameNow {G : kt_G} {σ : kt_Y} {μ : kt_M} {m : Nat} (hm : kt_md σ m) {n : Nat} {r : Int32} {μ1 : kt_M} (h : x_nameNow n m μ = some (r, μ1)) : kt_F G yX10_nameNow cX10_nameNow 1 (some .int) 2 [.ref m] σ μ (fun rv μ2 => rv = some (.int r) ∧ μ2 = μ1) := by
  have key : ∀ q : (Int32 × kt_M), x_nameNow n m μ = some q → kt_F G yX10_nameNow cX10_nameNow 1 (some .int) 2 [.ref m] σ μ (fun rv μ2 => rv = some (.int q.1) ∧ μ2 = q.2) := by
    intro q h
    unfold x_nameNow at h
    refine kt_F.of (by decide) (Nat.le_of_ble_eq_true rfl) (fun X hX hr => ?_)
    refine kr_aload_n (i := 0) hX dX10_nameNow_0 rfl rfl ?_
    refine kr_iconst (v := 3) hX dX10_nameNow_1 (by decide) ?_
    refine kr_iconst (v := 0) hX dX10_nameNow_2 (by decide) ?_
    refine kr_bipush (v := 115) hX dX10_nameNow_3 (by decide) ?_
    refine kr_bipush (v := 101) hX dX10_nameNow_5 (by decide) ?_
    obtain ⟨r_7, μ_7, e_7, h⟩ := kq_b2_e h
    refine kr_dV (c1 := 10) [_, _, _, _] hX km_10_106 dX10_nameNow_7 (xs_is hm e_7) rfl rfl ⟨_, _, rfl⟩ (by decide) (Nat.le_of_ble_eq_true rfl) (Nat.le_refl _) (Nat.le_refl _) (md_k hm) ?_
    refine kr_if_eq (tgt := 28) hX dX10_nameNow_10 (by decide) (fun c_10 => ?_) (fun c_10 => ?_)
    · replace h := kq_t c_10 h
      refine kr_keep (lv' := [(0, .ref m)]) [0] rfl ?_
      exact xw_nameNow_J28 hX hr hm h
    · replace h := kq_f c_10 h
      refine kr_aload_n (i := 0) hX dX10_nameNow_13 rfl rfl ?_
      refine kr_iconst (v := 3) hX dX10_nameNow_14 (by decide) ?_
      refine kr_iconst (v := 1) hX dX10_nameNow_15 (by decide) ?_
      refine kr_bipush (v := 101) hX dX10_nameNow_16 (by decide) ?_
      refine kr_bipush (v := 116) hX dX10_nameNow_18 (by decide) ?_
      obtain ⟨r_20, μ_20, e_20, h⟩ := kq_b2_e h
      refine kr_dV (c1 := 10) [_, _, _, _] hX km_10_106 dX10_nameNow_20 (xs_is hm e_20) rfl rfl ⟨_, _, rfl⟩ (by decide) (Nat.le_of_ble_eq_true rfl) (Nat.le_refl _) (Nat.le_refl _) (md_k hm) ?_
      refine kr_if_eq (tgt := 28) hX dX10_nameNow_23 (by decide) (fun c_23 => ?_) (fun c_23 => ?_)
      · replace h := kq_t c_23 h
        refine kr_keep (lv' := [(0, .ref m)]) [0] rfl ?_
        exact xw_nameNow_J28 hX hr hm h
      · replace h := kq_f c_23 h
        refine kr_iconst (v := 0) hX dX10_nameNow_26 (by decide) ?_
        refine kr_iret hX hr dX10_nameNow_27 ⟨rfl, ?_⟩
        exact kq_rI h
  exact key (r, μ1) h
def x_reads_B82 (n : Nat) (m : Nat) (K82 : kt_M → Option (Unit × kt_M)) (μ : kt_M) : Option (Unit × kt_M) := kq_b2 (x_byteAt n m μ (kt_i μ m 7)) (fun r_87 μ_87 => kq_b1 (x_in n (Int32.toInt64 r_87) (97 : Int64) (122 : Int64)) (fun r_97 => (if r_97 = 0 then some ((), μ_87) else kq_lt (kt_si μ_87 m 7 ((kt_i μ_87 m 7) + (1 : Int32))) (fun μ_110 => K82 μ_110))))
set_option maxHeartbeats 4000000 in
set_option maxRecDepth 100000 in
theorem xw_reads_B82 {G : kt_G} {σ : kt_Y} {X : kt_X} (hX : kt_ok G X RX10 cX10_reads 2 1 0 0) (hr : kt_rt X = none) {m : Nat} (hm : kt_md σ m) {n : Nat} {q : (Unit × kt_M)} {K82 : kt_M → Option (Unit × kt_M)} (hK82 : ∀ (μ : kt_M), K82 μ = some q → kt_W G X 2 82 [(0, .ref m)] [] σ μ 0 0 (kt_Z G X (kt_q σ (fun rv μ2 => rv = none ∧ μ2 = q.2)) 0 0)) {μ : kt_M} (h : x_reads_B82 n m K82 μ = some q) : kt_W G X 2 82 [(0, .ref m)] [] σ μ 0 0 (kt_Z G X (kt_q σ (fun rv μ2 => rv = none ∧ μ2 = q.2)) 0 0) := by
  unfold x_reads_B82 at h
  refine kr_aload_n (i := 0) hX dX10_reads_82 rfl rfl ?_
  refine kr_aload_n (i := 0) hX dX10_reads_83 rfl rfl ?_
  refine kr_geti (c0 := 10) (k := 7) hX ⟨_, kf_10_99⟩ dX10_reads_84 rfl (md_k hm) ?_
  obtain ⟨r_87, μ_87, e_87, h⟩ := kq_b2_e h
  refine kr_dV (c1 := 10) [_] hX km_10_102 dX10_reads_87 (xs_byteAt hm e_87) rfl rfl ⟨_, _, rfl⟩ (by decide) (Nat.le_of_ble_eq_true rfl) (Nat.le_refl _) (Nat.le_refl _) (md_k hm) ?_
  refine kr_i2l hX dX10_reads_90 rfl ?_
  refine kr_ldc2 (v := 97) hX kw_1145 dX10_reads_91 ?_
  refine kr_ldc2 (v := 122) hX kw_1146 dX10_reads_94 ?_
  obtain ⟨r_97, e_97, h⟩ := kq_b1_e h
  refine kr_dS [_, _, _] hX km_10_80 dX10_reads_97 (xs_in e_97) rfl rfl (by decide) (Nat.le_of_ble_eq_true rfl) (Nat.le_refl _) (Nat.le_refl _) ?_
  refine kr_if_eq (tgt := 286) hX dX10_reads_100 (by decide) (fun c_100 => ?_) (fun c_100 => ?_)
  · replace h := kq_t c_100 h
    refine kr_vret hX hr dX10_reads_286 ⟨rfl, ?_⟩
    exact kq_rV h
  · replace h := kq_f c_100 h
    refine kr_aload_n (i := 0) hX dX10_reads_103 rfl rfl ?_
    refine kr_dup hX dX10_reads_104 rfl ?_
    refine kr_geti (c0 := 10) (k := 7) hX ⟨_, kf_10_99⟩ dX10_reads_105 rfl (md_k hm) ?_
    refine kr_iconst (v := 1) hX dX10_reads_108 (by decide) ?_
    refine kr_iadd hX dX10_reads_109 ?_
    refine kr_puti (c0 := 10) (k := 7) hX kf_10_99 dX10_reads_110 rfl rfl rfl (md_k hm) ?_
    refine kr_ltM h (fun μ_110 h => ?_)
    refine kr_goto (tgt := 82) hX dX10_reads_113 (by decide) ?_
    refine kr_keep (lv' := [(0, .ref m)]) [0] rfl ?_
    exact hK82 _ h
def x_reads_L82 (n : Nat) (m : Nat) : Nat → kt_M → Option (Unit × kt_M)
  | 0, _ => none
  | k + 1, μ => x_reads_B82 n m (x_reads_L82 n m k) μ
set_option maxHeartbeats 4000000 in
set_option maxRecDepth 100000 in
theorem xw_reads_L82 {G : kt_G} {σ : kt_Y} {X : kt_X} (hX : kt_ok G X RX10 cX10_reads 2 1 0 0) (hr : kt_rt X = none) {m : Nat} (hm : kt_md σ m) {n : Nat} {q : (Unit × kt_M)} : ∀ (k : Nat) (μ : kt_M), x_reads_L82 n m k μ = some q → kt_W G X 2 82 [(0, .ref m)] [] σ μ 0 0 (kt_Z G X (kt_q σ (fun rv μ2 => rv = none ∧ μ2 = q.2)) 0 0) := by
  intro k
  induction k with
  | zero => intro μ h; cases h
  | succ k ih => intro μ h; exact xw_reads_B82 hX hr hm ih h
def x_reads_J201 (n : Nat) (m : Nat) (K140 : kt_M → Option (Unit × kt_M)) (s1 : Int32) (μ : kt_M) : Option (Unit × kt_M) := kq_lt (kt_si μ m 10 s1) (fun μ_201 => kq_lt (kt_si μ_201 m 7 ((kt_i μ_201 m 7) + (1 : Int32))) (fun μ_211 => K140 μ_211))
set_option maxHeartbeats 4000000 in
set_option maxRecDepth 100000 in
theorem xw_reads_J201 {G : kt_G} {σ : kt_Y} {X : kt_X} (hX : kt_ok G X RX10 cX10_reads 2 1 0 0) (hr : kt_rt X = none) {m : Nat} (hm : kt_md σ m) {n : Nat} {q : (Unit × kt_M)} {K140 : kt_M → Option (Unit × kt_M)} (hK140 : ∀ (μ : kt_M), K140 μ = some q → kt_W G X 2 140 [(0, .ref m)] [] σ μ 0 0 (kt_Z G X (kt_q σ (fun rv μ2 => rv = none ∧ μ2 = q.2)) 0 0)) {s1 : Int32} {μ : kt_M} (h : x_reads_J201 n m K140 s1 μ = some q) : kt_W G X 2 201 [(0, .ref m)] [.int s1, .ref m] σ μ 0 0 (kt_Z G X (kt_q σ (fun rv μ2 => rv = none ∧ μ2 = q.2)) 0 0) := by
  unfold x_reads_J201 at h
  refine kr_puti (c0 := 10) (k := 10) hX kf_10_118 dX10_reads_201 rfl rfl rfl (md_k hm) ?_
  refine kr_ltM h (fun μ_201 h => ?_)
  refine kr_aload_n (i := 0) hX dX10_reads_204 rfl rfl ?_
  refine kr_dup hX dX10_reads_205 rfl ?_
  refine kr_geti (c0 := 10) (k := 7) hX ⟨_, kf_10_99⟩ dX10_reads_206 rfl (md_k hm) ?_
  refine kr_iconst (v := 1) hX dX10_reads_209 (by decide) ?_
  refine kr_iadd hX dX10_reads_210 ?_
  refine kr_puti (c0 := 10) (k := 7) hX kf_10_99 dX10_reads_211 rfl rfl rfl (md_k hm) ?_
  refine kr_ltM h (fun μ_211 h => ?_)
  refine kr_goto (tgt := 140) hX dX10_reads_214 (by decide) ?_
  refine kr_keep (lv' := [(0, .ref m)]) [0] rfl ?_
  exact hK140 _ h
def x_reads_J236 (n : Nat) (m : Nat) (s1 : Int32) (μ : kt_M) : Option (Unit × kt_M) := kq_b2 (x_requires n m μ s1 (1 : Int32)) (fun r_237 μ_237 => some ((), μ_237))
set_option maxHeartbeats 4000000 in
set_option maxRecDepth 100000 in
theorem xw_reads_J236 {G : kt_G} {σ : kt_Y} {X : kt_X} (hX : kt_ok G X RX10 cX10_reads 2 1 0 0) (hr : kt_rt X = none) {m : Nat} (hm : kt_md σ m) {n : Nat} {q : (Unit × kt_M)} {s1 : Int32} {μ : kt_M} (h : x_reads_J236 n m s1 μ = some q) : kt_W G X 2 236 [(0, .ref m)] [.int s1, .ref m] σ μ 0 0 (kt_Z G X (kt_q σ (fun rv μ2 => rv = none ∧ μ2 = q.2)) 0 0) := by
  unfold x_reads_J236 at h
  refine kr_iconst (v := 1) hX dX10_reads_236 (by decide) ?_
  obtain ⟨r_237, μ_237, e_237, h⟩ := kq_b2_e h
  refine kr_dV (c1 := 10) [_, _] hX km_10_121 dX10_reads_237 (xs_requires hm e_237) rfl rfl ⟨_, _, rfl⟩ (by decide) (Nat.le_of_ble_eq_true rfl) (Nat.le_refl _) (Nat.le_refl _) (md_k hm) ?_
  refine kr_goto (tgt := 286) hX dX10_reads_240 (by decide) ?_
  refine kr_vret hX hr dX10_reads_286 ⟨rfl, ?_⟩
  exact kq_rV h
def x_reads_B140 (n : Nat) (m : Nat) (K140 : kt_M → Option (Unit × kt_M)) (μ : kt_M) : Option (Unit × kt_M) := kq_b2 (x_byteAt n m μ (kt_i μ m 7)) (fun r_145 μ_145 => kq_b1 (x_in n (Int32.toInt64 r_145) (48 : Int64) (57 : Int64)) (fun r_155 => (if r_155 = 0 then (if (2 : Int32) < ((kt_i μ_145 m 7) - (kt_i μ_145 m 8)) then x_reads_J236 n m (0 : Int32) μ_145 else x_reads_J236 n m (1 : Int32) μ_145) else (if (2 : Int32) ≤ ((kt_i μ_145 m 7) - (kt_i μ_145 m 8)) then x_reads_J201 n m K140 (kt_i μ_145 m 10) μ_145 else kq_b2 (x_byteAt n m μ_145 (kt_i μ_145 m 7)) (fun r_187 μ_187 => x_reads_J201 n m K140 ((((10 : Int32) * (kt_i μ_145 m 10)) + r_187) - (48 : Int32)) μ_187)))))
set_option maxHeartbeats 4000000 in
set_option maxRecDepth 100000 in
theorem xw_reads_B140 {G : kt_G} {σ : kt_Y} {X : kt_X} (hX : kt_ok G X RX10 cX10_reads 2 1 0 0) (hr : kt_rt X = none) {m : Nat} (hm : kt_md σ m) {n : Nat} {q : (Unit × kt_M)} {K140 : kt_M → Option (Unit × kt_M)} (hK140 : ∀ (μ : kt_M), K140 μ = some q → kt_W G X 2 140 [(0, .ref m)] [] σ μ 0 0 (kt_Z G X (kt_q σ (fun rv μ2 => rv = none ∧ μ2 = q.2)) 0 0)) {μ : kt_M} (h : x_reads_B140 n m K140 μ = some q) : kt_W G X 2 140 [(0, .ref m)] [] σ μ 0 0 (kt_Z G X (kt_q σ (fun rv μ2 => rv = none ∧ μ2 = q.2)) 0 0) := by
  unfold x_reads_B140 at h
  refine kr_aload_n (i := 0) hX dX10_reads_140 rfl rfl ?_
  refine kr_aload_n (i := 0) hX dX10_reads_141 rfl rfl ?_
  refine kr_geti (c0 := 10) (k := 7) hX ⟨_, kf_10_99⟩ dX10_reads_142 rfl (md_k hm) ?_
  obtain ⟨r_145, μ_145, e_145, h⟩ := kq_b2_e h
  refine kr_dV (c1 := 10) [_] hX km_10_102 dX10_reads_145 (xs_byteAt hm e_145) rfl rfl ⟨_, _, rfl⟩ (by decide) (Nat.le_of_ble_eq_true rfl) (Nat.le_refl _) (Nat.le_refl _) (md_k hm) ?_
  refine kr_i2l hX dX10_reads_148 rfl ?_
  refine kr_ldc2 (v := 48) hX kw_1147 dX10_reads_149 ?_
  refine kr_ldc2 (v := 57) hX kw_1148 dX10_reads_152 ?_
  obtain ⟨r_155, e_155, h⟩ := kq_b1_e h
  refine kr_dS [_, _, _] hX km_10_80 dX10_reads_155 (xs_in e_155) rfl rfl (by decide) (Nat.le_of_ble_eq_true rfl) (Nat.le_refl _) (Nat.le_refl _) ?_
  refine kr_if_eq (tgt := 217) hX dX10_reads_158 (by decide) (fun c_158 => ?_) (fun c_158 => ?_)
  · replace h := kq_t c_158 h
    refine kr_aload_n (i := 0) hX dX10_reads_217 rfl rfl ?_
    refine kr_aload_n (i := 0) hX dX10_reads_218 rfl rfl ?_
    refine kr_geti (c0 := 10) (k := 7) hX ⟨_, kf_10_99⟩ dX10_reads_219 rfl (md_k hm) ?_
    refine kr_aload_n (i := 0) hX dX10_reads_222 rfl rfl ?_
    refine kr_geti (c0 := 10) (k := 8) hX ⟨_, kf_10_90⟩ dX10_reads_223 rfl (md_k hm) ?_
    refine kr_isub hX dX10_reads_226 ?_
    refine kr_iconst (v := 2) hX dX10_reads_227 (by decide) ?_
    refine kr_icmp_gt (tgt := 235) hX dX10_reads_228 (by decide) (fun c_228 => ?_) (fun c_228 => ?_)
    · replace h := kq_t c_228 h
      refine kr_iconst (v := 0) hX dX10_reads_235 (by decide) ?_
      refine kr_keep (lv' := [(0, .ref m)]) [0] rfl ?_
      exact xw_reads_J236 hX hr hm h
    · replace h := kq_f c_228 h
      refine kr_iconst (v := 1) hX dX10_reads_231 (by decide) ?_
      refine kr_goto (tgt := 236) hX dX10_reads_232 (by decide) ?_
      refine kr_keep (lv' := [(0, .ref m)]) [0] rfl ?_
      exact xw_reads_J236 hX hr hm h
  · replace h := kq_f c_158 h
    refine kr_aload_n (i := 0) hX dX10_reads_161 rfl rfl ?_
    refine kr_aload_n (i := 0) hX dX10_reads_162 rfl rfl ?_
    refine kr_geti (c0 := 10) (k := 7) hX ⟨_, kf_10_99⟩ dX10_reads_163 rfl (md_k hm) ?_
    refine kr_aload_n (i := 0) hX dX10_reads_166 rfl rfl ?_
    refine kr_geti (c0 := 10) (k := 8) hX ⟨_, kf_10_90⟩ dX10_reads_167 rfl (md_k hm) ?_
    refine kr_isub hX dX10_reads_170 ?_
    refine kr_iconst (v := 2) hX dX10_reads_171 (by decide) ?_
    refine kr_icmp_ge (tgt := 197) hX dX10_reads_172 (by decide) (fun c_172 => ?_) (fun c_172 => ?_)
    · replace h := kq_t c_172 h
      refine kr_aload_n (i := 0) hX dX10_reads_197 rfl rfl ?_
      refine kr_geti (c0 := 10) (k := 10) hX ⟨_, kf_10_118⟩ dX10_reads_198 rfl (md_k hm) ?_
      refine kr_keep (lv' := [(0, .ref m)]) [0] rfl ?_
      exact xw_reads_J201 hX hr hm hK140 h
    · replace h := kq_f c_172 h
      refine kr_bipush (v := 10) hX dX10_reads_175 (by decide) ?_
      refine kr_aload_n (i := 0) hX dX10_reads_177 rfl rfl ?_
      refine kr_geti (c0 := 10) (k := 10) hX ⟨_, kf_10_118⟩ dX10_reads_178 rfl (md_k hm) ?_
      refine kr_imul hX dX10_reads_181 ?_
      refine kr_aload_n (i := 0) hX dX10_reads_182 rfl rfl ?_
      refine kr_aload_n (i := 0) hX dX10_reads_183 rfl rfl ?_
      refine kr_geti (c0 := 10) (k := 7) hX ⟨_, kf_10_99⟩ dX10_reads_184 rfl (md_k hm) ?_
      obtain ⟨r_187, μ_187, e_187, h⟩ := kq_b2_e h
      refine kr_dV (c1 := 10) [_] hX km_10_102 dX10_reads_187 (xs_byteAt hm e_187) rfl rfl ⟨_, _, rfl⟩ (by decide) (Nat.le_of_ble_eq_true rfl) (Nat.le_refl _) (Nat.le_refl _) (md_k hm) ?_
      refine kr_iadd hX dX10_reads_190 ?_
      refine kr_bipush (v := 48) hX dX10_reads_191 (by decide) ?_
      refine kr_isub hX dX10_reads_193 ?_
      refine kr_goto (tgt := 201) hX dX10_reads_194 (by decide) ?_
      refine kr_keep (lv' := [(0, .ref m)]) [0] rfl ?_
      exact xw_reads_J201 hX hr hm hK140 h
def x_reads_L140 (n : Nat) (m : Nat) : Nat → kt_M → Option (Unit × kt_M)
  | 0, _ => none
  | k + 1, μ => x_reads_B140 n m (x_reads_L140 n m k) μ
set_option maxHeartbeats 4000000 in
set_option maxRecDepth 100000 in
theorem xw_reads_L140 {G : kt_G} {σ : kt_Y} {X : kt_X} (hX : kt_ok G X RX10 cX10_reads 2 1 0 0) (hr : kt_rt X = none) {m : Nat} (hm : kt_md σ m) {n : Nat} {q : (Unit × kt_M)} : ∀ (k : Nat) (μ : kt_M), x_reads_L140 n m k μ = some q → kt_W G X 2 140 [(0, .ref m)] [] σ μ 0 0 (kt_Z G X (kt_q σ (fun rv μ2 => rv = none ∧ μ2 = q.2)) 0 0) := by
  intro k
  induction k with
  | zero => intro μ h; cases h
  | succ k ih => intro μ h; exact xw_reads_B140 hX hr hm ih h
def x_reads_J272 (n : Nat) (m : Nat) (s1 : Int32) (μ : kt_M) : Option (Unit × kt_M) := kq_b2 (x_requires n m μ s1 (1 : Int32)) (fun r_273 μ_273 => kq_lt (kt_si μ_273 m 7 ((kt_i μ_273 m 7) + (1 : Int32))) (fun μ_283 => some ((), μ_283)))
set_option maxHeartbeats 4000000 in
set_option maxRecDepth 100000 in
theorem xw_reads_J272 {G : kt_G} {σ : kt_Y} {X : kt_X} (hX : kt_ok G X RX10 cX10_reads 2 1 0 0) (hr : kt_rt X = none) {m : Nat} (hm : kt_md σ m) {n : Nat} {q : (Unit × kt_M)} {s1 : Int32} {μ : kt_M} (h : x_reads_J272 n m s1 μ = some q) : kt_W G X 2 272 [(0, .ref m)] [.int s1, .ref m] σ μ 0 0 (kt_Z G X (kt_q σ (fun rv μ2 => rv = none ∧ μ2 = q.2)) 0 0) := by
  unfold x_reads_J272 at h
  refine kr_iconst (v := 1) hX dX10_reads_272 (by decide) ?_
  obtain ⟨r_273, μ_273, e_273, h⟩ := kq_b2_e h
  refine kr_dV (c1 := 10) [_, _] hX km_10_121 dX10_reads_273 (xs_requires hm e_273) rfl rfl ⟨_, _, rfl⟩ (by decide) (Nat.le_of_ble_eq_true rfl) (Nat.le_refl _) (Nat.le_refl _) (md_k hm) ?_
  refine kr_aload_n (i := 0) hX dX10_reads_276 rfl rfl ?_
  refine kr_dup hX dX10_reads_277 rfl ?_
  refine kr_geti (c0 := 10) (k := 7) hX ⟨_, kf_10_99⟩ dX10_reads_278 rfl (md_k hm) ?_
  refine kr_iconst (v := 1) hX dX10_reads_281 (by decide) ?_
  refine kr_iadd hX dX10_reads_282 ?_
  refine kr_puti (c0 := 10) (k := 7) hX kf_10_99 dX10_reads_283 rfl rfl rfl (md_k hm) ?_
  refine kr_ltM h (fun μ_283 h => ?_)
  refine kr_vret hX hr dX10_reads_286 ⟨rfl, ?_⟩
  exact kq_rV h
def x_reads_B8 (n : Nat) (m : Nat) (K8 : kt_M → Option (Unit × kt_M)) (μ : kt_M) : Option (Unit × kt_M) := kq_b2 (x_byteAt n m μ (kt_i μ m 7)) (fun r_13 μ_13 => (if r_13 = (32 : Int32) then kq_lt (kt_si μ_13 m 7 ((kt_i μ_13 m 7) + (1 : Int32))) (fun μ_28 => K8 μ_28) else kq_lt (kt_si μ_13 m 8 (kt_i μ_13 m 7)) (fun μ_39 => kq_b2 (x_byteAt n m μ_39 (kt_i μ_39 m 7)) (fun r_47 μ_47 => (if 0 ≤ r_47 then kq_b1 (x_in n (Int32.toInt64 r_47) (97 : Int64) (122 : Int64)) (fun r_71 => (if r_71 = 0 then kq_b1 (x_in n (Int32.toInt64 r_47) (48 : Int64) (57 : Int64)) (fun r_124 => (if r_124 = 0 then kq_lt (kt_si μ_47 m 9 (3 : Int32)) (fun μ_245 => (if r_47 = (59 : Int32) then x_reads_J272 n m (1 : Int32) μ_245 else (if r_47 = (60 : Int32) then x_reads_J272 n m (1 : Int32) μ_245 else (if r_47 = (61 : Int32) then x_reads_J272 n m (1 : Int32) μ_245 else x_reads_J272 n m (0 : Int32) μ_245)))) else kq_lt (kt_si μ_47 m 9 (2 : Int32)) (fun μ_132 => kq_lt (kt_si μ_132 m 10 (0 : Int32)) (fun μ_137 => x_reads_L140 n m n μ_137)))) else kq_lt (kt_si μ_47 m 9 (1 : Int32)) (fun μ_79 => x_reads_L82 n m n μ_79))) else kq_lt (kt_si μ_47 m 9 (0 : Int32)) (fun μ_57 => some ((), μ_57)))))))
set_option maxHeartbeats 4000000 in
set_option maxRecDepth 100000 in
theorem xw_reads_B8 {G : kt_G} {σ : kt_Y} {X : kt_X} (hX : kt_ok G X RX10 cX10_reads 2 1 0 0) (hr : kt_rt X = none) {m : Nat} (hm : kt_md σ m) {n : Nat} {q : (Unit × kt_M)} {K8 : kt_M → Option (Unit × kt_M)} (hK8 : ∀ (μ : kt_M), K8 μ = some q → kt_W G X 2 8 [(0, .ref m)] [] σ μ 0 0 (kt_Z G X (kt_q σ (fun rv μ2 => rv = none ∧ μ2 = q.2)) 0 0)) {μ : kt_M} (h : x_reads_B8 n m K8 μ = some q) : kt_W G X 2 8 [(0, .ref m)] [] σ μ 0 0 (kt_Z G X (kt_q σ (fun rv μ2 => rv = none ∧ μ2 = q.2)) 0 0) := by
  unfold x_reads_B8 at h
  refine kr_aload_n (i := 0) hX dX10_reads_8 rfl rfl ?_
  refine kr_aload_n (i := 0) hX dX10_reads_9 rfl rfl ?_
  refine kr_geti (c0 := 10) (k := 7) hX ⟨_, kf_10_99⟩ dX10_reads_10 rfl (md_k hm) ?_
  obtain ⟨r_13, μ_13, e_13, h⟩ := kq_b2_e h
  refine kr_dV (c1 := 10) [_] hX km_10_102 dX10_reads_13 (xs_byteAt hm e_13) rfl rfl ⟨_, _, rfl⟩ (by decide) (Nat.le_of_ble_eq_true rfl) (Nat.le_refl _) (Nat.le_refl _) (md_k hm) ?_
  refine kr_bipush (v := 32) hX dX10_reads_16 (by decide) ?_
  refine kr_icmp_ne (tgt := 34) hX dX10_reads_18 (by decide) (fun c_18 => ?_) (fun c_18 => ?_)
  · replace h := kq_f c_18 h
    refine kr_aload_n (i := 0) hX dX10_reads_34 rfl rfl ?_
    refine kr_aload_n (i := 0) hX dX10_reads_35 rfl rfl ?_
    refine kr_geti (c0 := 10) (k := 7) hX ⟨_, kf_10_99⟩ dX10_reads_36 rfl (md_k hm) ?_
    refine kr_puti (c0 := 10) (k := 8) hX kf_10_90 dX10_reads_39 rfl rfl rfl (md_k hm) ?_
    refine kr_ltM h (fun μ_39 h => ?_)
    refine kr_aload_n (i := 0) hX dX10_reads_42 rfl rfl ?_
    refine kr_aload_n (i := 0) hX dX10_reads_43 rfl rfl ?_
    refine kr_geti (c0 := 10) (k := 7) hX ⟨_, kf_10_99⟩ dX10_reads_44 rfl (md_k hm) ?_
    obtain ⟨r_47, μ_47, e_47, h⟩ := kq_b2_e h
    refine kr_dV (c1 := 10) [_] hX km_10_102 dX10_reads_47 (xs_byteAt hm e_47) rfl rfl ⟨_, _, rfl⟩ (by decide) (Nat.le_of_ble_eq_true rfl) (Nat.le_refl _) (Nat.le_refl _) (md_k hm) ?_
    refine kr_istore_n (i := 1) hX dX10_reads_50 rfl (by decide) rfl rfl ?_
    refine kr_iload_n (i := 1) hX dX10_reads_51 rfl rfl ?_
    refine kr_if_ge (tgt := 63) hX dX10_reads_52 (by decide) (fun c_52 => ?_) (fun c_52 => ?_)
    · replace h := kq_t c_52 h
      refine kr_iload_n (i := 1) hX dX10_reads_63 rfl rfl ?_
      refine kr_i2l hX dX10_reads_64 rfl ?_
      refine kr_ldc2 (v := 97) hX kw_1145 dX10_reads_65 ?_
      refine kr_ldc2 (v := 122) hX kw_1146 dX10_reads_68 ?_
      obtain ⟨r_71, e_71, h⟩ := kq_b1_e h
      refine kr_dS [_, _, _] hX km_10_80 dX10_reads_71 (xs_in e_71) rfl rfl (by decide) (Nat.le_of_ble_eq_true rfl) (Nat.le_refl _) (Nat.le_refl _) ?_
      refine kr_if_eq (tgt := 116) hX dX10_reads_74 (by decide) (fun c_74 => ?_) (fun c_74 => ?_)
      · replace h := kq_t c_74 h
        refine kr_iload_n (i := 1) hX dX10_reads_116 rfl rfl ?_
        refine kr_i2l hX dX10_reads_117 rfl ?_
        refine kr_ldc2 (v := 48) hX kw_1147 dX10_reads_118 ?_
        refine kr_ldc2 (v := 57) hX kw_1148 dX10_reads_121 ?_
        obtain ⟨r_124, e_124, h⟩ := kq_b1_e h
        refine kr_dS [_, _, _] hX km_10_80 dX10_reads_124 (xs_in e_124) rfl rfl (by decide) (Nat.le_of_ble_eq_true rfl) (Nat.le_refl _) (Nat.le_refl _) ?_
        refine kr_if_eq (tgt := 243) hX dX10_reads_127 (by decide) (fun c_127 => ?_) (fun c_127 => ?_)
        · replace h := kq_t c_127 h
          refine kr_aload_n (i := 0) hX dX10_reads_243 rfl rfl ?_
          refine kr_iconst (v := 3) hX dX10_reads_244 (by decide) ?_
          refine kr_puti (c0 := 10) (k := 9) hX kf_10_96 dX10_reads_245 rfl rfl rfl (md_k hm) ?_
          refine kr_ltM h (fun μ_245 h => ?_)
          refine kr_aload_n (i := 0) hX dX10_reads_248 rfl rfl ?_
          refine kr_iload_n (i := 1) hX dX10_reads_249 rfl rfl ?_
          refine kr_bipush (v := 59) hX dX10_reads_250 (by decide) ?_
          refine kr_icmp_eq (tgt := 267) hX dX10_reads_252 (by decide) (fun c_252 => ?_) (fun c_252 => ?_)
          · replace h := kq_t c_252 h
            refine kr_iconst (v := 1) hX dX10_reads_267 (by decide) ?_
            refine kr_goto (tgt := 272) hX dX10_reads_268 (by decide) ?_
            refine kr_keep (lv' := [(0, .ref m)]) [0] rfl ?_
            exact xw_reads_J272 hX hr hm h
          · replace h := kq_f c_252 h
            refine kr_iload_n (i := 1) hX dX10_reads_255 rfl rfl ?_
            refine kr_bipush (v := 60) hX dX10_reads_256 (by decide) ?_
            refine kr_icmp_eq (tgt := 267) hX dX10_reads_258 (by decide) (fun c_258 => ?_) (fun c_258 => ?_)
            · replace h := kq_t c_258 h
              refine kr_iconst (v := 1) hX dX10_reads_267 (by decide) ?_
              refine kr_goto (tgt := 272) hX dX10_reads_268 (by decide) ?_
              refine kr_keep (lv' := [(0, .ref m)]) [0] rfl ?_
              exact xw_reads_J272 hX hr hm h
            · replace h := kq_f c_258 h
              refine kr_iload_n (i := 1) hX dX10_reads_261 rfl rfl ?_
              refine kr_bipush (v := 61) hX dX10_reads_262 (by decide) ?_
              refine kr_icmp_ne (tgt := 271) hX dX10_reads_264 (by decide) (fun c_264 => ?_) (fun c_264 => ?_)
              · replace h := kq_f c_264 h
                refine kr_iconst (v := 0) hX dX10_reads_271 (by decide) ?_
                refine kr_keep (lv' := [(0, .ref m)]) [0] rfl ?_
                exact xw_reads_J272 hX hr hm h
              · replace h := kq_t c_264 h
                refine kr_iconst (v := 1) hX dX10_reads_267 (by decide) ?_
                refine kr_goto (tgt := 272) hX dX10_reads_268 (by decide) ?_
                refine kr_keep (lv' := [(0, .ref m)]) [0] rfl ?_
                exact xw_reads_J272 hX hr hm h
        · replace h := kq_f c_127 h
          refine kr_aload_n (i := 0) hX dX10_reads_130 rfl rfl ?_
          refine kr_iconst (v := 2) hX dX10_reads_131 (by decide) ?_
          refine kr_puti (c0 := 10) (k := 9) hX kf_10_96 dX10_reads_132 rfl rfl rfl (md_k hm) ?_
          refine kr_ltM h (fun μ_132 h => ?_)
          refine kr_aload_n (i := 0) hX dX10_reads_135 rfl rfl ?_
          refine kr_iconst (v := 0) hX dX10_reads_136 (by decide) ?_
          refine kr_puti (c0 := 10) (k := 10) hX kf_10_118 dX10_reads_137 rfl rfl rfl (md_k hm) ?_
          refine kr_ltM h (fun μ_137 h => ?_)
          refine kr_keep (lv' := [(0, .ref m)]) [0] rfl ?_
          exact xw_reads_L140 hX hr hm n _ h
      · replace h := kq_f c_74 h
        refine kr_aload_n (i := 0) hX dX10_reads_77 rfl rfl ?_
        refine kr_iconst (v := 1) hX dX10_reads_78 (by decide) ?_
        refine kr_puti (c0 := 10) (k := 9) hX kf_10_96 dX10_reads_79 rfl rfl rfl (md_k hm) ?_
        refine kr_ltM h (fun μ_79 h => ?_)
        refine kr_keep (lv' := [(0, .ref m)]) [0] rfl ?_
        exact xw_reads_L82 hX hr hm n _ h
    · replace h := kq_f c_52 h
      refine kr_aload_n (i := 0) hX dX10_reads_55 rfl rfl ?_
      refine kr_iconst (v := 0) hX dX10_reads_56 (by decide) ?_
      refine kr_puti (c0 := 10) (k := 9) hX kf_10_96 dX10_reads_57 rfl rfl rfl (md_k hm) ?_
      refine kr_ltM h (fun μ_57 h => ?_)
      refine kr_goto (tgt := 286) hX dX10_reads_60 (by decide) ?_
      refine kr_vret hX hr dX10_reads_286 ⟨rfl, ?_⟩
      exact kq_rV h
  · replace h := kq_t c_18 h
    refine kr_aload_n (i := 0) hX dX10_reads_21 rfl rfl ?_
    refine kr_dup hX dX10_reads_22 rfl ?_
    refine kr_geti (c0 := 10) (k := 7) hX ⟨_, kf_10_99⟩ dX10_reads_23 rfl (md_k hm) ?_
    refine kr_iconst (v := 1) hX dX10_reads_26 (by decide) ?_
    refine kr_iadd hX dX10_reads_27 ?_
    refine kr_puti (c0 := 10) (k := 7) hX kf_10_99 dX10_reads_28 rfl rfl rfl (md_k hm) ?_
    refine kr_ltM h (fun μ_28 h => ?_)
    refine kr_goto (tgt := 8) hX dX10_reads_31 (by decide) ?_
    refine kr_keep (lv' := [(0, .ref m)]) [0] rfl ?_
    exact hK8 _ h
def x_reads_L8 (n : Nat) (m : Nat) : Nat → kt_M → Option (Unit × kt_M)
  | 0, _ => none
  | k + 1, μ => x_reads_B8 n m (x_reads_L8 n m k) μ
set_option maxHeartbeats 4000000 in
set_option maxRecDepth 100000 in
theorem xw_reads_L8 {G : kt_G} {σ : kt_Y} {X : kt_X} (hX : kt_ok G X RX10 cX10_reads 2 1 0 0) (hr : kt_rt X = none) {m : Nat} (hm : kt_md σ m) {n : Nat} {q : (Unit × kt_M)} : ∀ (k : Nat) (μ : kt_M), x_reads_L8 n m k μ = some q → kt_W G X 2 8 [(0, .ref m)] [] σ μ 0 0 (kt_Z G X (kt_q σ (fun rv μ2 => rv = none ∧ μ2 = q.2)) 0 0) := by
  intro k
  induction k with
  | zero => intro μ h; cases h
  | succ k ih => intro μ h; exact xw_reads_B8 hX hr hm ih h
def x_reads (n : Nat) (m : Nat) (μ : kt_M) : Option (Unit × kt_M) := (if (kt_i μ m 11) ≤ 0 then x_reads_L8 n m n μ else some ((), μ))
set_option maxHeartbeats 4000000 in
set_option maxRecDepth 100000 in
theorem xs_reads {G : kt_G} {σ : kt_Y} {μ : kt_M} {m : Nat} (hm : kt_md σ m) {n : Nat} {r : Unit} {μ1 : kt_M} (h : x_reads n m μ = some (r, μ1)) : kt_F G yX10_reads cX10_reads 2 none 1 [.ref m] σ μ (fun rv μ2 => rv = none ∧ μ2 = μ1) := by
  have key : ∀ q : (Unit × kt_M), x_reads n m μ = some q → kt_F G yX10_reads cX10_reads 2 none 1 [.ref m] σ μ (fun rv μ2 => rv = none ∧ μ2 = q.2) := by
    intro q h
    unfold x_reads at h
    refine kt_F.of (by decide) (Nat.le_of_ble_eq_true rfl) (fun X hX hr => ?_)
    refine kr_aload_n (i := 0) hX dX10_reads_0 rfl rfl ?_
    refine kr_geti (c0 := 10) (k := 11) hX ⟨_, kf_10_87⟩ dX10_reads_1 rfl (md_k hm) ?_
    refine kr_if_le (tgt := 8) hX dX10_reads_4 (by decide) (fun c_4 => ?_) (fun c_4 => ?_)
    · replace h := kq_t c_4 h
      refine kr_keep (lv' := [(0, .ref m)]) [0] rfl ?_
      exact xw_reads_L8 hX hr hm n _ h
    · replace h := kq_f c_4 h
      refine kr_vret hX hr dX10_reads_7 ⟨rfl, ?_⟩
      exact kq_rV h
  exact key (r, μ1) h

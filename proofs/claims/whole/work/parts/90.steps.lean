def kPre (μ : kt_M) (o : Nat) : Prop := ∃ s0 s1 L : Nat, kp μ (o + 42) 8 s0 ∧ kc μ o s1 ∧ kt_01 μ (o + 153) ∧ (kt_i μ (o + 1) 1 = nI L ∧ L ≤ 200) ∧ kt_i μ (o + 3 + 1) 0 = 0 ∧ kt_i μ (o + 42 + 1) 0 = 0 ∧ ∀ k, ∃ s, k_wi k 1 → kp μ (ut_im o k) 16 s
def kInv (μ : kt_M) (o m : Nat) : Prop := kPre μ o ∧ o + 522 ≤ m
theorem kInv.pre {μ : kt_M} {o m : Nat} (h : kInv μ o m) : kPre μ o := h.1
theorem kInv.start {σ0 σ1 σ2 : kt_Y} {μ0 μ1 μ2 : kt_M} {o : Nat} {r1 r2 : Option Value} (h1 : kI o 522 kt_kt k_kt1 σ0 μ0 r1 σ1 μ1) (h2 : kI (o + 522) 19 kt_md k_md0 (kt_nA σ1 (o + 522) (0, 10)) (kt_z μ1 (o + 522)) r2 σ2 μ2) : kInv μ2 o (o + 522) := by
  sorry
theorem st_feed {μ : kt_M} {o m : Nat} (h : kInv μ o m) (a1 : Int32) : ∃ (n : Nat) (μ1 : kt_M), x_feed n m (ut_feed μ o a1).2 a1 = some ((ut_feed μ o a1).1, μ1) ∧ kInv μ1 o m := by
  sorry
theorem st_end {μ : kt_M} {o m : Nat} (h : kInv μ o m) (a1 : Int32) : ∃ (n : Nat) (μ1 : kt_M), x_end n m (ut_end μ o a1).2 a1 = some ((ut_end μ o a1).1, μ1) ∧ kInv μ1 o m := by
  sorry
theorem st_text {μ : kt_M} {o m : Nat} (h : kInv μ o m) : ∃ (n : Nat) (μ1 : kt_M), x_text n m (ut_text μ o).2 = some ((ut_text μ o).1, μ1) ∧ kInv μ1 o m := by
  sorry
theorem st_fault {μ : kt_M} {o m : Nat} (h : kInv μ o m) : ∃ (n : Nat) (μ1 : kt_M), x_fault n m ((kt_i μ (o + 1) 2, μ)).2 = some (((kt_i μ (o + 1) 2, μ)).1, μ1) ∧ kInv μ1 o m := by
  sorry
theorem st_program {μ : kt_M} {o m : Nat} (h : kInv μ o m) (a1 : Int32) (a2 : Int32) : ∃ (n : Nat) (μ1 : kt_M), x_program n m (ut_prog μ o a1 a2).2 a1 a2 = some ((ut_prog μ o a1 a2).1, μ1) ∧ kInv μ1 o m := by
  sorry
theorem st_block {μ : kt_M} {o m : Nat} (h : kInv μ o m) (a1 : Int32) (a2 : Int32) (a3 : Int32) : ∃ (n : Nat) (μ1 : kt_M), x_block n m ((ut_block μ o a1 a2 a3, μ)).2 a1 a2 a3 = some (((ut_block μ o a1 a2 a3, μ)).1, μ1) ∧ kInv μ1 o m := by
  sorry
theorem st_act {μ : kt_M} {o m : Nat} (h : kInv μ o m) (a1 : Int32) (a2 : Int32) (a3 : Int32) (a4 : Int32) : ∃ (n : Nat) (μ1 : kt_M), x_act n m ((ut_act μ o a1 a2 a3 a4, μ)).2 a1 a2 a3 a4 = some (((ut_act μ o a1 a2 a3 a4, μ)).1, μ1) ∧ kInv μ1 o m := by
  sorry
theorem st_range {μ : kt_M} {o m : Nat} (h : kInv μ o m) (a1 : Int32) (a2 : Int32) (a3 : Int32) : ∃ (n : Nat) (μ1 : kt_M), x_range n m (ut_range μ o a1 a2 a3).2 a1 a2 a3 = some ((ut_range μ o a1 a2 a3).1, μ1) ∧ kInv μ1 o m := by
  sorry
theorem st_along {μ : kt_M} {o m : Nat} (h : kInv μ o m) (a1 : Int32) (a2 : Int32) (a3 : Int32) (a4 : Int32) : ∃ (n : Nat) (μ1 : kt_M), x_along n m (ut_along μ o a1 a2 a3 a4).2 a1 a2 a3 a4 = some ((ut_along μ o a1 a2 a3 a4).1, μ1) ∧ kInv μ1 o m := by
  sorry
theorem st_outcome {μ : kt_M} {o m : Nat} (h : kInv μ o m) (a1 : Int32) : ∃ (n : Nat) (μ1 : kt_M), x_outcome n m (ut_outc μ o a1).2 a1 = some ((ut_outc μ o a1).1, μ1) ∧ kInv μ1 o m := by
  sorry
theorem st_known {μ : kt_M} {o m : Nat} (h : kInv μ o m) (a1 : Int32) (a2 : Int32) : ∃ (n : Nat) (μ1 : kt_M), x_known n m (ut_known μ o a1 a2).2 a1 a2 = some ((ut_known μ o a1 a2).1, μ1) ∧ kInv μ1 o m := by
  sorry
theorem st_why {μ : kt_M} {o m : Nat} (h : kInv μ o m) (a1 : Int32) (a2 : Int32) : ∃ (n : Nat) (μ1 : kt_M), x_why n m (ut_why μ o a1 a2).2 a1 a2 = some ((ut_why μ o a1 a2).1, μ1) ∧ kInv μ1 o m := by
  sorry
theorem st_dominates {μ : kt_M} {o m : Nat} (h : kInv μ o m) (a1 : Int32) (a2 : Int32) : ∃ (n : Nat) (μ1 : kt_M), x_dominates n m (ut_dom μ o a1 a2).2 a1 a2 = some ((ut_dom μ o a1 a2).1, μ1) ∧ kInv μ1 o m := by
  sorry
theorem st_loop {μ : kt_M} {o m : Nat} (h : kInv μ o m) (a1 : Int32) (a2 : Int32) : ∃ (n : Nat) (μ1 : kt_M), x_loop n m (ut_loop μ o a1 a2).2 a1 a2 = some ((ut_loop μ o a1 a2).1, μ1) ∧ kInv μ1 o m := by
  sorry
theorem st_thread {μ : kt_M} {o m : Nat} (h : kInv μ o m) (a1 : Int32) (a2 : Int32) : ∃ (n : Nat) (μ1 : kt_M), x_thread n m (ut_thread μ o a1 a2).2 a1 a2 = some ((ut_thread μ o a1 a2).1, μ1) ∧ kInv μ1 o m := by
  sorry
theorem st_threads {μ : kt_M} {o m : Nat} (h : kInv μ o m) (a1 : Int32) : ∃ (n : Nat) (μ1 : kt_M), x_threads n m (ut_ths μ o a1).2 a1 = some ((ut_ths μ o a1).1, μ1) ∧ kInv μ1 o m := by
  sorry
theorem st_fold {μ : kt_M} {o m : Nat} (h : kInv μ o m) : ∃ (n : Nat) (μ1 : kt_M), x_fold n m (ut_fold μ o).2 = some ((ut_fold μ o).1, μ1) ∧ kInv μ1 o m := by
  sorry
theorem st_sweep {μ : kt_M} {o m : Nat} (h : kInv μ o m) : ∃ (n : Nat) (μ1 : kt_M), x_sweep n m (ut_sweep μ o).2 = some ((ut_sweep μ o).1, μ1) ∧ kInv μ1 o m := by
  sorry
theorem st_limit {μ : kt_M} {o m : Nat} (h : kInv μ o m) (a1 : Int32) : ∃ (n : Nat) (μ1 : kt_M), x_limit n m (ut_limit μ o a1).2 a1 = some ((ut_limit μ o a1).1, μ1) ∧ kInv μ1 o m := by
  sorry
theorem st_input {μ : kt_M} {o m : Nat} (h : kInv μ o m) (a1 : Int32) (a2 : Int32) : ∃ (n : Nat) (μ1 : kt_M), x_input n m (ut_input μ o a1 a2).2 a1 a2 = some ((ut_input μ o a1 a2).1, μ1) ∧ kInv μ1 o m := by
  sorry
theorem st_ran {μ : kt_M} {o m : Nat} (h : kInv μ o m) (a1 : Int32) (a2 : Int32) : ∃ (n : Nat) (μ1 : kt_M), x_ran n m (ut_ran μ o a1 a2).2 a1 a2 = some ((ut_ran μ o a1 a2).1, μ1) ∧ kInv μ1 o m := by
  sorry
theorem st_wrote {μ : kt_M} {o m : Nat} (h : kInv μ o m) (a1 : Int32) (a2 : Int32) : ∃ (n : Nat) (μ1 : kt_M), x_wrote n m (ut_wr μ o a1 a2 6 (o + 364 + 3) 240).2 a1 a2 = some ((ut_wr μ o a1 a2 6 (o + 364 + 3) 240).1, μ1) ∧ kInv μ1 o m := by
  sorry
theorem st_path {μ : kt_M} {o m : Nat} (h : kInv μ o m) (a1 : Int32) (a2 : Int32) : ∃ (n : Nat) (μ1 : kt_M), x_path n m (ut_wr μ o a1 a2 3 (o + 364 + 2) 60).2 a1 a2 = some ((ut_wr μ o a1 a2 3 (o + 364 + 2) 60).1, μ1) ∧ kInv μ1 o m := by
  sorry
theorem st_saved {μ : kt_M} {o m : Nat} (h : kInv μ o m) (a1 : Int32) (a2 : Int32) : ∃ (n : Nat) (μ1 : kt_M), x_saved n m (ut_saved μ o a1 a2).2 a1 a2 = some ((ut_saved μ o a1 a2).1, μ1) ∧ kInv μ1 o m := by
  sorry
theorem st_lead {μ : kt_M} {o m : Nat} (h : kInv μ o m) (a1 : Int32) (a2 : Int32) (a3 : Int32) : ∃ (n : Nat) (μ1 : kt_M), x_lead n m (ut_lead μ o a1 a2 a3).2 a1 a2 a3 = some ((ut_lead μ o a1 a2 a3).1, μ1) ∧ kInv μ1 o m := by
  sorry
theorem st_draw {μ : kt_M} {o m : Nat} (h : kInv μ o m) (a1 : Int32) (a2 : Int32) : ∃ (n : Nat) (μ1 : kt_M), x_draw n m (ut_draw μ o a1 a2).2 a1 a2 = some ((ut_draw μ o a1 a2).1, μ1) ∧ kInv μ1 o m := by
  sorry
theorem st_keep {μ : kt_M} {o m : Nat} (h : kInv μ o m) (a1 : Int32) : ∃ (n : Nat) (μ1 : kt_M), x_keep n m (ut_keep μ o a1).2 a1 = some ((ut_keep μ o a1).1, μ1) ∧ kInv μ1 o m := by
  sorry
theorem st_back {μ : kt_M} {o m : Nat} (h : kInv μ o m) (a1 : Int32) : ∃ (n : Nat) (μ1 : kt_M), x_back n m (ut_back μ o a1).2 a1 = some ((ut_back μ o a1).1, μ1) ∧ kInv μ1 o m := by
  sorry
theorem st_sheet {μ : kt_M} {o m : Nat} (h : kInv μ o m) (a1 : Int32) (a2 : Int32) (a3 : Int32) : ∃ (n : Nat) (μ1 : kt_M), x_sheet n m (ut_sheet μ o a1 a2 a3).2 a1 a2 a3 = some ((ut_sheet μ o a1 a2 a3).1, μ1) ∧ kInv μ1 o m := by
  sorry
theorem st_lay {μ : kt_M} {o m : Nat} (h : kInv μ o m) (a1 : Int32) (a2 : Int32) (a3 : Int32) : ∃ (n : Nat) (μ1 : kt_M), x_lay n m (ut_lay μ o a1 a2 a3).2 a1 a2 a3 = some ((ut_lay μ o a1 a2 a3).1, μ1) ∧ kInv μ1 o m := by
  sorry
theorem st_read {μ : kt_M} {o m : Nat} (h : kInv μ o m) (a1 : Int32) (a2 : Int32) (a3 : Int32) (a4 : Int32) : ∃ (n : Nat) (μ1 : kt_M), x_read n m (ut_read μ o a1 a2 a3 a4).2 a1 a2 a3 a4 = some ((ut_read μ o a1 a2 a3 a4).1, μ1) ∧ kInv μ1 o m := by
  sorry
theorem st_torn {μ : kt_M} {o m : Nat} (h : kInv μ o m) : ∃ (n : Nat) (μ1 : kt_M), x_torn n m ((kt_i μ o 14, μ)).2 = some (((kt_i μ o 14, μ)).1, μ1) ∧ kInv μ1 o m := by
  sorry
theorem st_count {μ : kt_M} {o m : Nat} (h : kInv μ o m) (a1 : Int32) : ∃ (n : Nat) (μ1 : kt_M), x_count n m ((ut_cnt μ o a1, μ)).2 a1 = some (((ut_cnt μ o a1, μ)).1, μ1) ∧ kInv μ1 o m := by
  sorry

/-! PURE: names -/
abbrev k_B (μ : kt_M) (p j : Nat) : Int32 := k_by μ p (kt_i μ p 5 + nI j)
abbrev k_W (μ : kt_M) (p len : Nat) : Prop := kt_i μ p 4 = 1 ∧ kt_i μ p 6 - kt_i μ p 5 = nI len
/-- two letters of a name -/
theorem pu_is {n m p L s t e len fr a b : Nat} {μ ν : kt_M} (h : TK μ ν p m L s t e) (hl : fr + 2 ≤ len) (hl2 : len < 10) : x_is n m ν (nI len) (nI fr) (nI a) (nI b) = some (kt_f (k_W μ p len ∧ k_B μ p fr = nI a ∧ k_B μ p (fr + 1) = nI b), ν) := by
  obtain ⟨l1, l2, l3, l4, l5⟩ := h.le
  unfold x_is
  by_cases q1 : t = 1
  · rw [if_pos (show kt_i ν m 9 = 1 from (h.tok 1 (by decide)).2.mpr q1), h.dif.2]
    by_cases q2 : e - s = len
    · obtain ⟨c, c1, c2, c3⟩ := h.byte (n := n) (j := fr) (by omega)
      obtain ⟨d, d1, d2, d3⟩ := h.byte (n := n) (j := fr + 1) (by omega)
      have hW : k_W μ p len := ⟨(h.tok 1 (by decide)).1.mpr q1, by rw [h.dif.1, q2]⟩
      rw [if_pos (show nI (e - s) = nI len by rw [q2]), kq_b2_s c3]
      by_cases q3 : nI c = nI a
      · rw [if_pos q3, show kt_i ν m 8 + nI fr + 1 = kt_i ν m 8 + nI (fr + 1) by rw [Int32.add_assoc, nI_1], kq_b2_s d3]
        by_cases q4 : nI d = nI b
        · rw [if_pos q4, kt_f_t ⟨hW, c2.trans q3, d2.trans q4⟩]
        · rw [if_neg q4, kt_f_f (fun z => q4 (d2.symm.trans z.2.2))]
      · rw [if_neg q3, kt_f_f (fun z => q3 (c2.symm.trans z.2.1))]
    · have hne : ¬ nI (e - s) = nI len := fun z => q2 ((nI_eq (by omega) (by omega)).mp z)
      rw [if_neg hne, kt_f_f (fun z => hne (h.dif.1.symm.trans z.1.2))]
  · rw [if_neg (show ¬ kt_i ν m 9 = 1 from fun z => q1 ((h.tok 1 (by decide)).2.mp z)), kt_f_f (fun z => q1 ((h.tok 1 (by decide)).1.mp z.1.1))]
theorem k_wd_and {a b : Prop} [Decidable a] {c : Bool} (h : c = true ↔ b) : (decide a && c) = true ↔ a ∧ b := by
  rw [Bool.and_eq_true, decide_eq_true_iff, h]
theorem k_word3 {μ : kt_M} {p i : Nat} {a b c : Int32} (h : kt_ln i = 3) (h0 : kt_ch i 0 = a) (h1 : kt_ch i 1 = b) (h2 : kt_ch i 2 = c) : k_word μ p i ↔ k_W μ p 3 ∧ k_B μ p 0 = a ∧ k_B μ p 1 = b ∧ k_B μ p 2 = c := by
  subst h0; subst h1; subst h2
  unfold k_word k_W
  rw [h, and_assoc, show k_wdL μ p i 3 0 = (decide (k_B μ p 0 = kt_ch i 0) && (decide (k_B μ p 1 = kt_ch i 1) && (decide (k_B μ p 2 = kt_ch i 2) && true))) from rfl, k_wd_and (k_wd_and (k_wd_and (b := True) (by simp))), and_true]
theorem k_word4 {μ : kt_M} {p i : Nat} {a b c d : Int32} (h : kt_ln i = 4) (h0 : kt_ch i 0 = a) (h1 : kt_ch i 1 = b) (h2 : kt_ch i 2 = c) (h3 : kt_ch i 3 = d) : k_word μ p i ↔ k_W μ p 4 ∧ k_B μ p 0 = a ∧ k_B μ p 1 = b ∧ k_B μ p 2 = c ∧ k_B μ p 3 = d := by
  subst h0; subst h1; subst h2; subst h3
  unfold k_word k_W
  rw [h, and_assoc, show k_wdL μ p i 4 0 = (decide (k_B μ p 0 = kt_ch i 0) && (decide (k_B μ p 1 = kt_ch i 1) && (decide (k_B μ p 2 = kt_ch i 2) && (decide (k_B μ p 3 = kt_ch i 3) && true)))) from rfl, k_wd_and (k_wd_and (k_wd_and (k_wd_and (b := True) (by simp)))), and_true]
theorem k_word5 {μ : kt_M} {p i : Nat} {a b c d e : Int32} (h : kt_ln i = 5) (h0 : kt_ch i 0 = a) (h1 : kt_ch i 1 = b) (h2 : kt_ch i 2 = c) (h3 : kt_ch i 3 = d) (h4 : kt_ch i 4 = e) : k_word μ p i ↔ k_W μ p 5 ∧ k_B μ p 0 = a ∧ k_B μ p 1 = b ∧ k_B μ p 2 = c ∧ k_B μ p 3 = d ∧ k_B μ p 4 = e := by
  subst h0; subst h1; subst h2; subst h3; subst h4
  unfold k_word k_W
  rw [h, and_assoc, show k_wdL μ p i 5 0 = (decide (k_B μ p 0 = kt_ch i 0) && (decide (k_B μ p 1 = kt_ch i 1) && (decide (k_B μ p 2 = kt_ch i 2) && (decide (k_B μ p 3 = kt_ch i 3) && (decide (k_B μ p 4 = kt_ch i 4) && true))))) from rfl, k_wd_and (k_wd_and (k_wd_and (k_wd_and (k_wd_and (b := True) (by simp))))), and_true]
theorem k_word2 {μ : kt_M} {p i : Nat} {a b : Int32} (h : kt_ln i = 2) (h0 : kt_ch i 0 = a) (h1 : kt_ch i 1 = b) : k_word μ p i ↔ k_W μ p 2 ∧ k_B μ p 0 = a ∧ k_B μ p 1 = b := by
  subst h0; subst h1
  unfold k_word k_W
  rw [h, and_assoc, show k_wdL μ p i 2 0 = (decide (k_B μ p 0 = kt_ch i 0) && (decide (k_B μ p 1 = kt_ch i 1) && true)) from rfl, k_wd_and (k_wd_and (b := True) (by simp)), and_true]
theorem pu_nm2 {ν : kt_M} {e1 : Option (Int32 × kt_M)} {e2 J : kt_M → Option (Int32 × kt_M)} {X Y W : Prop} [Decidable X] [Decidable Y] [Decidable W] {v : Int32} (h1 : e1 = some (kt_f X, ν)) (h2 : e2 ν = some (kt_f Y, ν)) (hW : W ↔ X ∧ Y) : kq_b2 e1 (fun r w => if r = 0 then J w else kq_b2 (e2 w) (fun r2 w2 => if r2 = 0 then J w2 else some (v, w2))) = if W then some (v, ν) else J ν := by
  rw [kq_b2_s h1]
  by_cases x : X
  · rw [if_neg (kz.f.t x), kq_b2_s h2]
    by_cases y : Y
    · rw [if_neg (kz.f.t y), if_pos (hW.mpr ⟨x, y⟩)]
    · rw [if_pos (kz.f.n y), if_neg (fun z => y (hW.mp z).2)]
  · rw [if_pos (kz.f.n x), if_neg (fun z => x (hW.mp z).1)]
theorem pu_nm3 {ν : kt_M} {e1 : Option (Int32 × kt_M)} {e2 e3 J : kt_M → Option (Int32 × kt_M)} {X Y U W : Prop} [Decidable X] [Decidable Y] [Decidable U] [Decidable W] {v : Int32} (h1 : e1 = some (kt_f X, ν)) (h2 : e2 ν = some (kt_f Y, ν)) (h3 : e3 ν = some (kt_f U, ν)) (hW : W ↔ X ∧ Y ∧ U) : kq_b2 e1 (fun r w => if r = 0 then J w else kq_b2 (e2 w) (fun r2 w2 => if r2 = 0 then J w2 else kq_b2 (e3 w2) (fun r3 w3 => if r3 = 0 then J w3 else some (v, w3)))) = if W then some (v, ν) else J ν := by
  rw [kq_b2_s h1]
  by_cases x : X
  · rw [if_neg (kz.f.t x), kq_b2_s h2]
    by_cases y : Y
    · rw [if_neg (kz.f.t y), kq_b2_s h3]
      by_cases u : U
      · rw [if_neg (kz.f.t u), if_pos (hW.mpr ⟨x, y, u⟩)]
      · rw [if_pos (kz.f.n u), if_neg (fun z => u (hW.mp z).2.2)]
    · rw [if_pos (kz.f.n y), if_neg (fun z => y (hW.mp z).2.1)]
  · rw [if_pos (kz.f.n x), if_neg (fun z => x (hW.mp z).1)]
/-- the model's name at hand, in the class's words -/
def k_nme (μ : kt_M) (p : Nat) : Int32 := if k_word μ p 0 then 0 else if k_word μ p 1 then 1 else if k_word μ p 2 then 2 else if k_word μ p 3 then 3 else if k_word μ p 4 then 4 else if k_word μ p 5 then 5 else if k_word μ p 6 then 6 else if k_word μ p 7 then 7 else if k_word μ p 8 then 8 else -4
theorem some_ite {c : Prop} [Decidable c] {a b : Int32} {ν : kt_M} {x : Option (Int32 × kt_M)} (h : x = some (b, ν)) : (if c then some (a, ν) else x) = some (if c then a else b, ν) := by
  by_cases q : c
  · rw [if_pos q, if_pos q]
  · rw [if_neg q, if_neg q, h]
theorem pu_name {n m p L s t e : Nat} {μ ν : kt_M} (h : TK μ ν p m L s t e) : x_nameNow n m ν = some (k_nme μ p, ν) := by
  unfold k_nme
  have w0 : k_word μ p 0 ↔ _ := k_word3 (a := 115) (b := 101) (c := 116) rfl rfl rfl rfl
  have w1 : k_word μ p 1 ↔ _ := k_word3 (a := 97) (b := 100) (c := 100) rfl rfl rfl rfl
  have w2 : k_word μ p 2 ↔ _ := k_word3 (a := 115) (b := 117) (c := 98) rfl rfl rfl rfl
  have w3 : k_word μ p 3 ↔ _ := k_word4 (a := 109) (b := 111) (c := 118) (d := 101) rfl rfl rfl rfl rfl
  have w4 : k_word μ p 4 ↔ _ := k_word4 (a := 114) (b := 101) (c := 97) (d := 100) rfl rfl rfl rfl rfl
  have w5 : k_word μ p 5 ↔ _ := k_word5 (a := 119) (b := 114) (c := 105) (d := 116) (e := 101) rfl rfl rfl rfl rfl rfl
  have w6 : k_word μ p 6 ↔ _ := k_word4 (a := 115) (b := 116) (c := 111) (d := 112) rfl rfl rfl rfl rfl
  have w7 : k_word μ p 7 ↔ _ := k_word2 (a := 103) (b := 111) rfl rfl rfl
  have w8 : k_word μ p 8 ↔ _ := k_word2 (a := 105) (b := 102) rfl rfl rfl
  refine (pu_nm2 (J := fun w => x_nameNow_J28 n m w) (W := k_word μ p 0) (pu_is h (len := 3) (fr := 0) (a := 115) (b := 101) (by decide) (by decide)) (pu_is h (len := 3) (fr := 1) (a := 101) (b := 116) (by decide) (by decide)) ?_).trans (some_ite ?_)
  · rw [w0]; exact ⟨fun ⟨a, b, c, d⟩ => ⟨⟨a, b, c⟩, a, c, d⟩, fun ⟨⟨a, b, c⟩, _, _, d⟩ => ⟨a, b, c, d⟩⟩
  refine (pu_nm2 (J := fun w => x_nameNow_J56 n m w) (W := k_word μ p 1) (pu_is h (len := 3) (fr := 0) (a := 97) (b := 100) (by decide) (by decide)) (pu_is h (len := 3) (fr := 1) (a := 100) (b := 100) (by decide) (by decide)) ?_).trans (some_ite ?_)
  · rw [w1]; exact ⟨fun ⟨a, b, c, d⟩ => ⟨⟨a, b, c⟩, a, c, d⟩, fun ⟨⟨a, b, c⟩, _, _, d⟩ => ⟨a, b, c, d⟩⟩
  refine (pu_nm2 (J := fun w => x_nameNow_J84 n m w) (W := k_word μ p 2) (pu_is h (len := 3) (fr := 0) (a := 115) (b := 117) (by decide) (by decide)) (pu_is h (len := 3) (fr := 1) (a := 117) (b := 98) (by decide) (by decide)) ?_).trans (some_ite ?_)
  · rw [w2]; exact ⟨fun ⟨a, b, c, d⟩ => ⟨⟨a, b, c⟩, a, c, d⟩, fun ⟨⟨a, b, c⟩, _, _, d⟩ => ⟨a, b, c, d⟩⟩
  refine (pu_nm2 (J := fun w => x_nameNow_J112 n m w) (W := k_word μ p 3) (pu_is h (len := 4) (fr := 0) (a := 109) (b := 111) (by decide) (by decide)) (pu_is h (len := 4) (fr := 2) (a := 118) (b := 101) (by decide) (by decide)) ?_).trans (some_ite ?_)
  · rw [w3]; exact ⟨fun ⟨a, b, c, d, e⟩ => ⟨⟨a, b, c⟩, a, d, e⟩, fun ⟨⟨a, b, c⟩, _, d, e⟩ => ⟨a, b, c, d, e⟩⟩
  refine (pu_nm2 (J := fun w => x_nameNow_J140 n m w) (W := k_word μ p 4) (pu_is h (len := 4) (fr := 0) (a := 114) (b := 101) (by decide) (by decide)) (pu_is h (len := 4) (fr := 2) (a := 97) (b := 100) (by decide) (by decide)) ?_).trans (some_ite ?_)
  · rw [w4]; exact ⟨fun ⟨a, b, c, d, e⟩ => ⟨⟨a, b, c⟩, a, d, e⟩, fun ⟨⟨a, b, c⟩, _, d, e⟩ => ⟨a, b, c, d, e⟩⟩
  refine (pu_nm3 (J := fun w => x_nameNow_J181 n m w) (W := k_word μ p 5) (pu_is h (len := 5) (fr := 0) (a := 119) (b := 114) (by decide) (by decide)) (pu_is h (len := 5) (fr := 2) (a := 105) (b := 116) (by decide) (by decide)) (pu_is h (len := 5) (fr := 3) (a := 116) (b := 101) (by decide) (by decide)) ?_).trans (some_ite ?_)
  · rw [w5]; exact ⟨fun ⟨a, b, c, d, e, f⟩ => ⟨⟨a, b, c⟩, ⟨a, d, e⟩, a, e, f⟩, fun ⟨⟨a, b, c⟩, ⟨_, d, e⟩, _, _, f⟩ => ⟨a, b, c, d, e, f⟩⟩
  refine (pu_nm2 (J := fun w => x_nameNow_J210 n m w) (W := k_word μ p 6) (pu_is h (len := 4) (fr := 0) (a := 115) (b := 116) (by decide) (by decide)) (pu_is h (len := 4) (fr := 2) (a := 111) (b := 112) (by decide) (by decide)) ?_).trans (some_ite ?_)
  · rw [w6]; exact ⟨fun ⟨a, b, c, d, e⟩ => ⟨⟨a, b, c⟩, a, d, e⟩, fun ⟨⟨a, b, c⟩, _, d, e⟩ => ⟨a, b, c, d, e⟩⟩
  show x_nameNow_J210 n m ν = _
  unfold x_nameNow_J210
  rw [kq_b2_s (show x_is n m ν 2 0 103 111 = some (kt_f (k_W μ p 2 ∧ k_B μ p 0 = 103 ∧ k_B μ p 1 = 111), ν) from pu_is h (len := 2) (fr := 0) (a := 103) (b := 111) (by decide) (by decide))]
  by_cases q7 : k_word μ p 7
  · rw [if_pos q7, if_neg (kz.f.t (w7.mp q7))]
  · rw [if_neg q7, if_pos (kz.f.n (fun z => q7 (w7.mpr z))), kq_b2_s (show x_is n m ν 2 0 105 102 = some (kt_f (k_W μ p 2 ∧ k_B μ p 0 = 105 ∧ k_B μ p 1 = 102), ν) from pu_is h (len := 2) (fr := 0) (a := 105) (b := 102) (by decide) (by decide))]
    by_cases q8 : k_word μ p 8
    · rw [if_pos q8, if_neg (kz.f.t (w8.mp q8))]
    · rw [if_neg q8, if_pos (kz.f.n (fun z => q8 (w8.mpr z)))]

/-! small rows: memory, 0 and 1, order of ints -/
theorem kt_i_si {μ : kt_M} {a k x y : Nat} {v : Int32} : kt_i (kt_si μ a k v) x y = if x = a ∧ y = k then v else kt_i μ x y := by
  by_cases h : x = a
  · subst h
    rw [kt_i_sia]
    by_cases h2 : y = k
    · simp [h2, va_up]
    · simp [h2, va_up]
  · rw [show kt_i (kt_si μ a k v) x = kt_i μ x from va_up_ne' (f := kt_i μ) h]
    simp [h]
theorem kt_l_sl {μ : kt_M} {a k x y : Nat} {v : Int64} : kt_l (kt_sl μ a k v) x y = if x = a ∧ y = k then v else kt_l μ x y := by
  by_cases h : x = a
  · subst h
    rw [kt_l_sla]
    by_cases h2 : y = k
    · simp [h2, va_up]
    · simp [h2, va_up]
  · rw [show kt_l (kt_sl μ a k v) x = kt_l μ x from va_up_ne' (f := kt_l μ) h]
    simp [h]
theorem kt_l_si {μ : kt_M} {a k : Nat} {v : Int32} : kt_l (kt_si μ a k v) = kt_l μ := rfl
theorem kt_i_sl {μ : kt_M} {a k : Nat} {v : Int64} : kt_i (kt_sl μ a k v) = kt_i μ := rfl
theorem kt_ext {μ μ' : kt_M} (h : ∀ x k, kt_i μ x k = kt_i μ' x k) (h2 : ∀ x k, kt_l μ x k = kt_l μ' x k) : μ = μ' := Prod.ext (funext fun x => funext fun k => h x k) (funext fun x => funext fun k => h2 x k)
theorem kt_si_self {μ : kt_M} {a k : Nat} {v : Int32} (h : v = kt_i μ a k) : kt_si μ a k v = μ := by
  refine kt_ext (fun x y => ?_) (fun x y => rfl)
  rw [kt_i_si]
  split
  · rename_i h2; rw [h2.1, h2.2, h]
  · rfl
theorem kt_si_over {μ : kt_M} {a k : Nat} {v w : Int32} : kt_si (kt_si μ a k v) a k w = kt_si μ a k w := by
  refine kt_ext (fun x y => ?_) (fun x y => rfl)
  simp only [kt_i_si]
  split <;> rfl
theorem kt_si_comm {μ : kt_M} {a k b j : Nat} {v w : Int32} (h : ¬ (a = b ∧ k = j)) : kt_si (kt_si μ a k v) b j w = kt_si (kt_si μ b j w) a k v := by
  refine kt_ext (fun x y => ?_) (fun x y => rfl)
  simp only [kt_i_si]
  by_cases h1 : x = a ∧ y = k <;> by_cases h2 : x = b ∧ y = j <;> simp [h1, h2]
  · exact absurd ⟨h1.1.symm.trans h2.1, h1.2.symm.trans h2.2⟩ h
  · exact fun e1 e2 => absurd ⟨e1, e2⟩ h
  · exact fun e1 e2 => absurd ⟨e1.symm, e2.symm⟩ h
theorem kt_i_sin {μ : kt_M} {a k x y : Nat} {v : Int32} (h : x ≠ a) : kt_i (kt_si μ a k v) x y = kt_i μ x y := by rw [kt_i_si, if_neg (fun h2 => h h2.1)]
theorem kt_i_sik {μ : kt_M} {a k x y : Nat} {v : Int32} (h : y ≠ k) : kt_i (kt_si μ a k v) x y = kt_i μ x y := by rw [kt_i_si, if_neg (fun h2 => h h2.2)]
theorem kt_i_sie {μ : kt_M} {a k : Nat} {v : Int32} : kt_i (kt_si μ a k v) a k = v := by rw [kt_i_si, if_pos ⟨rfl, rfl⟩]
theorem kr_rw {G : kt_G} {X : kt_X} {nL pc cs ss : Nat} {lv : List (Nat × Value)} {st : List Value} {σ : kt_Y} {μ : kt_M} {Z : State → Prop} {x y : Int32} (h : x = y) (k : kt_W G X nL pc lv (.int y :: st) σ μ cs ss Z) : kt_W G X nL pc lv (.int x :: st) σ μ cs ss Z := h ▸ k
theorem kr_mu {G : kt_G} {X : kt_X} {nL pc cs ss : Nat} {lv : List (Nat × Value)} {st : List Value} {σ : kt_Y} {μ μ' : kt_M} {Z : State → Prop} (h : μ = μ') (k : kt_W G X nL pc lv st σ μ' cs ss Z) : kt_W G X nL pc lv st σ μ cs ss Z := h ▸ k
section KRN
variable {G : kt_G} {X : kt_X} {own : String} {cc : ByteArray} {nL d mc ms pc cs ss : Nat} {lv : List (Nat × Value)} {st : List Value} {σ : kt_Y} {μ : kt_M} {Z : State → Prop} {a n j : Nat}
theorem kt_jn {j n : Nat} (h : j < n ∧ n < 2 ^ 31) : vp_in (nI j) n := vp_in_nI h.1 h.2
theorem kr_ialdN (hX : kt_ok G X own cc nL d mc ms) (hdg : decode cc pc = .ok (.iaload, 1)) (hk : kt_k σ a = some (1, n)) (hj : j < n ∧ n < 2 ^ 31) (kk : kt_W G X nL (pc + 1) lv (.int (kt_i μ a j) :: st) σ μ cs ss Z) : kt_W G X nL pc lv (.int (nI j) :: .ref a :: st) σ μ cs ss Z := kr_iald hX hdg hk (kt_jn hj) (by rw [nI_clamp (by omega)]; exact kk)
theorem kr_laldN (hX : kt_ok G X own cc nL d mc ms) (hdg : decode cc pc = .ok (.laload, 1)) (hk : kt_k σ a = some (2, n)) (hj : j < n ∧ n < 2 ^ 31) (kk : kt_W G X nL (pc + 1) lv (.long (kt_l μ a j) :: st) σ μ cs ss Z) : kt_W G X nL pc lv (.int (nI j) :: .ref a :: st) σ μ cs ss Z := kr_lald hX hdg hk (kt_jn hj) (by rw [nI_clamp (by omega)]; exact kk)
theorem kr_baldN (hX : kt_ok G X own cc nL d mc ms) (hdg : decode cc pc = .ok (.baload, 1)) (hk : kt_k σ a = some (3, n)) (hj : j < n ∧ n < 2 ^ 31) (kk : kt_W G X nL (pc + 1) lv (.int (kt_i μ a j) :: st) σ μ cs ss Z) : kt_W G X nL pc lv (.int (nI j) :: .ref a :: st) σ μ cs ss Z := kr_bald hX hdg hk (kt_jn hj) (by rw [nI_clamp (by omega)]; exact kk)
theorem kr_aaldN (hX : kt_ok G X own cc nL d mc ms) (hdg : decode cc pc = .ok (.aaload, 1)) {t b : Nat} (ht : t < 4) (hk : kt_k σ a = some (t + 4, n)) (hj : j < n ∧ n < 2 ^ 31) (hr : kt_r σ a j = some b) (kk : kt_W G X nL (pc + 1) lv (.ref b :: st) σ μ cs ss Z) : kt_W G X nL pc lv (.int (nI j) :: .ref a :: st) σ μ cs ss Z := kr_aald hX hdg ht hk (kt_jn hj) (by rw [nI_clamp (by omega)]; exact hr) kk
theorem kr_iastN (hX : kt_ok G X own cc nL d mc ms) (hdg : decode cc pc = .ok (.iastore, 1)) {x : Int32} (hk : kt_k σ a = some (1, n)) (hj : j < n ∧ n < 2 ^ 31) (kk : kt_W G X nL (pc + 1) lv st σ (kt_si μ a j x) cs ss Z) : kt_W G X nL pc lv (.int x :: .int (nI j) :: .ref a :: st) σ μ cs ss Z := kr_iast hX hdg hk (kt_jn hj) (by rw [nI_clamp (by omega)]; exact kk)
theorem kr_lastN (hX : kt_ok G X own cc nL d mc ms) (hdg : decode cc pc = .ok (.lastore, 1)) {x : Int64} (hk : kt_k σ a = some (2, n)) (hj : j < n ∧ n < 2 ^ 31) (kk : kt_W G X nL (pc + 1) lv st σ (kt_sl μ a j x) cs ss Z) : kt_W G X nL pc lv (.long x :: .int (nI j) :: .ref a :: st) σ μ cs ss Z := kr_last hX hdg hk (kt_jn hj) (by rw [nI_clamp (by omega)]; exact kk)
theorem kr_bastN (hX : kt_ok G X own cc nL d mc ms) (hdg : decode cc pc = .ok (.bastore, 1)) {x : Int32} (hv : x = 0 ∨ x = 1) (hk : kt_k σ a = some (3, n)) (hj : j < n ∧ n < 2 ^ 31) (kk : kt_W G X nL (pc + 1) lv st σ (kt_si μ a j x) cs ss Z) : kt_W G X nL pc lv (.int x :: .int (nI j) :: .ref a :: st) σ μ cs ss Z := kr_bast hX hdg hv hk (kt_jn hj) (by rw [nI_clamp (by omega)]; exact kk)
end KRN
section KRD
variable {G : kt_G} {X : kt_X} {own : String} {cc : ByteArray} {nL d mc ms pc cs ss : Nat} {lv : List (Nat × Value)} {st : List Value} {σ : kt_Y} {μ μv : kt_M} {Z : State → Prop} {rv : Option Value}
variable {idx nL' n d' : Nat} {y : MethodName} {cc' : ByteArray} {ret' : Option FieldType}
/-- calls whose answer and memory are named -/
theorem kr_dV (As : List Value) {b c1 : Nat} {st0 : List Value} (hX : kt_ok G X own cc nL d mc ms) (hL : kt_LV own idx y cc' nL' ret' n) (hdg : decode cc pc = .ok (.invokevirtual idx, 3)) (hS' : kt_F G y cc' nL' ret' d' (.ref b :: As) σ μ (fun r μ2 => r = rv ∧ μ2 = μv)) (hst : st0 = As.reverse ++ .ref b :: st) (hn : As.length = n) (hc : ∃ (T : u_T) (N : Nat), vwCl[c1]? = some (y.cls, T, N)) (hd : d' + 1 ≤ d) (hcat : (st.map fun v => v.category).sum ≤ 8) (hcs : cs ≤ mc) (hss : ss ≤ ms) (hk : kt_k σ b = some (0, c1))
    (kk : kt_W G X nL (pc + 3) lv (rv.toList ++ st) σ μv cs ss Z) : kt_W G X nL pc lv st0 σ μ cs ss Z :=
  kr_cV As hX hL hdg hS' hst hn hc hd hcat hcs hss hk (fun r μ' h => by rw [h.1, h.2]; exact kk)
theorem kr_dS (As : List Value) {st0 : List Value} (hX : kt_ok G X own cc nL d mc ms) (hL : kt_LS own idx y cc' nL' ret' n) (hdg : decode cc pc = .ok (.invokestatic idx, 3)) (hS' : kt_F G y cc' nL' ret' d' As σ μ (fun r μ2 => r = rv ∧ μ2 = μv)) (hst : st0 = As.reverse ++ st) (hn : As.length = n) (hd : d' + 1 ≤ d) (hcat : (st.map fun v => v.category).sum ≤ 8) (hcs : cs ≤ mc) (hss : ss ≤ ms)
    (kk : kt_W G X nL (pc + 3) lv (rv.toList ++ st) σ μv cs ss Z) : kt_W G X nL pc lv st0 σ μ cs ss Z :=
  kr_cS As hX hL hdg hS' hst hn hd hcat hcs hss (fun r μ' h => by rw [h.1, h.2]; exact kk)
theorem kr_dSN (As : List Value) {st0 : List Value} (hX : kt_ok G X own cc nL d mc ms) (hL : kt_LSN own idx y cc' nL' ret' n) (hdg : decode cc pc = .ok (.invokestatic idx, 3)) (hS' : kt_F G y cc' nL' ret' d' As σ μ (fun r μ2 => r = rv ∧ μ2 = μv)) (hst : st0 = As.reverse ++ st) (hn : As.length = n) (hd : d' + 1 ≤ d) (hcat : (st.map fun v => v.category).sum ≤ 8) (hcs : cs ≤ mc) (hss : ss ≤ ms)
    (kk : kt_W G X nL (pc + 3) lv (rv.toList ++ st) σ μv cs ss Z) : kt_W G X nL pc lv st0 σ μ cs ss Z :=
  kr_cSN As hX hL hdg hS' hst hn hd hcat hcs hss (fun r μ' h => by rw [h.1, h.2]; exact kk)
end KRD
theorem kt_ge {a : Int32} {i b : Nat} (ha : a = nI b) (h : i < b) (hb : b < 2 ^ 31) : ¬ a ≤ nI i := by rw [ha]; exact nI_ge h hb
theorem kt_bz {v : Int32} (h : v = 0 ∨ v = 1) : narrow .boolean (.int v) = .int v ∧ fits .boolean (.int v) = true := by rcases h with h | h <;> subst h <;> decide
/-- 1 or 0 -/
def kt_f (c : Prop) [Decidable c] : Int32 := if c then 1 else 0
theorem kt_f_01 {c : Prop} [Decidable c] : kt_f c = 0 ∨ kt_f c = 1 := by unfold kt_f; by_cases h : c <;> simp [h]
theorem kt_f_0 {c : Prop} [Decidable c] : kt_f c = 0 ↔ ¬ c := by unfold kt_f; by_cases h : c <;> simp [h]
theorem kt_f_1 {c : Prop} [Decidable c] : kt_f c = 1 ↔ c := by unfold kt_f; by_cases h : c <;> simp [h]
theorem kt_f_t {c : Prop} [Decidable c] (h : c) : kt_f c = 1 := if_pos h
theorem kt_f_f {c : Prop} [Decidable c] (h : ¬ c) : kt_f c = 0 := if_neg h
theorem kt_ft {c : Prop} [Decidable c] (h : c) : some (Value.int 1) = some (.int (kt_f c)) := by rw [kt_f_t h]
theorem kt_ff {c : Prop} [Decidable c] (h : ¬ c) : some (Value.int 0) = some (.int (kt_f c)) := by rw [kt_f_f h]
theorem kt_x_nI {n : Nat} (h : n < 1000000) : (nI n).toNatClampNeg = n := nI_clamp (by omega)
theorem ki_0 : (0 : Int32).toInt = 0 := by decide
theorem ki_1 : (1 : Int32).toInt = 1 := by decide
theorem ki_2 : (2 : Int32).toInt = 2 := by decide
theorem ki_3 : (3 : Int32).toInt = 3 := by decide
theorem ki_4 : (4 : Int32).toInt = 4 := by decide
theorem ki_5 : (5 : Int32).toInt = 5 := by decide
theorem ki_6 : (6 : Int32).toInt = 6 := by decide
theorem ki_7 : (7 : Int32).toInt = 7 := by decide
theorem ki_8 : (8 : Int32).toInt = 8 := by decide
theorem ki_9 : (9 : Int32).toInt = 9 := by decide
theorem ki_10 : (10 : Int32).toInt = 10 := by decide
theorem ki_11 : (11 : Int32).toInt = 11 := by decide
theorem ki_12 : (12 : Int32).toInt = 12 := by decide
theorem ki_13 : (13 : Int32).toInt = 13 := by decide
theorem ki_14 : (14 : Int32).toInt = 14 := by decide
theorem ki_15 : (15 : Int32).toInt = 15 := by decide
theorem ki_16 : (16 : Int32).toInt = 16 := by decide
theorem ki_17 : (17 : Int32).toInt = 17 := by decide
theorem ki_18 : (18 : Int32).toInt = 18 := by decide
theorem ki_19 : (19 : Int32).toInt = 19 := by decide
theorem ki_20 : (20 : Int32).toInt = 20 := by decide
theorem ki_21 : (21 : Int32).toInt = 21 := by decide
theorem ki_22 : (22 : Int32).toInt = 22 := by decide
theorem ki_23 : (23 : Int32).toInt = 23 := by decide
theorem ki_24 : (24 : Int32).toInt = 24 := by decide
theorem ki_25 : (25 : Int32).toInt = 25 := by decide
theorem ki_26 : (26 : Int32).toInt = 26 := by decide
theorem ki_27 : (27 : Int32).toInt = 27 := by decide
theorem ki_28 : (28 : Int32).toInt = 28 := by decide
theorem ki_29 : (29 : Int32).toInt = 29 := by decide
theorem ki_30 : (30 : Int32).toInt = 30 := by decide
theorem ki_31 : (31 : Int32).toInt = 31 := by decide
theorem ki_32 : (32 : Int32).toInt = 32 := by decide
theorem ki_33 : (33 : Int32).toInt = 33 := by decide
theorem ki_34 : (34 : Int32).toInt = 34 := by decide
theorem ki_35 : (35 : Int32).toInt = 35 := by decide
theorem ki_36 : (36 : Int32).toInt = 36 := by decide
theorem ki_37 : (37 : Int32).toInt = 37 := by decide
theorem ki_38 : (38 : Int32).toInt = 38 := by decide
theorem ki_39 : (39 : Int32).toInt = 39 := by decide
theorem ki_40 : (40 : Int32).toInt = 40 := by decide
theorem ki_41 : (41 : Int32).toInt = 41 := by decide
theorem ki_42 : (42 : Int32).toInt = 42 := by decide
theorem ki_43 : (43 : Int32).toInt = 43 := by decide
theorem ki_44 : (44 : Int32).toInt = 44 := by decide
theorem ki_45 : (45 : Int32).toInt = 45 := by decide
theorem ki_46 : (46 : Int32).toInt = 46 := by decide
theorem ki_47 : (47 : Int32).toInt = 47 := by decide
theorem ki_48 : (48 : Int32).toInt = 48 := by decide
theorem ki_49 : (49 : Int32).toInt = 49 := by decide
theorem ki_50 : (50 : Int32).toInt = 50 := by decide
theorem ki_51 : (51 : Int32).toInt = 51 := by decide
theorem ki_52 : (52 : Int32).toInt = 52 := by decide
theorem ki_53 : (53 : Int32).toInt = 53 := by decide
theorem ki_54 : (54 : Int32).toInt = 54 := by decide
theorem ki_55 : (55 : Int32).toInt = 55 := by decide
theorem ki_56 : (56 : Int32).toInt = 56 := by decide
theorem ki_57 : (57 : Int32).toInt = 57 := by decide
theorem ki_58 : (58 : Int32).toInt = 58 := by decide
theorem ki_59 : (59 : Int32).toInt = 59 := by decide
theorem ki_60 : (60 : Int32).toInt = 60 := by decide
theorem ki_61 : (61 : Int32).toInt = 61 := by decide
theorem ki_62 : (62 : Int32).toInt = 62 := by decide
theorem ki_63 : (63 : Int32).toInt = 63 := by decide
theorem ki_64 : (64 : Int32).toInt = 64 := by decide
theorem ki_127 : (127 : Int32).toInt = 127 := by decide
theorem ki_128 : (128 : Int32).toInt = 128 := by decide
theorem ki_199 : (199 : Int32).toInt = 199 := by decide
theorem ki_200 : (200 : Int32).toInt = 200 := by decide
theorem ki_m1 : (-1 : Int32).toInt = -1 := by decide
theorem ki_m2 : (-2 : Int32).toInt = -2 := by decide
theorem ki_m3 : (-3 : Int32).toInt = -3 := by decide
theorem ki_m4 : (-4 : Int32).toInt = -4 := by decide
theorem ki_m14 : (-14 : Int32).toInt = -14 := by decide
theorem ki_m11 : (-11 : Int32).toInt = -11 := by decide
theorem ki_m12 : (-12 : Int32).toInt = -12 := by decide
/-! KnownTurns$Block -/
def kt_blk (σ : kt_Y) (p : Nat) : Prop := kt_k σ p = some (0, 0) ∧ kt_r σ p 1 = some (p + 1) ∧ kt_r σ p 2 = some (p + 2) ∧ kt_r σ p 3 = some (p + 3) ∧ kt_k σ (p + 1) = some (1, 4) ∧ kt_k σ (p + 2) = some (1, 4) ∧ kt_k σ (p + 3) = some (1, 4)
abbrev kb_test (e : Int32) : Prop := e = 2 ∨ e = 3
def kb_edges (e : Int32) : Int32 := if kb_test e then 2 else if e = 1 then 1 else 0
theorem kb_edges_le (e : Int32) : kb_edges e = 0 ∨ kb_edges e = 1 ∨ kb_edges e = 2 := by unfold kb_edges; split; simp; split <;> simp
set_option maxHeartbeats 4000000 in
set_option maxRecDepth 100000 in
theorem sp_isTest {G : kt_G} {σ : kt_Y} {μ : kt_M} {p : Nat} (hp : kt_blk σ p) : kt_F G yX0_isTest cX0_isTest 1 (some .boolean) 0 [.ref p] σ μ (fun r μ2 => r = some (.int (kt_f (kb_test (kt_i μ p 4)))) ∧ μ2 = μ) := by
  refine kt_F.of (by decide) (Nat.le_of_ble_eq_true rfl) (fun X hX hr => ?_)
  obtain ⟨hk0, hr1, hr2, hr3, hk1, hk2, hk3⟩ := hp
  refine kr_aload_n (i := 0) hX dX0_isTest_0 rfl rfl ?_
  refine kr_geti (c0 := 0) (k := 4) hX ⟨_, kf_0_25⟩ dX0_isTest_1 rfl (by assumption) ?_
  refine kr_iconst (v := 2) hX dX0_isTest_4 (by decide) ?_
  refine kr_icmp_eq (tgt := 16) hX dX0_isTest_5 (by decide) (fun c_5 => ?_) (fun c_5 => ?_)
  · skip
    refine kr_iconst (v := 1) hX dX0_isTest_16 (by decide) ?_
    refine kr_goto (tgt := 21) hX dX0_isTest_17 (by decide) ?_
    refine kr_zret hX hr (by first | exact Or.inl rfl | exact Or.inr rfl | assumption) dX0_isTest_21 ⟨rfl, ?_⟩
    refine ⟨?_, rfl⟩
    simp_all [kt_f]
  · skip
    refine kr_aload_n (i := 0) hX dX0_isTest_8 rfl rfl ?_
    refine kr_geti (c0 := 0) (k := 4) hX ⟨_, kf_0_25⟩ dX0_isTest_9 rfl (by assumption) ?_
    refine kr_iconst (v := 3) hX dX0_isTest_12 (by decide) ?_
    refine kr_icmp_ne (tgt := 20) hX dX0_isTest_13 (by decide) (fun c_13 => ?_) (fun c_13 => ?_)
    · skip
      refine kr_iconst (v := 0) hX dX0_isTest_20 (by decide) ?_
      refine kr_zret hX hr (by first | exact Or.inl rfl | exact Or.inr rfl | assumption) dX0_isTest_21 ⟨rfl, ?_⟩
      refine ⟨?_, rfl⟩
      simp_all [kt_f]
    · skip
      refine kr_iconst (v := 1) hX dX0_isTest_16 (by decide) ?_
      refine kr_goto (tgt := 21) hX dX0_isTest_17 (by decide) ?_
      refine kr_zret hX hr (by first | exact Or.inl rfl | exact Or.inr rfl | assumption) dX0_isTest_21 ⟨rfl, ?_⟩
      refine ⟨?_, rfl⟩
      simp_all [kt_f]

set_option maxHeartbeats 4000000 in
set_option maxRecDepth 100000 in
theorem sp_edges {G : kt_G} {σ : kt_Y} {μ : kt_M} {p : Nat} (hp : kt_blk σ p) : kt_F G yX0_edges cX0_edges 1 (some .int) 1 [.ref p] σ μ (fun r μ2 => r = some (.int (kb_edges (kt_i μ p 4))) ∧ μ2 = μ) := by
  refine kt_F.of (by decide) (Nat.le_of_ble_eq_true rfl) (fun X hX hr => ?_)
  have hp0 := hp
  obtain ⟨hk0, hr1, hr2, hr3, hk1, hk2, hk3⟩ := hp
  refine kr_aload_n (i := 0) hX dX0_edges_0 rfl rfl ?_
  refine kr_dV (c1 := 0) [] hX km_0_47 dX0_edges_1 (sp_isTest hp0) rfl rfl ⟨_, _, rfl⟩ (by decide) (Nat.le_of_ble_eq_true rfl) (Nat.le_refl _) (Nat.le_refl _) (by assumption) ?_
  refine kr_if_eq (tgt := 11) hX dX0_edges_4 (by decide) (fun c_4 => ?_) (fun c_4 => ?_)
  · skip
    refine kr_aload_n (i := 0) hX dX0_edges_11 rfl rfl ?_
    refine kr_geti (c0 := 0) (k := 4) hX ⟨_, kf_0_25⟩ dX0_edges_12 rfl (by assumption) ?_
    refine kr_iconst (v := 1) hX dX0_edges_15 (by decide) ?_
    refine kr_icmp_ne (tgt := 23) hX dX0_edges_16 (by decide) (fun c_16 => ?_) (fun c_16 => ?_)
    · skip
      refine kr_iconst (v := 0) hX dX0_edges_23 (by decide) ?_
      refine kr_iret hX hr dX0_edges_24 ⟨rfl, ?_⟩
      refine ⟨?_, rfl⟩
      simp_all [kt_f_0, kb_edges]
    · skip
      refine kr_iconst (v := 1) hX dX0_edges_19 (by decide) ?_
      refine kr_goto (tgt := 24) hX dX0_edges_20 (by decide) ?_
      refine kr_iret hX hr dX0_edges_24 ⟨rfl, ?_⟩
      refine ⟨?_, rfl⟩
      simp_all [kt_f_0, kb_edges]
  · skip
    refine kr_iconst (v := 2) hX dX0_edges_7 (by decide) ?_
    refine kr_goto (tgt := 24) hX dX0_edges_8 (by decide) ?_
    refine kr_iret hX hr dX0_edges_24 ⟨rfl, ?_⟩
    refine ⟨?_, rfl⟩
    simp_all [kt_f_0, kb_edges]

set_option maxHeartbeats 4000000 in
set_option maxRecDepth 100000 in
theorem sp_target {G : kt_G} {σ : kt_Y} {μ : kt_M} {p : Nat} (hp : kt_blk σ p) {s : Int32} : kt_F G yX0_target cX0_target 2 (some .int) 0 [.ref p, .int s] σ μ (fun r μ2 => r = some (.int (if s = 0 then kt_i μ p 8 else kt_i μ p 9)) ∧ μ2 = μ) := by
  refine kt_F.of (by decide) (Nat.le_of_ble_eq_true rfl) (fun X hX hr => ?_)
  obtain ⟨hk0, hr1, hr2, hr3, hk1, hk2, hk3⟩ := hp
  refine kr_iload_n (i := 1) hX dX0_target_0 rfl rfl ?_
  refine kr_if_ne (tgt := 11) hX dX0_target_1 (by decide) (fun c_1 => ?_) (fun c_1 => ?_)
  · skip
    refine kr_aload_n (i := 0) hX dX0_target_11 rfl rfl ?_
    refine kr_geti (c0 := 0) (k := 9) hX ⟨_, kf_0_41⟩ dX0_target_12 rfl (by assumption) ?_
    refine kr_iret hX hr dX0_target_15 ⟨rfl, ?_⟩
    refine ⟨?_, rfl⟩
    simp [*]
  · skip
    refine kr_aload_n (i := 0) hX dX0_target_4 rfl rfl ?_
    refine kr_geti (c0 := 0) (k := 8) hX ⟨_, kf_0_38⟩ dX0_target_5 rfl (by assumption) ?_
    refine kr_goto (tgt := 15) hX dX0_target_8 (by decide) ?_
    refine kr_iret hX hr dX0_target_15 ⟨rfl, ?_⟩
    refine ⟨?_, rfl⟩
    simp [*]

set_option maxHeartbeats 4000000 in
set_option maxRecDepth 100000 in
theorem sp_hasEdge {G : kt_G} {σ : kt_Y} {μ : kt_M} {p : Nat} (hp : kt_blk σ p) {s : Int32} : kt_F G yX0_hasEdge cX0_hasEdge 2 (some .boolean) 2 [.ref p, .int s] σ μ (fun r μ2 => r = some (.int (kt_f (0 ≤ s ∧ s < kb_edges (kt_i μ p 4)))) ∧ μ2 = μ) := by
  refine kt_F.of (by decide) (Nat.le_of_ble_eq_true rfl) (fun X hX hr => ?_)
  have hp0 := hp
  obtain ⟨hk0, hr1, hr2, hr3, hk1, hk2, hk3⟩ := hp
  refine kr_iload_n (i := 1) hX dX0_hasEdge_0 rfl rfl ?_
  refine kr_if_lt (tgt := 16) hX dX0_hasEdge_1 (by decide) (fun c_1 => ?_) (fun c_1 => ?_)
  · skip
    refine kr_iconst (v := 0) hX dX0_hasEdge_16 (by decide) ?_
    refine kr_zret hX hr (by first | exact Or.inl rfl | exact Or.inr rfl | assumption) dX0_hasEdge_17 ⟨rfl, ?_⟩
    first | exact ⟨kt_ft (by (simp only [kt_f_0, kt_f_1, ← Int32.toInt_inj, Int32.le_iff_toInt_le, Int32.lt_iff_toInt_lt, Classical.not_not, ki_0] at *; omega)), rfl⟩ | exact ⟨kt_ff (by (simp only [kt_f_0, kt_f_1, ← Int32.toInt_inj, Int32.le_iff_toInt_le, Int32.lt_iff_toInt_lt, Classical.not_not, ki_0] at *; omega)), rfl⟩
  · skip
    refine kr_iload_n (i := 1) hX dX0_hasEdge_4 rfl rfl ?_
    refine kr_aload_n (i := 0) hX dX0_hasEdge_5 rfl rfl ?_
    refine kr_dV (c1 := 0) [] hX km_0_51 dX0_hasEdge_6 (sp_edges hp0) rfl rfl ⟨_, _, rfl⟩ (by decide) (Nat.le_of_ble_eq_true rfl) (Nat.le_refl _) (Nat.le_refl _) (by assumption) ?_
    refine kr_icmp_ge (tgt := 16) hX dX0_hasEdge_9 (by decide) (fun c_9 => ?_) (fun c_9 => ?_)
    · skip
      refine kr_iconst (v := 0) hX dX0_hasEdge_16 (by decide) ?_
      refine kr_zret hX hr (by first | exact Or.inl rfl | exact Or.inr rfl | assumption) dX0_hasEdge_17 ⟨rfl, ?_⟩
      first | exact ⟨kt_ft (by (simp only [kt_f_0, kt_f_1, ← Int32.toInt_inj, Int32.le_iff_toInt_le, Int32.lt_iff_toInt_lt, Classical.not_not, ki_0] at *; omega)), rfl⟩ | exact ⟨kt_ff (by (simp only [kt_f_0, kt_f_1, ← Int32.toInt_inj, Int32.le_iff_toInt_le, Int32.lt_iff_toInt_lt, Classical.not_not, ki_0] at *; omega)), rfl⟩
    · skip
      refine kr_iconst (v := 1) hX dX0_hasEdge_12 (by decide) ?_
      refine kr_goto (tgt := 17) hX dX0_hasEdge_13 (by decide) ?_
      refine kr_zret hX hr (by first | exact Or.inl rfl | exact Or.inr rfl | assumption) dX0_hasEdge_17 ⟨rfl, ?_⟩
      first | exact ⟨kt_ft (by (simp only [kt_f_0, kt_f_1, ← Int32.toInt_inj, Int32.le_iff_toInt_le, Int32.lt_iff_toInt_lt, Classical.not_not, ki_0] at *; omega)), rfl⟩ | exact ⟨kt_ff (by (simp only [kt_f_0, kt_f_1, ← Int32.toInt_inj, Int32.le_iff_toInt_le, Int32.lt_iff_toInt_lt, Classical.not_not, ki_0] at *; omega)), rfl⟩

set_option maxHeartbeats 4000000 in
set_option maxRecDepth 100000 in
theorem sp_aim {G : kt_G} {σ : kt_Y} {μ : kt_M} {p : Nat} (hp : kt_blk σ p) {s t : Int32} : kt_F G yX0_aim cX0_aim 3 none 0 [.ref p, .int s, .int t] σ μ (fun r μ2 => r = none ∧ μ2 = kt_si μ p (if s = 0 then 8 else 9) t) := by
  refine kt_F.of (by decide) (Nat.le_of_ble_eq_true rfl) (fun X hX hr => ?_)
  obtain ⟨hk0, hr1, hr2, hr3, hk1, hk2, hk3⟩ := hp
  refine kr_iload_n (i := 1) hX dX0_aim_0 rfl rfl ?_
  refine kr_if_ne (tgt := 12) hX dX0_aim_1 (by decide) (fun c_1 => ?_) (fun c_1 => ?_)
  · skip
    refine kr_aload_n (i := 0) hX dX0_aim_12 rfl rfl ?_
    refine kr_iload_n (i := 2) hX dX0_aim_13 rfl rfl ?_
    refine kr_puti (c0 := 0) (k := 9) hX kf_0_41 dX0_aim_14 rfl rfl rfl (by assumption) ?_
    refine kr_vret hX hr dX0_aim_17 ⟨rfl, ?_⟩
    refine ⟨rfl, ?_⟩
    simp [*]
  · skip
    refine kr_aload_n (i := 0) hX dX0_aim_4 rfl rfl ?_
    refine kr_iload_n (i := 2) hX dX0_aim_5 rfl rfl ?_
    refine kr_puti (c0 := 0) (k := 8) hX kf_0_38 dX0_aim_6 rfl rfl rfl (by assumption) ?_
    refine kr_goto (tgt := 17) hX dX0_aim_9 (by decide) ?_
    refine kr_vret hX hr dX0_aim_17 ⟨rfl, ?_⟩
    refine ⟨rfl, ?_⟩
    simp [*]

set_option maxHeartbeats 4000000 in
set_option maxRecDepth 100000 in
theorem sp_becomeGo {G : kt_G} {σ : kt_Y} {μ : kt_M} {p : Nat} (hp : kt_blk σ p) {t : Int32} : kt_F G yX0_becomeGo cX0_becomeGo 2 none 0 [.ref p, .int t] σ μ (fun r μ2 => r = none ∧ μ2 = kt_si (kt_si μ p 4 1) p 8 t) := by
  refine kt_F.of (by decide) (Nat.le_of_ble_eq_true rfl) (fun X hX hr => ?_)
  obtain ⟨hk0, hr1, hr2, hr3, hk1, hk2, hk3⟩ := hp
  refine kr_aload_n (i := 0) hX dX0_becomeGo_0 rfl rfl ?_
  refine kr_iconst (v := 1) hX dX0_becomeGo_1 (by decide) ?_
  refine kr_puti (c0 := 0) (k := 4) hX kf_0_25 dX0_becomeGo_2 rfl rfl rfl (by assumption) ?_
  refine kr_aload_n (i := 0) hX dX0_becomeGo_5 rfl rfl ?_
  refine kr_iload_n (i := 1) hX dX0_becomeGo_6 rfl rfl ?_
  refine kr_puti (c0 := 0) (k := 8) hX kf_0_38 dX0_becomeGo_7 rfl rfl rfl (by assumption) ?_
  refine kr_vret hX hr dX0_becomeGo_10 ⟨rfl, ?_⟩
  exact ⟨rfl, rfl⟩

set_option maxHeartbeats 4000000 in
set_option maxRecDepth 100000 in
theorem sp_wipe {G : kt_G} {σ : kt_Y} {μ : kt_M} {p : Nat} (hp : kt_blk σ p) : kt_F G yX0_wipe cX0_wipe 1 none 0 [.ref p] σ μ (fun r μ2 => r = none ∧ μ2 = kt_si (kt_si (kt_si (kt_si (kt_si (kt_si (kt_si (kt_si μ p 0 0) p 4 0) p 5 0) p 6 0) p 7 0) p 8 0) p 9 0) p 10 0) := by
  refine kt_F.of (by decide) (Nat.le_of_ble_eq_true rfl) (fun X hX hr => ?_)
  obtain ⟨hk0, hr1, hr2, hr3, hk1, hk2, hk3⟩ := hp
  refine kr_aload_n (i := 0) hX dX0_wipe_0 rfl rfl ?_
  refine kr_iconst (v := 0) hX dX0_wipe_1 (by decide) ?_
  refine kr_puti (c0 := 0) (k := 0) hX kf_0_21 dX0_wipe_2 rfl rfl rfl (by assumption) ?_
  refine kr_aload_n (i := 0) hX dX0_wipe_5 rfl rfl ?_
  refine kr_iconst (v := 0) hX dX0_wipe_6 (by decide) ?_
  refine kr_puti (c0 := 0) (k := 4) hX kf_0_25 dX0_wipe_7 rfl rfl rfl (by assumption) ?_
  refine kr_aload_n (i := 0) hX dX0_wipe_10 rfl rfl ?_
  refine kr_iconst (v := 0) hX dX0_wipe_11 (by decide) ?_
  refine kr_puti (c0 := 0) (k := 5) hX kf_0_28 dX0_wipe_12 rfl rfl rfl (by assumption) ?_
  refine kr_aload_n (i := 0) hX dX0_wipe_15 rfl rfl ?_
  refine kr_iconst (v := 0) hX dX0_wipe_16 (by decide) ?_
  refine kr_puti (c0 := 0) (k := 6) hX kf_0_31 dX0_wipe_17 rfl (kt_bz (by first | exact Or.inl rfl | exact Or.inr rfl | assumption)).1 (kt_bz (by first | exact Or.inl rfl | exact Or.inr rfl | assumption)).2 (by assumption) ?_
  refine kr_aload_n (i := 0) hX dX0_wipe_20 rfl rfl ?_
  refine kr_iconst (v := 0) hX dX0_wipe_21 (by decide) ?_
  refine kr_puti (c0 := 0) (k := 7) hX kf_0_35 dX0_wipe_22 rfl rfl rfl (by assumption) ?_
  refine kr_aload_n (i := 0) hX dX0_wipe_25 rfl rfl ?_
  refine kr_iconst (v := 0) hX dX0_wipe_26 (by decide) ?_
  refine kr_puti (c0 := 0) (k := 8) hX kf_0_38 dX0_wipe_27 rfl rfl rfl (by assumption) ?_
  refine kr_aload_n (i := 0) hX dX0_wipe_30 rfl rfl ?_
  refine kr_iconst (v := 0) hX dX0_wipe_31 (by decide) ?_
  refine kr_puti (c0 := 0) (k := 9) hX kf_0_41 dX0_wipe_32 rfl rfl rfl (by assumption) ?_
  refine kr_aload_n (i := 0) hX dX0_wipe_35 rfl rfl ?_
  refine kr_iconst (v := 0) hX dX0_wipe_36 (by decide) ?_
  refine kr_puti (c0 := 0) (k := 10) hX kf_0_44 dX0_wipe_37 rfl rfl rfl (by assumption) ?_
  refine kr_vret hX hr dX0_wipe_40 ⟨rfl, ?_⟩
  exact ⟨rfl, rfl⟩

set_option maxHeartbeats 4000000 in
set_option maxRecDepth 100000 in
theorem sp_addAct {G : kt_G} {σ : kt_Y} {μ : kt_M} {p : Nat} (hp : kt_blk σ p) {a b c : Int32} (ha : vp_in (kt_i μ p 0) 4) : kt_F G yX0_addAct cX0_addAct 4 none 0 [.ref p, .int a, .int b, .int c] σ μ (fun r μ2 => r = none ∧ μ2 = kt_si (kt_si (kt_si (kt_si μ (p + 1) (kt_i μ p 0).toNatClampNeg a) (p + 2) (kt_i μ p 0).toNatClampNeg b) (p + 3) (kt_i μ p 0).toNatClampNeg c) p 0 (kt_i μ p 0 + 1)) := by
  refine kt_F.of (by decide) (Nat.le_of_ble_eq_true rfl) (fun X hX hr => ?_)
  obtain ⟨hk0, hr1, hr2, hr3, hk1, hk2, hk3⟩ := hp
  have hq1 : ¬ kt_i μ p 0 < 0 := fun h => ha (Or.inl h)
  have hq2 : kt_i μ p 0 < 4 := by
    obtain ⟨j, hj, e⟩ := vp_in_of ha (by decide)
    rw [e]; exact nI_lt hj (by decide)
  refine kr_aload_n (i := 0) hX dX0_addAct_0 rfl rfl ?_
  refine kr_geti (c0 := 0) (k := 0) hX ⟨_, kf_0_21⟩ dX0_addAct_1 rfl (by assumption) ?_
  refine kr_if_lt (tgt := 55) hX dX0_addAct_4 (by decide) (fun c_4 => ?_) (fun c_4 => ?_)
  · skip
    exact absurd c_4 hq1
  · skip
    refine kr_aload_n (i := 0) hX dX0_addAct_7 rfl rfl ?_
    refine kr_geti (c0 := 0) (k := 0) hX ⟨_, kf_0_21⟩ dX0_addAct_8 rfl (by assumption) ?_
    refine kr_iconst (v := 4) hX dX0_addAct_11 (by decide) ?_
    refine kr_icmp_ge (tgt := 55) hX dX0_addAct_12 (by decide) (fun c_12 => ?_) (fun c_12 => ?_)
    · skip
      exact absurd hq2 (Int32.not_lt.mpr c_12)
    · skip
      refine kr_aload_n (i := 0) hX dX0_addAct_15 rfl rfl ?_
      refine kr_getr (c0 := 0) (k := 1) hX ⟨_, kf_0_9⟩ dX0_addAct_16 rfl (by assumption) (by assumption) ?_
      refine kr_aload_n (i := 0) hX dX0_addAct_19 rfl rfl ?_
      refine kr_geti (c0 := 0) (k := 0) hX ⟨_, kf_0_21⟩ dX0_addAct_20 rfl (by assumption) ?_
      refine kr_iload_n (i := 1) hX dX0_addAct_23 rfl rfl ?_
      refine kr_iast hX dX0_addAct_24 (by assumption) (by assumption) ?_
      refine kr_aload_n (i := 0) hX dX0_addAct_25 rfl rfl ?_
      refine kr_getr (c0 := 0) (k := 2) hX ⟨_, kf_0_15⟩ dX0_addAct_26 rfl (by assumption) (by assumption) ?_
      refine kr_aload_n (i := 0) hX dX0_addAct_29 rfl rfl ?_
      refine kr_geti (c0 := 0) (k := 0) hX ⟨_, kf_0_21⟩ dX0_addAct_30 rfl (by assumption) ?_
      refine kr_rw (y := kt_i μ p 0) (by simp [kt_i_si]) ?_
      refine kr_iload_n (i := 2) hX dX0_addAct_33 rfl rfl ?_
      refine kr_iast hX dX0_addAct_34 (by assumption) (by assumption) ?_
      refine kr_aload_n (i := 0) hX dX0_addAct_35 rfl rfl ?_
      refine kr_getr (c0 := 0) (k := 3) hX ⟨_, kf_0_18⟩ dX0_addAct_36 rfl (by assumption) (by assumption) ?_
      refine kr_aload_n (i := 0) hX dX0_addAct_39 rfl rfl ?_
      refine kr_geti (c0 := 0) (k := 0) hX ⟨_, kf_0_21⟩ dX0_addAct_40 rfl (by assumption) ?_
      refine kr_rw (y := kt_i μ p 0) (by simp [kt_i_si]) ?_
      refine kr_iload_n (i := 3) hX dX0_addAct_43 rfl rfl ?_
      refine kr_iast hX dX0_addAct_44 (by assumption) (by assumption) ?_
      refine kr_aload_n (i := 0) hX dX0_addAct_45 rfl rfl ?_
      refine kr_dup hX dX0_addAct_46 rfl ?_
      refine kr_geti (c0 := 0) (k := 0) hX ⟨_, kf_0_21⟩ dX0_addAct_47 rfl (by assumption) ?_
      refine kr_rw (y := kt_i μ p 0) (by simp [kt_i_si]) ?_
      refine kr_iconst (v := 1) hX dX0_addAct_50 (by decide) ?_
      refine kr_iadd hX dX0_addAct_51 ?_
      refine kr_puti (c0 := 0) (k := 0) hX kf_0_21 dX0_addAct_52 rfl rfl rfl (by assumption) ?_
      refine kr_vret hX hr dX0_addAct_55 ⟨rfl, ?_⟩
      exact ⟨rfl, rfl⟩

def kt_cpB (μ : kt_M) (p q : Nat) : kt_M := kt_si (kt_si (kt_si (kt_si (kt_si (kt_si (kt_si (kt_si (kt_si (kt_si (kt_si (kt_si (kt_si (kt_si (kt_si (kt_si (kt_si (kt_si (kt_si (kt_si μ p 0 (kt_i μ q 0)) (p + 1) 0 (kt_i μ (q + 1) 0)) (p + 2) 0 (kt_i μ (q + 2) 0)) (p + 3) 0 (kt_i μ (q + 3) 0)) (p + 1) 1 (kt_i μ (q + 1) 1)) (p + 2) 1 (kt_i μ (q + 2) 1)) (p + 3) 1 (kt_i μ (q + 3) 1)) (p + 1) 2 (kt_i μ (q + 1) 2)) (p + 2) 2 (kt_i μ (q + 2) 2)) (p + 3) 2 (kt_i μ (q + 3) 2)) (p + 1) 3 (kt_i μ (q + 1) 3)) (p + 2) 3 (kt_i μ (q + 2) 3)) (p + 3) 3 (kt_i μ (q + 3) 3)) p 4 (kt_i μ q 4)) p 5 (kt_i μ q 5)) p 6 (kt_i μ q 6)) p 7 (kt_i μ q 7)) p 8 (kt_i μ q 8)) p 9 (kt_i μ q 9)) p 10 (kt_i μ q 10)
set_option maxHeartbeats 4000000 in
set_option maxRecDepth 100000 in
theorem sp_bcopy {G : kt_G} {σ : kt_Y} {μ : kt_M} {p : Nat} (hp : kt_blk σ p) {q : Nat} (hq : kt_blk σ q) (hne : p + 4 ≤ q ∨ q + 4 ≤ p) (hb : kt_i μ q 6 = 0 ∨ kt_i μ q 6 = 1) : kt_F G yX0_copyFrom cX0_copyFrom 3 none 0 [.ref p, .ref q] σ μ (fun r μ2 => r = none ∧ μ2 = kt_cpB μ p q) := by
  refine kt_F.of (by decide) (Nat.le_of_ble_eq_true rfl) (fun X hX hr => ?_)
  obtain ⟨hk0, hr1, hr2, hr3, hk1, hk2, hk3⟩ := hp
  obtain ⟨gk0, gr1, gr2, gr3, gk1, gk2, gk3⟩ := hq
  refine kr_aload_n (i := 0) hX dX0_copyFrom_0 rfl rfl ?_
  refine kr_aload_n (i := 1) hX dX0_copyFrom_1 rfl rfl ?_
  refine kr_geti (c0 := 0) (k := 0) hX ⟨_, kf_0_21⟩ dX0_copyFrom_2 rfl (by assumption) ?_
  refine kr_puti (c0 := 0) (k := 0) hX kf_0_21 dX0_copyFrom_5 rfl rfl rfl (by assumption) ?_
  refine kr_iconst (v := 0) hX dX0_copyFrom_8 (by decide) ?_
  refine kr_istore_n (i := 2) hX dX0_copyFrom_9 rfl (by decide) rfl rfl ?_
  refine kr_iload_n (i := 2) hX dX0_copyFrom_10 rfl rfl ?_
  refine kr_iconst (v := 4) hX dX0_copyFrom_11 (by decide) ?_
  refine kr_icmp_ge (tgt := 57) hX dX0_copyFrom_12 (by decide) (fun c_12 => ?_) (fun c_12 => ?_)
  · skip
    exact absurd c_12 (by decide)
  · skip
    refine kr_aload_n (i := 0) hX dX0_copyFrom_15 rfl rfl ?_
    refine kr_getr (c0 := 0) (k := 1) hX ⟨_, kf_0_9⟩ dX0_copyFrom_16 rfl (by assumption) (by assumption) ?_
    refine kr_iload_n (i := 2) hX dX0_copyFrom_19 rfl rfl ?_
    refine kr_aload_n (i := 1) hX dX0_copyFrom_20 rfl rfl ?_
    refine kr_getr (c0 := 0) (k := 1) hX ⟨_, kf_0_9⟩ dX0_copyFrom_21 rfl (by assumption) (by assumption) ?_
    refine kr_iload_n (i := 2) hX dX0_copyFrom_24 rfl rfl ?_
    refine kr_iald hX dX0_copyFrom_25 (by assumption) (by unfold vp_in; decide) ?_
    refine kr_rw (y := kt_i μ (q + 1) 0) (by (repeat (rw [kt_i_sin (by omega)])); try rfl) ?_
    refine kr_iast hX dX0_copyFrom_26 (by assumption) (by unfold vp_in; decide) ?_
    refine kr_aload_n (i := 0) hX dX0_copyFrom_27 rfl rfl ?_
    refine kr_getr (c0 := 0) (k := 2) hX ⟨_, kf_0_15⟩ dX0_copyFrom_28 rfl (by assumption) (by assumption) ?_
    refine kr_iload_n (i := 2) hX dX0_copyFrom_31 rfl rfl ?_
    refine kr_aload_n (i := 1) hX dX0_copyFrom_32 rfl rfl ?_
    refine kr_getr (c0 := 0) (k := 2) hX ⟨_, kf_0_15⟩ dX0_copyFrom_33 rfl (by assumption) (by assumption) ?_
    refine kr_iload_n (i := 2) hX dX0_copyFrom_36 rfl rfl ?_
    refine kr_iald hX dX0_copyFrom_37 (by assumption) (by unfold vp_in; decide) ?_
    refine kr_rw (y := kt_i μ (q + 2) 0) (by (repeat (rw [kt_i_sin (by omega)])); try rfl) ?_
    refine kr_iast hX dX0_copyFrom_38 (by assumption) (by unfold vp_in; decide) ?_
    refine kr_aload_n (i := 0) hX dX0_copyFrom_39 rfl rfl ?_
    refine kr_getr (c0 := 0) (k := 3) hX ⟨_, kf_0_18⟩ dX0_copyFrom_40 rfl (by assumption) (by assumption) ?_
    refine kr_iload_n (i := 2) hX dX0_copyFrom_43 rfl rfl ?_
    refine kr_aload_n (i := 1) hX dX0_copyFrom_44 rfl rfl ?_
    refine kr_getr (c0 := 0) (k := 3) hX ⟨_, kf_0_18⟩ dX0_copyFrom_45 rfl (by assumption) (by assumption) ?_
    refine kr_iload_n (i := 2) hX dX0_copyFrom_48 rfl rfl ?_
    refine kr_iald hX dX0_copyFrom_49 (by assumption) (by unfold vp_in; decide) ?_
    refine kr_rw (y := kt_i μ (q + 3) 0) (by (repeat (rw [kt_i_sin (by omega)])); try rfl) ?_
    refine kr_iast hX dX0_copyFrom_50 (by assumption) (by unfold vp_in; decide) ?_
    refine kr_iinc (v := 1) hX dX0_copyFrom_51 rfl (by decide) (by decide) rfl rfl ?_
    refine kr_goto (tgt := 10) hX dX0_copyFrom_54 (by decide) ?_
    refine kr_iload_n (i := 2) hX dX0_copyFrom_10 rfl rfl ?_
    refine kr_iconst (v := 4) hX dX0_copyFrom_11 (by decide) ?_
    refine kr_icmp_ge (tgt := 57) hX dX0_copyFrom_12 (by decide) (fun c_12 => ?_) (fun c_12 => ?_)
    · skip
      exact absurd c_12 (by decide)
    · skip
      refine kr_aload_n (i := 0) hX dX0_copyFrom_15 rfl rfl ?_
      refine kr_getr (c0 := 0) (k := 1) hX ⟨_, kf_0_9⟩ dX0_copyFrom_16 rfl (by assumption) (by assumption) ?_
      refine kr_iload_n (i := 2) hX dX0_copyFrom_19 rfl rfl ?_
      refine kr_aload_n (i := 1) hX dX0_copyFrom_20 rfl rfl ?_
      refine kr_getr (c0 := 0) (k := 1) hX ⟨_, kf_0_9⟩ dX0_copyFrom_21 rfl (by assumption) (by assumption) ?_
      refine kr_iload_n (i := 2) hX dX0_copyFrom_24 rfl rfl ?_
      refine kr_iald hX dX0_copyFrom_25 (by assumption) (by unfold vp_in; decide) ?_
      refine kr_rw (y := kt_i μ (q + 1) 1) (by (repeat (rw [kt_i_sin (by omega)])); try rfl) ?_
      refine kr_iast hX dX0_copyFrom_26 (by assumption) (by unfold vp_in; decide) ?_
      refine kr_aload_n (i := 0) hX dX0_copyFrom_27 rfl rfl ?_
      refine kr_getr (c0 := 0) (k := 2) hX ⟨_, kf_0_15⟩ dX0_copyFrom_28 rfl (by assumption) (by assumption) ?_
      refine kr_iload_n (i := 2) hX dX0_copyFrom_31 rfl rfl ?_
      refine kr_aload_n (i := 1) hX dX0_copyFrom_32 rfl rfl ?_
      refine kr_getr (c0 := 0) (k := 2) hX ⟨_, kf_0_15⟩ dX0_copyFrom_33 rfl (by assumption) (by assumption) ?_
      refine kr_iload_n (i := 2) hX dX0_copyFrom_36 rfl rfl ?_
      refine kr_iald hX dX0_copyFrom_37 (by assumption) (by unfold vp_in; decide) ?_
      refine kr_rw (y := kt_i μ (q + 2) 1) (by (repeat (rw [kt_i_sin (by omega)])); try rfl) ?_
      refine kr_iast hX dX0_copyFrom_38 (by assumption) (by unfold vp_in; decide) ?_
      refine kr_aload_n (i := 0) hX dX0_copyFrom_39 rfl rfl ?_
      refine kr_getr (c0 := 0) (k := 3) hX ⟨_, kf_0_18⟩ dX0_copyFrom_40 rfl (by assumption) (by assumption) ?_
      refine kr_iload_n (i := 2) hX dX0_copyFrom_43 rfl rfl ?_
      refine kr_aload_n (i := 1) hX dX0_copyFrom_44 rfl rfl ?_
      refine kr_getr (c0 := 0) (k := 3) hX ⟨_, kf_0_18⟩ dX0_copyFrom_45 rfl (by assumption) (by assumption) ?_
      refine kr_iload_n (i := 2) hX dX0_copyFrom_48 rfl rfl ?_
      refine kr_iald hX dX0_copyFrom_49 (by assumption) (by unfold vp_in; decide) ?_
      refine kr_rw (y := kt_i μ (q + 3) 1) (by (repeat (rw [kt_i_sin (by omega)])); try rfl) ?_
      refine kr_iast hX dX0_copyFrom_50 (by assumption) (by unfold vp_in; decide) ?_
      refine kr_iinc (v := 2) hX dX0_copyFrom_51 rfl (by decide) (by decide) rfl rfl ?_
      refine kr_goto (tgt := 10) hX dX0_copyFrom_54 (by decide) ?_
      refine kr_iload_n (i := 2) hX dX0_copyFrom_10 rfl rfl ?_
      refine kr_iconst (v := 4) hX dX0_copyFrom_11 (by decide) ?_
      refine kr_icmp_ge (tgt := 57) hX dX0_copyFrom_12 (by decide) (fun c_12 => ?_) (fun c_12 => ?_)
      · skip
        exact absurd c_12 (by decide)
      · skip
        refine kr_aload_n (i := 0) hX dX0_copyFrom_15 rfl rfl ?_
        refine kr_getr (c0 := 0) (k := 1) hX ⟨_, kf_0_9⟩ dX0_copyFrom_16 rfl (by assumption) (by assumption) ?_
        refine kr_iload_n (i := 2) hX dX0_copyFrom_19 rfl rfl ?_
        refine kr_aload_n (i := 1) hX dX0_copyFrom_20 rfl rfl ?_
        refine kr_getr (c0 := 0) (k := 1) hX ⟨_, kf_0_9⟩ dX0_copyFrom_21 rfl (by assumption) (by assumption) ?_
        refine kr_iload_n (i := 2) hX dX0_copyFrom_24 rfl rfl ?_
        refine kr_iald hX dX0_copyFrom_25 (by assumption) (by unfold vp_in; decide) ?_
        refine kr_rw (y := kt_i μ (q + 1) 2) (by (repeat (rw [kt_i_sin (by omega)])); try rfl) ?_
        refine kr_iast hX dX0_copyFrom_26 (by assumption) (by unfold vp_in; decide) ?_
        refine kr_aload_n (i := 0) hX dX0_copyFrom_27 rfl rfl ?_
        refine kr_getr (c0 := 0) (k := 2) hX ⟨_, kf_0_15⟩ dX0_copyFrom_28 rfl (by assumption) (by assumption) ?_
        refine kr_iload_n (i := 2) hX dX0_copyFrom_31 rfl rfl ?_
        refine kr_aload_n (i := 1) hX dX0_copyFrom_32 rfl rfl ?_
        refine kr_getr (c0 := 0) (k := 2) hX ⟨_, kf_0_15⟩ dX0_copyFrom_33 rfl (by assumption) (by assumption) ?_
        refine kr_iload_n (i := 2) hX dX0_copyFrom_36 rfl rfl ?_
        refine kr_iald hX dX0_copyFrom_37 (by assumption) (by unfold vp_in; decide) ?_
        refine kr_rw (y := kt_i μ (q + 2) 2) (by (repeat (rw [kt_i_sin (by omega)])); try rfl) ?_
        refine kr_iast hX dX0_copyFrom_38 (by assumption) (by unfold vp_in; decide) ?_
        refine kr_aload_n (i := 0) hX dX0_copyFrom_39 rfl rfl ?_
        refine kr_getr (c0 := 0) (k := 3) hX ⟨_, kf_0_18⟩ dX0_copyFrom_40 rfl (by assumption) (by assumption) ?_
        refine kr_iload_n (i := 2) hX dX0_copyFrom_43 rfl rfl ?_
        refine kr_aload_n (i := 1) hX dX0_copyFrom_44 rfl rfl ?_
        refine kr_getr (c0 := 0) (k := 3) hX ⟨_, kf_0_18⟩ dX0_copyFrom_45 rfl (by assumption) (by assumption) ?_
        refine kr_iload_n (i := 2) hX dX0_copyFrom_48 rfl rfl ?_
        refine kr_iald hX dX0_copyFrom_49 (by assumption) (by unfold vp_in; decide) ?_
        refine kr_rw (y := kt_i μ (q + 3) 2) (by (repeat (rw [kt_i_sin (by omega)])); try rfl) ?_
        refine kr_iast hX dX0_copyFrom_50 (by assumption) (by unfold vp_in; decide) ?_
        refine kr_iinc (v := 3) hX dX0_copyFrom_51 rfl (by decide) (by decide) rfl rfl ?_
        refine kr_goto (tgt := 10) hX dX0_copyFrom_54 (by decide) ?_
        refine kr_iload_n (i := 2) hX dX0_copyFrom_10 rfl rfl ?_
        refine kr_iconst (v := 4) hX dX0_copyFrom_11 (by decide) ?_
        refine kr_icmp_ge (tgt := 57) hX dX0_copyFrom_12 (by decide) (fun c_12 => ?_) (fun c_12 => ?_)
        · skip
          exact absurd c_12 (by decide)
        · skip
          refine kr_aload_n (i := 0) hX dX0_copyFrom_15 rfl rfl ?_
          refine kr_getr (c0 := 0) (k := 1) hX ⟨_, kf_0_9⟩ dX0_copyFrom_16 rfl (by assumption) (by assumption) ?_
          refine kr_iload_n (i := 2) hX dX0_copyFrom_19 rfl rfl ?_
          refine kr_aload_n (i := 1) hX dX0_copyFrom_20 rfl rfl ?_
          refine kr_getr (c0 := 0) (k := 1) hX ⟨_, kf_0_9⟩ dX0_copyFrom_21 rfl (by assumption) (by assumption) ?_
          refine kr_iload_n (i := 2) hX dX0_copyFrom_24 rfl rfl ?_
          refine kr_iald hX dX0_copyFrom_25 (by assumption) (by unfold vp_in; decide) ?_
          refine kr_rw (y := kt_i μ (q + 1) 3) (by (repeat (rw [kt_i_sin (by omega)])); try rfl) ?_
          refine kr_iast hX dX0_copyFrom_26 (by assumption) (by unfold vp_in; decide) ?_
          refine kr_aload_n (i := 0) hX dX0_copyFrom_27 rfl rfl ?_
          refine kr_getr (c0 := 0) (k := 2) hX ⟨_, kf_0_15⟩ dX0_copyFrom_28 rfl (by assumption) (by assumption) ?_
          refine kr_iload_n (i := 2) hX dX0_copyFrom_31 rfl rfl ?_
          refine kr_aload_n (i := 1) hX dX0_copyFrom_32 rfl rfl ?_
          refine kr_getr (c0 := 0) (k := 2) hX ⟨_, kf_0_15⟩ dX0_copyFrom_33 rfl (by assumption) (by assumption) ?_
          refine kr_iload_n (i := 2) hX dX0_copyFrom_36 rfl rfl ?_
          refine kr_iald hX dX0_copyFrom_37 (by assumption) (by unfold vp_in; decide) ?_
          refine kr_rw (y := kt_i μ (q + 2) 3) (by (repeat (rw [kt_i_sin (by omega)])); try rfl) ?_
          refine kr_iast hX dX0_copyFrom_38 (by assumption) (by unfold vp_in; decide) ?_
          refine kr_aload_n (i := 0) hX dX0_copyFrom_39 rfl rfl ?_
          refine kr_getr (c0 := 0) (k := 3) hX ⟨_, kf_0_18⟩ dX0_copyFrom_40 rfl (by assumption) (by assumption) ?_
          refine kr_iload_n (i := 2) hX dX0_copyFrom_43 rfl rfl ?_
          refine kr_aload_n (i := 1) hX dX0_copyFrom_44 rfl rfl ?_
          refine kr_getr (c0 := 0) (k := 3) hX ⟨_, kf_0_18⟩ dX0_copyFrom_45 rfl (by assumption) (by assumption) ?_
          refine kr_iload_n (i := 2) hX dX0_copyFrom_48 rfl rfl ?_
          refine kr_iald hX dX0_copyFrom_49 (by assumption) (by unfold vp_in; decide) ?_
          refine kr_rw (y := kt_i μ (q + 3) 3) (by (repeat (rw [kt_i_sin (by omega)])); try rfl) ?_
          refine kr_iast hX dX0_copyFrom_50 (by assumption) (by unfold vp_in; decide) ?_
          refine kr_iinc (v := 4) hX dX0_copyFrom_51 rfl (by decide) (by decide) rfl rfl ?_
          refine kr_goto (tgt := 10) hX dX0_copyFrom_54 (by decide) ?_
          refine kr_iload_n (i := 2) hX dX0_copyFrom_10 rfl rfl ?_
          refine kr_iconst (v := 4) hX dX0_copyFrom_11 (by decide) ?_
          refine kr_icmp_ge (tgt := 57) hX dX0_copyFrom_12 (by decide) (fun c_12 => ?_) (fun c_12 => ?_)
          · skip
            refine kr_aload_n (i := 0) hX dX0_copyFrom_57 rfl rfl ?_
            refine kr_aload_n (i := 1) hX dX0_copyFrom_58 rfl rfl ?_
            refine kr_geti (c0 := 0) (k := 4) hX ⟨_, kf_0_25⟩ dX0_copyFrom_59 rfl (by assumption) ?_
            refine kr_rw (y := kt_i μ q 4) (by (repeat (rw [kt_i_sin (by omega)])); try rfl) ?_
            refine kr_puti (c0 := 0) (k := 4) hX kf_0_25 dX0_copyFrom_62 rfl rfl rfl (by assumption) ?_
            refine kr_aload_n (i := 0) hX dX0_copyFrom_65 rfl rfl ?_
            refine kr_aload_n (i := 1) hX dX0_copyFrom_66 rfl rfl ?_
            refine kr_geti (c0 := 0) (k := 5) hX ⟨_, kf_0_28⟩ dX0_copyFrom_67 rfl (by assumption) ?_
            refine kr_rw (y := kt_i μ q 5) (by (repeat (rw [kt_i_sin (by omega)])); try rfl) ?_
            refine kr_puti (c0 := 0) (k := 5) hX kf_0_28 dX0_copyFrom_70 rfl rfl rfl (by assumption) ?_
            refine kr_aload_n (i := 0) hX dX0_copyFrom_73 rfl rfl ?_
            refine kr_aload_n (i := 1) hX dX0_copyFrom_74 rfl rfl ?_
            refine kr_geti (c0 := 0) (k := 6) hX ⟨_, kf_0_31⟩ dX0_copyFrom_75 rfl (by assumption) ?_
            refine kr_rw (y := kt_i μ q 6) (by (repeat (rw [kt_i_sin (by omega)])); try rfl) ?_
            refine kr_puti (c0 := 0) (k := 6) hX kf_0_31 dX0_copyFrom_78 rfl (kt_bz (by assumption)).1 (kt_bz (by assumption)).2 (by assumption) ?_
            refine kr_aload_n (i := 0) hX dX0_copyFrom_81 rfl rfl ?_
            refine kr_aload_n (i := 1) hX dX0_copyFrom_82 rfl rfl ?_
            refine kr_geti (c0 := 0) (k := 7) hX ⟨_, kf_0_35⟩ dX0_copyFrom_83 rfl (by assumption) ?_
            refine kr_rw (y := kt_i μ q 7) (by (repeat (rw [kt_i_sin (by omega)])); try rfl) ?_
            refine kr_puti (c0 := 0) (k := 7) hX kf_0_35 dX0_copyFrom_86 rfl rfl rfl (by assumption) ?_
            refine kr_aload_n (i := 0) hX dX0_copyFrom_89 rfl rfl ?_
            refine kr_aload_n (i := 1) hX dX0_copyFrom_90 rfl rfl ?_
            refine kr_geti (c0 := 0) (k := 8) hX ⟨_, kf_0_38⟩ dX0_copyFrom_91 rfl (by assumption) ?_
            refine kr_rw (y := kt_i μ q 8) (by (repeat (rw [kt_i_sin (by omega)])); try rfl) ?_
            refine kr_puti (c0 := 0) (k := 8) hX kf_0_38 dX0_copyFrom_94 rfl rfl rfl (by assumption) ?_
            refine kr_aload_n (i := 0) hX dX0_copyFrom_97 rfl rfl ?_
            refine kr_aload_n (i := 1) hX dX0_copyFrom_98 rfl rfl ?_
            refine kr_geti (c0 := 0) (k := 9) hX ⟨_, kf_0_41⟩ dX0_copyFrom_99 rfl (by assumption) ?_
            refine kr_rw (y := kt_i μ q 9) (by (repeat (rw [kt_i_sin (by omega)])); try rfl) ?_
            refine kr_puti (c0 := 0) (k := 9) hX kf_0_41 dX0_copyFrom_102 rfl rfl rfl (by assumption) ?_
            refine kr_aload_n (i := 0) hX dX0_copyFrom_105 rfl rfl ?_
            refine kr_aload_n (i := 1) hX dX0_copyFrom_106 rfl rfl ?_
            refine kr_geti (c0 := 0) (k := 10) hX ⟨_, kf_0_44⟩ dX0_copyFrom_107 rfl (by assumption) ?_
            refine kr_rw (y := kt_i μ q 10) (by (repeat (rw [kt_i_sin (by omega)])); try rfl) ?_
            refine kr_puti (c0 := 0) (k := 10) hX kf_0_44 dX0_copyFrom_110 rfl rfl rfl (by assumption) ?_
            refine kr_vret hX hr dX0_copyFrom_113 ⟨rfl, ?_⟩
            exact ⟨rfl, rfl⟩
          · skip
            exact absurd c_12 (by decide)


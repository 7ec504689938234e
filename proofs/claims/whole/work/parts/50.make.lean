/-! making, with the new cell's address named -/
def kt_nA (σ : kt_Y) (a : Nat) (kd : Nat × Nat) : kt_Y := (va_up σ.1 a (some kd), va_up σ.2.1 a (fun _ => none), a + 1)
theorem kt_nA_eq {σ : kt_Y} {a : Nat} (h : kt_t σ = a) (kd : Nat × Nat) : kt_nA σ a kd = kt_nw σ kd := by subst h; rfl
theorem kt_k_nA {σ : kt_Y} {a x : Nat} {kd : Nat × Nat} : kt_k (kt_nA σ a kd) x = if x = a then some kd else kt_k σ x := rfl
theorem kt_r_nA {σ : kt_Y} {a x k : Nat} {kd : Nat × Nat} : kt_r (kt_nA σ a kd) x k = if x = a then none else kt_r σ x k := by
  show va_up (kt_r σ) a (fun _ => none) x k = _
  unfold va_up; split <;> rfl
theorem kt_k_sr {σ : kt_Y} {a x k : Nat} {v : Option Nat} : kt_k (kt_sr σ a k v) x = kt_k σ x := rfl
theorem kt_r_sr {σ : kt_Y} {a x k j : Nat} {v : Option Nat} : kt_r (kt_sr σ a k v) x j = if x = a ∧ j = k then v else kt_r σ x j := by
  show va_up (kt_r σ) a (va_up (kt_r σ a) k v) x j = _
  by_cases h : x = a
  · subst h
    rw [va_up_eq']
    by_cases hj : j = k
    · subst hj; rw [va_up_eq', if_pos ⟨rfl, rfl⟩]
    · rw [va_up_ne' hj, if_neg (fun h => hj h.2)]
  · rw [va_up_ne' h, if_neg (fun h2 => h h2.1)]
theorem kt_i_z {μ : kt_M} {a x k : Nat} : kt_i (kt_z μ a) x k = if x = a then 0 else kt_i μ x k := by
  show va_up (kt_i μ) a (fun _ => 0) x k = _
  unfold va_up; split <;> rfl
theorem kt_l_z {μ : kt_M} {a x k : Nat} : kt_l (kt_z μ a) x k = if x = a then 0 else kt_l μ x k := by
  show va_up (kt_l μ) a (fun _ => 0) x k = _
  unfold va_up; split <;> rfl
section KA
variable {G : kt_G} {X : kt_X} {own : String} {cc : ByteArray} {nL d mc ms pc cs ss : Nat} {lv : List (Nat × Value)} {st : List Value} {σ : kt_Y} {μ : kt_M} {Z : State → Prop}
theorem kr_nO (a : Nat) (ht : kt_t σ = a) (hX : kt_ok G X own cc nL d mc ms) {idx c0 : Nat} {C : String} {T : u_T} (hcl : Cond.classLink own idx C ∈ kt_T) (hinst : Cond.instantiable C (kt_n c0) ∈ kt_T) (hini : Cond.initialized C ∈ kt_T) (hC : kt_CL c0 C T) (hdf : kt_df c0) (hdg : decode cc pc = .ok (.new idx, 3)) (hc1 : cs + 1 ≤ mc) (hc2 : ss + kt_n c0 ≤ ms)
    (kk : kt_W G X nL (pc + 3) lv (.ref a :: st) (kt_nA σ a (0, c0)) (kt_z μ a) (cs + 1) (ss + kt_n c0) Z) : kt_W G X nL pc lv st σ μ cs ss Z := by
  subst ht; exact kr_new hX hcl hinst hini hC hdf hdg hc1 hc2 kk
theorem kr_nI (a : Nat) (ht : kt_t σ = a) (hX : kt_ok G X own cc nL d mc ms) {n : Int32} (N : Nat) (hw : Cond.arrayClass .int ∈ kt_T) (hdg : decode cc pc = .ok (.newarray .int, 2)) (hn : ¬ n < 0) (hN : n.toNatClampNeg = N) (hby : N ≤ 100000) (hc1 : cs + 1 ≤ mc) (hc2 : ss + N ≤ ms)
    (kk : kt_W G X nL (pc + 2) lv (.ref a :: st) (kt_nA σ a (1, N)) (kt_z μ a) (cs + 1) (ss + N) Z) : kt_W G X nL pc lv (.int n :: st) σ μ cs ss Z := by
  subst ht; exact kr_newI hX N hw hdg hn hN hby hc1 hc2 kk
theorem kr_nJ (a : Nat) (ht : kt_t σ = a) (hX : kt_ok G X own cc nL d mc ms) {n : Int32} (N : Nat) (hw : Cond.arrayClass .long ∈ kt_T) (hdg : decode cc pc = .ok (.newarray .long, 2)) (hn : ¬ n < 0) (hN : n.toNatClampNeg = N) (hby : N ≤ 100000) (hc1 : cs + 1 ≤ mc) (hc2 : ss + N ≤ ms)
    (kk : kt_W G X nL (pc + 2) lv (.ref a :: st) (kt_nA σ a (2, N)) (kt_z μ a) (cs + 1) (ss + N) Z) : kt_W G X nL pc lv (.int n :: st) σ μ cs ss Z := by
  subst ht; exact kr_newJ hX N hw hdg hn hN hby hc1 hc2 kk
theorem kr_nZ (a : Nat) (ht : kt_t σ = a) (hX : kt_ok G X own cc nL d mc ms) {n : Int32} (N : Nat) (hw : Cond.arrayClass .boolean ∈ kt_T) (hdg : decode cc pc = .ok (.newarray .boolean, 2)) (hn : ¬ n < 0) (hN : n.toNatClampNeg = N) (hby : N ≤ 100000) (hc1 : cs + 1 ≤ mc) (hc2 : ss + N ≤ ms)
    (kk : kt_W G X nL (pc + 2) lv (.ref a :: st) (kt_nA σ a (3, N)) (kt_z μ a) (cs + 1) (ss + N) Z) : kt_W G X nL pc lv (.int n :: st) σ μ cs ss Z := by
  subst ht; exact kr_newZ hX N hw hdg hn hN hby hc1 hc2 kk
theorem kr_nQ (a : Nat) (ht : kt_t σ = a) (hX : kt_ok G X own cc nL d mc ms) {n : Int32} {idx t : Nat} (ht4 : t < 4) (N : Nat) (hcl : Cond.classLink own idx (kt_oc t) ∈ kt_T) (hao : kt_oc t ∈ kt_ao) (hdg : decode cc pc = .ok (.anewarray idx, 3)) (hn : ¬ n < 0) (hN : n.toNatClampNeg = N) (hby : N ≤ 100000) (hc1 : cs + 1 ≤ mc) (hc2 : ss + N ≤ ms)
    (kk : kt_W G X nL (pc + 3) lv (.ref a :: st) (kt_nA σ a (t + 4, N)) (kt_z μ a) (cs + 1) (ss + N) Z) : kt_W G X nL pc lv (.int n :: st) σ μ cs ss Z := by
  subst ht; exact kr_newQ hX ht4 N hcl hao hdg hn hN hby hc1 hc2 kk
theorem kr_obj (hX : kt_ok G X own cc nL (d + 1) mc ms) {idx b : Nat} (hw : Cond.methodLink own idx Lib.objectInit ∈ kt_T) (hdg : decode cc pc = .ok (.invokespecial idx, 3)) (hcat : (st.map fun v => v.category).sum ≤ 8) (kk : kt_W G X nL (pc + 3) lv st σ μ cs ss Z) : kt_W G X nL pc lv (.ref b :: st) σ μ cs ss Z := by
  obtain ⟨p, l, e, R, s, m, args, below, meth, c⟩ := X
  obtain ⟨hx, hb, hml, hown, hts, hK, h0, hlk, hla, hrm, hmc, hms⟩ := hX
  intro H locs ls hH hS hl
  have h1 := hrm.1
  have h2 := hrm.2
  exact W.objInit hx hb hown (hts _ hw) (hts (.instanceMethod Lib.objectInit) kw_25) (hts _ kw_26) rfl (by rw [hml]; exact hl.1) rfl hdg (by omega) (by show 2 * 0 + _ + _ ≤ _; omega) (kk H locs ls hH hS hl)
end KA
/-- what a constructor makes: n cells from p on, of a build, with their first ints; what lay before stays -/
def kI (p n : Nat) (St : kt_Y → Nat → Prop) (ini : Nat → Nat → Int32) (σ : kt_Y) (μ : kt_M) : Option Value → kt_Y → kt_M → Prop := fun r σ' μ' =>
  r = none ∧ kt_t σ' = p + n ∧ (∀ x, x < p → kt_k σ' x = kt_k σ x ∧ ∀ k, kt_r σ' x k = kt_r σ x k) ∧ (∀ x k, x < p → kt_i μ' x k = kt_i μ x k ∧ kt_l μ' x k = kt_l μ x k) ∧ St σ' p ∧ (∀ x k, p ≤ x → x < p + n → kt_i μ' x k = ini (x - p) k)
def k_0 : Nat → Nat → Int32 := fun _ _ => 0
set_option maxHeartbeats 4000000 in
set_option maxRecDepth 100000 in
theorem mk_blk {G : kt_G} {σ : kt_Y} {μ : kt_M} {p : Nat} (hk : kt_k σ p = some (0, 0)) (ht : kt_t σ = p + 1) (h0 : ∀ k, kt_i μ p k = 0) : kt_S G yX0_init cX0_init 1 none 1 3 12 [.ref p] σ μ (kI p 4 kt_blk k_0 σ μ) := by
  refine kt_S.of (by decide) (Nat.le_of_ble_eq_true rfl) (fun X hX hr hmn => ?_)
  refine kr_aload_n (i := 0) hX dX0_init_0 rfl rfl ?_
  refine kr_obj hX kw_70 dX0_init_1 (Nat.le_of_ble_eq_true rfl) ?_
  refine kr_aload_n (i := 0) hX dX0_init_4 rfl rfl ?_
  refine kr_iconst (v := 4) hX dX0_init_5 (by decide) ?_
  refine kr_nI (p + 1) ht hX (4) kw_58 dX0_init_6 (by decide) (by decide) (by decide) (by decide) (by decide) ?_
  refine kr_putr (c0 := 0) (k := 1) hX kf_0_9 (fun _ => ⟨hmn, _, _, rfl, rfl⟩) dX0_init_8 rfl rfl rfl (by simp [kt_k_nA, kt_k_sr, kt_r_nA, kt_r_sr, kt_i_z, kt_l_z, kt_l_si, kt_i_si, hk]) ?_
  refine kr_aload_n (i := 0) hX dX0_init_11 rfl rfl ?_
  refine kr_iconst (v := 4) hX dX0_init_12 (by decide) ?_
  refine kr_nI (p + 2) rfl hX (4) kw_58 dX0_init_13 (by decide) (by decide) (by decide) (by decide) (by decide) ?_
  refine kr_putr (c0 := 0) (k := 2) hX kf_0_15 (fun _ => ⟨hmn, _, _, rfl, rfl⟩) dX0_init_15 rfl rfl rfl (by simp [kt_k_nA, kt_k_sr, kt_r_nA, kt_r_sr, kt_i_z, kt_l_z, kt_l_si, kt_i_si, hk]) ?_
  refine kr_aload_n (i := 0) hX dX0_init_18 rfl rfl ?_
  refine kr_iconst (v := 4) hX dX0_init_19 (by decide) ?_
  refine kr_nI (p + 3) rfl hX (4) kw_58 dX0_init_20 (by decide) (by decide) (by decide) (by decide) (by decide) ?_
  refine kr_putr (c0 := 0) (k := 3) hX kf_0_18 (fun _ => ⟨hmn, _, _, rfl, rfl⟩) dX0_init_22 rfl rfl rfl (by simp [kt_k_nA, kt_k_sr, kt_r_nA, kt_r_sr, kt_i_z, kt_l_z, kt_l_si, kt_i_si, hk]) ?_
  refine kr_vret hX hr dX0_init_25 ?_
  refine ⟨rfl, ?_, fun x hx => ?_, fun x k hx => ?_, ?_, fun x k h1 h2 => ?_⟩
  · first | rfl | exact ht
  · have e0 : x ≠ p := by omega
    have e1 : x ≠ p + 1 := by omega
    have e2 : x ≠ p + 2 := by omega
    have e3 : x ≠ p + 3 := by omega
    simp [kt_k_nA, kt_k_sr, kt_r_nA, kt_r_sr, kt_i_z, kt_l_z, kt_l_si, kt_i_si, e0, e1, e2, e3]
  · have e0 : x ≠ p := by omega
    have e1 : x ≠ p + 1 := by omega
    have e2 : x ≠ p + 2 := by omega
    have e3 : x ≠ p + 3 := by omega
    simp [kt_k_nA, kt_k_sr, kt_r_nA, kt_r_sr, kt_i_z, kt_l_z, kt_l_si, kt_i_si, e0, e1, e2, e3]
  · unfold kt_blk
    simp [kt_k_nA, kt_k_sr, kt_r_nA, kt_r_sr, kt_i_z, kt_l_z, kt_l_si, kt_i_si, hk]
  · have h3 : x = p ∨ x = p + 1 ∨ x = p + 2 ∨ x = p + 3 := by omega
    rcases h3 with h3 | h3 | h3 | h3 <;> subst h3 <;> simp [kt_k_nA, kt_k_sr, kt_r_nA, kt_r_sr, kt_i_z, kt_l_z, kt_l_si, kt_i_si, h0, k_0, k_0]

set_option maxHeartbeats 4000000 in
set_option maxRecDepth 100000 in
theorem mk_rg {G : kt_G} {σ : kt_Y} {μ : kt_M} {p : Nat} (hk : kt_k σ p = some (0, 5)) (ht : kt_t σ = p + 1) (h0 : ∀ k, kt_i μ p k = 0) : kt_S G yX5_init cX5_init 1 none 1 3 12 [.ref p] σ μ (kI p 4 kt_rg k_0 σ μ) := by
  refine kt_S.of (by decide) (Nat.le_of_ble_eq_true rfl) (fun X hX hr hmn => ?_)
  refine kr_aload_n (i := 0) hX dX5_init_0 rfl rfl ?_
  refine kr_obj hX kw_166 dX5_init_1 (Nat.le_of_ble_eq_true rfl) ?_
  refine kr_aload_n (i := 0) hX dX5_init_4 rfl rfl ?_
  refine kr_iconst (v := 4) hX dX5_init_5 (by decide) ?_
  refine kr_nI (p + 1) ht hX (4) kw_58 dX5_init_6 (by decide) (by decide) (by decide) (by decide) (by decide) ?_
  refine kr_putr (c0 := 5) (k := 0) hX kf_5_9 (fun _ => ⟨hmn, _, _, rfl, rfl⟩) dX5_init_8 rfl rfl rfl (by simp [kt_k_nA, kt_k_sr, kt_r_nA, kt_r_sr, kt_i_z, kt_l_z, kt_l_si, kt_i_si, hk]) ?_
  refine kr_aload_n (i := 0) hX dX5_init_11 rfl rfl ?_
  refine kr_iconst (v := 4) hX dX5_init_12 (by decide) ?_
  refine kr_nI (p + 2) rfl hX (4) kw_58 dX5_init_13 (by decide) (by decide) (by decide) (by decide) (by decide) ?_
  refine kr_putr (c0 := 5) (k := 1) hX kf_5_15 (fun _ => ⟨hmn, _, _, rfl, rfl⟩) dX5_init_15 rfl rfl rfl (by simp [kt_k_nA, kt_k_sr, kt_r_nA, kt_r_sr, kt_i_z, kt_l_z, kt_l_si, kt_i_si, hk]) ?_
  refine kr_aload_n (i := 0) hX dX5_init_18 rfl rfl ?_
  refine kr_iconst (v := 4) hX dX5_init_19 (by decide) ?_
  refine kr_nZ (p + 3) rfl hX (4) kw_177 dX5_init_20 (by decide) (by decide) (by decide) (by decide) (by decide) ?_
  refine kr_putr (c0 := 5) (k := 2) hX kf_5_18 (fun _ => ⟨hmn, _, _, rfl, rfl⟩) dX5_init_22 rfl rfl rfl (by simp [kt_k_nA, kt_k_sr, kt_r_nA, kt_r_sr, kt_i_z, kt_l_z, kt_l_si, kt_i_si, hk]) ?_
  refine kr_vret hX hr dX5_init_25 ?_
  refine ⟨rfl, ?_, fun x hx => ?_, fun x k hx => ?_, ?_, fun x k h1 h2 => ?_⟩
  · first | rfl | exact ht
  · have e0 : x ≠ p := by omega
    have e1 : x ≠ p + 1 := by omega
    have e2 : x ≠ p + 2 := by omega
    have e3 : x ≠ p + 3 := by omega
    simp [kt_k_nA, kt_k_sr, kt_r_nA, kt_r_sr, kt_i_z, kt_l_z, kt_l_si, kt_i_si, e0, e1, e2, e3]
  · have e0 : x ≠ p := by omega
    have e1 : x ≠ p + 1 := by omega
    have e2 : x ≠ p + 2 := by omega
    have e3 : x ≠ p + 3 := by omega
    simp [kt_k_nA, kt_k_sr, kt_r_nA, kt_r_sr, kt_i_z, kt_l_z, kt_l_si, kt_i_si, e0, e1, e2, e3]
  · unfold kt_rg
    simp [kt_k_nA, kt_k_sr, kt_r_nA, kt_r_sr, kt_i_z, kt_l_z, kt_l_si, kt_i_si, hk]
  · have h3 : x = p ∨ x = p + 1 ∨ x = p + 2 ∨ x = p + 3 := by omega
    rcases h3 with h3 | h3 | h3 | h3 <;> subst h3 <;> simp [kt_k_nA, kt_k_sr, kt_r_nA, kt_r_sr, kt_i_z, kt_l_z, kt_l_si, kt_i_si, h0, k_0, k_0]

set_option maxHeartbeats 4000000 in
set_option maxRecDepth 100000 in
theorem mk_pt {G : kt_G} {σ : kt_Y} {μ : kt_M} {p : Nat} (hk : kt_k σ p = some (0, 3)) (ht : kt_t σ = p + 1) (h0 : ∀ k, kt_i μ p k = 0) : kt_S G yX3_init cX3_init 1 none 1 2 32 [.ref p] σ μ (kI p 3 kt_pt k_0 σ μ) := by
  refine kt_S.of (by decide) (Nat.le_of_ble_eq_true rfl) (fun X hX hr hmn => ?_)
  refine kr_aload_n (i := 0) hX dX3_init_0 rfl rfl ?_
  refine kr_obj hX kw_210 dX3_init_1 (Nat.le_of_ble_eq_true rfl) ?_
  refine kr_aload_n (i := 0) hX dX3_init_4 rfl rfl ?_
  refine kr_bipush (v := 16) hX dX3_init_5 (by decide) ?_
  refine kr_nI (p + 1) ht hX (16) kw_58 dX3_init_7 (by decide) (by decide) (by decide) (by decide) (by decide) ?_
  refine kr_putr (c0 := 3) (k := 0) hX kf_3_9 (fun _ => ⟨hmn, _, _, rfl, rfl⟩) dX3_init_9 rfl rfl rfl (by simp [kt_k_nA, kt_k_sr, kt_r_nA, kt_r_sr, kt_i_z, kt_l_z, kt_l_si, kt_i_si, hk]) ?_
  refine kr_aload_n (i := 0) hX dX3_init_12 rfl rfl ?_
  refine kr_bipush (v := 16) hX dX3_init_13 (by decide) ?_
  refine kr_nI (p + 2) rfl hX (16) kw_58 dX3_init_15 (by decide) (by decide) (by decide) (by decide) (by decide) ?_
  refine kr_putr (c0 := 3) (k := 1) hX kf_3_15 (fun _ => ⟨hmn, _, _, rfl, rfl⟩) dX3_init_17 rfl rfl rfl (by simp [kt_k_nA, kt_k_sr, kt_r_nA, kt_r_sr, kt_i_z, kt_l_z, kt_l_si, kt_i_si, hk]) ?_
  refine kr_aload_n (i := 0) hX dX3_init_20 rfl rfl ?_
  refine kr_iconst (v := 0) hX dX3_init_21 (by decide) ?_
  refine kr_puti (c0 := 3) (k := 2) hX kf_3_18 dX3_init_22 rfl rfl rfl (by simp [kt_k_nA, kt_k_sr, kt_r_nA, kt_r_sr, kt_i_z, kt_l_z, kt_l_si, kt_i_si, hk]) ?_
  refine kr_aload_n (i := 0) hX dX3_init_25 rfl rfl ?_
  refine kr_iconst (v := 0) hX dX3_init_26 (by decide) ?_
  refine kr_puti (c0 := 3) (k := 3) hX kf_3_22 dX3_init_27 rfl rfl rfl (by simp [kt_k_nA, kt_k_sr, kt_r_nA, kt_r_sr, kt_i_z, kt_l_z, kt_l_si, kt_i_si, hk]) ?_
  refine kr_vret hX hr dX3_init_30 ?_
  refine ⟨rfl, ?_, fun x hx => ?_, fun x k hx => ?_, ?_, fun x k h1 h2 => ?_⟩
  · first | rfl | exact ht
  · have e0 : x ≠ p := by omega
    have e1 : x ≠ p + 1 := by omega
    have e2 : x ≠ p + 2 := by omega
    simp [kt_k_nA, kt_k_sr, kt_r_nA, kt_r_sr, kt_i_z, kt_l_z, kt_l_si, kt_i_si, e0, e1, e2]
  · have e0 : x ≠ p := by omega
    have e1 : x ≠ p + 1 := by omega
    have e2 : x ≠ p + 2 := by omega
    simp [kt_k_nA, kt_k_sr, kt_r_nA, kt_r_sr, kt_i_z, kt_l_z, kt_l_si, kt_i_si, e0, e1, e2]
  · unfold kt_pt
    simp [kt_k_nA, kt_k_sr, kt_r_nA, kt_r_sr, kt_i_z, kt_l_z, kt_l_si, kt_i_si, hk]
  · have h3 : x = p ∨ x = p + 1 ∨ x = p + 2 := by omega
    rcases h3 with h3 | h3 | h3 <;> subst h3 <;> simp [kt_k_nA, kt_k_sr, kt_r_nA, kt_r_sr, kt_i_z, kt_l_z, kt_l_si, kt_i_si, h0, k_0, k_0]

set_option maxHeartbeats 4000000 in
set_option maxRecDepth 100000 in
theorem mk_rn {G : kt_G} {σ : kt_Y} {μ : kt_M} {p : Nat} (hk : kt_k σ p = some (0, 7)) (ht : kt_t σ = p + 1) (h0 : ∀ k, kt_i μ p k = 0) : kt_S G yX7_init cX7_init 1 none 1 3 304 [.ref p] σ μ (kI p 4 kt_rn k_0 σ μ) := by
  refine kt_S.of (by decide) (Nat.le_of_ble_eq_true rfl) (fun X hX hr hmn => ?_)
  refine kr_aload_n (i := 0) hX dX7_init_0 rfl rfl ?_
  refine kr_obj hX kw_231 dX7_init_1 (Nat.le_of_ble_eq_true rfl) ?_
  refine kr_aload_n (i := 0) hX dX7_init_4 rfl rfl ?_
  refine kr_iconst (v := 4) hX dX7_init_5 (by decide) ?_
  refine kr_nI (p + 1) ht hX (4) kw_58 dX7_init_6 (by decide) (by decide) (by decide) (by decide) (by decide) ?_
  refine kr_putr (c0 := 7) (k := 0) hX kf_7_9 (fun _ => ⟨hmn, _, _, rfl, rfl⟩) dX7_init_8 rfl rfl rfl (by simp [kt_k_nA, kt_k_sr, kt_r_nA, kt_r_sr, kt_i_z, kt_l_z, kt_l_si, kt_i_si, hk]) ?_
  refine kr_aload_n (i := 0) hX dX7_init_11 rfl rfl ?_
  refine kr_bipush (v := 60) hX dX7_init_12 (by decide) ?_
  refine kr_nI (p + 2) rfl hX (60) kw_58 dX7_init_14 (by decide) (by decide) (by decide) (by decide) (by decide) ?_
  refine kr_putr (c0 := 7) (k := 1) hX kf_7_15 (fun _ => ⟨hmn, _, _, rfl, rfl⟩) dX7_init_16 rfl rfl rfl (by simp [kt_k_nA, kt_k_sr, kt_r_nA, kt_r_sr, kt_i_z, kt_l_z, kt_l_si, kt_i_si, hk]) ?_
  refine kr_aload_n (i := 0) hX dX7_init_19 rfl rfl ?_
  refine kr_sipush (v := 240) hX dX7_init_20 (by decide) ?_
  refine kr_nI (p + 3) rfl hX (240) kw_58 dX7_init_23 (by decide) (by decide) (by decide) (by decide) (by decide) ?_
  refine kr_putr (c0 := 7) (k := 2) hX kf_7_18 (fun _ => ⟨hmn, _, _, rfl, rfl⟩) dX7_init_25 rfl rfl rfl (by simp [kt_k_nA, kt_k_sr, kt_r_nA, kt_r_sr, kt_i_z, kt_l_z, kt_l_si, kt_i_si, hk]) ?_
  refine kr_vret hX hr dX7_init_28 ?_
  refine ⟨rfl, ?_, fun x hx => ?_, fun x k hx => ?_, ?_, fun x k h1 h2 => ?_⟩
  · first | rfl | exact ht
  · have e0 : x ≠ p := by omega
    have e1 : x ≠ p + 1 := by omega
    have e2 : x ≠ p + 2 := by omega
    have e3 : x ≠ p + 3 := by omega
    simp [kt_k_nA, kt_k_sr, kt_r_nA, kt_r_sr, kt_i_z, kt_l_z, kt_l_si, kt_i_si, e0, e1, e2, e3]
  · have e0 : x ≠ p := by omega
    have e1 : x ≠ p + 1 := by omega
    have e2 : x ≠ p + 2 := by omega
    have e3 : x ≠ p + 3 := by omega
    simp [kt_k_nA, kt_k_sr, kt_r_nA, kt_r_sr, kt_i_z, kt_l_z, kt_l_si, kt_i_si, e0, e1, e2, e3]
  · unfold kt_rn
    simp [kt_k_nA, kt_k_sr, kt_r_nA, kt_r_sr, kt_i_z, kt_l_z, kt_l_si, kt_i_si, hk]
  · have h3 : x = p ∨ x = p + 1 ∨ x = p + 2 ∨ x = p + 3 := by omega
    rcases h3 with h3 | h3 | h3 | h3 <;> subst h3 <;> simp [kt_k_nA, kt_k_sr, kt_r_nA, kt_r_sr, kt_i_z, kt_l_z, kt_l_si, kt_i_si, h0, k_0, k_0]

set_option maxHeartbeats 4000000 in
set_option maxRecDepth 100000 in
theorem mk_rd {G : kt_G} {σ : kt_Y} {μ : kt_M} {p : Nat} (hk : kt_k σ p = some (0, 6)) (ht : kt_t σ = p + 1) (h0 : ∀ k, kt_i μ p k = 0) : kt_S G yX6_init cX6_init 1 none 1 1 200 [.ref p] σ μ (kI p 2 kt_rd k_0 σ μ) := by
  refine kt_S.of (by decide) (Nat.le_of_ble_eq_true rfl) (fun X hX hr hmn => ?_)
  refine kr_aload_n (i := 0) hX dX6_init_0 rfl rfl ?_
  refine kr_obj hX kw_32 dX6_init_1 (Nat.le_of_ble_eq_true rfl) ?_
  refine kr_aload_n (i := 0) hX dX6_init_4 rfl rfl ?_
  refine kr_sipush (v := 200) hX dX6_init_5 (by decide) ?_
  refine kr_nI (p + 1) ht hX (200) kw_58 dX6_init_8 (by decide) (by decide) (by decide) (by decide) (by decide) ?_
  refine kr_putr (c0 := 6) (k := 0) hX kf_6_11 (fun _ => ⟨hmn, _, _, rfl, rfl⟩) dX6_init_10 rfl rfl rfl (by simp [kt_k_nA, kt_k_sr, kt_r_nA, kt_r_sr, kt_i_z, kt_l_z, kt_l_si, kt_i_si, hk]) ?_
  refine kr_aload_n (i := 0) hX dX6_init_13 rfl rfl ?_
  refine kr_iconst (v := 0) hX dX6_init_14 (by decide) ?_
  refine kr_puti (c0 := 6) (k := 1) hX kf_6_15 dX6_init_15 rfl rfl rfl (by simp [kt_k_nA, kt_k_sr, kt_r_nA, kt_r_sr, kt_i_z, kt_l_z, kt_l_si, kt_i_si, hk]) ?_
  refine kr_aload_n (i := 0) hX dX6_init_18 rfl rfl ?_
  refine kr_iconst (v := 0) hX dX6_init_19 (by decide) ?_
  refine kr_puti (c0 := 6) (k := 2) hX kf_6_19 dX6_init_20 rfl rfl rfl (by simp [kt_k_nA, kt_k_sr, kt_r_nA, kt_r_sr, kt_i_z, kt_l_z, kt_l_si, kt_i_si, hk]) ?_
  refine kr_aload_n (i := 0) hX dX6_init_23 rfl rfl ?_
  refine kr_iconst (v := 0) hX dX6_init_24 (by decide) ?_
  refine kr_puti (c0 := 6) (k := 3) hX kf_6_22 dX6_init_25 rfl rfl rfl (by simp [kt_k_nA, kt_k_sr, kt_r_nA, kt_r_sr, kt_i_z, kt_l_z, kt_l_si, kt_i_si, hk]) ?_
  refine kr_aload_n (i := 0) hX dX6_init_28 rfl rfl ?_
  refine kr_iconst (v := 0) hX dX6_init_29 (by decide) ?_
  refine kr_puti (c0 := 6) (k := 4) hX kf_6_25 dX6_init_30 rfl rfl rfl (by simp [kt_k_nA, kt_k_sr, kt_r_nA, kt_r_sr, kt_i_z, kt_l_z, kt_l_si, kt_i_si, hk]) ?_
  refine kr_aload_n (i := 0) hX dX6_init_33 rfl rfl ?_
  refine kr_iconst (v := 0) hX dX6_init_34 (by decide) ?_
  refine kr_puti (c0 := 6) (k := 5) hX kf_6_28 dX6_init_35 rfl rfl rfl (by simp [kt_k_nA, kt_k_sr, kt_r_nA, kt_r_sr, kt_i_z, kt_l_z, kt_l_si, kt_i_si, hk]) ?_
  refine kr_aload_n (i := 0) hX dX6_init_38 rfl rfl ?_
  refine kr_iconst (v := 0) hX dX6_init_39 (by decide) ?_
  refine kr_puti (c0 := 6) (k := 6) hX kf_6_31 dX6_init_40 rfl rfl rfl (by simp [kt_k_nA, kt_k_sr, kt_r_nA, kt_r_sr, kt_i_z, kt_l_z, kt_l_si, kt_i_si, hk]) ?_
  refine kr_vret hX hr dX6_init_43 ?_
  refine ⟨rfl, ?_, fun x hx => ?_, fun x k hx => ?_, ?_, fun x k h1 h2 => ?_⟩
  · first | rfl | exact ht
  · have e0 : x ≠ p := by omega
    have e1 : x ≠ p + 1 := by omega
    simp [kt_k_nA, kt_k_sr, kt_r_nA, kt_r_sr, kt_i_z, kt_l_z, kt_l_si, kt_i_si, e0, e1]
  · have e0 : x ≠ p := by omega
    have e1 : x ≠ p + 1 := by omega
    simp [kt_k_nA, kt_k_sr, kt_r_nA, kt_r_sr, kt_i_z, kt_l_z, kt_l_si, kt_i_si, e0, e1]
  · unfold kt_rd
    simp [kt_k_nA, kt_k_sr, kt_r_nA, kt_r_sr, kt_i_z, kt_l_z, kt_l_si, kt_i_si, hk]
  · have h3 : x = p ∨ x = p + 1 := by omega
    rcases h3 with h3 | h3 <;> subst h3 <;> simp [kt_k_nA, kt_k_sr, kt_r_nA, kt_r_sr, kt_i_z, kt_l_z, kt_l_si, kt_i_si, h0, k_0, k_0]

set_option maxHeartbeats 4000000 in
set_option maxRecDepth 100000 in
theorem mk_di {G : kt_G} {σ : kt_Y} {μ : kt_M} {p : Nat} (hk : kt_k σ p = some (0, 1)) (ht : kt_t σ = p + 1) (h0 : ∀ k, kt_i μ p k = 0) : kt_S G yX1_init cX1_init 1 none 1 0 0 [.ref p] σ μ (kI p 1 kt_di k_0 σ μ) := by
  refine kt_S.of (by decide) (Nat.le_of_ble_eq_true rfl) (fun X hX hr hmn => ?_)
  refine kr_aload_n (i := 0) hX dX1_init_0 rfl rfl ?_
  refine kr_obj hX kw_270 dX1_init_1 (Nat.le_of_ble_eq_true rfl) ?_
  refine kr_aload_n (i := 0) hX dX1_init_4 rfl rfl ?_
  refine kr_iconst (v := 0) hX dX1_init_5 (by decide) ?_
  refine kr_puti (c0 := 1) (k := 0) hX kf_1_9 dX1_init_6 rfl rfl rfl (by simp [kt_k_nA, kt_k_sr, kt_r_nA, kt_r_sr, kt_i_z, kt_l_z, kt_l_si, kt_i_si, hk]) ?_
  refine kr_vret hX hr dX1_init_9 ?_
  refine ⟨rfl, ?_, fun x hx => ?_, fun x k hx => ?_, ?_, fun x k h1 h2 => ?_⟩
  · first | rfl | exact ht
  · have e0 : x ≠ p := by omega
    simp [kt_k_nA, kt_k_sr, kt_r_nA, kt_r_sr, kt_i_z, kt_l_z, kt_l_si, kt_i_si, e0]
  · have e0 : x ≠ p := by omega
    simp [kt_k_nA, kt_k_sr, kt_r_nA, kt_r_sr, kt_i_z, kt_l_z, kt_l_si, kt_i_si, e0]
  · unfold kt_di
    simp [kt_k_nA, kt_k_sr, kt_r_nA, kt_r_sr, kt_i_z, kt_l_z, kt_l_si, kt_i_si, hk]
  · have h3 : x = p := by omega
    subst h3; simp [kt_k_nA, kt_k_sr, kt_r_nA, kt_r_sr, kt_i_z, kt_l_z, kt_l_si, kt_i_si, h0, k_0, k_0]

def k_sh0 : Nat → Nat → Int32 := fun x k => if x = 0 ∧ k = 1 then -1 else 0
set_option maxHeartbeats 4000000 in
set_option maxRecDepth 100000 in
theorem mk_sh {G : kt_G} {σ : kt_Y} {μ : kt_M} {p : Nat} (hk : kt_k σ p = some (0, 8)) (ht : kt_t σ = p + 1) (h0 : ∀ k, kt_i μ p k = 0) : kt_S G yX8_init cX8_init 1 none 1 1 40 [.ref p] σ μ (kI p 2 kt_sh k_sh0 σ μ) := by
  refine kt_S.of (by decide) (Nat.le_of_ble_eq_true rfl) (fun X hX hr hmn => ?_)
  refine kr_aload_n (i := 0) hX dX8_init_0 rfl rfl ?_
  refine kr_obj hX kw_282 dX8_init_1 (Nat.le_of_ble_eq_true rfl) ?_
  refine kr_aload_n (i := 0) hX dX8_init_4 rfl rfl ?_
  refine kr_bipush (v := 40) hX dX8_init_5 (by decide) ?_
  refine kr_nI (p + 1) ht hX (40) kw_58 dX8_init_7 (by decide) (by decide) (by decide) (by decide) (by decide) ?_
  refine kr_putr (c0 := 8) (k := 0) hX kf_8_9 (fun _ => ⟨hmn, _, _, rfl, rfl⟩) dX8_init_9 rfl rfl rfl (by simp [kt_k_nA, kt_k_sr, kt_r_nA, kt_r_sr, kt_i_z, kt_l_z, kt_l_si, kt_i_si, hk]) ?_
  refine kr_aload_n (i := 0) hX dX8_init_12 rfl rfl ?_
  refine kr_iconst (v := (-1)) hX dX8_init_13 (by decide) ?_
  refine kr_puti (c0 := 8) (k := 1) hX kf_8_13 dX8_init_14 rfl rfl rfl (by simp [kt_k_nA, kt_k_sr, kt_r_nA, kt_r_sr, kt_i_z, kt_l_z, kt_l_si, kt_i_si, hk]) ?_
  refine kr_aload_n (i := 0) hX dX8_init_17 rfl rfl ?_
  refine kr_iconst (v := 0) hX dX8_init_18 (by decide) ?_
  refine kr_puti (c0 := 8) (k := 2) hX kf_8_17 dX8_init_19 rfl rfl rfl (by simp [kt_k_nA, kt_k_sr, kt_r_nA, kt_r_sr, kt_i_z, kt_l_z, kt_l_si, kt_i_si, hk]) ?_
  refine kr_vret hX hr dX8_init_22 ?_
  refine ⟨rfl, ?_, fun x hx => ?_, fun x k hx => ?_, ?_, fun x k h1 h2 => ?_⟩
  · first | rfl | exact ht
  · have e0 : x ≠ p := by omega
    have e1 : x ≠ p + 1 := by omega
    simp [kt_k_nA, kt_k_sr, kt_r_nA, kt_r_sr, kt_i_z, kt_l_z, kt_l_si, kt_i_si, e0, e1]
  · have e0 : x ≠ p := by omega
    have e1 : x ≠ p + 1 := by omega
    simp [kt_k_nA, kt_k_sr, kt_r_nA, kt_r_sr, kt_i_z, kt_l_z, kt_l_si, kt_i_si, e0, e1]
  · unfold kt_sh
    simp [kt_k_nA, kt_k_sr, kt_r_nA, kt_r_sr, kt_i_z, kt_l_z, kt_l_si, kt_i_si, hk]
  · have h3 : x = p ∨ x = p + 1 := by omega
    rcases h3 with h3 | h3 <;> subst h3 <;> simp [kt_k_nA, kt_k_sr, kt_r_nA, kt_r_sr, kt_i_z, kt_l_z, kt_l_si, kt_i_si, h0, k_0, k_sh0] <;> (intro h4; omega)


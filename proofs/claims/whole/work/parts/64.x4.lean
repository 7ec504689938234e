def x_isReached (n : Nat) (m : Nat) (μ : kt_M) (a0 : Int32) : Option (Int32 × kt_M) := kq_ck (kq_in ((4 : Int32) * a0) 64) ((if (lg_cmp (kt_l μ (m + 6) (Int32.toNatClampNeg ((4 : Int32) * a0))) (0 : Int64)) = 0 then some ((0 : Int32), μ) else some ((1 : Int32), μ)))
set_option maxHeartbeats 4000000 in
set_option maxRecDepth 100000 in
theorem xs_isReached {G : kt_G} {σ : kt_Y} {μ : kt_M} {m : Nat} (hm : kt_md σ m) {n : Nat} {a0 : Int32} {r : Int32} {μ1 : kt_M} (h : x_isReached n m μ a0 = some (r, μ1)) : kt_F G yX10_isReached cX10_isReached 2 (some .boolean) 0 [.ref m, .int a0] σ μ (fun rv μ2 => rv = some (.int r) ∧ μ2 = μ1) := by
  have key : ∀ q : (Int32 × kt_M), x_isReached n m μ a0 = some q → kt_F G yX10_isReached cX10_isReached 2 (some .boolean) 0 [.ref m, .int a0] σ μ (fun rv μ2 => rv = some (.int q.1) ∧ μ2 = q.2) := by
    intro q h
    unfold x_isReached at h
    refine kt_F.of (by decide) (Nat.le_of_ble_eq_true rfl) (fun X hX hr => ?_)
    refine kr_aload_n (i := 0) hX dX10_isReached_0 rfl rfl ?_
    refine kr_getr (c0 := 10) (k := 13) hX ⟨_, kf_10_30⟩ dX10_isReached_1 rfl (md_k hm) (md_r13 hm) ?_
    refine kr_iconst (v := 4) hX dX10_isReached_4 (by decide) ?_
    refine kr_iload_n (i := 1) hX dX10_isReached_5 rfl rfl ?_
    refine kr_imul hX dX10_isReached_6 ?_
    obtain ⟨i_7, h⟩ := kq_ck_e h
    refine kr_lald hX dX10_isReached_7 (md_a6 hm) (vp_in_iff.mpr i_7) ?_
    refine kr_lconst (v := 0) hX dX10_isReached_8 (by decide) ?_
    refine kr_lcmp hX dX10_isReached_9 ?_
    refine kr_if_eq (tgt := 17) hX dX10_isReached_10 (by decide) (fun c_10 => ?_) (fun c_10 => ?_)
    · replace h := kq_t c_10 h
      refine kr_iconst (v := 0) hX dX10_isReached_17 (by decide) ?_
      refine kr_zret hX hr (by decide) dX10_isReached_18 ⟨rfl, ?_⟩
      exact kq_rI h
    · replace h := kq_f c_10 h
      refine kr_iconst (v := 1) hX dX10_isReached_13 (by decide) ?_
      refine kr_goto (tgt := 18) hX dX10_isReached_14 (by decide) ?_
      refine kr_zret hX hr (by decide) dX10_isReached_18 ⟨rfl, ?_⟩
      exact kq_rI h
  exact key (r, μ1) h
def x_isOpen (n : Nat) (m : Nat) (μ : kt_M) (a0 : Int32) (a1 : Int32) : Option (Int32 × kt_M) := kq_b2 (x_isReached n m μ a0) (fun r_2 μ_2 => (if r_2 = 0 then some ((0 : Int32), μ_2) else kq_b2 (x_comesTo n m μ_2 a0) (fun r_12 μ_12 => kq_b2 (x_goesAlong n m μ_12 a0 a1) (fun r_18 μ_18 => kq_ck (r_18 = 0 ∨ r_18 = 1) (some (r_18, μ_18))))))
set_option maxHeartbeats 4000000 in
set_option maxRecDepth 100000 in
theorem xs_isOpen {G : kt_G} {σ : kt_Y} {μ : kt_M} {m : Nat} (hm : kt_md σ m) {n : Nat} {a0 : Int32} {a1 : Int32} {r : Int32} {μ1 : kt_M} (h : x_isOpen n m μ a0 a1 = some (r, μ1)) : kt_F G yX10_isOpen cX10_isOpen 3 (some .boolean) 4 [.ref m, .int a0, .int a1] σ μ (fun rv μ2 => rv = some (.int r) ∧ μ2 = μ1) := by
  have key : ∀ q : (Int32 × kt_M), x_isOpen n m μ a0 a1 = some q → kt_F G yX10_isOpen cX10_isOpen 3 (some .boolean) 4 [.ref m, .int a0, .int a1] σ μ (fun rv μ2 => rv = some (.int q.1) ∧ μ2 = q.2) := by
    intro q h
    unfold x_isOpen at h
    refine kt_F.of (by decide) (Nat.le_of_ble_eq_true rfl) (fun X hX hr => ?_)
    refine kr_aload_n (i := 0) hX dX10_isOpen_0 rfl rfl ?_
    refine kr_iload_n (i := 1) hX dX10_isOpen_1 rfl rfl ?_
    obtain ⟨r_2, μ_2, e_2, h⟩ := kq_b2_e h
    refine kr_dV (c1 := 10) [_] hX km_10_251 dX10_isOpen_2 (xs_isReached hm e_2) rfl rfl ⟨_, _, rfl⟩ (by decide) (Nat.le_of_ble_eq_true rfl) (Nat.le_refl _) (Nat.le_refl _) (md_k hm) ?_
    refine kr_if_ne (tgt := 10) hX dX10_isOpen_5 (by decide) (fun c_5 => ?_) (fun c_5 => ?_)
    · replace h := kq_f c_5 h
      refine kr_aload_n (i := 0) hX dX10_isOpen_10 rfl rfl ?_
      refine kr_iload_n (i := 1) hX dX10_isOpen_11 rfl rfl ?_
      obtain ⟨r_12, μ_12, e_12, h⟩ := kq_b2_e h
      refine kr_dV (c1 := 10) [_] hX km_10_254 dX10_isOpen_12 (xs_comesTo hm e_12) rfl rfl ⟨_, _, rfl⟩ (by decide) (Nat.le_of_ble_eq_true rfl) (Nat.le_refl _) (Nat.le_refl _) (md_k hm) ?_
      refine kr_aload_n (i := 0) hX dX10_isOpen_15 rfl rfl ?_
      refine kr_iload_n (i := 1) hX dX10_isOpen_16 rfl rfl ?_
      refine kr_iload_n (i := 2) hX dX10_isOpen_17 rfl rfl ?_
      obtain ⟨r_18, μ_18, e_18, h⟩ := kq_b2_e h
      refine kr_dV (c1 := 10) [_, _] hX km_10_248 dX10_isOpen_18 (xs_goesAlong hm e_18) rfl rfl ⟨_, _, rfl⟩ (by decide) (Nat.le_of_ble_eq_true rfl) (Nat.le_refl _) (Nat.le_refl _) (md_k hm) ?_
      obtain ⟨z_21, h⟩ := kq_ck_e h
      refine kr_zret hX hr z_21 dX10_isOpen_21 ⟨rfl, ?_⟩
      exact kq_rI h
    · replace h := kq_t c_5 h
      refine kr_iconst (v := 0) hX dX10_isOpen_8 (by decide) ?_
      refine kr_zret hX hr (by decide) dX10_isOpen_9 ⟨rfl, ?_⟩
      exact kq_rI h
  exact key (r, μ1) h
def x_outcomeOf_J12 (n : Nat) (l0 : Int32) : Option Int32 := (if l0 = 0 then some (2 : Int32) else some (1 : Int32))
set_option maxHeartbeats 4000000 in
set_option maxRecDepth 100000 in
theorem xw_outcomeOf_J12 {G : kt_G} {σ : kt_Y} {μ : kt_M} {X : kt_X} (hX : kt_ok G X RX10 cX10_outcomeOf 2 0 0 0) (hr : kt_rt X = (some .int)) {n : Nat} {q : Int32} {l0 : Int32} (h : x_outcomeOf_J12 n l0 = some q) : kt_W G X 2 12 [(0, .int l0)] [] σ μ 0 0 (kt_Z G X (kt_q σ (fun rv μ2 => rv = some (.int q) ∧ μ2 = μ)) 0 0) := by
  unfold x_outcomeOf_J12 at h
  refine kr_iload_n (i := 0) hX dX10_outcomeOf_12 rfl rfl ?_
  refine kr_if_eq (tgt := 20) hX dX10_outcomeOf_13 (by decide) (fun c_13 => ?_) (fun c_13 => ?_)
  · replace h := kq_t c_13 h
    refine kr_iconst (v := 2) hX dX10_outcomeOf_20 (by decide) ?_
    refine kr_iret hX hr dX10_outcomeOf_21 ⟨rfl, ?_⟩
    exact kq_rIs h
  · replace h := kq_f c_13 h
    refine kr_iconst (v := 1) hX dX10_outcomeOf_16 (by decide) ?_
    refine kr_goto (tgt := 21) hX dX10_outcomeOf_17 (by decide) ?_
    refine kr_iret hX hr dX10_outcomeOf_21 ⟨rfl, ?_⟩
    exact kq_rIs h
def x_outcomeOf (n : Nat) (a0 : Int32) (a1 : Int32) : Option Int32 := (if a0 = 0 then x_outcomeOf_J12 n a0 else (if a1 = 0 then x_outcomeOf_J12 n a0 else some (0 : Int32)))
set_option maxHeartbeats 4000000 in
set_option maxRecDepth 100000 in
theorem xs_outcomeOf {G : kt_G} {σ : kt_Y} {μ : kt_M} {n : Nat} {a0 : Int32} {a1 : Int32} {q : Int32} (h : x_outcomeOf n a0 a1 = some q) : kt_F G yX10_outcomeOf cX10_outcomeOf 2 (some .int) 0 [.int a0, .int a1] σ μ (fun rv μ2 => rv = some (.int q) ∧ μ2 = μ) := by
  unfold x_outcomeOf at h
  refine kt_F.of (by decide) (Nat.le_of_ble_eq_true rfl) (fun X hX hr => ?_)
  refine kr_iload_n (i := 0) hX dX10_outcomeOf_0 rfl rfl ?_
  refine kr_if_eq (tgt := 12) hX dX10_outcomeOf_1 (by decide) (fun c_1 => ?_) (fun c_1 => ?_)
  · replace h := kq_t c_1 h
    refine kr_keep (lv' := [(0, .int a0)]) [0] rfl ?_
    exact xw_outcomeOf_J12 hX hr h
  · replace h := kq_f c_1 h
    refine kr_iload_n (i := 1) hX dX10_outcomeOf_4 rfl rfl ?_
    refine kr_if_eq (tgt := 12) hX dX10_outcomeOf_5 (by decide) (fun c_5 => ?_) (fun c_5 => ?_)
    · replace h := kq_t c_5 h
      refine kr_keep (lv' := [(0, .int a0)]) [0] rfl ?_
      exact xw_outcomeOf_J12 hX hr h
    · replace h := kq_f c_5 h
      refine kr_iconst (v := 0) hX dX10_outcomeOf_8 (by decide) ?_
      refine kr_goto (tgt := 21) hX dX10_outcomeOf_9 (by decide) ?_
      refine kr_iret hX hr dX10_outcomeOf_21 ⟨rfl, ?_⟩
      exact kq_rIs h
def x_outcomeAlong_B21 (n : Nat) (m : Nat) (K21 : Int32 → Int32 → kt_M → Option (Int32 × kt_M)) (l3 : Int32) (l4 : Int32) (μ : kt_M) : Option (Int32 × kt_M) := (if (4 : Int32) ≤ l4 then kq_b2 (x_actsOn n m μ l3) (fun r_49 μ_49 => kq_b2 (x_goesAlong n m μ_49 l3 (0 : Int32)) (fun r_55 μ_55 => kq_b2 (x_goesAlong n m μ_55 l3 (1 : Int32)) (fun r_65 μ_65 => kq_b1 (x_outcomeOf n r_55 r_65) (fun r_68 => some (r_68, μ_65))))) else kq_ck (kq_in l4 4) (kq_ck (kq_in l4 4) (kq_lt (kt_sl μ (m + 7) (Int32.toNatClampNeg l4) (kt_l μ (m + 8) (Int32.toNatClampNeg l4))) (fun μ_40 => K21 l3 (l4 + 1) μ_40))))
set_option maxHeartbeats 4000000 in
set_option maxRecDepth 100000 in
theorem xw_outcomeAlong_B21 {G : kt_G} {σ : kt_Y} {X : kt_X} (hX : kt_ok G X RX10 cX10_outcomeAlong 5 5 0 0) (hr : kt_rt X = (some .int)) {m : Nat} (hm : kt_md σ m) {n : Nat} {q : (Int32 × kt_M)} {K21 : Int32 → Int32 → kt_M → Option (Int32 × kt_M)} (hK21 : ∀ (l3 : Int32) (l4 : Int32) (μ : kt_M), K21 l3 l4 μ = some q → kt_W G X 5 21 [(0, .ref m), (3, .int l3), (4, .int l4)] [] σ μ 0 0 (kt_Z G X (kt_q σ (fun rv μ2 => rv = some (.int q.1) ∧ μ2 = q.2)) 0 0)) {l3 : Int32} {l4 : Int32} {μ : kt_M} (h : x_outcomeAlong_B21 n m K21 l3 l4 μ = some q) : kt_W G X 5 21 [(0, .ref m), (3, .int l3), (4, .int l4)] [] σ μ 0 0 (kt_Z G X (kt_q σ (fun rv μ2 => rv = some (.int q.1) ∧ μ2 = q.2)) 0 0) := by
  unfold x_outcomeAlong_B21 at h
  refine kr_iload hX dX10_outcomeAlong_21 rfl ?_
  refine kr_iconst (v := 4) hX dX10_outcomeAlong_23 (by decide) ?_
  refine kr_icmp_ge (tgt := 47) hX dX10_outcomeAlong_24 (by decide) (fun c_24 => ?_) (fun c_24 => ?_)
  · replace h := kq_t c_24 h
    refine kr_aload_n (i := 0) hX dX10_outcomeAlong_47 rfl rfl ?_
    refine kr_iload_n (i := 3) hX dX10_outcomeAlong_48 rfl rfl ?_
    obtain ⟨r_49, μ_49, e_49, h⟩ := kq_b2_e h
    refine kr_dV (c1 := 10) [_] hX km_10_245 dX10_outcomeAlong_49 (xs_actsOn hm e_49) rfl rfl ⟨_, _, rfl⟩ (by decide) (Nat.le_of_ble_eq_true rfl) (Nat.le_refl _) (Nat.le_refl _) (md_k hm) ?_
    refine kr_aload_n (i := 0) hX dX10_outcomeAlong_52 rfl rfl ?_
    refine kr_iload_n (i := 3) hX dX10_outcomeAlong_53 rfl rfl ?_
    refine kr_iconst (v := 0) hX dX10_outcomeAlong_54 (by decide) ?_
    obtain ⟨r_55, μ_55, e_55, h⟩ := kq_b2_e h
    refine kr_dV (c1 := 10) [_, _] hX km_10_248 dX10_outcomeAlong_55 (xs_goesAlong hm e_55) rfl rfl ⟨_, _, rfl⟩ (by decide) (Nat.le_of_ble_eq_true rfl) (Nat.le_refl _) (Nat.le_refl _) (md_k hm) ?_
    refine kr_istore hX dX10_outcomeAlong_58 (by decide) rfl rfl ?_
    refine kr_iload hX dX10_outcomeAlong_60 rfl ?_
    refine kr_aload_n (i := 0) hX dX10_outcomeAlong_62 rfl rfl ?_
    refine kr_iload_n (i := 3) hX dX10_outcomeAlong_63 rfl rfl ?_
    refine kr_iconst (v := 1) hX dX10_outcomeAlong_64 (by decide) ?_
    obtain ⟨r_65, μ_65, e_65, h⟩ := kq_b2_e h
    refine kr_dV (c1 := 10) [_, _] hX km_10_248 dX10_outcomeAlong_65 (xs_goesAlong hm e_65) rfl rfl ⟨_, _, rfl⟩ (by decide) (Nat.le_of_ble_eq_true rfl) (Nat.le_refl _) (Nat.le_refl _) (md_k hm) ?_
    obtain ⟨r_68, e_68, h⟩ := kq_b1_e h
    refine kr_dS [_, _] hX km_10_263 dX10_outcomeAlong_68 (xs_outcomeOf e_68) rfl rfl (by decide) (Nat.le_of_ble_eq_true rfl) (Nat.le_refl _) (Nat.le_refl _) ?_
    refine kr_iret hX hr dX10_outcomeAlong_71 ⟨rfl, ?_⟩
    exact kq_rI h
  · replace h := kq_f c_24 h
    refine kr_aload_n (i := 0) hX dX10_outcomeAlong_27 rfl rfl ?_
    refine kr_getr (c0 := 10) (k := 14) hX ⟨_, kf_10_34⟩ dX10_outcomeAlong_28 rfl (md_k hm) (md_r14 hm) ?_
    refine kr_iload hX dX10_outcomeAlong_31 rfl ?_
    refine kr_aload_n (i := 0) hX dX10_outcomeAlong_33 rfl rfl ?_
    refine kr_getr (c0 := 10) (k := 15) hX ⟨_, kf_10_37⟩ dX10_outcomeAlong_34 rfl (md_k hm) (md_r15 hm) ?_
    refine kr_iload hX dX10_outcomeAlong_37 rfl ?_
    obtain ⟨i_39, h⟩ := kq_ck_e h
    refine kr_lald hX dX10_outcomeAlong_39 (md_a8 hm) (vp_in_iff.mpr i_39) ?_
    obtain ⟨i_40, h⟩ := kq_ck_e h
    refine kr_last hX dX10_outcomeAlong_40 (md_a7 hm) (vp_in_iff.mpr i_40) ?_
    refine kr_ltM h (fun μ_40 h => ?_)
    refine kr_iinc (v := (l4 + 1)) hX dX10_outcomeAlong_41 rfl rfl (by decide) rfl rfl ?_
    refine kr_goto (tgt := 21) hX dX10_outcomeAlong_44 (by decide) ?_
    refine kr_keep (lv' := [(0, .ref m), (3, .int l3), (4, .int (l4 + 1))]) [0, 1, 2] rfl ?_
    exact hK21 _ _ _ h
def x_outcomeAlong_L21 (n : Nat) (m : Nat) : Nat → Int32 → Int32 → kt_M → Option (Int32 × kt_M)
  | 0, _, _, _ => none
  | k + 1, l3, l4, μ => x_outcomeAlong_B21 n m (x_outcomeAlong_L21 n m k) l3 l4 μ
set_option maxHeartbeats 4000000 in
set_option maxRecDepth 100000 in
theorem xw_outcomeAlong_L21 {G : kt_G} {σ : kt_Y} {X : kt_X} (hX : kt_ok G X RX10 cX10_outcomeAlong 5 5 0 0) (hr : kt_rt X = (some .int)) {m : Nat} (hm : kt_md σ m) {n : Nat} {q : (Int32 × kt_M)} : ∀ (k : Nat) (l3 : Int32) (l4 : Int32) (μ : kt_M), x_outcomeAlong_L21 n m k l3 l4 μ = some q → kt_W G X 5 21 [(0, .ref m), (3, .int l3), (4, .int l4)] [] σ μ 0 0 (kt_Z G X (kt_q σ (fun rv μ2 => rv = some (.int q.1) ∧ μ2 = q.2)) 0 0) := by
  intro k
  induction k with
  | zero => intro l3 l4 μ h; cases h
  | succ k ih => intro l3 l4 μ h; exact xw_outcomeAlong_B21 hX hr hm ih h
def x_outcomeAlong (n : Nat) (m : Nat) (μ : kt_M) (a0 : Int32) (a1 : Int32) : Option (Int32 × kt_M) := kq_b2 (x_isOpen n m μ a0 a1) (fun r_3 μ_3 => kq_b2 (x_of n m μ_3 (1 : Int32) a0 ((14 : Int32) + a1)) (fun r_14 μ_14 => x_outcomeAlong_L21 n m n r_14 (0 : Int32) μ_14))
set_option maxHeartbeats 4000000 in
set_option maxRecDepth 100000 in
theorem xs_outcomeAlong {G : kt_G} {σ : kt_Y} {μ : kt_M} {m : Nat} (hm : kt_md σ m) {n : Nat} {a0 : Int32} {a1 : Int32} {r : Int32} {μ1 : kt_M} (h : x_outcomeAlong n m μ a0 a1 = some (r, μ1)) : kt_F G yX10_outcomeAlong cX10_outcomeAlong 5 (some .int) 5 [.ref m, .int a0, .int a1] σ μ (fun rv μ2 => rv = some (.int r) ∧ μ2 = μ1) := by
  have key : ∀ q : (Int32 × kt_M), x_outcomeAlong n m μ a0 a1 = some q → kt_F G yX10_outcomeAlong cX10_outcomeAlong 5 (some .int) 5 [.ref m, .int a0, .int a1] σ μ (fun rv μ2 => rv = some (.int q.1) ∧ μ2 = q.2) := by
    intro q h
    unfold x_outcomeAlong at h
    refine kt_F.of (by decide) (Nat.le_of_ble_eq_true rfl) (fun X hX hr => ?_)
    refine kr_aload_n (i := 0) hX dX10_outcomeAlong_0 rfl rfl ?_
    refine kr_iload_n (i := 1) hX dX10_outcomeAlong_1 rfl rfl ?_
    refine kr_iload_n (i := 2) hX dX10_outcomeAlong_2 rfl rfl ?_
    obtain ⟨r_3, μ_3, e_3, h⟩ := kq_b2_e h
    refine kr_dV (c1 := 10) [_, _] hX km_10_260 dX10_outcomeAlong_3 (xs_isOpen hm e_3) rfl rfl ⟨_, _, rfl⟩ (by decide) (Nat.le_of_ble_eq_true rfl) (Nat.le_refl _) (Nat.le_refl _) (md_k hm) ?_
    refine kr_pop hX dX10_outcomeAlong_6 rfl ?_
    refine kr_aload_n (i := 0) hX dX10_outcomeAlong_7 rfl rfl ?_
    refine kr_iconst (v := 1) hX dX10_outcomeAlong_8 (by decide) ?_
    refine kr_iload_n (i := 1) hX dX10_outcomeAlong_9 rfl rfl ?_
    refine kr_bipush (v := 14) hX dX10_outcomeAlong_10 (by decide) ?_
    refine kr_iload_n (i := 2) hX dX10_outcomeAlong_12 rfl rfl ?_
    refine kr_iadd hX dX10_outcomeAlong_13 ?_
    obtain ⟨r_14, μ_14, e_14, h⟩ := kq_b2_e h
    refine kr_dV (c1 := 10) [_, _, _] hX km_10_175 dX10_outcomeAlong_14 (xs_of hm e_14) rfl rfl ⟨_, _, rfl⟩ (by decide) (Nat.le_of_ble_eq_true rfl) (Nat.le_refl _) (Nat.le_refl _) (md_k hm) ?_
    refine kr_istore_n (i := 3) hX dX10_outcomeAlong_17 rfl (by decide) rfl rfl ?_
    refine kr_iconst (v := 0) hX dX10_outcomeAlong_18 (by decide) ?_
    refine kr_istore hX dX10_outcomeAlong_19 (by decide) rfl rfl ?_
    refine kr_keep (lv' := [(0, .ref m), (3, .int r_14), (4, .int (0 : Int32))]) [0, 3, 4] rfl ?_
    exact xw_outcomeAlong_L21 hX hr hm n _ _ _ h
  exact key (r, μ1) h
def x_against (n : Nat) (m : Nat) (μ : kt_M) (a0 : Int32) (a1 : Int32) : Option (Int32 × kt_M) := kq_b2 (x_isOpen n m μ a0 a1) (fun r_3 μ_3 => (if r_3 = 0 then some ((1 : Int32), μ_3) else kq_b2 (x_of n m μ_3 (1 : Int32) a0 ((14 : Int32) + a1)) (fun r_18 μ_18 => kq_b2 (x_of n m μ_18 (1 : Int32) r_18 (13 : Int32)) (fun r_27 μ_27 => kq_b1 (x_isTest n r_27) (fun r_30 => (if r_30 = 0 then some ((2 : Int32), μ_27) else kq_b2 (x_outcomeAlong n m μ_27 a0 a1) (fun r_41 μ_41 => (if r_41 = 0 then some ((3 : Int32), μ_41) else kq_b2 (x_isHead n m μ_41 r_18) (fun r_51 μ_51 => (if r_51 = 0 then kq_b2 (x_of n m μ_51 (1 : Int32) r_18 (0 : Int32)) (fun r_65 μ_65 => (if r_65 ≤ (kt_i μ_65 m 4) then kq_b2 (x_many n m μ_65 (1 : Int32)) (fun r_81 μ_81 => (if r_81 = (16 : Int32) then some ((6 : Int32), μ_81) else some ((0 : Int32), μ_81))) else some ((5 : Int32), μ_65))) else some ((4 : Int32), μ_51)))))))))))
set_option maxHeartbeats 4000000 in
set_option maxRecDepth 100000 in
theorem xs_against {G : kt_G} {σ : kt_Y} {μ : kt_M} {m : Nat} (hm : kt_md σ m) {n : Nat} {a0 : Int32} {a1 : Int32} {r : Int32} {μ1 : kt_M} (h : x_against n m μ a0 a1 = some (r, μ1)) : kt_F G yX10_against cX10_against 4 (some .int) 6 [.ref m, .int a0, .int a1] σ μ (fun rv μ2 => rv = some (.int r) ∧ μ2 = μ1) := by
  have key : ∀ q : (Int32 × kt_M), x_against n m μ a0 a1 = some q → kt_F G yX10_against cX10_against 4 (some .int) 6 [.ref m, .int a0, .int a1] σ μ (fun rv μ2 => rv = some (.int q.1) ∧ μ2 = q.2) := by
    intro q h
    unfold x_against at h
    refine kt_F.of (by decide) (Nat.le_of_ble_eq_true rfl) (fun X hX hr => ?_)
    refine kr_aload_n (i := 0) hX dX10_against_0 rfl rfl ?_
    refine kr_iload_n (i := 1) hX dX10_against_1 rfl rfl ?_
    refine kr_iload_n (i := 2) hX dX10_against_2 rfl rfl ?_
    obtain ⟨r_3, μ_3, e_3, h⟩ := kq_b2_e h
    refine kr_dV (c1 := 10) [_, _] hX km_10_260 dX10_against_3 (xs_isOpen hm e_3) rfl rfl ⟨_, _, rfl⟩ (by decide) (Nat.le_of_ble_eq_true rfl) (Nat.le_refl _) (Nat.le_refl _) (md_k hm) ?_
    refine kr_if_ne (tgt := 11) hX dX10_against_6 (by decide) (fun c_6 => ?_) (fun c_6 => ?_)
    · replace h := kq_f c_6 h
      refine kr_aload_n (i := 0) hX dX10_against_11 rfl rfl ?_
      refine kr_iconst (v := 1) hX dX10_against_12 (by decide) ?_
      refine kr_iload_n (i := 1) hX dX10_against_13 rfl rfl ?_
      refine kr_bipush (v := 14) hX dX10_against_14 (by decide) ?_
      refine kr_iload_n (i := 2) hX dX10_against_16 rfl rfl ?_
      refine kr_iadd hX dX10_against_17 ?_
      obtain ⟨r_18, μ_18, e_18, h⟩ := kq_b2_e h
      refine kr_dV (c1 := 10) [_, _, _] hX km_10_175 dX10_against_18 (xs_of hm e_18) rfl rfl ⟨_, _, rfl⟩ (by decide) (Nat.le_of_ble_eq_true rfl) (Nat.le_refl _) (Nat.le_refl _) (md_k hm) ?_
      refine kr_istore_n (i := 3) hX dX10_against_21 rfl (by decide) rfl rfl ?_
      refine kr_aload_n (i := 0) hX dX10_against_22 rfl rfl ?_
      refine kr_iconst (v := 1) hX dX10_against_23 (by decide) ?_
      refine kr_iload_n (i := 3) hX dX10_against_24 rfl rfl ?_
      refine kr_bipush (v := 13) hX dX10_against_25 (by decide) ?_
      obtain ⟨r_27, μ_27, e_27, h⟩ := kq_b2_e h
      refine kr_dV (c1 := 10) [_, _, _] hX km_10_175 dX10_against_27 (xs_of hm e_27) rfl rfl ⟨_, _, rfl⟩ (by decide) (Nat.le_of_ble_eq_true rfl) (Nat.le_refl _) (Nat.le_refl _) (md_k hm) ?_
      obtain ⟨r_30, e_30, h⟩ := kq_b1_e h
      refine kr_dS [_] hX km_10_188 dX10_against_30 (xs_isTest e_30) rfl rfl (by decide) (Nat.le_of_ble_eq_true rfl) (Nat.le_refl _) (Nat.le_refl _) ?_
      refine kr_if_ne (tgt := 38) hX dX10_against_33 (by decide) (fun c_33 => ?_) (fun c_33 => ?_)
      · replace h := kq_f c_33 h
        refine kr_aload_n (i := 0) hX dX10_against_38 rfl rfl ?_
        refine kr_iload_n (i := 1) hX dX10_against_39 rfl rfl ?_
        refine kr_iload_n (i := 2) hX dX10_against_40 rfl rfl ?_
        obtain ⟨r_41, μ_41, e_41, h⟩ := kq_b2_e h
        refine kr_dV (c1 := 10) [_, _] hX km_10_284 dX10_against_41 (xs_outcomeAlong hm e_41) rfl rfl ⟨_, _, rfl⟩ (by decide) (Nat.le_of_ble_eq_true rfl) (Nat.le_refl _) (Nat.le_refl _) (md_k hm) ?_
        refine kr_if_ne (tgt := 49) hX dX10_against_44 (by decide) (fun c_44 => ?_) (fun c_44 => ?_)
        · replace h := kq_f c_44 h
          refine kr_aload_n (i := 0) hX dX10_against_49 rfl rfl ?_
          refine kr_iload_n (i := 3) hX dX10_against_50 rfl rfl ?_
          obtain ⟨r_51, μ_51, e_51, h⟩ := kq_b2_e h
          refine kr_dV (c1 := 10) [_] hX km_10_293 dX10_against_51 (xs_isHead hm e_51) rfl rfl ⟨_, _, rfl⟩ (by decide) (Nat.le_of_ble_eq_true rfl) (Nat.le_refl _) (Nat.le_refl _) (md_k hm) ?_
          refine kr_if_eq (tgt := 61) hX dX10_against_54 (by decide) (fun c_54 => ?_) (fun c_54 => ?_)
          · replace h := kq_t c_54 h
            refine kr_aload_n (i := 0) hX dX10_against_61 rfl rfl ?_
            refine kr_iconst (v := 1) hX dX10_against_62 (by decide) ?_
            refine kr_iload_n (i := 3) hX dX10_against_63 rfl rfl ?_
            refine kr_iconst (v := 0) hX dX10_against_64 (by decide) ?_
            obtain ⟨r_65, μ_65, e_65, h⟩ := kq_b2_e h
            refine kr_dV (c1 := 10) [_, _, _] hX km_10_175 dX10_against_65 (xs_of hm e_65) rfl rfl ⟨_, _, rfl⟩ (by decide) (Nat.le_of_ble_eq_true rfl) (Nat.le_refl _) (Nat.le_refl _) (md_k hm) ?_
            refine kr_aload_n (i := 0) hX dX10_against_68 rfl rfl ?_
            refine kr_geti (c0 := 10) (k := 4) hX ⟨_, kf_10_23⟩ dX10_against_69 rfl (md_k hm) ?_
            refine kr_icmp_le (tgt := 79) hX dX10_against_72 (by decide) (fun c_72 => ?_) (fun c_72 => ?_)
            · replace h := kq_t c_72 h
              refine kr_aload_n (i := 0) hX dX10_against_79 rfl rfl ?_
              refine kr_iconst (v := 1) hX dX10_against_80 (by decide) ?_
              obtain ⟨r_81, μ_81, e_81, h⟩ := kq_b2_e h
              refine kr_dV (c1 := 10) [_] hX km_10_172 dX10_against_81 (xs_many hm e_81) rfl rfl ⟨_, _, rfl⟩ (by decide) (Nat.le_of_ble_eq_true rfl) (Nat.le_refl _) (Nat.le_refl _) (md_k hm) ?_
              refine kr_bipush (v := 16) hX dX10_against_84 (by decide) ?_
              refine kr_icmp_ne (tgt := 94) hX dX10_against_86 (by decide) (fun c_86 => ?_) (fun c_86 => ?_)
              · replace h := kq_f c_86 h
                refine kr_iconst (v := 0) hX dX10_against_94 (by decide) ?_
                refine kr_iret hX hr dX10_against_95 ⟨rfl, ?_⟩
                exact kq_rI h
              · replace h := kq_t c_86 h
                refine kr_bipush (v := 6) hX dX10_against_89 (by decide) ?_
                refine kr_goto (tgt := 95) hX dX10_against_91 (by decide) ?_
                refine kr_iret hX hr dX10_against_95 ⟨rfl, ?_⟩
                exact kq_rI h
            · replace h := kq_f c_72 h
              refine kr_iconst (v := 5) hX dX10_against_75 (by decide) ?_
              refine kr_goto (tgt := 95) hX dX10_against_76 (by decide) ?_
              refine kr_iret hX hr dX10_against_95 ⟨rfl, ?_⟩
              exact kq_rI h
          · replace h := kq_f c_54 h
            refine kr_iconst (v := 4) hX dX10_against_57 (by decide) ?_
            refine kr_goto (tgt := 95) hX dX10_against_58 (by decide) ?_
            refine kr_iret hX hr dX10_against_95 ⟨rfl, ?_⟩
            exact kq_rI h
        · replace h := kq_t c_44 h
          refine kr_iconst (v := 3) hX dX10_against_47 (by decide) ?_
          refine kr_iret hX hr dX10_against_48 ⟨rfl, ?_⟩
          exact kq_rI h
      · replace h := kq_t c_33 h
        refine kr_iconst (v := 2) hX dX10_against_36 (by decide) ?_
        refine kr_iret hX hr dX10_against_37 ⟨rfl, ?_⟩
        exact kq_rI h
    · replace h := kq_t c_6 h
      refine kr_iconst (v := 1) hX dX10_against_9 (by decide) ?_
      refine kr_iret hX hr dX10_against_10 ⟨rfl, ?_⟩
      exact kq_rI h
  exact key (r, μ1) h
def x_brings_J83 (n : Nat) (m : Nat) (K30 : Int32 → Int32 → Int32 → kt_M → Option (Int32 × kt_M)) (l3 : Int32) (l5 : Int32) (l6 : Int64) (s0 : Int32) (μ : kt_M) : Option (Int32 × kt_M) := kq_ck (kq_in (l3 + l5) 64) (kq_lt (kt_sl μ (m + 6) (Int32.toNatClampNeg (l3 + l5)) l6) (fun μ_95 => K30 l3 s0 (l5 + 1) μ_95))
set_option maxHeartbeats 4000000 in
set_option maxRecDepth 100000 in
theorem xw_brings_J83 {G : kt_G} {σ : kt_Y} {X : kt_X} (hX : kt_ok G X RX10 cX10_brings 8 4 0 0) (hr : kt_rt X = (some .boolean)) {m : Nat} (hm : kt_md σ m) {n : Nat} {q : (Int32 × kt_M)} {K30 : Int32 → Int32 → Int32 → kt_M → Option (Int32 × kt_M)} (hK30 : ∀ (l3 : Int32) (l4 : Int32) (l5 : Int32) (μ : kt_M), K30 l3 l4 l5 μ = some q → kt_W G X 8 30 [(0, .ref m), (3, .int l3), (4, .int l4), (5, .int l5)] [] σ μ 0 0 (kt_Z G X (kt_q σ (fun rv μ2 => rv = some (.int q.1) ∧ μ2 = q.2)) 0 0)) {l3 : Int32} {l5 : Int32} {l6 : Int64} {s0 : Int32} {μ : kt_M} (h : x_brings_J83 n m K30 l3 l5 l6 s0 μ = some q) : kt_W G X 8 83 [(0, .ref m), (3, .int l3), (5, .int l5), (6, .long l6)] [.int s0] σ μ 0 0 (kt_Z G X (kt_q σ (fun rv μ2 => rv = some (.int q.1) ∧ μ2 = q.2)) 0 0) := by
  unfold x_brings_J83 at h
  refine kr_istore hX dX10_brings_83 (by decide) rfl rfl ?_
  refine kr_aload_n (i := 0) hX dX10_brings_85 rfl rfl ?_
  refine kr_getr (c0 := 10) (k := 13) hX ⟨_, kf_10_30⟩ dX10_brings_86 rfl (md_k hm) (md_r13 hm) ?_
  refine kr_iload_n (i := 3) hX dX10_brings_89 rfl rfl ?_
  refine kr_iload hX dX10_brings_90 rfl ?_
  refine kr_iadd hX dX10_brings_92 ?_
  refine kr_lload hX dX10_brings_93 rfl ?_
  obtain ⟨i_95, h⟩ := kq_ck_e h
  refine kr_last hX dX10_brings_95 (md_a6 hm) (vp_in_iff.mpr i_95) ?_
  refine kr_ltM h (fun μ_95 h => ?_)
  refine kr_iinc (v := (l5 + 1)) hX dX10_brings_96 rfl rfl (by decide) rfl rfl ?_
  refine kr_goto (tgt := 30) hX dX10_brings_99 (by decide) ?_
  refine kr_keep (lv' := [(0, .ref m), (3, .int l3), (4, .int s0), (5, .int (l5 + 1))]) [0, 1, 4, 2] rfl ?_
  exact hK30 _ _ _ _ h
def x_brings_B30 (n : Nat) (m : Nat) (K30 : Int32 → Int32 → Int32 → kt_M → Option (Int32 × kt_M)) (l3 : Int32) (l4 : Int32) (l5 : Int32) (μ : kt_M) : Option (Int32 × kt_M) := (if (4 : Int32) ≤ l5 then kq_ck (l4 = 0 ∨ l4 = 1) (some (l4, μ)) else kq_ck (kq_in (l3 + l5) 64) (kq_ck (kq_in l5 4) (kq_b1 (x_filled n ((kt_l μ (m + 6) (Int32.toNatClampNeg (l3 + l5))) ||| (kt_l μ (m + 8) (Int32.toNatClampNeg l5)))) (fun r_53 => (if l4 = 0 then kq_ck (kq_in (l3 + l5) 64) ((if (lg_cmp r_53 (kt_l μ (m + 6) (Int32.toNatClampNeg (l3 + l5)))) = 0 then x_brings_J83 n m K30 l3 l5 r_53 (0 : Int32) μ else x_brings_J83 n m K30 l3 l5 r_53 (1 : Int32) μ)) else x_brings_J83 n m K30 l3 l5 r_53 (1 : Int32) μ)))))
set_option maxHeartbeats 4000000 in
set_option maxRecDepth 100000 in
theorem xw_brings_B30 {G : kt_G} {σ : kt_Y} {X : kt_X} (hX : kt_ok G X RX10 cX10_brings 8 4 0 0) (hr : kt_rt X = (some .boolean)) {m : Nat} (hm : kt_md σ m) {n : Nat} {q : (Int32 × kt_M)} {K30 : Int32 → Int32 → Int32 → kt_M → Option (Int32 × kt_M)} (hK30 : ∀ (l3 : Int32) (l4 : Int32) (l5 : Int32) (μ : kt_M), K30 l3 l4 l5 μ = some q → kt_W G X 8 30 [(0, .ref m), (3, .int l3), (4, .int l4), (5, .int l5)] [] σ μ 0 0 (kt_Z G X (kt_q σ (fun rv μ2 => rv = some (.int q.1) ∧ μ2 = q.2)) 0 0)) {l3 : Int32} {l4 : Int32} {l5 : Int32} {μ : kt_M} (h : x_brings_B30 n m K30 l3 l4 l5 μ = some q) : kt_W G X 8 30 [(0, .ref m), (3, .int l3), (4, .int l4), (5, .int l5)] [] σ μ 0 0 (kt_Z G X (kt_q σ (fun rv μ2 => rv = some (.int q.1) ∧ μ2 = q.2)) 0 0) := by
  unfold x_brings_B30 at h
  refine kr_iload hX dX10_brings_30 rfl ?_
  refine kr_iconst (v := 4) hX dX10_brings_32 (by decide) ?_
  refine kr_icmp_ge (tgt := 102) hX dX10_brings_33 (by decide) (fun c_33 => ?_) (fun c_33 => ?_)
  · replace h := kq_t c_33 h
    refine kr_iload hX dX10_brings_102 rfl ?_
    obtain ⟨z_104, h⟩ := kq_ck_e h
    refine kr_zret hX hr z_104 dX10_brings_104 ⟨rfl, ?_⟩
    exact kq_rI h
  · replace h := kq_f c_33 h
    refine kr_aload_n (i := 0) hX dX10_brings_36 rfl rfl ?_
    refine kr_getr (c0 := 10) (k := 13) hX ⟨_, kf_10_30⟩ dX10_brings_37 rfl (md_k hm) (md_r13 hm) ?_
    refine kr_iload_n (i := 3) hX dX10_brings_40 rfl rfl ?_
    refine kr_iload hX dX10_brings_41 rfl ?_
    refine kr_iadd hX dX10_brings_43 ?_
    obtain ⟨i_44, h⟩ := kq_ck_e h
    refine kr_lald hX dX10_brings_44 (md_a6 hm) (vp_in_iff.mpr i_44) ?_
    refine kr_aload_n (i := 0) hX dX10_brings_45 rfl rfl ?_
    refine kr_getr (c0 := 10) (k := 15) hX ⟨_, kf_10_37⟩ dX10_brings_46 rfl (md_k hm) (md_r15 hm) ?_
    refine kr_iload hX dX10_brings_49 rfl ?_
    obtain ⟨i_51, h⟩ := kq_ck_e h
    refine kr_lald hX dX10_brings_51 (md_a8 hm) (vp_in_iff.mpr i_51) ?_
    refine kr_lor hX dX10_brings_52 ?_
    obtain ⟨r_53, e_53, h⟩ := kq_b1_e h
    refine kr_dS [_] hX km_10_230 dX10_brings_53 (xs_filled e_53) rfl rfl (by decide) (Nat.le_of_ble_eq_true rfl) (Nat.le_refl _) (Nat.le_refl _) ?_
    refine kr_lstore hX dX10_brings_56 (by decide) rfl rfl ?_
    refine kr_iload hX dX10_brings_58 rfl ?_
    refine kr_if_ne (tgt := 78) hX dX10_brings_60 (by decide) (fun c_60 => ?_) (fun c_60 => ?_)
    · replace h := kq_f c_60 h
      refine kr_iconst (v := 1) hX dX10_brings_78 (by decide) ?_
      refine kr_goto (tgt := 83) hX dX10_brings_79 (by decide) ?_
      refine kr_keep (lv' := [(0, .ref m), (3, .int l3), (5, .int l5), (6, .long r_53)]) [0, 1, 3, 4] rfl ?_
      exact xw_brings_J83 hX hr hm hK30 h
    · replace h := kq_t c_60 h
      refine kr_lload hX dX10_brings_63 rfl ?_
      refine kr_aload_n (i := 0) hX dX10_brings_65 rfl rfl ?_
      refine kr_getr (c0 := 10) (k := 13) hX ⟨_, kf_10_30⟩ dX10_brings_66 rfl (md_k hm) (md_r13 hm) ?_
      refine kr_iload_n (i := 3) hX dX10_brings_69 rfl rfl ?_
      refine kr_iload hX dX10_brings_70 rfl ?_
      refine kr_iadd hX dX10_brings_72 ?_
      obtain ⟨i_73, h⟩ := kq_ck_e h
      refine kr_lald hX dX10_brings_73 (md_a6 hm) (vp_in_iff.mpr i_73) ?_
      refine kr_lcmp hX dX10_brings_74 ?_
      refine kr_if_eq (tgt := 82) hX dX10_brings_75 (by decide) (fun c_75 => ?_) (fun c_75 => ?_)
      · replace h := kq_t c_75 h
        refine kr_iconst (v := 0) hX dX10_brings_82 (by decide) ?_
        refine kr_keep (lv' := [(0, .ref m), (3, .int l3), (5, .int l5), (6, .long r_53)]) [0, 1, 3, 4] rfl ?_
        exact xw_brings_J83 hX hr hm hK30 h
      · replace h := kq_f c_75 h
        refine kr_iconst (v := 1) hX dX10_brings_78 (by decide) ?_
        refine kr_goto (tgt := 83) hX dX10_brings_79 (by decide) ?_
        refine kr_keep (lv' := [(0, .ref m), (3, .int l3), (5, .int l5), (6, .long r_53)]) [0, 1, 3, 4] rfl ?_
        exact xw_brings_J83 hX hr hm hK30 h
def x_brings_L30 (n : Nat) (m : Nat) : Nat → Int32 → Int32 → Int32 → kt_M → Option (Int32 × kt_M)
  | 0, _, _, _, _ => none
  | k + 1, l3, l4, l5, μ => x_brings_B30 n m (x_brings_L30 n m k) l3 l4 l5 μ
set_option maxHeartbeats 4000000 in
set_option maxRecDepth 100000 in
theorem xw_brings_L30 {G : kt_G} {σ : kt_Y} {X : kt_X} (hX : kt_ok G X RX10 cX10_brings 8 4 0 0) (hr : kt_rt X = (some .boolean)) {m : Nat} (hm : kt_md σ m) {n : Nat} {q : (Int32 × kt_M)} : ∀ (k : Nat) (l3 : Int32) (l4 : Int32) (l5 : Int32) (μ : kt_M), x_brings_L30 n m k l3 l4 l5 μ = some q → kt_W G X 8 30 [(0, .ref m), (3, .int l3), (4, .int l4), (5, .int l5)] [] σ μ 0 0 (kt_Z G X (kt_q σ (fun rv μ2 => rv = some (.int q.1) ∧ μ2 = q.2)) 0 0) := by
  intro k
  induction k with
  | zero => intro l3 l4 l5 μ h; cases h
  | succ k ih => intro l3 l4 l5 μ h; exact xw_brings_B30 hX hr hm ih h
def x_brings (n : Nat) (m : Nat) (μ : kt_M) (a0 : Int32) (a1 : Int32) : Option (Int32 × kt_M) := kq_b2 (x_goesAlong n m μ a0 a1) (fun r_3 μ_3 => (if r_3 = 0 then some ((0 : Int32), μ_3) else kq_b2 (x_of n m μ_3 (1 : Int32) a0 ((14 : Int32) + a1)) (fun r_19 μ_19 => x_brings_L30 n m n ((4 : Int32) * r_19) (0 : Int32) (0 : Int32) μ_19)))
set_option maxHeartbeats 4000000 in
set_option maxRecDepth 100000 in
theorem xs_brings {G : kt_G} {σ : kt_Y} {μ : kt_M} {m : Nat} (hm : kt_md σ m) {n : Nat} {a0 : Int32} {a1 : Int32} {r : Int32} {μ1 : kt_M} (h : x_brings n m μ a0 a1 = some (r, μ1)) : kt_F G yX10_brings cX10_brings 8 (some .boolean) 4 [.ref m, .int a0, .int a1] σ μ (fun rv μ2 => rv = some (.int r) ∧ μ2 = μ1) := by
  have key : ∀ q : (Int32 × kt_M), x_brings n m μ a0 a1 = some q → kt_F G yX10_brings cX10_brings 8 (some .boolean) 4 [.ref m, .int a0, .int a1] σ μ (fun rv μ2 => rv = some (.int q.1) ∧ μ2 = q.2) := by
    intro q h
    unfold x_brings at h
    refine kt_F.of (by decide) (Nat.le_of_ble_eq_true rfl) (fun X hX hr => ?_)
    refine kr_aload_n (i := 0) hX dX10_brings_0 rfl rfl ?_
    refine kr_iload_n (i := 1) hX dX10_brings_1 rfl rfl ?_
    refine kr_iload_n (i := 2) hX dX10_brings_2 rfl rfl ?_
    obtain ⟨r_3, μ_3, e_3, h⟩ := kq_b2_e h
    refine kr_dV (c1 := 10) [_, _] hX km_10_248 dX10_brings_3 (xs_goesAlong hm e_3) rfl rfl ⟨_, _, rfl⟩ (by decide) (Nat.le_of_ble_eq_true rfl) (Nat.le_refl _) (Nat.le_refl _) (md_k hm) ?_
    refine kr_if_ne (tgt := 11) hX dX10_brings_6 (by decide) (fun c_6 => ?_) (fun c_6 => ?_)
    · replace h := kq_f c_6 h
      refine kr_iconst (v := 4) hX dX10_brings_11 (by decide) ?_
      refine kr_aload_n (i := 0) hX dX10_brings_12 rfl rfl ?_
      refine kr_iconst (v := 1) hX dX10_brings_13 (by decide) ?_
      refine kr_iload_n (i := 1) hX dX10_brings_14 rfl rfl ?_
      refine kr_bipush (v := 14) hX dX10_brings_15 (by decide) ?_
      refine kr_iload_n (i := 2) hX dX10_brings_17 rfl rfl ?_
      refine kr_iadd hX dX10_brings_18 ?_
      obtain ⟨r_19, μ_19, e_19, h⟩ := kq_b2_e h
      refine kr_dV (c1 := 10) [_, _, _] hX km_10_175 dX10_brings_19 (xs_of hm e_19) rfl rfl ⟨_, _, rfl⟩ (by decide) (Nat.le_of_ble_eq_true rfl) (Nat.le_refl _) (Nat.le_refl _) (md_k hm) ?_
      refine kr_imul hX dX10_brings_22 ?_
      refine kr_istore_n (i := 3) hX dX10_brings_23 rfl (by decide) rfl rfl ?_
      refine kr_iconst (v := 0) hX dX10_brings_24 (by decide) ?_
      refine kr_istore hX dX10_brings_25 (by decide) rfl rfl ?_
      refine kr_iconst (v := 0) hX dX10_brings_27 (by decide) ?_
      refine kr_istore hX dX10_brings_28 (by decide) rfl rfl ?_
      refine kr_keep (lv' := [(0, .ref m), (3, .int ((4 : Int32) * r_19)), (4, .int (0 : Int32)), (5, .int (0 : Int32))]) [0, 3, 4, 5] rfl ?_
      exact xw_brings_L30 hX hr hm n _ _ _ _ h
    · replace h := kq_t c_6 h
      refine kr_iconst (v := 0) hX dX10_brings_9 (by decide) ?_
      refine kr_zret hX hr (by decide) dX10_brings_10 ⟨rfl, ?_⟩
      exact kq_rI h
  exact key (r, μ1) h
def x_findRanges_B72 (n : Nat) (m : Nat) (K53 : Int32 → kt_M → Option (Unit × kt_M)) (K61 : Int32 → Int32 → kt_M → Option (Unit × kt_M)) (K72 : Int32 → Int32 → Int32 → kt_M → Option (Unit × kt_M)) (l1 : Int32) (l2 : Int32) (l3 : Int32) (μ : kt_M) : Option (Unit × kt_M) := kq_b2 (x_edgesOf n m μ (1 : Int32) l2) (fun r_76 μ_76 => (if r_76 ≤ l3 then K61 l1 (l2 + 1) μ_76 else kq_b2 (x_isReached n m μ_76 l2) (fun r_84 μ_84 => (if r_84 = 0 then K61 l1 (l2 + 1) μ_84 else kq_b2 (x_comesTo n m μ_84 l2) (fun r_92 μ_92 => kq_b2 (x_brings n m μ_92 l2 l3) (fun r_98 μ_98 => (if r_98 = 0 then (if l1 = 0 then K72 (0 : Int32) l2 (l3 + 1) μ_98 else K72 (1 : Int32) l2 (l3 + 1) μ_98) else K72 (1 : Int32) l2 (l3 + 1) μ_98)))))))
set_option maxHeartbeats 4000000 in
set_option maxRecDepth 100000 in
theorem xw_findRanges_B72 {G : kt_G} {σ : kt_Y} {X : kt_X} (hX : kt_ok G X RX10 cX10_findRanges 4 5 0 0) (hr : kt_rt X = none) {m : Nat} (hm : kt_md σ m) {n : Nat} {q : (Unit × kt_M)} {K53 : Int32 → kt_M → Option (Unit × kt_M)} (hK53 : ∀ (l1 : Int32) (μ : kt_M), K53 l1 μ = some q → kt_W G X 4 53 [(0, .ref m), (1, .int l1)] [] σ μ 0 0 (kt_Z G X (kt_q σ (fun rv μ2 => rv = none ∧ μ2 = q.2)) 0 0)) {K61 : Int32 → Int32 → kt_M → Option (Unit × kt_M)} (hK61 : ∀ (l1 : Int32) (l2 : Int32) (μ : kt_M), K61 l1 l2 μ = some q → kt_W G X 4 61 [(0, .ref m), (1, .int l1), (2, .int l2)] [] σ μ 0 0 (kt_Z G X (kt_q σ (fun rv μ2 => rv = none ∧ μ2 = q.2)) 0 0)) {K72 : Int32 → Int32 → Int32 → kt_M → Option (Unit × kt_M)} (hK72 : ∀ (l1 : Int32) (l2 : Int32) (l3 : Int32) (μ : kt_M), K72 l1 l2 l3 μ = some q → kt_W G X 4 72 [(0, .ref m), (1, .int l1), (2, .int l2), (3, .int l3)] [] σ μ 0 0 (kt_Z G X (kt_q σ (fun rv μ2 => rv = none ∧ μ2 = q.2)) 0 0)) {l1 : Int32} {l2 : Int32} {l3 : Int32} {μ : kt_M} (h : x_findRanges_B72 n m K53 K61 K72 l1 l2 l3 μ = some q) : kt_W G X 4 72 [(0, .ref m), (1, .int l1), (2, .int l2), (3, .int l3)] [] σ μ 0 0 (kt_Z G X (kt_q σ (fun rv μ2 => rv = none ∧ μ2 = q.2)) 0 0) := by
  unfold x_findRanges_B72 at h
  refine kr_iload_n (i := 3) hX dX10_findRanges_72 rfl rfl ?_
  refine kr_aload_n (i := 0) hX dX10_findRanges_73 rfl rfl ?_
  refine kr_iconst (v := 1) hX dX10_findRanges_74 (by decide) ?_
  refine kr_iload_n (i := 2) hX dX10_findRanges_75 rfl rfl ?_
  obtain ⟨r_76, μ_76, e_76, h⟩ := kq_b2_e h
  refine kr_dV (c1 := 10) [_, _] hX km_10_182 dX10_findRanges_76 (xs_edgesOf hm e_76) rfl rfl ⟨_, _, rfl⟩ (by decide) (Nat.le_of_ble_eq_true rfl) (Nat.le_refl _) (Nat.le_refl _) (md_k hm) ?_
  refine kr_icmp_ge (tgt := 120) hX dX10_findRanges_79 (by decide) (fun c_79 => ?_) (fun c_79 => ?_)
  · replace h := kq_t c_79 h
    refine kr_iinc (v := (l2 + 1)) hX dX10_findRanges_120 rfl rfl (by decide) rfl rfl ?_
    refine kr_goto (tgt := 61) hX dX10_findRanges_123 (by decide) ?_
    refine kr_keep (lv' := [(0, .ref m), (1, .int l1), (2, .int (l2 + 1))]) [0, 1, 2] rfl ?_
    exact hK61 _ _ _ h
  · replace h := kq_f c_79 h
    refine kr_aload_n (i := 0) hX dX10_findRanges_82 rfl rfl ?_
    refine kr_iload_n (i := 2) hX dX10_findRanges_83 rfl rfl ?_
    obtain ⟨r_84, μ_84, e_84, h⟩ := kq_b2_e h
    refine kr_dV (c1 := 10) [_] hX km_10_251 dX10_findRanges_84 (xs_isReached hm e_84) rfl rfl ⟨_, _, rfl⟩ (by decide) (Nat.le_of_ble_eq_true rfl) (Nat.le_refl _) (Nat.le_refl _) (md_k hm) ?_
    refine kr_if_eq (tgt := 120) hX dX10_findRanges_87 (by decide) (fun c_87 => ?_) (fun c_87 => ?_)
    · replace h := kq_t c_87 h
      refine kr_iinc (v := (l2 + 1)) hX dX10_findRanges_120 rfl rfl (by decide) rfl rfl ?_
      refine kr_goto (tgt := 61) hX dX10_findRanges_123 (by decide) ?_
      refine kr_keep (lv' := [(0, .ref m), (1, .int l1), (2, .int (l2 + 1))]) [0, 1, 2] rfl ?_
      exact hK61 _ _ _ h
    · replace h := kq_f c_87 h
      refine kr_aload_n (i := 0) hX dX10_findRanges_90 rfl rfl ?_
      refine kr_iload_n (i := 2) hX dX10_findRanges_91 rfl rfl ?_
      obtain ⟨r_92, μ_92, e_92, h⟩ := kq_b2_e h
      refine kr_dV (c1 := 10) [_] hX km_10_254 dX10_findRanges_92 (xs_comesTo hm e_92) rfl rfl ⟨_, _, rfl⟩ (by decide) (Nat.le_of_ble_eq_true rfl) (Nat.le_refl _) (Nat.le_refl _) (md_k hm) ?_
      refine kr_aload_n (i := 0) hX dX10_findRanges_95 rfl rfl ?_
      refine kr_iload_n (i := 2) hX dX10_findRanges_96 rfl rfl ?_
      refine kr_iload_n (i := 3) hX dX10_findRanges_97 rfl rfl ?_
      obtain ⟨r_98, μ_98, e_98, h⟩ := kq_b2_e h
      refine kr_dV (c1 := 10) [_, _] hX km_10_257 dX10_findRanges_98 (xs_brings hm e_98) rfl rfl ⟨_, _, rfl⟩ (by decide) (Nat.le_of_ble_eq_true rfl) (Nat.le_refl _) (Nat.le_refl _) (md_k hm) ?_
      refine kr_if_ne (tgt := 108) hX dX10_findRanges_101 (by decide) (fun c_101 => ?_) (fun c_101 => ?_)
      · replace h := kq_f c_101 h
        refine kr_iconst (v := 1) hX dX10_findRanges_108 (by decide) ?_
        refine kr_goto (tgt := 113) hX dX10_findRanges_109 (by decide) ?_
        refine kr_istore_n (i := 1) hX dX10_findRanges_113 rfl (by decide) rfl rfl ?_
        refine kr_iinc (v := (l3 + 1)) hX dX10_findRanges_114 rfl rfl (by decide) rfl rfl ?_
        refine kr_goto (tgt := 72) hX dX10_findRanges_117 (by decide) ?_
        refine kr_keep (lv' := [(0, .ref m), (1, .int (1 : Int32)), (2, .int l2), (3, .int (l3 + 1))]) [0, 1, 2, 3] rfl ?_
        exact hK72 _ _ _ _ h
      · replace h := kq_t c_101 h
        refine kr_iload_n (i := 1) hX dX10_findRanges_104 rfl rfl ?_
        refine kr_if_eq (tgt := 112) hX dX10_findRanges_105 (by decide) (fun c_105 => ?_) (fun c_105 => ?_)
        · replace h := kq_t c_105 h
          refine kr_iconst (v := 0) hX dX10_findRanges_112 (by decide) ?_
          refine kr_istore_n (i := 1) hX dX10_findRanges_113 rfl (by decide) rfl rfl ?_
          refine kr_iinc (v := (l3 + 1)) hX dX10_findRanges_114 rfl rfl (by decide) rfl rfl ?_
          refine kr_goto (tgt := 72) hX dX10_findRanges_117 (by decide) ?_
          refine kr_keep (lv' := [(0, .ref m), (1, .int (0 : Int32)), (2, .int l2), (3, .int (l3 + 1))]) [0, 1, 2, 3] rfl ?_
          exact hK72 _ _ _ _ h
        · replace h := kq_f c_105 h
          refine kr_iconst (v := 1) hX dX10_findRanges_108 (by decide) ?_
          refine kr_goto (tgt := 113) hX dX10_findRanges_109 (by decide) ?_
          refine kr_istore_n (i := 1) hX dX10_findRanges_113 rfl (by decide) rfl rfl ?_
          refine kr_iinc (v := (l3 + 1)) hX dX10_findRanges_114 rfl rfl (by decide) rfl rfl ?_
          refine kr_goto (tgt := 72) hX dX10_findRanges_117 (by decide) ?_
          refine kr_keep (lv' := [(0, .ref m), (1, .int (1 : Int32)), (2, .int l2), (3, .int (l3 + 1))]) [0, 1, 2, 3] rfl ?_
          exact hK72 _ _ _ _ h
def x_findRanges_L72 (n : Nat) (m : Nat) (K53 : Int32 → kt_M → Option (Unit × kt_M)) (K61 : Int32 → Int32 → kt_M → Option (Unit × kt_M)) : Nat → Int32 → Int32 → Int32 → kt_M → Option (Unit × kt_M)
  | 0, _, _, _, _ => none
  | k + 1, l1, l2, l3, μ => x_findRanges_B72 n m K53 K61 (x_findRanges_L72 n m K53 K61 k) l1 l2 l3 μ
set_option maxHeartbeats 4000000 in
set_option maxRecDepth 100000 in
theorem xw_findRanges_L72 {G : kt_G} {σ : kt_Y} {X : kt_X} (hX : kt_ok G X RX10 cX10_findRanges 4 5 0 0) (hr : kt_rt X = none) {m : Nat} (hm : kt_md σ m) {n : Nat} {q : (Unit × kt_M)} {K53 : Int32 → kt_M → Option (Unit × kt_M)} (hK53 : ∀ (l1 : Int32) (μ : kt_M), K53 l1 μ = some q → kt_W G X 4 53 [(0, .ref m), (1, .int l1)] [] σ μ 0 0 (kt_Z G X (kt_q σ (fun rv μ2 => rv = none ∧ μ2 = q.2)) 0 0)) {K61 : Int32 → Int32 → kt_M → Option (Unit × kt_M)} (hK61 : ∀ (l1 : Int32) (l2 : Int32) (μ : kt_M), K61 l1 l2 μ = some q → kt_W G X 4 61 [(0, .ref m), (1, .int l1), (2, .int l2)] [] σ μ 0 0 (kt_Z G X (kt_q σ (fun rv μ2 => rv = none ∧ μ2 = q.2)) 0 0)) : ∀ (k : Nat) (l1 : Int32) (l2 : Int32) (l3 : Int32) (μ : kt_M), x_findRanges_L72 n m K53 K61 k l1 l2 l3 μ = some q → kt_W G X 4 72 [(0, .ref m), (1, .int l1), (2, .int l2), (3, .int l3)] [] σ μ 0 0 (kt_Z G X (kt_q σ (fun rv μ2 => rv = none ∧ μ2 = q.2)) 0 0) := by
  intro k
  induction k with
  | zero => intro l1 l2 l3 μ h; cases h
  | succ k ih => intro l1 l2 l3 μ h; exact xw_findRanges_B72 hX hr hm hK53 hK61 ih h
def x_findRanges_B61 (n : Nat) (m : Nat) (K53 : Int32 → kt_M → Option (Unit × kt_M)) (K61 : Int32 → Int32 → kt_M → Option (Unit × kt_M)) (l1 : Int32) (l2 : Int32) (μ : kt_M) : Option (Unit × kt_M) := kq_b2 (x_many n m μ (1 : Int32)) (fun r_64 μ_64 => (if r_64 ≤ l2 then K53 l1 μ_64 else x_findRanges_L72 n m K53 K61 n l1 l2 (0 : Int32) μ_64))
set_option maxHeartbeats 4000000 in
set_option maxRecDepth 100000 in
theorem xw_findRanges_B61 {G : kt_G} {σ : kt_Y} {X : kt_X} (hX : kt_ok G X RX10 cX10_findRanges 4 5 0 0) (hr : kt_rt X = none) {m : Nat} (hm : kt_md σ m) {n : Nat} {q : (Unit × kt_M)} {K53 : Int32 → kt_M → Option (Unit × kt_M)} (hK53 : ∀ (l1 : Int32) (μ : kt_M), K53 l1 μ = some q → kt_W G X 4 53 [(0, .ref m), (1, .int l1)] [] σ μ 0 0 (kt_Z G X (kt_q σ (fun rv μ2 => rv = none ∧ μ2 = q.2)) 0 0)) {K61 : Int32 → Int32 → kt_M → Option (Unit × kt_M)} (hK61 : ∀ (l1 : Int32) (l2 : Int32) (μ : kt_M), K61 l1 l2 μ = some q → kt_W G X 4 61 [(0, .ref m), (1, .int l1), (2, .int l2)] [] σ μ 0 0 (kt_Z G X (kt_q σ (fun rv μ2 => rv = none ∧ μ2 = q.2)) 0 0)) {l1 : Int32} {l2 : Int32} {μ : kt_M} (h : x_findRanges_B61 n m K53 K61 l1 l2 μ = some q) : kt_W G X 4 61 [(0, .ref m), (1, .int l1), (2, .int l2)] [] σ μ 0 0 (kt_Z G X (kt_q σ (fun rv μ2 => rv = none ∧ μ2 = q.2)) 0 0) := by
  unfold x_findRanges_B61 at h
  refine kr_iload_n (i := 2) hX dX10_findRanges_61 rfl rfl ?_
  refine kr_aload_n (i := 0) hX dX10_findRanges_62 rfl rfl ?_
  refine kr_iconst (v := 1) hX dX10_findRanges_63 (by decide) ?_
  obtain ⟨r_64, μ_64, e_64, h⟩ := kq_b2_e h
  refine kr_dV (c1 := 10) [_] hX km_10_172 dX10_findRanges_64 (xs_many hm e_64) rfl rfl ⟨_, _, rfl⟩ (by decide) (Nat.le_of_ble_eq_true rfl) (Nat.le_refl _) (Nat.le_refl _) (md_k hm) ?_
  refine kr_icmp_ge (tgt := 126) hX dX10_findRanges_67 (by decide) (fun c_67 => ?_) (fun c_67 => ?_)
  · replace h := kq_t c_67 h
    refine kr_goto (tgt := 53) hX dX10_findRanges_126 (by decide) ?_
    refine kr_keep (lv' := [(0, .ref m), (1, .int l1)]) [0, 1] rfl ?_
    exact hK53 _ _ h
  · replace h := kq_f c_67 h
    refine kr_iconst (v := 0) hX dX10_findRanges_70 (by decide) ?_
    refine kr_istore_n (i := 3) hX dX10_findRanges_71 rfl (by decide) rfl rfl ?_
    refine kr_keep (lv' := [(0, .ref m), (1, .int l1), (2, .int l2), (3, .int (0 : Int32))]) [0, 1, 2, 3] rfl ?_
    exact xw_findRanges_L72 hX hr hm hK53 hK61 n _ _ _ _ h
def x_findRanges_L61 (n : Nat) (m : Nat) (K53 : Int32 → kt_M → Option (Unit × kt_M)) : Nat → Int32 → Int32 → kt_M → Option (Unit × kt_M)
  | 0, _, _, _ => none
  | k + 1, l1, l2, μ => x_findRanges_B61 n m K53 (x_findRanges_L61 n m K53 k) l1 l2 μ
set_option maxHeartbeats 4000000 in
set_option maxRecDepth 100000 in
theorem xw_findRanges_L61 {G : kt_G} {σ : kt_Y} {X : kt_X} (hX : kt_ok G X RX10 cX10_findRanges 4 5 0 0) (hr : kt_rt X = none) {m : Nat} (hm : kt_md σ m) {n : Nat} {q : (Unit × kt_M)} {K53 : Int32 → kt_M → Option (Unit × kt_M)} (hK53 : ∀ (l1 : Int32) (μ : kt_M), K53 l1 μ = some q → kt_W G X 4 53 [(0, .ref m), (1, .int l1)] [] σ μ 0 0 (kt_Z G X (kt_q σ (fun rv μ2 => rv = none ∧ μ2 = q.2)) 0 0)) : ∀ (k : Nat) (l1 : Int32) (l2 : Int32) (μ : kt_M), x_findRanges_L61 n m K53 k l1 l2 μ = some q → kt_W G X 4 61 [(0, .ref m), (1, .int l1), (2, .int l2)] [] σ μ 0 0 (kt_Z G X (kt_q σ (fun rv μ2 => rv = none ∧ μ2 = q.2)) 0 0) := by
  intro k
  induction k with
  | zero => intro l1 l2 μ h; cases h
  | succ k ih => intro l1 l2 μ h; exact xw_findRanges_B61 hX hr hm hK53 ih h
def x_findRanges_B53 (n : Nat) (m : Nat) (K53 : Int32 → kt_M → Option (Unit × kt_M)) (l1 : Int32) (μ : kt_M) : Option (Unit × kt_M) := (if l1 = 0 then some ((), μ) else x_findRanges_L61 n m K53 n (0 : Int32) (0 : Int32) μ)
set_option maxHeartbeats 4000000 in
set_option maxRecDepth 100000 in
theorem xw_findRanges_B53 {G : kt_G} {σ : kt_Y} {X : kt_X} (hX : kt_ok G X RX10 cX10_findRanges 4 5 0 0) (hr : kt_rt X = none) {m : Nat} (hm : kt_md σ m) {n : Nat} {q : (Unit × kt_M)} {K53 : Int32 → kt_M → Option (Unit × kt_M)} (hK53 : ∀ (l1 : Int32) (μ : kt_M), K53 l1 μ = some q → kt_W G X 4 53 [(0, .ref m), (1, .int l1)] [] σ μ 0 0 (kt_Z G X (kt_q σ (fun rv μ2 => rv = none ∧ μ2 = q.2)) 0 0)) {l1 : Int32} {μ : kt_M} (h : x_findRanges_B53 n m K53 l1 μ = some q) : kt_W G X 4 53 [(0, .ref m), (1, .int l1)] [] σ μ 0 0 (kt_Z G X (kt_q σ (fun rv μ2 => rv = none ∧ μ2 = q.2)) 0 0) := by
  unfold x_findRanges_B53 at h
  refine kr_iload_n (i := 1) hX dX10_findRanges_53 rfl rfl ?_
  refine kr_if_eq (tgt := 129) hX dX10_findRanges_54 (by decide) (fun c_54 => ?_) (fun c_54 => ?_)
  · replace h := kq_t c_54 h
    refine kr_vret hX hr dX10_findRanges_129 ⟨rfl, ?_⟩
    exact kq_rV h
  · replace h := kq_f c_54 h
    refine kr_iconst (v := 0) hX dX10_findRanges_57 (by decide) ?_
    refine kr_istore_n (i := 1) hX dX10_findRanges_58 rfl (by decide) rfl rfl ?_
    refine kr_iconst (v := 0) hX dX10_findRanges_59 (by decide) ?_
    refine kr_istore_n (i := 2) hX dX10_findRanges_60 rfl (by decide) rfl rfl ?_
    refine kr_keep (lv' := [(0, .ref m), (1, .int (0 : Int32)), (2, .int (0 : Int32))]) [0, 1, 2] rfl ?_
    exact xw_findRanges_L61 hX hr hm hK53 n _ _ _ h
def x_findRanges_L53 (n : Nat) (m : Nat) : Nat → Int32 → kt_M → Option (Unit × kt_M)
  | 0, _, _ => none
  | k + 1, l1, μ => x_findRanges_B53 n m (x_findRanges_L53 n m k) l1 μ
set_option maxHeartbeats 4000000 in
set_option maxRecDepth 100000 in
theorem xw_findRanges_L53 {G : kt_G} {σ : kt_Y} {X : kt_X} (hX : kt_ok G X RX10 cX10_findRanges 4 5 0 0) (hr : kt_rt X = none) {m : Nat} (hm : kt_md σ m) {n : Nat} {q : (Unit × kt_M)} : ∀ (k : Nat) (l1 : Int32) (μ : kt_M), x_findRanges_L53 n m k l1 μ = some q → kt_W G X 4 53 [(0, .ref m), (1, .int l1)] [] σ μ 0 0 (kt_Z G X (kt_q σ (fun rv μ2 => rv = none ∧ μ2 = q.2)) 0 0) := by
  intro k
  induction k with
  | zero => intro l1 μ h; cases h
  | succ k ih => intro l1 μ h; exact xw_findRanges_B53 hX hr hm ih h
def x_findRanges_B23 (n : Nat) (m : Nat) (K23 : Int32 → kt_M → Option (Unit × kt_M)) (l1 : Int32) (μ : kt_M) : Option (Unit × kt_M) := (if (4 : Int32) ≤ l1 then x_findRanges_L53 n m n (1 : Int32) μ else kq_b2 (x_many n m μ (1 : Int32)) (fun r_30 μ_30 => (if r_30 ≤ 0 then x_findRanges_L53 n m n (1 : Int32) μ_30 else kq_ck (kq_in l1 64) (kq_lt (kt_sl μ_30 (m + 6) (Int32.toNatClampNeg l1) (2251799813685248 : Int64)) (fun μ_44 => K23 (l1 + 1) μ_44)))))
set_option maxHeartbeats 4000000 in
set_option maxRecDepth 100000 in
theorem xw_findRanges_B23 {G : kt_G} {σ : kt_Y} {X : kt_X} (hX : kt_ok G X RX10 cX10_findRanges 4 5 0 0) (hr : kt_rt X = none) {m : Nat} (hm : kt_md σ m) {n : Nat} {q : (Unit × kt_M)} {K23 : Int32 → kt_M → Option (Unit × kt_M)} (hK23 : ∀ (l1 : Int32) (μ : kt_M), K23 l1 μ = some q → kt_W G X 4 23 [(0, .ref m), (1, .int l1)] [] σ μ 0 0 (kt_Z G X (kt_q σ (fun rv μ2 => rv = none ∧ μ2 = q.2)) 0 0)) {l1 : Int32} {μ : kt_M} (h : x_findRanges_B23 n m K23 l1 μ = some q) : kt_W G X 4 23 [(0, .ref m), (1, .int l1)] [] σ μ 0 0 (kt_Z G X (kt_q σ (fun rv μ2 => rv = none ∧ μ2 = q.2)) 0 0) := by
  unfold x_findRanges_B23 at h
  refine kr_iload_n (i := 1) hX dX10_findRanges_23 rfl rfl ?_
  refine kr_iconst (v := 4) hX dX10_findRanges_24 (by decide) ?_
  refine kr_icmp_ge (tgt := 51) hX dX10_findRanges_25 (by decide) (fun c_25 => ?_) (fun c_25 => ?_)
  · replace h := kq_t c_25 h
    refine kr_iconst (v := 1) hX dX10_findRanges_51 (by decide) ?_
    refine kr_istore_n (i := 1) hX dX10_findRanges_52 rfl (by decide) rfl rfl ?_
    refine kr_keep (lv' := [(0, .ref m), (1, .int (1 : Int32))]) [0, 1] rfl ?_
    exact xw_findRanges_L53 hX hr hm n _ _ h
  · replace h := kq_f c_25 h
    refine kr_aload_n (i := 0) hX dX10_findRanges_28 rfl rfl ?_
    refine kr_iconst (v := 1) hX dX10_findRanges_29 (by decide) ?_
    obtain ⟨r_30, μ_30, e_30, h⟩ := kq_b2_e h
    refine kr_dV (c1 := 10) [_] hX km_10_172 dX10_findRanges_30 (xs_many hm e_30) rfl rfl ⟨_, _, rfl⟩ (by decide) (Nat.le_of_ble_eq_true rfl) (Nat.le_refl _) (Nat.le_refl _) (md_k hm) ?_
    refine kr_if_le (tgt := 51) hX dX10_findRanges_33 (by decide) (fun c_33 => ?_) (fun c_33 => ?_)
    · replace h := kq_t c_33 h
      refine kr_iconst (v := 1) hX dX10_findRanges_51 (by decide) ?_
      refine kr_istore_n (i := 1) hX dX10_findRanges_52 rfl (by decide) rfl rfl ?_
      refine kr_keep (lv' := [(0, .ref m), (1, .int (1 : Int32))]) [0, 1] rfl ?_
      exact xw_findRanges_L53 hX hr hm n _ _ h
    · replace h := kq_f c_33 h
      refine kr_aload_n (i := 0) hX dX10_findRanges_36 rfl rfl ?_
      refine kr_getr (c0 := 10) (k := 13) hX ⟨_, kf_10_30⟩ dX10_findRanges_37 rfl (md_k hm) (md_r13 hm) ?_
      refine kr_iload_n (i := 1) hX dX10_findRanges_40 rfl rfl ?_
      refine kr_ldc2 (v := 2251799813685248) hX kw_1252 dX10_findRanges_41 ?_
      obtain ⟨i_44, h⟩ := kq_ck_e h
      refine kr_last hX dX10_findRanges_44 (md_a6 hm) (vp_in_iff.mpr i_44) ?_
      refine kr_ltM h (fun μ_44 h => ?_)
      refine kr_iinc (v := (l1 + 1)) hX dX10_findRanges_45 rfl rfl (by decide) rfl rfl ?_
      refine kr_goto (tgt := 23) hX dX10_findRanges_48 (by decide) ?_
      refine kr_keep (lv' := [(0, .ref m), (1, .int (l1 + 1))]) [0, 1] rfl ?_
      exact hK23 _ _ h
def x_findRanges_L23 (n : Nat) (m : Nat) : Nat → Int32 → kt_M → Option (Unit × kt_M)
  | 0, _, _ => none
  | k + 1, l1, μ => x_findRanges_B23 n m (x_findRanges_L23 n m k) l1 μ
set_option maxHeartbeats 4000000 in
set_option maxRecDepth 100000 in
theorem xw_findRanges_L23 {G : kt_G} {σ : kt_Y} {X : kt_X} (hX : kt_ok G X RX10 cX10_findRanges 4 5 0 0) (hr : kt_rt X = none) {m : Nat} (hm : kt_md σ m) {n : Nat} {q : (Unit × kt_M)} : ∀ (k : Nat) (l1 : Int32) (μ : kt_M), x_findRanges_L23 n m k l1 μ = some q → kt_W G X 4 23 [(0, .ref m), (1, .int l1)] [] σ μ 0 0 (kt_Z G X (kt_q σ (fun rv μ2 => rv = none ∧ μ2 = q.2)) 0 0) := by
  intro k
  induction k with
  | zero => intro l1 μ h; cases h
  | succ k ih => intro l1 μ h; exact xw_findRanges_B23 hX hr hm ih h
def x_findRanges_B2 (n : Nat) (m : Nat) (K2 : Int32 → kt_M → Option (Unit × kt_M)) (l1 : Int32) (μ : kt_M) : Option (Unit × kt_M) := (if (64 : Int32) ≤ l1 then x_findRanges_L23 n m n (0 : Int32) μ else kq_ck (kq_in l1 64) (kq_lt (kt_sl μ (m + 6) (Int32.toNatClampNeg l1) (0 : Int64)) (fun μ_14 => K2 (l1 + 1) μ_14)))
set_option maxHeartbeats 4000000 in
set_option maxRecDepth 100000 in
theorem xw_findRanges_B2 {G : kt_G} {σ : kt_Y} {X : kt_X} (hX : kt_ok G X RX10 cX10_findRanges 4 5 0 0) (hr : kt_rt X = none) {m : Nat} (hm : kt_md σ m) {n : Nat} {q : (Unit × kt_M)} {K2 : Int32 → kt_M → Option (Unit × kt_M)} (hK2 : ∀ (l1 : Int32) (μ : kt_M), K2 l1 μ = some q → kt_W G X 4 2 [(0, .ref m), (1, .int l1)] [] σ μ 0 0 (kt_Z G X (kt_q σ (fun rv μ2 => rv = none ∧ μ2 = q.2)) 0 0)) {l1 : Int32} {μ : kt_M} (h : x_findRanges_B2 n m K2 l1 μ = some q) : kt_W G X 4 2 [(0, .ref m), (1, .int l1)] [] σ μ 0 0 (kt_Z G X (kt_q σ (fun rv μ2 => rv = none ∧ μ2 = q.2)) 0 0) := by
  unfold x_findRanges_B2 at h
  refine kr_iload_n (i := 1) hX dX10_findRanges_2 rfl rfl ?_
  refine kr_bipush (v := 64) hX dX10_findRanges_3 (by decide) ?_
  refine kr_icmp_ge (tgt := 21) hX dX10_findRanges_5 (by decide) (fun c_5 => ?_) (fun c_5 => ?_)
  · replace h := kq_t c_5 h
    refine kr_iconst (v := 0) hX dX10_findRanges_21 (by decide) ?_
    refine kr_istore_n (i := 1) hX dX10_findRanges_22 rfl (by decide) rfl rfl ?_
    refine kr_keep (lv' := [(0, .ref m), (1, .int (0 : Int32))]) [0, 1] rfl ?_
    exact xw_findRanges_L23 hX hr hm n _ _ h
  · replace h := kq_f c_5 h
    refine kr_aload_n (i := 0) hX dX10_findRanges_8 rfl rfl ?_
    refine kr_getr (c0 := 10) (k := 13) hX ⟨_, kf_10_30⟩ dX10_findRanges_9 rfl (md_k hm) (md_r13 hm) ?_
    refine kr_iload_n (i := 1) hX dX10_findRanges_12 rfl rfl ?_
    refine kr_lconst (v := 0) hX dX10_findRanges_13 (by decide) ?_
    obtain ⟨i_14, h⟩ := kq_ck_e h
    refine kr_last hX dX10_findRanges_14 (md_a6 hm) (vp_in_iff.mpr i_14) ?_
    refine kr_ltM h (fun μ_14 h => ?_)
    refine kr_iinc (v := (l1 + 1)) hX dX10_findRanges_15 rfl rfl (by decide) rfl rfl ?_
    refine kr_goto (tgt := 2) hX dX10_findRanges_18 (by decide) ?_
    refine kr_keep (lv' := [(0, .ref m), (1, .int (l1 + 1))]) [0, 1] rfl ?_
    exact hK2 _ _ h
def x_findRanges_L2 (n : Nat) (m : Nat) : Nat → Int32 → kt_M → Option (Unit × kt_M)
  | 0, _, _ => none
  | k + 1, l1, μ => x_findRanges_B2 n m (x_findRanges_L2 n m k) l1 μ
set_option maxHeartbeats 4000000 in
set_option maxRecDepth 100000 in
theorem xw_findRanges_L2 {G : kt_G} {σ : kt_Y} {X : kt_X} (hX : kt_ok G X RX10 cX10_findRanges 4 5 0 0) (hr : kt_rt X = none) {m : Nat} (hm : kt_md σ m) {n : Nat} {q : (Unit × kt_M)} : ∀ (k : Nat) (l1 : Int32) (μ : kt_M), x_findRanges_L2 n m k l1 μ = some q → kt_W G X 4 2 [(0, .ref m), (1, .int l1)] [] σ μ 0 0 (kt_Z G X (kt_q σ (fun rv μ2 => rv = none ∧ μ2 = q.2)) 0 0) := by
  intro k
  induction k with
  | zero => intro l1 μ h; cases h
  | succ k ih => intro l1 μ h; exact xw_findRanges_B2 hX hr hm ih h
def x_findRanges (n : Nat) (m : Nat) (μ : kt_M) : Option (Unit × kt_M) := x_findRanges_L2 n m n (0 : Int32) μ
set_option maxHeartbeats 4000000 in
set_option maxRecDepth 100000 in
theorem xs_findRanges {G : kt_G} {σ : kt_Y} {μ : kt_M} {m : Nat} (hm : kt_md σ m) {n : Nat} {r : Unit} {μ1 : kt_M} (h : x_findRanges n m μ = some (r, μ1)) : kt_F G yX10_findRanges cX10_findRanges 4 none 5 [.ref m] σ μ (fun rv μ2 => rv = none ∧ μ2 = μ1) := by
  have key : ∀ q : (Unit × kt_M), x_findRanges n m μ = some q → kt_F G yX10_findRanges cX10_findRanges 4 none 5 [.ref m] σ μ (fun rv μ2 => rv = none ∧ μ2 = q.2) := by
    intro q h
    unfold x_findRanges at h
    refine kt_F.of (by decide) (Nat.le_of_ble_eq_true rfl) (fun X hX hr => ?_)
    refine kr_iconst (v := 0) hX dX10_findRanges_0 (by decide) ?_
    refine kr_istore_n (i := 1) hX dX10_findRanges_1 rfl (by decide) rfl rfl ?_
    refine kr_keep (lv' := [(0, .ref m), (1, .int (0 : Int32))]) [0, 1] rfl ?_
    exact xw_findRanges_L2 hX hr hm n _ _ h
  exact key (r, μ1) h
def x_outcomeAt (n : Nat) (m : Nat) (μ : kt_M) (a0 : Int32) : Option (Int32 × kt_M) := kq_b2 (x_isOpen n m μ a0 (0 : Int32)) (fun r_3 μ_3 => kq_b2 (x_isOpen n m μ_3 a0 (1 : Int32)) (fun r_9 μ_9 => kq_b1 (x_outcomeOf n r_3 r_9) (fun r_12 => some (r_12, μ_9))))
set_option maxHeartbeats 4000000 in
set_option maxRecDepth 100000 in
theorem xs_outcomeAt {G : kt_G} {σ : kt_Y} {μ : kt_M} {m : Nat} (hm : kt_md σ m) {n : Nat} {a0 : Int32} {r : Int32} {μ1 : kt_M} (h : x_outcomeAt n m μ a0 = some (r, μ1)) : kt_F G yX10_outcomeAt cX10_outcomeAt 2 (some .int) 5 [.ref m, .int a0] σ μ (fun rv μ2 => rv = some (.int r) ∧ μ2 = μ1) := by
  have key : ∀ q : (Int32 × kt_M), x_outcomeAt n m μ a0 = some q → kt_F G yX10_outcomeAt cX10_outcomeAt 2 (some .int) 5 [.ref m, .int a0] σ μ (fun rv μ2 => rv = some (.int q.1) ∧ μ2 = q.2) := by
    intro q h
    unfold x_outcomeAt at h
    refine kt_F.of (by decide) (Nat.le_of_ble_eq_true rfl) (fun X hX hr => ?_)
    refine kr_aload_n (i := 0) hX dX10_outcomeAt_0 rfl rfl ?_
    refine kr_iload_n (i := 1) hX dX10_outcomeAt_1 rfl rfl ?_
    refine kr_iconst (v := 0) hX dX10_outcomeAt_2 (by decide) ?_
    obtain ⟨r_3, μ_3, e_3, h⟩ := kq_b2_e h
    refine kr_dV (c1 := 10) [_, _] hX km_10_260 dX10_outcomeAt_3 (xs_isOpen hm e_3) rfl rfl ⟨_, _, rfl⟩ (by decide) (Nat.le_of_ble_eq_true rfl) (Nat.le_refl _) (Nat.le_refl _) (md_k hm) ?_
    refine kr_aload_n (i := 0) hX dX10_outcomeAt_6 rfl rfl ?_
    refine kr_iload_n (i := 1) hX dX10_outcomeAt_7 rfl rfl ?_
    refine kr_iconst (v := 1) hX dX10_outcomeAt_8 (by decide) ?_
    obtain ⟨r_9, μ_9, e_9, h⟩ := kq_b2_e h
    refine kr_dV (c1 := 10) [_, _] hX km_10_260 dX10_outcomeAt_9 (xs_isOpen hm e_9) rfl rfl ⟨_, _, rfl⟩ (by decide) (Nat.le_of_ble_eq_true rfl) (Nat.le_refl _) (Nat.le_refl _) (md_k hm) ?_
    obtain ⟨r_12, e_12, h⟩ := kq_b1_e h
    refine kr_dS [_, _] hX km_10_263 dX10_outcomeAt_12 (xs_outcomeOf e_12) rfl rfl (by decide) (Nat.le_of_ble_eq_true rfl) (Nat.le_refl _) (Nat.le_refl _) ?_
    refine kr_iret hX hr dX10_outcomeAt_15 ⟨rfl, ?_⟩
    exact kq_rI h
  exact key (r, μ1) h
def x_ofNow_J159 (n : Nat) (m : Nat) (K8 : Int32 → Int32 → Int32 → kt_M → Option (Int32 × kt_M)) (K108 : Int32 → Int32 → Int32 → Int32 → kt_M → Option (Int32 × kt_M)) (l1 : Int32) (l3 : Int32) (l4 : Int32) (s0 : Int32) (s1 : Int32) (μ : kt_M) : Option (Int32 × kt_M) := kq_b1 (x_flag n s1) (fun r_159 => K108 l1 (s0 + r_159) l3 (l4 + 1) μ)
set_option maxHeartbeats 4000000 in
set_option maxRecDepth 100000 in
theorem xw_ofNow_J159 {G : kt_G} {σ : kt_Y} {X : kt_X} (hX : kt_ok G X RX10 cX10_ofNow 5 7 0 0) (hr : kt_rt X = (some .int)) {m : Nat} (hm : kt_md σ m) {n : Nat} {q : (Int32 × kt_M)} {K8 : Int32 → Int32 → Int32 → kt_M → Option (Int32 × kt_M)} (hK8 : ∀ (l1 : Int32) (l2 : Int32) (l3 : Int32) (μ : kt_M), K8 l1 l2 l3 μ = some q → kt_W G X 5 8 [(0, .ref m), (1, .int l1), (2, .int l2), (3, .int l3)] [] σ μ 0 0 (kt_Z G X (kt_q σ (fun rv μ2 => rv = some (.int q.1) ∧ μ2 = q.2)) 0 0)) {K108 : Int32 → Int32 → Int32 → Int32 → kt_M → Option (Int32 × kt_M)} (hK108 : ∀ (l1 : Int32) (l2 : Int32) (l3 : Int32) (l4 : Int32) (μ : kt_M), K108 l1 l2 l3 l4 μ = some q → kt_W G X 5 108 [(0, .ref m), (1, .int l1), (2, .int l2), (3, .int l3), (4, .int l4)] [] σ μ 0 0 (kt_Z G X (kt_q σ (fun rv μ2 => rv = some (.int q.1) ∧ μ2 = q.2)) 0 0)) {l1 : Int32} {l3 : Int32} {l4 : Int32} {s0 : Int32} {s1 : Int32} {μ : kt_M} (h : x_ofNow_J159 n m K8 K108 l1 l3 l4 s0 s1 μ = some q) : kt_W G X 5 159 [(0, .ref m), (1, .int l1), (3, .int l3), (4, .int l4)] [.int s1, .int s0] σ μ 0 0 (kt_Z G X (kt_q σ (fun rv μ2 => rv = some (.int q.1) ∧ μ2 = q.2)) 0 0) := by
  unfold x_ofNow_J159 at h
  obtain ⟨r_159, e_159, h⟩ := kq_b1_e h
  refine kr_dS [_] hX km_10_145 dX10_ofNow_159 (xs_flag e_159) rfl rfl (by decide) (Nat.le_of_ble_eq_true rfl) (Nat.le_refl _) (Nat.le_refl _) ?_
  refine kr_goto (tgt := 166) hX dX10_ofNow_162 (by decide) ?_
  refine kr_iadd hX dX10_ofNow_166 ?_
  refine kr_istore_n (i := 2) hX dX10_ofNow_167 rfl (by decide) rfl rfl ?_
  refine kr_iinc (v := (l4 + 1)) hX dX10_ofNow_168 rfl rfl (by decide) rfl rfl ?_
  refine kr_goto (tgt := 108) hX dX10_ofNow_171 (by decide) ?_
  refine kr_keep (lv' := [(0, .ref m), (1, .int l1), (2, .int (s0 + r_159)), (3, .int l3), (4, .int (l4 + 1))]) [0, 1, 4, 2, 3] rfl ?_
  exact hK108 _ _ _ _ _ h
def x_ofNow_B108 (n : Nat) (m : Nat) (K8 : Int32 → Int32 → Int32 → kt_M → Option (Int32 × kt_M)) (K108 : Int32 → Int32 → Int32 → Int32 → kt_M → Option (Int32 × kt_M)) (l1 : Int32) (l2 : Int32) (l3 : Int32) (l4 : Int32) (μ : kt_M) : Option (Int32 × kt_M) := kq_b2 (x_edgesOf n m μ (1 : Int32) l3) (fun r_113 μ_113 => (if r_113 ≤ l4 then K8 l1 l2 (l3 + 1) μ_113 else (if l1 = (5 : Int32) then kq_b2 (x_isOpen n m μ_113 l3 l4) (fun r_129 μ_129 => kq_b1 (x_flag n r_129) (fun r_132 => K108 l1 (l2 + r_132) l3 (l4 + 1) μ_129)) else (if l1 = (7 : Int32) then kq_b2 (x_against n m μ_113 l3 l4) (fun r_148 μ_148 => (if r_148 = 0 then x_ofNow_J159 n m K8 K108 l1 l3 l4 l2 (1 : Int32) μ_148 else x_ofNow_J159 n m K8 K108 l1 l3 l4 l2 (0 : Int32) μ_148)) else K108 l1 (l2 + (0 : Int32)) l3 (l4 + 1) μ_113))))
set_option maxHeartbeats 4000000 in
set_option maxRecDepth 100000 in
theorem xw_ofNow_B108 {G : kt_G} {σ : kt_Y} {X : kt_X} (hX : kt_ok G X RX10 cX10_ofNow 5 7 0 0) (hr : kt_rt X = (some .int)) {m : Nat} (hm : kt_md σ m) {n : Nat} {q : (Int32 × kt_M)} {K8 : Int32 → Int32 → Int32 → kt_M → Option (Int32 × kt_M)} (hK8 : ∀ (l1 : Int32) (l2 : Int32) (l3 : Int32) (μ : kt_M), K8 l1 l2 l3 μ = some q → kt_W G X 5 8 [(0, .ref m), (1, .int l1), (2, .int l2), (3, .int l3)] [] σ μ 0 0 (kt_Z G X (kt_q σ (fun rv μ2 => rv = some (.int q.1) ∧ μ2 = q.2)) 0 0)) {K108 : Int32 → Int32 → Int32 → Int32 → kt_M → Option (Int32 × kt_M)} (hK108 : ∀ (l1 : Int32) (l2 : Int32) (l3 : Int32) (l4 : Int32) (μ : kt_M), K108 l1 l2 l3 l4 μ = some q → kt_W G X 5 108 [(0, .ref m), (1, .int l1), (2, .int l2), (3, .int l3), (4, .int l4)] [] σ μ 0 0 (kt_Z G X (kt_q σ (fun rv μ2 => rv = some (.int q.1) ∧ μ2 = q.2)) 0 0)) {l1 : Int32} {l2 : Int32} {l3 : Int32} {l4 : Int32} {μ : kt_M} (h : x_ofNow_B108 n m K8 K108 l1 l2 l3 l4 μ = some q) : kt_W G X 5 108 [(0, .ref m), (1, .int l1), (2, .int l2), (3, .int l3), (4, .int l4)] [] σ μ 0 0 (kt_Z G X (kt_q σ (fun rv μ2 => rv = some (.int q.1) ∧ μ2 = q.2)) 0 0) := by
  unfold x_ofNow_B108 at h
  refine kr_iload hX dX10_ofNow_108 rfl ?_
  refine kr_aload_n (i := 0) hX dX10_ofNow_110 rfl rfl ?_
  refine kr_iconst (v := 1) hX dX10_ofNow_111 (by decide) ?_
  refine kr_iload_n (i := 3) hX dX10_ofNow_112 rfl rfl ?_
  obtain ⟨r_113, μ_113, e_113, h⟩ := kq_b2_e h
  refine kr_dV (c1 := 10) [_, _] hX km_10_182 dX10_ofNow_113 (xs_edgesOf hm e_113) rfl rfl ⟨_, _, rfl⟩ (by decide) (Nat.le_of_ble_eq_true rfl) (Nat.le_refl _) (Nat.le_refl _) (md_k hm) ?_
  refine kr_icmp_ge (tgt := 174) hX dX10_ofNow_116 (by decide) (fun c_116 => ?_) (fun c_116 => ?_)
  · replace h := kq_t c_116 h
    refine kr_iinc (v := (l3 + 1)) hX dX10_ofNow_174 rfl rfl (by decide) rfl rfl ?_
    refine kr_goto (tgt := 8) hX dX10_ofNow_177 (by decide) ?_
    refine kr_keep (lv' := [(0, .ref m), (1, .int l1), (2, .int l2), (3, .int (l3 + 1))]) [0, 1, 2, 3] rfl ?_
    exact hK8 _ _ _ _ h
  · replace h := kq_f c_116 h
    refine kr_iload_n (i := 2) hX dX10_ofNow_119 rfl rfl ?_
    refine kr_iload_n (i := 1) hX dX10_ofNow_120 rfl rfl ?_
    refine kr_iconst (v := 5) hX dX10_ofNow_121 (by decide) ?_
    refine kr_icmp_ne (tgt := 138) hX dX10_ofNow_122 (by decide) (fun c_122 => ?_) (fun c_122 => ?_)
    · replace h := kq_f c_122 h
      refine kr_iload_n (i := 1) hX dX10_ofNow_138 rfl rfl ?_
      refine kr_bipush (v := 7) hX dX10_ofNow_139 (by decide) ?_
      refine kr_icmp_ne (tgt := 165) hX dX10_ofNow_141 (by decide) (fun c_141 => ?_) (fun c_141 => ?_)
      · replace h := kq_f c_141 h
        refine kr_iconst (v := 0) hX dX10_ofNow_165 (by decide) ?_
        refine kr_iadd hX dX10_ofNow_166 ?_
        refine kr_istore_n (i := 2) hX dX10_ofNow_167 rfl (by decide) rfl rfl ?_
        refine kr_iinc (v := (l4 + 1)) hX dX10_ofNow_168 rfl rfl (by decide) rfl rfl ?_
        refine kr_goto (tgt := 108) hX dX10_ofNow_171 (by decide) ?_
        refine kr_keep (lv' := [(0, .ref m), (1, .int l1), (2, .int (l2 + (0 : Int32))), (3, .int l3), (4, .int (l4 + 1))]) [0, 1, 2, 3, 4] rfl ?_
        exact hK108 _ _ _ _ _ h
      · replace h := kq_t c_141 h
        refine kr_aload_n (i := 0) hX dX10_ofNow_144 rfl rfl ?_
        refine kr_iload_n (i := 3) hX dX10_ofNow_145 rfl rfl ?_
        refine kr_iload hX dX10_ofNow_146 rfl ?_
        obtain ⟨r_148, μ_148, e_148, h⟩ := kq_b2_e h
        refine kr_dV (c1 := 10) [_, _] hX km_10_299 dX10_ofNow_148 (xs_against hm e_148) rfl rfl ⟨_, _, rfl⟩ (by decide) (Nat.le_of_ble_eq_true rfl) (Nat.le_refl _) (Nat.le_refl _) (md_k hm) ?_
        refine kr_if_ne (tgt := 158) hX dX10_ofNow_151 (by decide) (fun c_151 => ?_) (fun c_151 => ?_)
        · replace h := kq_f c_151 h
          refine kr_iconst (v := 0) hX dX10_ofNow_158 (by decide) ?_
          refine kr_keep (lv' := [(0, .ref m), (1, .int l1), (3, .int l3), (4, .int l4)]) [0, 1, 3, 4] rfl ?_
          exact xw_ofNow_J159 hX hr hm hK8 hK108 h
        · replace h := kq_t c_151 h
          refine kr_iconst (v := 1) hX dX10_ofNow_154 (by decide) ?_
          refine kr_goto (tgt := 159) hX dX10_ofNow_155 (by decide) ?_
          refine kr_keep (lv' := [(0, .ref m), (1, .int l1), (3, .int l3), (4, .int l4)]) [0, 1, 3, 4] rfl ?_
          exact xw_ofNow_J159 hX hr hm hK8 hK108 h
    · replace h := kq_t c_122 h
      refine kr_aload_n (i := 0) hX dX10_ofNow_125 rfl rfl ?_
      refine kr_iload_n (i := 3) hX dX10_ofNow_126 rfl rfl ?_
      refine kr_iload hX dX10_ofNow_127 rfl ?_
      obtain ⟨r_129, μ_129, e_129, h⟩ := kq_b2_e h
      refine kr_dV (c1 := 10) [_, _] hX km_10_260 dX10_ofNow_129 (xs_isOpen hm e_129) rfl rfl ⟨_, _, rfl⟩ (by decide) (Nat.le_of_ble_eq_true rfl) (Nat.le_refl _) (Nat.le_refl _) (md_k hm) ?_
      obtain ⟨r_132, e_132, h⟩ := kq_b1_e h
      refine kr_dS [_] hX km_10_145 dX10_ofNow_132 (xs_flag e_132) rfl rfl (by decide) (Nat.le_of_ble_eq_true rfl) (Nat.le_refl _) (Nat.le_refl _) ?_
      refine kr_goto (tgt := 166) hX dX10_ofNow_135 (by decide) ?_
      refine kr_iadd hX dX10_ofNow_166 ?_
      refine kr_istore_n (i := 2) hX dX10_ofNow_167 rfl (by decide) rfl rfl ?_
      refine kr_iinc (v := (l4 + 1)) hX dX10_ofNow_168 rfl rfl (by decide) rfl rfl ?_
      refine kr_goto (tgt := 108) hX dX10_ofNow_171 (by decide) ?_
      refine kr_keep (lv' := [(0, .ref m), (1, .int l1), (2, .int (l2 + r_132)), (3, .int l3), (4, .int (l4 + 1))]) [0, 1, 2, 3, 4] rfl ?_
      exact hK108 _ _ _ _ _ h
def x_ofNow_L108 (n : Nat) (m : Nat) (K8 : Int32 → Int32 → Int32 → kt_M → Option (Int32 × kt_M)) : Nat → Int32 → Int32 → Int32 → Int32 → kt_M → Option (Int32 × kt_M)
  | 0, _, _, _, _, _ => none
  | k + 1, l1, l2, l3, l4, μ => x_ofNow_B108 n m K8 (x_ofNow_L108 n m K8 k) l1 l2 l3 l4 μ
set_option maxHeartbeats 4000000 in
set_option maxRecDepth 100000 in
theorem xw_ofNow_L108 {G : kt_G} {σ : kt_Y} {X : kt_X} (hX : kt_ok G X RX10 cX10_ofNow 5 7 0 0) (hr : kt_rt X = (some .int)) {m : Nat} (hm : kt_md σ m) {n : Nat} {q : (Int32 × kt_M)} {K8 : Int32 → Int32 → Int32 → kt_M → Option (Int32 × kt_M)} (hK8 : ∀ (l1 : Int32) (l2 : Int32) (l3 : Int32) (μ : kt_M), K8 l1 l2 l3 μ = some q → kt_W G X 5 8 [(0, .ref m), (1, .int l1), (2, .int l2), (3, .int l3)] [] σ μ 0 0 (kt_Z G X (kt_q σ (fun rv μ2 => rv = some (.int q.1) ∧ μ2 = q.2)) 0 0)) : ∀ (k : Nat) (l1 : Int32) (l2 : Int32) (l3 : Int32) (l4 : Int32) (μ : kt_M), x_ofNow_L108 n m K8 k l1 l2 l3 l4 μ = some q → kt_W G X 5 108 [(0, .ref m), (1, .int l1), (2, .int l2), (3, .int l3), (4, .int l4)] [] σ μ 0 0 (kt_Z G X (kt_q σ (fun rv μ2 => rv = some (.int q.1) ∧ μ2 = q.2)) 0 0) := by
  intro k
  induction k with
  | zero => intro l1 l2 l3 l4 μ h; cases h
  | succ k ih => intro l1 l2 l3 l4 μ h; exact xw_ofNow_B108 hX hr hm hK8 ih h
def x_ofNow_J96 (n : Nat) (m : Nat) (K8 : Int32 → Int32 → Int32 → kt_M → Option (Int32 × kt_M)) (l1 : Int32) (l3 : Int32) (s0 : Int32) (s1 : Int32) (μ : kt_M) : Option (Int32 × kt_M) := kq_b1 (x_flag n s1) (fun r_96 => x_ofNow_L108 n m K8 n l1 (s0 + r_96) l3 (0 : Int32) μ)
set_option maxHeartbeats 4000000 in
set_option maxRecDepth 100000 in
theorem xw_ofNow_J96 {G : kt_G} {σ : kt_Y} {X : kt_X} (hX : kt_ok G X RX10 cX10_ofNow 5 7 0 0) (hr : kt_rt X = (some .int)) {m : Nat} (hm : kt_md σ m) {n : Nat} {q : (Int32 × kt_M)} {K8 : Int32 → Int32 → Int32 → kt_M → Option (Int32 × kt_M)} (hK8 : ∀ (l1 : Int32) (l2 : Int32) (l3 : Int32) (μ : kt_M), K8 l1 l2 l3 μ = some q → kt_W G X 5 8 [(0, .ref m), (1, .int l1), (2, .int l2), (3, .int l3)] [] σ μ 0 0 (kt_Z G X (kt_q σ (fun rv μ2 => rv = some (.int q.1) ∧ μ2 = q.2)) 0 0)) {l1 : Int32} {l3 : Int32} {s0 : Int32} {s1 : Int32} {μ : kt_M} (h : x_ofNow_J96 n m K8 l1 l3 s0 s1 μ = some q) : kt_W G X 5 96 [(0, .ref m), (1, .int l1), (3, .int l3)] [.int s1, .int s0] σ μ 0 0 (kt_Z G X (kt_q σ (fun rv μ2 => rv = some (.int q.1) ∧ μ2 = q.2)) 0 0) := by
  unfold x_ofNow_J96 at h
  obtain ⟨r_96, e_96, h⟩ := kq_b1_e h
  refine kr_dS [_] hX km_10_145 dX10_ofNow_96 (xs_flag e_96) rfl rfl (by decide) (Nat.le_of_ble_eq_true rfl) (Nat.le_refl _) (Nat.le_refl _) ?_
  refine kr_goto (tgt := 103) hX dX10_ofNow_99 (by decide) ?_
  refine kr_iadd hX dX10_ofNow_103 ?_
  refine kr_istore_n (i := 2) hX dX10_ofNow_104 rfl (by decide) rfl rfl ?_
  refine kr_iconst (v := 0) hX dX10_ofNow_105 (by decide) ?_
  refine kr_istore hX dX10_ofNow_106 (by decide) rfl rfl ?_
  refine kr_keep (lv' := [(0, .ref m), (1, .int l1), (2, .int (s0 + r_96)), (3, .int l3), (4, .int (0 : Int32))]) [0, 1, 3, 2, 4] rfl ?_
  exact xw_ofNow_L108 hX hr hm hK8 n _ _ _ _ _ h
def x_ofNow_J52 (n : Nat) (m : Nat) (K8 : Int32 → Int32 → Int32 → kt_M → Option (Int32 × kt_M)) (l1 : Int32) (l3 : Int32) (s0 : Int32) (s1 : Int32) (μ : kt_M) : Option (Int32 × kt_M) := (if l1 = (8 : Int32) then kq_b2 (x_isReached n m μ l3) (fun r_63 μ_63 => (if r_63 = 0 then x_ofNow_J96 n m K8 l1 l3 (s0 + s1) (0 : Int32) μ_63 else kq_b2 (x_of n m μ_63 (1 : Int32) l3 (13 : Int32)) (fun r_74 μ_74 => kq_b1 (x_isTest n r_74) (fun r_77 => (if r_77 = 0 then x_ofNow_J96 n m K8 l1 l3 (s0 + s1) (0 : Int32) μ_74 else kq_b2 (x_outcomeAt n m μ_74 l3) (fun r_85 μ_85 => (if r_85 ≤ 0 then x_ofNow_J96 n m K8 l1 l3 (s0 + s1) (0 : Int32) μ_85 else x_ofNow_J96 n m K8 l1 l3 (s0 + s1) (1 : Int32) μ_85))))))) else x_ofNow_L108 n m K8 n l1 ((s0 + s1) + (0 : Int32)) l3 (0 : Int32) μ)
set_option maxHeartbeats 4000000 in
set_option maxRecDepth 100000 in
theorem xw_ofNow_J52 {G : kt_G} {σ : kt_Y} {X : kt_X} (hX : kt_ok G X RX10 cX10_ofNow 5 7 0 0) (hr : kt_rt X = (some .int)) {m : Nat} (hm : kt_md σ m) {n : Nat} {q : (Int32 × kt_M)} {K8 : Int32 → Int32 → Int32 → kt_M → Option (Int32 × kt_M)} (hK8 : ∀ (l1 : Int32) (l2 : Int32) (l3 : Int32) (μ : kt_M), K8 l1 l2 l3 μ = some q → kt_W G X 5 8 [(0, .ref m), (1, .int l1), (2, .int l2), (3, .int l3)] [] σ μ 0 0 (kt_Z G X (kt_q σ (fun rv μ2 => rv = some (.int q.1) ∧ μ2 = q.2)) 0 0)) {l1 : Int32} {l3 : Int32} {s0 : Int32} {s1 : Int32} {μ : kt_M} (h : x_ofNow_J52 n m K8 l1 l3 s0 s1 μ = some q) : kt_W G X 5 52 [(0, .ref m), (1, .int l1), (3, .int l3)] [.int s1, .int s0] σ μ 0 0 (kt_Z G X (kt_q σ (fun rv μ2 => rv = some (.int q.1) ∧ μ2 = q.2)) 0 0) := by
  unfold x_ofNow_J52 at h
  refine kr_iadd hX dX10_ofNow_52 ?_
  refine kr_istore_n (i := 2) hX dX10_ofNow_53 rfl (by decide) rfl rfl ?_
  refine kr_iload_n (i := 2) hX dX10_ofNow_54 rfl rfl ?_
  refine kr_iload_n (i := 1) hX dX10_ofNow_55 rfl rfl ?_
  refine kr_bipush (v := 8) hX dX10_ofNow_56 (by decide) ?_
  refine kr_icmp_ne (tgt := 102) hX dX10_ofNow_58 (by decide) (fun c_58 => ?_) (fun c_58 => ?_)
  · replace h := kq_f c_58 h
    refine kr_iconst (v := 0) hX dX10_ofNow_102 (by decide) ?_
    refine kr_iadd hX dX10_ofNow_103 ?_
    refine kr_istore_n (i := 2) hX dX10_ofNow_104 rfl (by decide) rfl rfl ?_
    refine kr_iconst (v := 0) hX dX10_ofNow_105 (by decide) ?_
    refine kr_istore hX dX10_ofNow_106 (by decide) rfl rfl ?_
    refine kr_keep (lv' := [(0, .ref m), (1, .int l1), (2, .int ((s0 + s1) + (0 : Int32))), (3, .int l3), (4, .int (0 : Int32))]) [0, 1, 3, 2, 4] rfl ?_
    exact xw_ofNow_L108 hX hr hm hK8 n _ _ _ _ _ h
  · replace h := kq_t c_58 h
    refine kr_aload_n (i := 0) hX dX10_ofNow_61 rfl rfl ?_
    refine kr_iload_n (i := 3) hX dX10_ofNow_62 rfl rfl ?_
    obtain ⟨r_63, μ_63, e_63, h⟩ := kq_b2_e h
    refine kr_dV (c1 := 10) [_] hX km_10_251 dX10_ofNow_63 (xs_isReached hm e_63) rfl rfl ⟨_, _, rfl⟩ (by decide) (Nat.le_of_ble_eq_true rfl) (Nat.le_refl _) (Nat.le_refl _) (md_k hm) ?_
    refine kr_if_eq (tgt := 95) hX dX10_ofNow_66 (by decide) (fun c_66 => ?_) (fun c_66 => ?_)
    · replace h := kq_t c_66 h
      refine kr_iconst (v := 0) hX dX10_ofNow_95 (by decide) ?_
      refine kr_keep (lv' := [(0, .ref m), (1, .int l1), (3, .int l3)]) [0, 1, 2] rfl ?_
      exact xw_ofNow_J96 hX hr hm hK8 h
    · replace h := kq_f c_66 h
      refine kr_aload_n (i := 0) hX dX10_ofNow_69 rfl rfl ?_
      refine kr_iconst (v := 1) hX dX10_ofNow_70 (by decide) ?_
      refine kr_iload_n (i := 3) hX dX10_ofNow_71 rfl rfl ?_
      refine kr_bipush (v := 13) hX dX10_ofNow_72 (by decide) ?_
      obtain ⟨r_74, μ_74, e_74, h⟩ := kq_b2_e h
      refine kr_dV (c1 := 10) [_, _, _] hX km_10_175 dX10_ofNow_74 (xs_of hm e_74) rfl rfl ⟨_, _, rfl⟩ (by decide) (Nat.le_of_ble_eq_true rfl) (Nat.le_refl _) (Nat.le_refl _) (md_k hm) ?_
      obtain ⟨r_77, e_77, h⟩ := kq_b1_e h
      refine kr_dS [_] hX km_10_188 dX10_ofNow_77 (xs_isTest e_77) rfl rfl (by decide) (Nat.le_of_ble_eq_true rfl) (Nat.le_refl _) (Nat.le_refl _) ?_
      refine kr_if_eq (tgt := 95) hX dX10_ofNow_80 (by decide) (fun c_80 => ?_) (fun c_80 => ?_)
      · replace h := kq_t c_80 h
        refine kr_iconst (v := 0) hX dX10_ofNow_95 (by decide) ?_
        refine kr_keep (lv' := [(0, .ref m), (1, .int l1), (3, .int l3)]) [0, 1, 2] rfl ?_
        exact xw_ofNow_J96 hX hr hm hK8 h
      · replace h := kq_f c_80 h
        refine kr_aload_n (i := 0) hX dX10_ofNow_83 rfl rfl ?_
        refine kr_iload_n (i := 3) hX dX10_ofNow_84 rfl rfl ?_
        obtain ⟨r_85, μ_85, e_85, h⟩ := kq_b2_e h
        refine kr_dV (c1 := 10) [_] hX km_10_281 dX10_ofNow_85 (xs_outcomeAt hm e_85) rfl rfl ⟨_, _, rfl⟩ (by decide) (Nat.le_of_ble_eq_true rfl) (Nat.le_refl _) (Nat.le_refl _) (md_k hm) ?_
        refine kr_if_le (tgt := 95) hX dX10_ofNow_88 (by decide) (fun c_88 => ?_) (fun c_88 => ?_)
        · replace h := kq_t c_88 h
          refine kr_iconst (v := 0) hX dX10_ofNow_95 (by decide) ?_
          refine kr_keep (lv' := [(0, .ref m), (1, .int l1), (3, .int l3)]) [0, 1, 2] rfl ?_
          exact xw_ofNow_J96 hX hr hm hK8 h
        · replace h := kq_f c_88 h
          refine kr_iconst (v := 1) hX dX10_ofNow_91 (by decide) ?_
          refine kr_goto (tgt := 96) hX dX10_ofNow_92 (by decide) ?_
          refine kr_keep (lv' := [(0, .ref m), (1, .int l1), (3, .int l3)]) [0, 1, 2] rfl ?_
          exact xw_ofNow_J96 hX hr hm hK8 h
def x_ofNow_B8 (n : Nat) (m : Nat) (K8 : Int32 → Int32 → Int32 → kt_M → Option (Int32 × kt_M)) (l1 : Int32) (l2 : Int32) (l3 : Int32) (μ : kt_M) : Option (Int32 × kt_M) := kq_b2 (x_many n m μ (1 : Int32)) (fun r_11 μ_11 => (if r_11 ≤ l3 then some (l2, μ_11) else (if l1 = (4 : Int32) then kq_b2 (x_isReached n m μ_11 l3) (fun r_25 μ_25 => kq_b1 (x_flag n r_25) (fun r_28 => x_ofNow_J52 n m K8 l1 l3 l2 r_28 μ_25)) else (if l1 = (6 : Int32) then kq_b2 (x_isHead n m μ_11 l3) (fun r_42 μ_42 => kq_b1 (x_flag n r_42) (fun r_45 => x_ofNow_J52 n m K8 l1 l3 l2 r_45 μ_42)) else x_ofNow_J52 n m K8 l1 l3 l2 (0 : Int32) μ_11))))
set_option maxHeartbeats 4000000 in
set_option maxRecDepth 100000 in
theorem xw_ofNow_B8 {G : kt_G} {σ : kt_Y} {X : kt_X} (hX : kt_ok G X RX10 cX10_ofNow 5 7 0 0) (hr : kt_rt X = (some .int)) {m : Nat} (hm : kt_md σ m) {n : Nat} {q : (Int32 × kt_M)} {K8 : Int32 → Int32 → Int32 → kt_M → Option (Int32 × kt_M)} (hK8 : ∀ (l1 : Int32) (l2 : Int32) (l3 : Int32) (μ : kt_M), K8 l1 l2 l3 μ = some q → kt_W G X 5 8 [(0, .ref m), (1, .int l1), (2, .int l2), (3, .int l3)] [] σ μ 0 0 (kt_Z G X (kt_q σ (fun rv μ2 => rv = some (.int q.1) ∧ μ2 = q.2)) 0 0)) {l1 : Int32} {l2 : Int32} {l3 : Int32} {μ : kt_M} (h : x_ofNow_B8 n m K8 l1 l2 l3 μ = some q) : kt_W G X 5 8 [(0, .ref m), (1, .int l1), (2, .int l2), (3, .int l3)] [] σ μ 0 0 (kt_Z G X (kt_q σ (fun rv μ2 => rv = some (.int q.1) ∧ μ2 = q.2)) 0 0) := by
  unfold x_ofNow_B8 at h
  refine kr_iload_n (i := 3) hX dX10_ofNow_8 rfl rfl ?_
  refine kr_aload_n (i := 0) hX dX10_ofNow_9 rfl rfl ?_
  refine kr_iconst (v := 1) hX dX10_ofNow_10 (by decide) ?_
  obtain ⟨r_11, μ_11, e_11, h⟩ := kq_b2_e h
  refine kr_dV (c1 := 10) [_] hX km_10_172 dX10_ofNow_11 (xs_many hm e_11) rfl rfl ⟨_, _, rfl⟩ (by decide) (Nat.le_of_ble_eq_true rfl) (Nat.le_refl _) (Nat.le_refl _) (md_k hm) ?_
  refine kr_icmp_ge (tgt := 180) hX dX10_ofNow_14 (by decide) (fun c_14 => ?_) (fun c_14 => ?_)
  · replace h := kq_t c_14 h
    refine kr_iload_n (i := 2) hX dX10_ofNow_180 rfl rfl ?_
    refine kr_iret hX hr dX10_ofNow_181 ⟨rfl, ?_⟩
    exact kq_rI h
  · replace h := kq_f c_14 h
    refine kr_iload_n (i := 2) hX dX10_ofNow_17 rfl rfl ?_
    refine kr_iload_n (i := 1) hX dX10_ofNow_18 rfl rfl ?_
    refine kr_iconst (v := 4) hX dX10_ofNow_19 (by decide) ?_
    refine kr_icmp_ne (tgt := 34) hX dX10_ofNow_20 (by decide) (fun c_20 => ?_) (fun c_20 => ?_)
    · replace h := kq_f c_20 h
      refine kr_iload_n (i := 1) hX dX10_ofNow_34 rfl rfl ?_
      refine kr_bipush (v := 6) hX dX10_ofNow_35 (by decide) ?_
      refine kr_icmp_ne (tgt := 51) hX dX10_ofNow_37 (by decide) (fun c_37 => ?_) (fun c_37 => ?_)
      · replace h := kq_f c_37 h
        refine kr_iconst (v := 0) hX dX10_ofNow_51 (by decide) ?_
        refine kr_keep (lv' := [(0, .ref m), (1, .int l1), (3, .int l3)]) [0, 1, 3] rfl ?_
        exact xw_ofNow_J52 hX hr hm hK8 h
      · replace h := kq_t c_37 h
        refine kr_aload_n (i := 0) hX dX10_ofNow_40 rfl rfl ?_
        refine kr_iload_n (i := 3) hX dX10_ofNow_41 rfl rfl ?_
        obtain ⟨r_42, μ_42, e_42, h⟩ := kq_b2_e h
        refine kr_dV (c1 := 10) [_] hX km_10_293 dX10_ofNow_42 (xs_isHead hm e_42) rfl rfl ⟨_, _, rfl⟩ (by decide) (Nat.le_of_ble_eq_true rfl) (Nat.le_refl _) (Nat.le_refl _) (md_k hm) ?_
        obtain ⟨r_45, e_45, h⟩ := kq_b1_e h
        refine kr_dS [_] hX km_10_145 dX10_ofNow_45 (xs_flag e_45) rfl rfl (by decide) (Nat.le_of_ble_eq_true rfl) (Nat.le_refl _) (Nat.le_refl _) ?_
        refine kr_goto (tgt := 52) hX dX10_ofNow_48 (by decide) ?_
        refine kr_keep (lv' := [(0, .ref m), (1, .int l1), (3, .int l3)]) [0, 1, 3] rfl ?_
        exact xw_ofNow_J52 hX hr hm hK8 h
    · replace h := kq_t c_20 h
      refine kr_aload_n (i := 0) hX dX10_ofNow_23 rfl rfl ?_
      refine kr_iload_n (i := 3) hX dX10_ofNow_24 rfl rfl ?_
      obtain ⟨r_25, μ_25, e_25, h⟩ := kq_b2_e h
      refine kr_dV (c1 := 10) [_] hX km_10_251 dX10_ofNow_25 (xs_isReached hm e_25) rfl rfl ⟨_, _, rfl⟩ (by decide) (Nat.le_of_ble_eq_true rfl) (Nat.le_refl _) (Nat.le_refl _) (md_k hm) ?_
      obtain ⟨r_28, e_28, h⟩ := kq_b1_e h
      refine kr_dS [_] hX km_10_145 dX10_ofNow_28 (xs_flag e_28) rfl rfl (by decide) (Nat.le_of_ble_eq_true rfl) (Nat.le_refl _) (Nat.le_refl _) ?_
      refine kr_goto (tgt := 52) hX dX10_ofNow_31 (by decide) ?_
      refine kr_keep (lv' := [(0, .ref m), (1, .int l1), (3, .int l3)]) [0, 1, 3] rfl ?_
      exact xw_ofNow_J52 hX hr hm hK8 h
def x_ofNow_L8 (n : Nat) (m : Nat) : Nat → Int32 → Int32 → Int32 → kt_M → Option (Int32 × kt_M)
  | 0, _, _, _, _ => none
  | k + 1, l1, l2, l3, μ => x_ofNow_B8 n m (x_ofNow_L8 n m k) l1 l2 l3 μ
set_option maxHeartbeats 4000000 in
set_option maxRecDepth 100000 in
theorem xw_ofNow_L8 {G : kt_G} {σ : kt_Y} {X : kt_X} (hX : kt_ok G X RX10 cX10_ofNow 5 7 0 0) (hr : kt_rt X = (some .int)) {m : Nat} (hm : kt_md σ m) {n : Nat} {q : (Int32 × kt_M)} : ∀ (k : Nat) (l1 : Int32) (l2 : Int32) (l3 : Int32) (μ : kt_M), x_ofNow_L8 n m k l1 l2 l3 μ = some q → kt_W G X 5 8 [(0, .ref m), (1, .int l1), (2, .int l2), (3, .int l3)] [] σ μ 0 0 (kt_Z G X (kt_q σ (fun rv μ2 => rv = some (.int q.1) ∧ μ2 = q.2)) 0 0) := by
  intro k
  induction k with
  | zero => intro l1 l2 l3 μ h; cases h
  | succ k ih => intro l1 l2 l3 μ h; exact xw_ofNow_B8 hX hr hm ih h
def x_ofNow (n : Nat) (m : Nat) (μ : kt_M) (a0 : Int32) : Option (Int32 × kt_M) := kq_b2 (x_findRanges n m μ) (fun r_1 μ_1 => x_ofNow_L8 n m n a0 (0 : Int32) (0 : Int32) μ_1)
set_option maxHeartbeats 4000000 in
set_option maxRecDepth 100000 in
theorem xs_ofNow {G : kt_G} {σ : kt_Y} {μ : kt_M} {m : Nat} (hm : kt_md σ m) {n : Nat} {a0 : Int32} {r : Int32} {μ1 : kt_M} (h : x_ofNow n m μ a0 = some (r, μ1)) : kt_F G yX10_ofNow cX10_ofNow 5 (some .int) 7 [.ref m, .int a0] σ μ (fun rv μ2 => rv = some (.int r) ∧ μ2 = μ1) := by
  have key : ∀ q : (Int32 × kt_M), x_ofNow n m μ a0 = some q → kt_F G yX10_ofNow cX10_ofNow 5 (some .int) 7 [.ref m, .int a0] σ μ (fun rv μ2 => rv = some (.int q.1) ∧ μ2 = q.2) := by
    intro q h
    unfold x_ofNow at h
    refine kt_F.of (by decide) (Nat.le_of_ble_eq_true rfl) (fun X hX hr => ?_)
    refine kr_aload_n (i := 0) hX dX10_ofNow_0 rfl rfl ?_
    obtain ⟨r_1, μ_1, e_1, h⟩ := kq_b2_e h
    refine kr_dV (c1 := 10) [] hX km_10_270 dX10_ofNow_1 (xs_findRanges hm e_1) rfl rfl ⟨_, _, rfl⟩ (by decide) (Nat.le_of_ble_eq_true rfl) (Nat.le_refl _) (Nat.le_refl _) (md_k hm) ?_
    refine kr_iconst (v := 0) hX dX10_ofNow_4 (by decide) ?_
    refine kr_istore_n (i := 2) hX dX10_ofNow_5 rfl (by decide) rfl rfl ?_
    refine kr_iconst (v := 0) hX dX10_ofNow_6 (by decide) ?_
    refine kr_istore_n (i := 3) hX dX10_ofNow_7 rfl (by decide) rfl rfl ?_
    refine kr_keep (lv' := [(0, .ref m), (1, .int a0), (2, .int (0 : Int32)), (3, .int (0 : Int32))]) [0, 1, 2, 3] rfl ?_
    exact xw_ofNow_L8 hX hr hm n _ _ _ _ h
  exact key (r, μ1) h
def x_program (n : Nat) (m : Nat) (μ : kt_M) (a0 : Int32) (a1 : Int32) : Option (Int32 × kt_M) := kq_b2 (x_isProgram n m μ a0) (fun r_2 μ_2 => (if r_2 = 0 then some (((-1) : Int32), μ_2) else kq_b1 (x_in n (Int32.toInt64 a1) (0 : Int64) (8 : Int64)) (fun r_14 => (if r_14 = 0 then some (((-1) : Int32), μ_2) else (if a1 = 0 then kq_b2 (x_many n m μ_2 a0) (fun r_28 μ_28 => some (r_28, μ_28)) else (if (4 : Int32) ≤ a1 then (if a0 = 0 then some (((-4) : Int32), μ_2) else kq_b2 (x_ofNow n m μ_2 a1) (fun r_55 μ_55 => some (r_55, μ_55))) else kq_b2 (x_summed n m μ_2 a0 a1) (fun r_40 μ_40 => some (r_40, μ_40))))))))
set_option maxHeartbeats 4000000 in
set_option maxRecDepth 100000 in
theorem xs_program {G : kt_G} {σ : kt_Y} {μ : kt_M} {m : Nat} (hm : kt_md σ m) {n : Nat} {a0 : Int32} {a1 : Int32} {r : Int32} {μ1 : kt_M} (h : x_program n m μ a0 a1 = some (r, μ1)) : kt_F G yX10_program cX10_program 3 (some .int) 8 [.ref m, .int a0, .int a1] σ μ (fun rv μ2 => rv = some (.int r) ∧ μ2 = μ1) := by
  have key : ∀ q : (Int32 × kt_M), x_program n m μ a0 a1 = some q → kt_F G yX10_program cX10_program 3 (some .int) 8 [.ref m, .int a0, .int a1] σ μ (fun rv μ2 => rv = some (.int q.1) ∧ μ2 = q.2) := by
    intro q h
    unfold x_program at h
    refine kt_F.of (by decide) (Nat.le_of_ble_eq_true rfl) (fun X hX hr => ?_)
    refine kr_aload_n (i := 0) hX dX10_program_0 rfl rfl ?_
    refine kr_iload_n (i := 1) hX dX10_program_1 rfl rfl ?_
    obtain ⟨r_2, μ_2, e_2, h⟩ := kq_b2_e h
    refine kr_dV (c1 := 10) [_] hX km_10_191 dX10_program_2 (xs_isProgram hm e_2) rfl rfl ⟨_, _, rfl⟩ (by decide) (Nat.le_of_ble_eq_true rfl) (Nat.le_refl _) (Nat.le_refl _) (md_k hm) ?_
    refine kr_if_eq (tgt := 20) hX dX10_program_5 (by decide) (fun c_5 => ?_) (fun c_5 => ?_)
    · replace h := kq_t c_5 h
      refine kr_iconst (v := (-1)) hX dX10_program_20 (by decide) ?_
      refine kr_iret hX hr dX10_program_21 ⟨rfl, ?_⟩
      exact kq_rI h
    · replace h := kq_f c_5 h
      refine kr_iload_n (i := 2) hX dX10_program_8 rfl rfl ?_
      refine kr_i2l hX dX10_program_9 rfl ?_
      refine kr_lconst (v := 0) hX dX10_program_10 (by decide) ?_
      refine kr_ldc2 (v := 8) hX kw_1225 dX10_program_11 ?_
      obtain ⟨r_14, e_14, h⟩ := kq_b1_e h
      refine kr_dS [_, _, _] hX km_10_80 dX10_program_14 (xs_in e_14) rfl rfl (by decide) (Nat.le_of_ble_eq_true rfl) (Nat.le_refl _) (Nat.le_refl _) ?_
      refine kr_if_ne (tgt := 22) hX dX10_program_17 (by decide) (fun c_17 => ?_) (fun c_17 => ?_)
      · replace h := kq_f c_17 h
        refine kr_iload_n (i := 2) hX dX10_program_22 rfl rfl ?_
        refine kr_if_ne (tgt := 32) hX dX10_program_23 (by decide) (fun c_23 => ?_) (fun c_23 => ?_)
        · replace h := kq_f c_23 h
          refine kr_iload_n (i := 2) hX dX10_program_32 rfl rfl ?_
          refine kr_iconst (v := 4) hX dX10_program_33 (by decide) ?_
          refine kr_icmp_ge (tgt := 44) hX dX10_program_34 (by decide) (fun c_34 => ?_) (fun c_34 => ?_)
          · replace h := kq_t c_34 h
            refine kr_iload_n (i := 1) hX dX10_program_44 rfl rfl ?_
            refine kr_if_ne (tgt := 53) hX dX10_program_45 (by decide) (fun c_45 => ?_) (fun c_45 => ?_)
            · replace h := kq_f c_45 h
              refine kr_aload_n (i := 0) hX dX10_program_53 rfl rfl ?_
              refine kr_iload_n (i := 2) hX dX10_program_54 rfl rfl ?_
              obtain ⟨r_55, μ_55, e_55, h⟩ := kq_b2_e h
              refine kr_dV (c1 := 10) [_] hX km_10_199 dX10_program_55 (xs_ofNow hm e_55) rfl rfl ⟨_, _, rfl⟩ (by decide) (Nat.le_of_ble_eq_true rfl) (Nat.le_refl _) (Nat.le_refl _) (md_k hm) ?_
              refine kr_iret hX hr dX10_program_58 ⟨rfl, ?_⟩
              exact kq_rI h
            · replace h := kq_t c_45 h
              refine kr_bipush (v := (-4)) hX dX10_program_48 (by decide) ?_
              refine kr_goto (tgt := 58) hX dX10_program_50 (by decide) ?_
              refine kr_iret hX hr dX10_program_58 ⟨rfl, ?_⟩
              exact kq_rI h
          · replace h := kq_f c_34 h
            refine kr_aload_n (i := 0) hX dX10_program_37 rfl rfl ?_
            refine kr_iload_n (i := 1) hX dX10_program_38 rfl rfl ?_
            refine kr_iload_n (i := 2) hX dX10_program_39 rfl rfl ?_
            obtain ⟨r_40, μ_40, e_40, h⟩ := kq_b2_e h
            refine kr_dV (c1 := 10) [_, _] hX km_10_196 dX10_program_40 (xs_summed hm e_40) rfl rfl ⟨_, _, rfl⟩ (by decide) (Nat.le_of_ble_eq_true rfl) (Nat.le_refl _) (Nat.le_refl _) (md_k hm) ?_
            refine kr_iret hX hr dX10_program_43 ⟨rfl, ?_⟩
            exact kq_rI h
        · replace h := kq_t c_23 h
          refine kr_aload_n (i := 0) hX dX10_program_26 rfl rfl ?_
          refine kr_iload_n (i := 1) hX dX10_program_27 rfl rfl ?_
          obtain ⟨r_28, μ_28, e_28, h⟩ := kq_b2_e h
          refine kr_dV (c1 := 10) [_] hX km_10_172 dX10_program_28 (xs_many hm e_28) rfl rfl ⟨_, _, rfl⟩ (by decide) (Nat.le_of_ble_eq_true rfl) (Nat.le_refl _) (Nat.le_refl _) (md_k hm) ?_
          refine kr_iret hX hr dX10_program_31 ⟨rfl, ?_⟩
          exact kq_rI h
      · replace h := kq_t c_17 h
        refine kr_iconst (v := (-1)) hX dX10_program_20 (by decide) ?_
        refine kr_iret hX hr dX10_program_21 ⟨rfl, ?_⟩
        exact kq_rI h
  exact key (r, μ1) h
def x_block (n : Nat) (m : Nat) (μ : kt_M) (a0 : Int32) (a1 : Int32) (a2 : Int32) : Option (Int32 × kt_M) := kq_b2 (x_isProgram n m μ a0) (fun r_2 μ_2 => (if r_2 = 0 then some (((-1) : Int32), μ_2) else kq_b2 (x_isBlock n m μ_2 a0 a1) (fun r_11 μ_11 => (if r_11 = 0 then some (((-1) : Int32), μ_11) else (if a2 = (0 : Int32) then kq_b2 (x_of n m μ_11 a0 a1 (0 : Int32)) (fun r_72 μ_72 => some (r_72, μ_72)) else (if a2 = (1 : Int32) then kq_b2 (x_of n m μ_11 a0 a1 ((12 : Int32) + a2)) (fun r_83 μ_83 => some (r_83, μ_83)) else (if a2 = (2 : Int32) then kq_b2 (x_of n m μ_11 a0 a1 ((12 : Int32) + a2)) (fun r_83 μ_83 => some (r_83, μ_83)) else (if a2 = (3 : Int32) then kq_b2 (x_of n m μ_11 a0 a1 ((12 : Int32) + a2)) (fun r_83 μ_83 => some (r_83, μ_83)) else (if a2 = (4 : Int32) then kq_b2 (x_of n m μ_11 a0 a1 ((12 : Int32) + a2)) (fun r_83 μ_83 => some (r_83, μ_83)) else (if a2 = (5 : Int32) then kq_b2 (x_of n m μ_11 a0 a1 ((12 : Int32) + a2)) (fun r_83 μ_83 => some (r_83, μ_83)) else (if a2 = (6 : Int32) then kq_b2 (x_of n m μ_11 a0 a1 ((12 : Int32) + a2)) (fun r_83 μ_83 => some (r_83, μ_83)) else (if a2 = (7 : Int32) then kq_b2 (x_of n m μ_11 a0 a1 ((12 : Int32) + a2)) (fun r_83 μ_83 => some (r_83, μ_83)) else some (((-1) : Int32), μ_11)))))))))))))
set_option maxHeartbeats 4000000 in
set_option maxRecDepth 100000 in
theorem xs_block {G : kt_G} {σ : kt_Y} {μ : kt_M} {m : Nat} (hm : kt_md σ m) {n : Nat} {a0 : Int32} {a1 : Int32} {a2 : Int32} {r : Int32} {μ1 : kt_M} (h : x_block n m μ a0 a1 a2 = some (r, μ1)) : kt_F G yX10_block cX10_block 4 (some .int) 2 [.ref m, .int a0, .int a1, .int a2] σ μ (fun rv μ2 => rv = some (.int r) ∧ μ2 = μ1) := by
  have key : ∀ q : (Int32 × kt_M), x_block n m μ a0 a1 a2 = some q → kt_F G yX10_block cX10_block 4 (some .int) 2 [.ref m, .int a0, .int a1, .int a2] σ μ (fun rv μ2 => rv = some (.int q.1) ∧ μ2 = q.2) := by
    intro q h
    unfold x_block at h
    refine kt_F.of (by decide) (Nat.le_of_ble_eq_true rfl) (fun X hX hr => ?_)
    refine kr_aload_n (i := 0) hX dX10_block_0 rfl rfl ?_
    refine kr_iload_n (i := 1) hX dX10_block_1 rfl rfl ?_
    obtain ⟨r_2, μ_2, e_2, h⟩ := kq_b2_e h
    refine kr_dV (c1 := 10) [_] hX km_10_191 dX10_block_2 (xs_isProgram hm e_2) rfl rfl ⟨_, _, rfl⟩ (by decide) (Nat.le_of_ble_eq_true rfl) (Nat.le_refl _) (Nat.le_refl _) (md_k hm) ?_
    refine kr_if_eq (tgt := 17) hX dX10_block_5 (by decide) (fun c_5 => ?_) (fun c_5 => ?_)
    · replace h := kq_t c_5 h
      refine kr_iconst (v := (-1)) hX dX10_block_17 (by decide) ?_
      refine kr_iret hX hr dX10_block_18 ⟨rfl, ?_⟩
      exact kq_rI h
    · replace h := kq_f c_5 h
      refine kr_aload_n (i := 0) hX dX10_block_8 rfl rfl ?_
      refine kr_iload_n (i := 1) hX dX10_block_9 rfl rfl ?_
      refine kr_iload_n (i := 2) hX dX10_block_10 rfl rfl ?_
      obtain ⟨r_11, μ_11, e_11, h⟩ := kq_b2_e h
      refine kr_dV (c1 := 10) [_, _] hX km_10_178 dX10_block_11 (xs_isBlock hm e_11) rfl rfl ⟨_, _, rfl⟩ (by decide) (Nat.le_of_ble_eq_true rfl) (Nat.le_refl _) (Nat.le_refl _) (md_k hm) ?_
      refine kr_if_ne (tgt := 19) hX dX10_block_14 (by decide) (fun c_14 => ?_) (fun c_14 => ?_)
      · replace h := kq_f c_14 h
        refine kr_iload_n (i := 3) hX dX10_block_19 rfl rfl ?_
        by_cases c_20_0 : a2 = (0 : Int32)
        · replace h := kq_t c_20_0 h
          refine kr_tabIn (tgt := 68) (off := 48) hX dX10_block_20 (by rw [c_20_0]; decide) (by rw [c_20_0]; decide) (by rw [c_20_0]; rfl) (by decide) ?_
          refine kr_aload_n (i := 0) hX dX10_block_68 rfl rfl ?_
          refine kr_iload_n (i := 1) hX dX10_block_69 rfl rfl ?_
          refine kr_iload_n (i := 2) hX dX10_block_70 rfl rfl ?_
          refine kr_iconst (v := 0) hX dX10_block_71 (by decide) ?_
          obtain ⟨r_72, μ_72, e_72, h⟩ := kq_b2_e h
          refine kr_dV (c1 := 10) [_, _, _] hX km_10_175 dX10_block_72 (xs_of hm e_72) rfl rfl ⟨_, _, rfl⟩ (by decide) (Nat.le_of_ble_eq_true rfl) (Nat.le_refl _) (Nat.le_refl _) (md_k hm) ?_
          refine kr_iret hX hr dX10_block_75 ⟨rfl, ?_⟩
          exact kq_rI h
        replace h := kq_f c_20_0 h
        by_cases c_20_1 : a2 = (1 : Int32)
        · replace h := kq_t c_20_1 h
          refine kr_tabIn (tgt := 76) (off := 56) hX dX10_block_20 (by rw [c_20_1]; decide) (by rw [c_20_1]; decide) (by rw [c_20_1]; rfl) (by decide) ?_
          refine kr_aload_n (i := 0) hX dX10_block_76 rfl rfl ?_
          refine kr_iload_n (i := 1) hX dX10_block_77 rfl rfl ?_
          refine kr_iload_n (i := 2) hX dX10_block_78 rfl rfl ?_
          refine kr_bipush (v := 12) hX dX10_block_79 (by decide) ?_
          refine kr_iload_n (i := 3) hX dX10_block_81 rfl rfl ?_
          refine kr_iadd hX dX10_block_82 ?_
          obtain ⟨r_83, μ_83, e_83, h⟩ := kq_b2_e h
          refine kr_dV (c1 := 10) [_, _, _] hX km_10_175 dX10_block_83 (xs_of hm e_83) rfl rfl ⟨_, _, rfl⟩ (by decide) (Nat.le_of_ble_eq_true rfl) (Nat.le_refl _) (Nat.le_refl _) (md_k hm) ?_
          refine kr_iret hX hr dX10_block_86 ⟨rfl, ?_⟩
          exact kq_rI h
        replace h := kq_f c_20_1 h
        by_cases c_20_2 : a2 = (2 : Int32)
        · replace h := kq_t c_20_2 h
          refine kr_tabIn (tgt := 76) (off := 56) hX dX10_block_20 (by rw [c_20_2]; decide) (by rw [c_20_2]; decide) (by rw [c_20_2]; rfl) (by decide) ?_
          refine kr_aload_n (i := 0) hX dX10_block_76 rfl rfl ?_
          refine kr_iload_n (i := 1) hX dX10_block_77 rfl rfl ?_
          refine kr_iload_n (i := 2) hX dX10_block_78 rfl rfl ?_
          refine kr_bipush (v := 12) hX dX10_block_79 (by decide) ?_
          refine kr_iload_n (i := 3) hX dX10_block_81 rfl rfl ?_
          refine kr_iadd hX dX10_block_82 ?_
          obtain ⟨r_83, μ_83, e_83, h⟩ := kq_b2_e h
          refine kr_dV (c1 := 10) [_, _, _] hX km_10_175 dX10_block_83 (xs_of hm e_83) rfl rfl ⟨_, _, rfl⟩ (by decide) (Nat.le_of_ble_eq_true rfl) (Nat.le_refl _) (Nat.le_refl _) (md_k hm) ?_
          refine kr_iret hX hr dX10_block_86 ⟨rfl, ?_⟩
          exact kq_rI h
        replace h := kq_f c_20_2 h
        by_cases c_20_3 : a2 = (3 : Int32)
        · replace h := kq_t c_20_3 h
          refine kr_tabIn (tgt := 76) (off := 56) hX dX10_block_20 (by rw [c_20_3]; decide) (by rw [c_20_3]; decide) (by rw [c_20_3]; rfl) (by decide) ?_
          refine kr_aload_n (i := 0) hX dX10_block_76 rfl rfl ?_
          refine kr_iload_n (i := 1) hX dX10_block_77 rfl rfl ?_
          refine kr_iload_n (i := 2) hX dX10_block_78 rfl rfl ?_
          refine kr_bipush (v := 12) hX dX10_block_79 (by decide) ?_
          refine kr_iload_n (i := 3) hX dX10_block_81 rfl rfl ?_
          refine kr_iadd hX dX10_block_82 ?_
          obtain ⟨r_83, μ_83, e_83, h⟩ := kq_b2_e h
          refine kr_dV (c1 := 10) [_, _, _] hX km_10_175 dX10_block_83 (xs_of hm e_83) rfl rfl ⟨_, _, rfl⟩ (by decide) (Nat.le_of_ble_eq_true rfl) (Nat.le_refl _) (Nat.le_refl _) (md_k hm) ?_
          refine kr_iret hX hr dX10_block_86 ⟨rfl, ?_⟩
          exact kq_rI h
        replace h := kq_f c_20_3 h
        by_cases c_20_4 : a2 = (4 : Int32)
        · replace h := kq_t c_20_4 h
          refine kr_tabIn (tgt := 76) (off := 56) hX dX10_block_20 (by rw [c_20_4]; decide) (by rw [c_20_4]; decide) (by rw [c_20_4]; rfl) (by decide) ?_
          refine kr_aload_n (i := 0) hX dX10_block_76 rfl rfl ?_
          refine kr_iload_n (i := 1) hX dX10_block_77 rfl rfl ?_
          refine kr_iload_n (i := 2) hX dX10_block_78 rfl rfl ?_
          refine kr_bipush (v := 12) hX dX10_block_79 (by decide) ?_
          refine kr_iload_n (i := 3) hX dX10_block_81 rfl rfl ?_
          refine kr_iadd hX dX10_block_82 ?_
          obtain ⟨r_83, μ_83, e_83, h⟩ := kq_b2_e h
          refine kr_dV (c1 := 10) [_, _, _] hX km_10_175 dX10_block_83 (xs_of hm e_83) rfl rfl ⟨_, _, rfl⟩ (by decide) (Nat.le_of_ble_eq_true rfl) (Nat.le_refl _) (Nat.le_refl _) (md_k hm) ?_
          refine kr_iret hX hr dX10_block_86 ⟨rfl, ?_⟩
          exact kq_rI h
        replace h := kq_f c_20_4 h
        by_cases c_20_5 : a2 = (5 : Int32)
        · replace h := kq_t c_20_5 h
          refine kr_tabIn (tgt := 76) (off := 56) hX dX10_block_20 (by rw [c_20_5]; decide) (by rw [c_20_5]; decide) (by rw [c_20_5]; rfl) (by decide) ?_
          refine kr_aload_n (i := 0) hX dX10_block_76 rfl rfl ?_
          refine kr_iload_n (i := 1) hX dX10_block_77 rfl rfl ?_
          refine kr_iload_n (i := 2) hX dX10_block_78 rfl rfl ?_
          refine kr_bipush (v := 12) hX dX10_block_79 (by decide) ?_
          refine kr_iload_n (i := 3) hX dX10_block_81 rfl rfl ?_
          refine kr_iadd hX dX10_block_82 ?_
          obtain ⟨r_83, μ_83, e_83, h⟩ := kq_b2_e h
          refine kr_dV (c1 := 10) [_, _, _] hX km_10_175 dX10_block_83 (xs_of hm e_83) rfl rfl ⟨_, _, rfl⟩ (by decide) (Nat.le_of_ble_eq_true rfl) (Nat.le_refl _) (Nat.le_refl _) (md_k hm) ?_
          refine kr_iret hX hr dX10_block_86 ⟨rfl, ?_⟩
          exact kq_rI h
        replace h := kq_f c_20_5 h
        by_cases c_20_6 : a2 = (6 : Int32)
        · replace h := kq_t c_20_6 h
          refine kr_tabIn (tgt := 76) (off := 56) hX dX10_block_20 (by rw [c_20_6]; decide) (by rw [c_20_6]; decide) (by rw [c_20_6]; rfl) (by decide) ?_
          refine kr_aload_n (i := 0) hX dX10_block_76 rfl rfl ?_
          refine kr_iload_n (i := 1) hX dX10_block_77 rfl rfl ?_
          refine kr_iload_n (i := 2) hX dX10_block_78 rfl rfl ?_
          refine kr_bipush (v := 12) hX dX10_block_79 (by decide) ?_
          refine kr_iload_n (i := 3) hX dX10_block_81 rfl rfl ?_
          refine kr_iadd hX dX10_block_82 ?_
          obtain ⟨r_83, μ_83, e_83, h⟩ := kq_b2_e h
          refine kr_dV (c1 := 10) [_, _, _] hX km_10_175 dX10_block_83 (xs_of hm e_83) rfl rfl ⟨_, _, rfl⟩ (by decide) (Nat.le_of_ble_eq_true rfl) (Nat.le_refl _) (Nat.le_refl _) (md_k hm) ?_
          refine kr_iret hX hr dX10_block_86 ⟨rfl, ?_⟩
          exact kq_rI h
        replace h := kq_f c_20_6 h
        by_cases c_20_7 : a2 = (7 : Int32)
        · replace h := kq_t c_20_7 h
          refine kr_tabIn (tgt := 76) (off := 56) hX dX10_block_20 (by rw [c_20_7]; decide) (by rw [c_20_7]; decide) (by rw [c_20_7]; rfl) (by decide) ?_
          refine kr_aload_n (i := 0) hX dX10_block_76 rfl rfl ?_
          refine kr_iload_n (i := 1) hX dX10_block_77 rfl rfl ?_
          refine kr_iload_n (i := 2) hX dX10_block_78 rfl rfl ?_
          refine kr_bipush (v := 12) hX dX10_block_79 (by decide) ?_
          refine kr_iload_n (i := 3) hX dX10_block_81 rfl rfl ?_
          refine kr_iadd hX dX10_block_82 ?_
          obtain ⟨r_83, μ_83, e_83, h⟩ := kq_b2_e h
          refine kr_dV (c1 := 10) [_, _, _] hX km_10_175 dX10_block_83 (xs_of hm e_83) rfl rfl ⟨_, _, rfl⟩ (by decide) (Nat.le_of_ble_eq_true rfl) (Nat.le_refl _) (Nat.le_refl _) (md_k hm) ?_
          refine kr_iret hX hr dX10_block_86 ⟨rfl, ?_⟩
          exact kq_rI h
        replace h := kq_f c_20_7 h
        refine kr_tabOut (tgt := 87) hX dX10_block_20 (by have q_0 := kt_ne c_20_0 (z := 0) (by decide); have q_1 := kt_ne c_20_1 (z := 1) (by decide); have q_2 := kt_ne c_20_2 (z := 2) (by decide); have q_3 := kt_ne c_20_3 (z := 3) (by decide); have q_4 := kt_ne c_20_4 (z := 4) (by decide); have q_5 := kt_ne c_20_5 (z := 5) (by decide); have q_6 := kt_ne c_20_6 (z := 6) (by decide); have q_7 := kt_ne c_20_7 (z := 7) (by decide); omega) (by decide) ?_
        refine kr_iconst (v := (-1)) hX dX10_block_87 (by decide) ?_
        refine kr_iret hX hr dX10_block_88 ⟨rfl, ?_⟩
        exact kq_rI h
      · replace h := kq_t c_14 h
        refine kr_iconst (v := (-1)) hX dX10_block_17 (by decide) ?_
        refine kr_iret hX hr dX10_block_18 ⟨rfl, ?_⟩
        exact kq_rI h
  exact key (r, μ1) h
def x_act (n : Nat) (m : Nat) (μ : kt_M) (a0 : Int32) (a1 : Int32) (a2 : Int32) (a3 : Int32) : Option (Int32 × kt_M) := kq_b2 (x_isProgram n m μ a0) (fun r_2 μ_2 => (if r_2 = 0 then some (((-1) : Int32), μ_2) else kq_b2 (x_isBlock n m μ_2 a0 a1) (fun r_11 μ_11 => (if r_11 = 0 then some (((-1) : Int32), μ_11) else (if a2 < 0 then some (((-1) : Int32), μ_11) else kq_b1 (x_in n (Int32.toInt64 a3) (0 : Int64) (2 : Int64)) (fun r_28 => (if r_28 = 0 then some (((-1) : Int32), μ_11) else kq_b2 (x_of n m μ_11 a0 a1 (0 : Int32)) (fun r_41 μ_41 => (if r_41 ≤ a2 then some (((-4) : Int32), μ_41) else kq_b2 (x_of n m μ_41 a0 a1 (((1 : Int32) + ((3 : Int32) * a2)) + a3)) (fun r_58 μ_58 => some (r_58, μ_58)))))))))))
set_option maxHeartbeats 4000000 in
set_option maxRecDepth 100000 in
theorem xs_act {G : kt_G} {σ : kt_Y} {μ : kt_M} {m : Nat} (hm : kt_md σ m) {n : Nat} {a0 : Int32} {a1 : Int32} {a2 : Int32} {a3 : Int32} {r : Int32} {μ1 : kt_M} (h : x_act n m μ a0 a1 a2 a3 = some (r, μ1)) : kt_F G yX10_act cX10_act 5 (some .int) 2 [.ref m, .int a0, .int a1, .int a2, .int a3] σ μ (fun rv μ2 => rv = some (.int r) ∧ μ2 = μ1) := by
  have key : ∀ q : (Int32 × kt_M), x_act n m μ a0 a1 a2 a3 = some q → kt_F G yX10_act cX10_act 5 (some .int) 2 [.ref m, .int a0, .int a1, .int a2, .int a3] σ μ (fun rv μ2 => rv = some (.int q.1) ∧ μ2 = q.2) := by
    intro q h
    unfold x_act at h
    refine kt_F.of (by decide) (Nat.le_of_ble_eq_true rfl) (fun X hX hr => ?_)
    refine kr_aload_n (i := 0) hX dX10_act_0 rfl rfl ?_
    refine kr_iload_n (i := 1) hX dX10_act_1 rfl rfl ?_
    obtain ⟨r_2, μ_2, e_2, h⟩ := kq_b2_e h
    refine kr_dV (c1 := 10) [_] hX km_10_191 dX10_act_2 (xs_isProgram hm e_2) rfl rfl ⟨_, _, rfl⟩ (by decide) (Nat.le_of_ble_eq_true rfl) (Nat.le_refl _) (Nat.le_refl _) (md_k hm) ?_
    refine kr_if_eq (tgt := 34) hX dX10_act_5 (by decide) (fun c_5 => ?_) (fun c_5 => ?_)
    · replace h := kq_t c_5 h
      refine kr_iconst (v := (-1)) hX dX10_act_34 (by decide) ?_
      refine kr_iret hX hr dX10_act_35 ⟨rfl, ?_⟩
      exact kq_rI h
    · replace h := kq_f c_5 h
      refine kr_aload_n (i := 0) hX dX10_act_8 rfl rfl ?_
      refine kr_iload_n (i := 1) hX dX10_act_9 rfl rfl ?_
      refine kr_iload_n (i := 2) hX dX10_act_10 rfl rfl ?_
      obtain ⟨r_11, μ_11, e_11, h⟩ := kq_b2_e h
      refine kr_dV (c1 := 10) [_, _] hX km_10_178 dX10_act_11 (xs_isBlock hm e_11) rfl rfl ⟨_, _, rfl⟩ (by decide) (Nat.le_of_ble_eq_true rfl) (Nat.le_refl _) (Nat.le_refl _) (md_k hm) ?_
      refine kr_if_eq (tgt := 34) hX dX10_act_14 (by decide) (fun c_14 => ?_) (fun c_14 => ?_)
      · replace h := kq_t c_14 h
        refine kr_iconst (v := (-1)) hX dX10_act_34 (by decide) ?_
        refine kr_iret hX hr dX10_act_35 ⟨rfl, ?_⟩
        exact kq_rI h
      · replace h := kq_f c_14 h
        refine kr_iload_n (i := 3) hX dX10_act_17 rfl rfl ?_
        refine kr_if_lt (tgt := 34) hX dX10_act_18 (by decide) (fun c_18 => ?_) (fun c_18 => ?_)
        · replace h := kq_t c_18 h
          refine kr_iconst (v := (-1)) hX dX10_act_34 (by decide) ?_
          refine kr_iret hX hr dX10_act_35 ⟨rfl, ?_⟩
          exact kq_rI h
        · replace h := kq_f c_18 h
          refine kr_iload hX dX10_act_21 rfl ?_
          refine kr_i2l hX dX10_act_23 rfl ?_
          refine kr_lconst (v := 0) hX dX10_act_24 (by decide) ?_
          refine kr_ldc2 (v := 2) hX kw_1349 dX10_act_25 ?_
          obtain ⟨r_28, e_28, h⟩ := kq_b1_e h
          refine kr_dS [_, _, _] hX km_10_80 dX10_act_28 (xs_in e_28) rfl rfl (by decide) (Nat.le_of_ble_eq_true rfl) (Nat.le_refl _) (Nat.le_refl _) ?_
          refine kr_if_ne (tgt := 36) hX dX10_act_31 (by decide) (fun c_31 => ?_) (fun c_31 => ?_)
          · replace h := kq_f c_31 h
            refine kr_iload_n (i := 3) hX dX10_act_36 rfl rfl ?_
            refine kr_aload_n (i := 0) hX dX10_act_37 rfl rfl ?_
            refine kr_iload_n (i := 1) hX dX10_act_38 rfl rfl ?_
            refine kr_iload_n (i := 2) hX dX10_act_39 rfl rfl ?_
            refine kr_iconst (v := 0) hX dX10_act_40 (by decide) ?_
            obtain ⟨r_41, μ_41, e_41, h⟩ := kq_b2_e h
            refine kr_dV (c1 := 10) [_, _, _] hX km_10_175 dX10_act_41 (xs_of hm e_41) rfl rfl ⟨_, _, rfl⟩ (by decide) (Nat.le_of_ble_eq_true rfl) (Nat.le_refl _) (Nat.le_refl _) (md_k hm) ?_
            refine kr_icmp_ge (tgt := 64) hX dX10_act_44 (by decide) (fun c_44 => ?_) (fun c_44 => ?_)
            · replace h := kq_t c_44 h
              refine kr_bipush (v := (-4)) hX dX10_act_64 (by decide) ?_
              refine kr_iret hX hr dX10_act_66 ⟨rfl, ?_⟩
              exact kq_rI h
            · replace h := kq_f c_44 h
              refine kr_aload_n (i := 0) hX dX10_act_47 rfl rfl ?_
              refine kr_iload_n (i := 1) hX dX10_act_48 rfl rfl ?_
              refine kr_iload_n (i := 2) hX dX10_act_49 rfl rfl ?_
              refine kr_iconst (v := 1) hX dX10_act_50 (by decide) ?_
              refine kr_iconst (v := 3) hX dX10_act_51 (by decide) ?_
              refine kr_iload_n (i := 3) hX dX10_act_52 rfl rfl ?_
              refine kr_imul hX dX10_act_53 ?_
              refine kr_iadd hX dX10_act_54 ?_
              refine kr_iload hX dX10_act_55 rfl ?_
              refine kr_iadd hX dX10_act_57 ?_
              obtain ⟨r_58, μ_58, e_58, h⟩ := kq_b2_e h
              refine kr_dV (c1 := 10) [_, _, _] hX km_10_175 dX10_act_58 (xs_of hm e_58) rfl rfl ⟨_, _, rfl⟩ (by decide) (Nat.le_of_ble_eq_true rfl) (Nat.le_refl _) (Nat.le_refl _) (md_k hm) ?_
              refine kr_goto (tgt := 66) hX dX10_act_61 (by decide) ?_
              refine kr_iret hX hr dX10_act_66 ⟨rfl, ?_⟩
              exact kq_rI h
          · replace h := kq_t c_31 h
            refine kr_iconst (v := (-1)) hX dX10_act_34 (by decide) ?_
            refine kr_iret hX hr dX10_act_35 ⟨rfl, ?_⟩
            exact kq_rI h
  exact key (r, μ1) h

def x_isSheet (n : Nat) (a0 : Int32) (a1 : Int32) : Option Int32 := kq_b1 (x_in n (Int32.toInt64 a0) (0 : Int64) (3 : Int64)) (fun r_6 => (if r_6 = 0 then some (0 : Int32) else kq_b1 (x_in n (Int32.toInt64 a1) (0 : Int64) (2 : Int64)) (fun r_18 => (if r_18 = 0 then some (0 : Int32) else some (1 : Int32)))))
set_option maxHeartbeats 4000000 in
set_option maxRecDepth 100000 in
theorem xs_isSheet {G : kt_G} {σ : kt_Y} {μ : kt_M} {n : Nat} {a0 : Int32} {a1 : Int32} {q : Int32} (h : x_isSheet n a0 a1 = some q) : kt_F G yX10_isSheet cX10_isSheet 2 (some .boolean) 1 [.int a0, .int a1] σ μ (fun rv μ2 => rv = some (.int q) ∧ μ2 = μ) := by
  unfold x_isSheet at h
  refine kt_F.of (by decide) (Nat.le_of_ble_eq_true rfl) (fun X hX hr => ?_)
  refine kr_iload_n (i := 0) hX dX10_isSheet_0 rfl rfl ?_
  refine kr_i2l hX dX10_isSheet_1 rfl ?_
  refine kr_lconst (v := 0) hX dX10_isSheet_2 (by decide) ?_
  refine kr_ldc2 (v := 3) hX kw_1357 dX10_isSheet_3 ?_
  obtain ⟨r_6, e_6, h⟩ := kq_b1_e h
  refine kr_dS [_, _, _] hX km_10_80 dX10_isSheet_6 (xs_in e_6) rfl rfl (by decide) (Nat.le_of_ble_eq_true rfl) (Nat.le_refl _) (Nat.le_refl _) ?_
  refine kr_if_eq (tgt := 28) hX dX10_isSheet_9 (by decide) (fun c_9 => ?_) (fun c_9 => ?_)
  · replace h := kq_t c_9 h
    refine kr_iconst (v := 0) hX dX10_isSheet_28 (by decide) ?_
    refine kr_zret hX hr (by decide) dX10_isSheet_29 ⟨rfl, ?_⟩
    exact kq_rIs h
  · replace h := kq_f c_9 h
    refine kr_iload_n (i := 1) hX dX10_isSheet_12 rfl rfl ?_
    refine kr_i2l hX dX10_isSheet_13 rfl ?_
    refine kr_lconst (v := 0) hX dX10_isSheet_14 (by decide) ?_
    refine kr_ldc2 (v := 2) hX kw_1349 dX10_isSheet_15 ?_
    obtain ⟨r_18, e_18, h⟩ := kq_b1_e h
    refine kr_dS [_, _, _] hX km_10_80 dX10_isSheet_18 (xs_in e_18) rfl rfl (by decide) (Nat.le_of_ble_eq_true rfl) (Nat.le_refl _) (Nat.le_refl _) ?_
    refine kr_if_eq (tgt := 28) hX dX10_isSheet_21 (by decide) (fun c_21 => ?_) (fun c_21 => ?_)
    · replace h := kq_t c_21 h
      refine kr_iconst (v := 0) hX dX10_isSheet_28 (by decide) ?_
      refine kr_zret hX hr (by decide) dX10_isSheet_29 ⟨rfl, ?_⟩
      exact kq_rIs h
    · replace h := kq_f c_21 h
      refine kr_iconst (v := 1) hX dX10_isSheet_24 (by decide) ?_
      refine kr_goto (tgt := 29) hX dX10_isSheet_25 (by decide) ?_
      refine kr_zret hX hr (by decide) dX10_isSheet_29 ⟨rfl, ?_⟩
      exact kq_rIs h
def x_sheet_B40 (n : Nat) (m : Nat) (K40 : Int32 → Int32 → kt_M → Option (Int32 × kt_M)) (l1 : Int32) (l4 : Int32) (μ : kt_M) : Option (Int32 × kt_M) := (if (40 : Int32) ≤ l4 then some ((1 : Int32), μ) else kq_ck (kq_in (((40 : Int32) * l1) + l4) 160) (kq_lt (kt_si μ (m + 18) (Int32.toNatClampNeg (((40 : Int32) * l1) + l4)) (0 : Int32)) (fun μ_59 => K40 l1 (l4 + 1) μ_59)))
set_option maxHeartbeats 4000000 in
set_option maxRecDepth 100000 in
theorem xw_sheet_B40 {G : kt_G} {σ : kt_Y} {X : kt_X} (hX : kt_ok G X RX10 cX10_sheet 5 2 0 0) (hr : kt_rt X = (some .int)) {m : Nat} (hm : kt_md σ m) {n : Nat} {q : (Int32 × kt_M)} {K40 : Int32 → Int32 → kt_M → Option (Int32 × kt_M)} (hK40 : ∀ (l1 : Int32) (l4 : Int32) (μ : kt_M), K40 l1 l4 μ = some q → kt_W G X 5 40 [(0, .ref m), (1, .int l1), (4, .int l4)] [] σ μ 0 0 (kt_Z G X (kt_q σ (fun rv μ2 => rv = some (.int q.1) ∧ μ2 = q.2)) 0 0)) {l1 : Int32} {l4 : Int32} {μ : kt_M} (h : x_sheet_B40 n m K40 l1 l4 μ = some q) : kt_W G X 5 40 [(0, .ref m), (1, .int l1), (4, .int l4)] [] σ μ 0 0 (kt_Z G X (kt_q σ (fun rv μ2 => rv = some (.int q.1) ∧ μ2 = q.2)) 0 0) := by
  unfold x_sheet_B40 at h
  refine kr_iload hX dX10_sheet_40 rfl ?_
  refine kr_bipush (v := 40) hX dX10_sheet_42 (by decide) ?_
  refine kr_icmp_ge (tgt := 66) hX dX10_sheet_44 (by decide) (fun c_44 => ?_) (fun c_44 => ?_)
  · replace h := kq_t c_44 h
    refine kr_iconst (v := 1) hX dX10_sheet_66 (by decide) ?_
    refine kr_iret hX hr dX10_sheet_67 ⟨rfl, ?_⟩
    exact kq_rI h
  · replace h := kq_f c_44 h
    refine kr_aload_n (i := 0) hX dX10_sheet_47 rfl rfl ?_
    refine kr_getr (c0 := 10) (k := 32) hX ⟨_, kf_10_67⟩ dX10_sheet_48 rfl (md_k hm) (md_r32 hm) ?_
    refine kr_bipush (v := 40) hX dX10_sheet_51 (by decide) ?_
    refine kr_iload_n (i := 1) hX dX10_sheet_53 rfl rfl ?_
    refine kr_imul hX dX10_sheet_54 ?_
    refine kr_iload hX dX10_sheet_55 rfl ?_
    refine kr_iadd hX dX10_sheet_57 ?_
    refine kr_iconst (v := 0) hX dX10_sheet_58 (by decide) ?_
    obtain ⟨i_59, h⟩ := kq_ck_e h
    refine kr_iast hX dX10_sheet_59 (md_a18 hm) (vp_in_iff.mpr i_59) ?_
    refine kr_ltM h (fun μ_59 h => ?_)
    refine kr_iinc (v := (l4 + 1)) hX dX10_sheet_60 rfl rfl (by decide) rfl rfl ?_
    refine kr_goto (tgt := 40) hX dX10_sheet_63 (by decide) ?_
    refine kr_keep (lv' := [(0, .ref m), (1, .int l1), (4, .int (l4 + 1))]) [0, 1, 2] rfl ?_
    exact hK40 _ _ _ h
def x_sheet_L40 (n : Nat) (m : Nat) : Nat → Int32 → Int32 → kt_M → Option (Int32 × kt_M)
  | 0, _, _, _ => none
  | k + 1, l1, l4, μ => x_sheet_B40 n m (x_sheet_L40 n m k) l1 l4 μ
set_option maxHeartbeats 4000000 in
set_option maxRecDepth 100000 in
theorem xw_sheet_L40 {G : kt_G} {σ : kt_Y} {X : kt_X} (hX : kt_ok G X RX10 cX10_sheet 5 2 0 0) (hr : kt_rt X = (some .int)) {m : Nat} (hm : kt_md σ m) {n : Nat} {q : (Int32 × kt_M)} : ∀ (k : Nat) (l1 : Int32) (l4 : Int32) (μ : kt_M), x_sheet_L40 n m k l1 l4 μ = some q → kt_W G X 5 40 [(0, .ref m), (1, .int l1), (4, .int l4)] [] σ μ 0 0 (kt_Z G X (kt_q σ (fun rv μ2 => rv = some (.int q.1) ∧ μ2 = q.2)) 0 0) := by
  intro k
  induction k with
  | zero => intro l1 l4 μ h; cases h
  | succ k ih => intro l1 l4 μ h; exact xw_sheet_B40 hX hr hm ih h
def x_sheet (n : Nat) (m : Nat) (μ : kt_M) (a0 : Int32) (a1 : Int32) (a2 : Int32) : Option (Int32 × kt_M) := kq_b1 (x_isSheet n a0 a1) (fun r_2 => (if r_2 = 0 then some (((-1) : Int32), μ) else (if a2 ≤ (40 : Int32) then (if 0 ≤ a2 then kq_ck (kq_in a0 4) (kq_lt (kt_si μ (m + 16) (Int32.toNatClampNeg a0) a1) (fun μ_29 => kq_ck (kq_in a0 4) (kq_lt (kt_si μ_29 (m + 17) (Int32.toNatClampNeg a0) a2) (fun μ_36 => x_sheet_L40 n m n a0 (0 : Int32) μ_36)))) else some (((-14) : Int32), μ)) else some (((-1) : Int32), μ))))
set_option maxHeartbeats 4000000 in
set_option maxRecDepth 100000 in
theorem xs_sheet {G : kt_G} {σ : kt_Y} {μ : kt_M} {m : Nat} (hm : kt_md σ m) {n : Nat} {a0 : Int32} {a1 : Int32} {a2 : Int32} {r : Int32} {μ1 : kt_M} (h : x_sheet n m μ a0 a1 a2 = some (r, μ1)) : kt_F G yX10_sheet cX10_sheet 5 (some .int) 2 [.ref m, .int a0, .int a1, .int a2] σ μ (fun rv μ2 => rv = some (.int r) ∧ μ2 = μ1) := by
  have key : ∀ q : (Int32 × kt_M), x_sheet n m μ a0 a1 a2 = some q → kt_F G yX10_sheet cX10_sheet 5 (some .int) 2 [.ref m, .int a0, .int a1, .int a2] σ μ (fun rv μ2 => rv = some (.int q.1) ∧ μ2 = q.2) := by
    intro q h
    unfold x_sheet at h
    refine kt_F.of (by decide) (Nat.le_of_ble_eq_true rfl) (fun X hX hr => ?_)
    refine kr_iload_n (i := 1) hX dX10_sheet_0 rfl rfl ?_
    refine kr_iload_n (i := 2) hX dX10_sheet_1 rfl rfl ?_
    obtain ⟨r_2, e_2, h⟩ := kq_b1_e h
    refine kr_dS [_, _] hX km_10_367 dX10_sheet_2 (xs_isSheet e_2) rfl rfl (by decide) (Nat.le_of_ble_eq_true rfl) (Nat.le_refl _) (Nat.le_refl _) ?_
    refine kr_if_eq (tgt := 14) hX dX10_sheet_5 (by decide) (fun c_5 => ?_) (fun c_5 => ?_)
    · replace h := kq_t c_5 h
      refine kr_iconst (v := (-1)) hX dX10_sheet_14 (by decide) ?_
      refine kr_iret hX hr dX10_sheet_15 ⟨rfl, ?_⟩
      exact kq_rI h
    · replace h := kq_f c_5 h
      refine kr_iload_n (i := 3) hX dX10_sheet_8 rfl rfl ?_
      refine kr_bipush (v := 40) hX dX10_sheet_9 (by decide) ?_
      refine kr_icmp_le (tgt := 16) hX dX10_sheet_11 (by decide) (fun c_11 => ?_) (fun c_11 => ?_)
      · replace h := kq_t c_11 h
        refine kr_iload_n (i := 3) hX dX10_sheet_16 rfl rfl ?_
        refine kr_if_ge (tgt := 23) hX dX10_sheet_17 (by decide) (fun c_17 => ?_) (fun c_17 => ?_)
        · replace h := kq_t c_17 h
          refine kr_aload_n (i := 0) hX dX10_sheet_23 rfl rfl ?_
          refine kr_getr (c0 := 10) (k := 30) hX ⟨_, kf_10_61⟩ dX10_sheet_24 rfl (md_k hm) (md_r30 hm) ?_
          refine kr_iload_n (i := 1) hX dX10_sheet_27 rfl rfl ?_
          refine kr_iload_n (i := 2) hX dX10_sheet_28 rfl rfl ?_
          obtain ⟨i_29, h⟩ := kq_ck_e h
          refine kr_iast hX dX10_sheet_29 (md_a16 hm) (vp_in_iff.mpr i_29) ?_
          refine kr_ltM h (fun μ_29 h => ?_)
          refine kr_aload_n (i := 0) hX dX10_sheet_30 rfl rfl ?_
          refine kr_getr (c0 := 10) (k := 31) hX ⟨_, kf_10_64⟩ dX10_sheet_31 rfl (md_k hm) (md_r31 hm) ?_
          refine kr_iload_n (i := 1) hX dX10_sheet_34 rfl rfl ?_
          refine kr_iload_n (i := 3) hX dX10_sheet_35 rfl rfl ?_
          obtain ⟨i_36, h⟩ := kq_ck_e h
          refine kr_iast hX dX10_sheet_36 (md_a17 hm) (vp_in_iff.mpr i_36) ?_
          refine kr_ltM h (fun μ_36 h => ?_)
          refine kr_iconst (v := 0) hX dX10_sheet_37 (by decide) ?_
          refine kr_istore hX dX10_sheet_38 (by decide) rfl rfl ?_
          refine kr_keep (lv' := [(0, .ref m), (1, .int a0), (4, .int (0 : Int32))]) [0, 1, 4] rfl ?_
          exact xw_sheet_L40 hX hr hm n _ _ _ h
        · replace h := kq_f c_17 h
          refine kr_bipush (v := (-14)) hX dX10_sheet_20 (by decide) ?_
          refine kr_iret hX hr dX10_sheet_22 ⟨rfl, ?_⟩
          exact kq_rI h
      · replace h := kq_f c_11 h
        refine kr_iconst (v := (-1)) hX dX10_sheet_14 (by decide) ?_
        refine kr_iret hX hr dX10_sheet_15 ⟨rfl, ?_⟩
        exact kq_rI h
  exact key (r, μ1) h
def x_lay_J85 (n : Nat) (m : Nat) (s1 : Int32) (s2 : Int32) (μ : kt_M) : Option (Int32 × kt_M) := kq_ck (kq_in s1 160) (kq_lt (kt_si μ (m + 18) (Int32.toNatClampNeg s1) s2) (fun μ_85 => some ((1 : Int32), μ_85)))
set_option maxHeartbeats 4000000 in
set_option maxRecDepth 100000 in
theorem xw_lay_J85 {G : kt_G} {σ : kt_Y} {X : kt_X} (hX : kt_ok G X RX10 cX10_lay 4 2 0 0) (hr : kt_rt X = (some .int)) {m : Nat} (hm : kt_md σ m) {n : Nat} {q : (Int32 × kt_M)} {s1 : Int32} {s2 : Int32} {μ : kt_M} (h : x_lay_J85 n m s1 s2 μ = some q) : kt_W G X 4 85 [(0, .ref m)] [.int s2, .int s1, .ref (m + 18)] σ μ 0 0 (kt_Z G X (kt_q σ (fun rv μ2 => rv = some (.int q.1) ∧ μ2 = q.2)) 0 0) := by
  unfold x_lay_J85 at h
  obtain ⟨i_85, h⟩ := kq_ck_e h
  refine kr_iast hX dX10_lay_85 (md_a18 hm) (vp_in_iff.mpr i_85) ?_
  refine kr_ltM h (fun μ_85 h => ?_)
  refine kr_iconst (v := 1) hX dX10_lay_86 (by decide) ?_
  refine kr_iret hX hr dX10_lay_87 ⟨rfl, ?_⟩
  exact kq_rI h
def x_lay (n : Nat) (m : Nat) (μ : kt_M) (a0 : Int32) (a1 : Int32) (a2 : Int32) : Option (Int32 × kt_M) := kq_b1 (x_isSheet n a0 (0 : Int32)) (fun r_2 => (if r_2 = 0 then some (((-1) : Int32), μ) else kq_ck (kq_in a0 4) ((if (kt_i μ (m + 16) (Int32.toNatClampNeg a0)) = ((-4) : Int32) then some (((-11) : Int32), μ) else kq_ck (kq_in a0 4) (kq_b1 (x_in n (Int32.toInt64 a1) (0 : Int64) (Int32.toInt64 ((kt_i μ (m + 17) (Int32.toNatClampNeg a0)) - (1 : Int32)))) (fun r_36 => (if r_36 = 0 then some (((-12) : Int32), μ) else kq_ck (kq_in a0 4) ((if (kt_i μ (m + 16) (Int32.toNatClampNeg a0)) = 0 then x_lay_J85 n m (((40 : Int32) * a0) + a1) (Int8.toInt32 (Int32.toInt8 a2)) μ else kq_ck (kq_in a0 4) ((if (kt_i μ (m + 16) (Int32.toNatClampNeg a0)) = (1 : Int32) then x_lay_J85 n m (((40 : Int32) * a0) + a1) (Int16.toInt32 (Int32.toInt16 a2)) μ else x_lay_J85 n m (((40 : Int32) * a0) + a1) a2 μ)))))))))))
set_option maxHeartbeats 4000000 in
set_option maxRecDepth 100000 in
theorem xs_lay {G : kt_G} {σ : kt_Y} {μ : kt_M} {m : Nat} (hm : kt_md σ m) {n : Nat} {a0 : Int32} {a1 : Int32} {a2 : Int32} {r : Int32} {μ1 : kt_M} (h : x_lay n m μ a0 a1 a2 = some (r, μ1)) : kt_F G yX10_lay cX10_lay 4 (some .int) 2 [.ref m, .int a0, .int a1, .int a2] σ μ (fun rv μ2 => rv = some (.int r) ∧ μ2 = μ1) := by
  have key : ∀ q : (Int32 × kt_M), x_lay n m μ a0 a1 a2 = some q → kt_F G yX10_lay cX10_lay 4 (some .int) 2 [.ref m, .int a0, .int a1, .int a2] σ μ (fun rv μ2 => rv = some (.int q.1) ∧ μ2 = q.2) := by
    intro q h
    unfold x_lay at h
    refine kt_F.of (by decide) (Nat.le_of_ble_eq_true rfl) (fun X hX hr => ?_)
    refine kr_iload_n (i := 1) hX dX10_lay_0 rfl rfl ?_
    refine kr_iconst (v := 0) hX dX10_lay_1 (by decide) ?_
    obtain ⟨r_2, e_2, h⟩ := kq_b1_e h
    refine kr_dS [_, _] hX km_10_367 dX10_lay_2 (xs_isSheet e_2) rfl rfl (by decide) (Nat.le_of_ble_eq_true rfl) (Nat.le_refl _) (Nat.le_refl _) ?_
    refine kr_if_ne (tgt := 10) hX dX10_lay_5 (by decide) (fun c_5 => ?_) (fun c_5 => ?_)
    · replace h := kq_f c_5 h
      refine kr_aload_n (i := 0) hX dX10_lay_10 rfl rfl ?_
      refine kr_getr (c0 := 10) (k := 30) hX ⟨_, kf_10_61⟩ dX10_lay_11 rfl (md_k hm) (md_r30 hm) ?_
      refine kr_iload_n (i := 1) hX dX10_lay_14 rfl rfl ?_
      obtain ⟨i_15, h⟩ := kq_ck_e h
      refine kr_iald hX dX10_lay_15 (md_a16 hm) (vp_in_iff.mpr i_15) ?_
      refine kr_bipush (v := (-4)) hX dX10_lay_16 (by decide) ?_
      refine kr_icmp_ne (tgt := 24) hX dX10_lay_18 (by decide) (fun c_18 => ?_) (fun c_18 => ?_)
      · replace h := kq_f c_18 h
        refine kr_iload_n (i := 2) hX dX10_lay_24 rfl rfl ?_
        refine kr_i2l hX dX10_lay_25 rfl ?_
        refine kr_lconst (v := 0) hX dX10_lay_26 (by decide) ?_
        refine kr_aload_n (i := 0) hX dX10_lay_27 rfl rfl ?_
        refine kr_getr (c0 := 10) (k := 31) hX ⟨_, kf_10_64⟩ dX10_lay_28 rfl (md_k hm) (md_r31 hm) ?_
        refine kr_iload_n (i := 1) hX dX10_lay_31 rfl rfl ?_
        obtain ⟨i_32, h⟩ := kq_ck_e h
        refine kr_iald hX dX10_lay_32 (md_a17 hm) (vp_in_iff.mpr i_32) ?_
        refine kr_iconst (v := 1) hX dX10_lay_33 (by decide) ?_
        refine kr_isub hX dX10_lay_34 ?_
        refine kr_i2l hX dX10_lay_35 rfl ?_
        obtain ⟨r_36, e_36, h⟩ := kq_b1_e h
        refine kr_dS [_, _, _] hX km_10_80 dX10_lay_36 (xs_in e_36) rfl rfl (by decide) (Nat.le_of_ble_eq_true rfl) (Nat.le_refl _) (Nat.le_refl _) ?_
        refine kr_if_ne (tgt := 45) hX dX10_lay_39 (by decide) (fun c_39 => ?_) (fun c_39 => ?_)
        · replace h := kq_f c_39 h
          refine kr_aload_n (i := 0) hX dX10_lay_45 rfl rfl ?_
          refine kr_getr (c0 := 10) (k := 32) hX ⟨_, kf_10_67⟩ dX10_lay_46 rfl (md_k hm) (md_r32 hm) ?_
          refine kr_bipush (v := 40) hX dX10_lay_49 (by decide) ?_
          refine kr_iload_n (i := 1) hX dX10_lay_51 rfl rfl ?_
          refine kr_imul hX dX10_lay_52 ?_
          refine kr_iload_n (i := 2) hX dX10_lay_53 rfl rfl ?_
          refine kr_iadd hX dX10_lay_54 ?_
          refine kr_aload_n (i := 0) hX dX10_lay_55 rfl rfl ?_
          refine kr_getr (c0 := 10) (k := 30) hX ⟨_, kf_10_61⟩ dX10_lay_56 rfl (md_k hm) (md_r30 hm) ?_
          refine kr_iload_n (i := 1) hX dX10_lay_59 rfl rfl ?_
          obtain ⟨i_60, h⟩ := kq_ck_e h
          refine kr_iald hX dX10_lay_60 (md_a16 hm) (vp_in_iff.mpr i_60) ?_
          refine kr_if_ne (tgt := 69) hX dX10_lay_61 (by decide) (fun c_61 => ?_) (fun c_61 => ?_)
          · replace h := kq_f c_61 h
            refine kr_aload_n (i := 0) hX dX10_lay_69 rfl rfl ?_
            refine kr_getr (c0 := 10) (k := 30) hX ⟨_, kf_10_61⟩ dX10_lay_70 rfl (md_k hm) (md_r30 hm) ?_
            refine kr_iload_n (i := 1) hX dX10_lay_73 rfl rfl ?_
            obtain ⟨i_74, h⟩ := kq_ck_e h
            refine kr_iald hX dX10_lay_74 (md_a16 hm) (vp_in_iff.mpr i_74) ?_
            refine kr_iconst (v := 1) hX dX10_lay_75 (by decide) ?_
            refine kr_icmp_ne (tgt := 84) hX dX10_lay_76 (by decide) (fun c_76 => ?_) (fun c_76 => ?_)
            · replace h := kq_f c_76 h
              refine kr_iload_n (i := 3) hX dX10_lay_84 rfl rfl ?_
              refine kr_keep (lv' := [(0, .ref m)]) [0] rfl ?_
              exact xw_lay_J85 hX hr hm h
            · replace h := kq_t c_76 h
              refine kr_iload_n (i := 3) hX dX10_lay_79 rfl rfl ?_
              refine kr_i2s hX dX10_lay_80 rfl ?_
              refine kr_goto (tgt := 85) hX dX10_lay_81 (by decide) ?_
              refine kr_keep (lv' := [(0, .ref m)]) [0] rfl ?_
              exact xw_lay_J85 hX hr hm h
          · replace h := kq_t c_61 h
            refine kr_iload_n (i := 3) hX dX10_lay_64 rfl rfl ?_
            refine kr_i2b hX dX10_lay_65 rfl ?_
            refine kr_goto (tgt := 85) hX dX10_lay_66 (by decide) ?_
            refine kr_keep (lv' := [(0, .ref m)]) [0] rfl ?_
            exact xw_lay_J85 hX hr hm h
        · replace h := kq_t c_39 h
          refine kr_bipush (v := (-12)) hX dX10_lay_42 (by decide) ?_
          refine kr_iret hX hr dX10_lay_44 ⟨rfl, ?_⟩
          exact kq_rI h
      · replace h := kq_t c_18 h
        refine kr_bipush (v := (-11)) hX dX10_lay_21 (by decide) ?_
        refine kr_iret hX hr dX10_lay_23 ⟨rfl, ?_⟩
        exact kq_rI h
    · replace h := kq_t c_5 h
      refine kr_iconst (v := (-1)) hX dX10_lay_8 (by decide) ?_
      refine kr_iret hX hr dX10_lay_9 ⟨rfl, ?_⟩
      exact kq_rI h
  exact key (r, μ1) h
def x_read_J101 (n : Nat) (m : Nat) (K29 : Int32 → Int32 → Int32 → Int32 → Int32 → Int32 → kt_M → Option (Int32 × kt_M)) (l1 : Int32) (l2 : Int32) (l3 : Int32) (l4 : Int32) (l6 : Int32) (l7 : Int64) (s0 : Int32) (μ : kt_M) : Option (Int32 × kt_M) := (if s0 = 0 then kq_ck (kq_in (((40 : Int32) * l1) + (Int64.toInt32 l7)) 160) (kq_b1 (x_in n (Int32.toInt64 (kt_i μ (m + 18) (Int32.toNatClampNeg (((40 : Int32) * l1) + (Int64.toInt32 l7))))) (0 : Int64) (51 : Int64)) (fun r_126 => (if r_126 = 0 then some ((((-20) : Int32) - l6), μ) else K29 l1 l2 l3 l4 s0 (l6 + 1) μ))) else K29 l1 l2 l3 l4 s0 l6 μ)
set_option maxHeartbeats 4000000 in
set_option maxRecDepth 100000 in
theorem xw_read_J101 {G : kt_G} {σ : kt_Y} {X : kt_X} (hX : kt_ok G X RX10 cX10_read 9 2 0 0) (hr : kt_rt X = (some .int)) {m : Nat} (hm : kt_md σ m) {n : Nat} {q : (Int32 × kt_M)} {K29 : Int32 → Int32 → Int32 → Int32 → Int32 → Int32 → kt_M → Option (Int32 × kt_M)} (hK29 : ∀ (l1 : Int32) (l2 : Int32) (l3 : Int32) (l4 : Int32) (l5 : Int32) (l6 : Int32) (μ : kt_M), K29 l1 l2 l3 l4 l5 l6 μ = some q → kt_W G X 9 29 [(0, .ref m), (1, .int l1), (2, .int l2), (3, .int l3), (4, .int l4), (5, .int l5), (6, .int l6)] [] σ μ 0 0 (kt_Z G X (kt_q σ (fun rv μ2 => rv = some (.int q.1) ∧ μ2 = q.2)) 0 0)) {l1 : Int32} {l2 : Int32} {l3 : Int32} {l4 : Int32} {l6 : Int32} {l7 : Int64} {s0 : Int32} {μ : kt_M} (h : x_read_J101 n m K29 l1 l2 l3 l4 l6 l7 s0 μ = some q) : kt_W G X 9 101 [(0, .ref m), (1, .int l1), (2, .int l2), (3, .int l3), (4, .int l4), (6, .int l6), (7, .long l7)] [.int s0] σ μ 0 0 (kt_Z G X (kt_q σ (fun rv μ2 => rv = some (.int q.1) ∧ μ2 = q.2)) 0 0) := by
  unfold x_read_J101 at h
  refine kr_istore hX dX10_read_101 (by decide) rfl rfl ?_
  refine kr_iload hX dX10_read_103 rfl ?_
  refine kr_if_ne (tgt := 141) hX dX10_read_105 (by decide) (fun c_105 => ?_) (fun c_105 => ?_)
  · replace h := kq_f c_105 h
    refine kr_goto (tgt := 29) hX dX10_read_141 (by decide) ?_
    refine kr_keep (lv' := [(0, .ref m), (1, .int l1), (2, .int l2), (3, .int l3), (4, .int l4), (5, .int s0), (6, .int l6)]) [0, 1, 2, 3, 4, 7, 5] rfl ?_
    exact hK29 _ _ _ _ _ _ _ h
  · replace h := kq_t c_105 h
    refine kr_aload_n (i := 0) hX dX10_read_108 rfl rfl ?_
    refine kr_getr (c0 := 10) (k := 32) hX ⟨_, kf_10_67⟩ dX10_read_109 rfl (md_k hm) (md_r32 hm) ?_
    refine kr_bipush (v := 40) hX dX10_read_112 (by decide) ?_
    refine kr_iload_n (i := 1) hX dX10_read_114 rfl rfl ?_
    refine kr_imul hX dX10_read_115 ?_
    refine kr_lload hX dX10_read_116 rfl ?_
    refine kr_l2i hX dX10_read_118 rfl ?_
    refine kr_iadd hX dX10_read_119 ?_
    obtain ⟨i_120, h⟩ := kq_ck_e h
    refine kr_iald hX dX10_read_120 (md_a18 hm) (vp_in_iff.mpr i_120) ?_
    refine kr_i2l hX dX10_read_121 rfl ?_
    refine kr_lconst (v := 0) hX dX10_read_122 (by decide) ?_
    refine kr_ldc2 (v := 51) hX kw_1432 dX10_read_123 ?_
    obtain ⟨r_126, e_126, h⟩ := kq_b1_e h
    refine kr_dS [_, _, _] hX km_10_80 dX10_read_126 (xs_in e_126) rfl rfl (by decide) (Nat.le_of_ble_eq_true rfl) (Nat.le_refl _) (Nat.le_refl _) ?_
    refine kr_if_ne (tgt := 138) hX dX10_read_129 (by decide) (fun c_129 => ?_) (fun c_129 => ?_)
    · replace h := kq_f c_129 h
      refine kr_iinc (v := (l6 + 1)) hX dX10_read_138 rfl rfl (by decide) rfl rfl ?_
      refine kr_goto (tgt := 29) hX dX10_read_141 (by decide) ?_
      refine kr_keep (lv' := [(0, .ref m), (1, .int l1), (2, .int l2), (3, .int l3), (4, .int l4), (5, .int s0), (6, .int (l6 + 1))]) [0, 1, 2, 3, 4, 7, 5] rfl ?_
      exact hK29 _ _ _ _ _ _ _ h
    · replace h := kq_t c_129 h
      refine kr_bipush (v := (-20)) hX dX10_read_132 (by decide) ?_
      refine kr_iload hX dX10_read_134 rfl ?_
      refine kr_isub hX dX10_read_136 ?_
      refine kr_iret hX hr dX10_read_137 ⟨rfl, ?_⟩
      exact kq_rI h
def x_read_B147 (n : Nat) (m : Nat) (K147 : Int32 → Int32 → Int32 → Int32 → Int32 → kt_M → Option (Int32 × kt_M)) (l1 : Int32) (l3 : Int32) (l5 : Int32) (l6 : Int32) (l7 : Int32) (μ : kt_M) : Option (Int32 × kt_M) := (if l6 ≤ l7 then kq_lt (kt_si μ m 33 l5) (fun μ_184 => some (l6, μ_184)) else kq_ck (kq_in ((((40 : Int32) * l1) + l3) + l7) 160) (kq_ck (kq_in l7 8) (kq_lt (kt_si μ (m + 3) (Int32.toNatClampNeg l7) (kt_i μ (m + 18) (Int32.toNatClampNeg ((((40 : Int32) * l1) + l3) + l7)))) (fun μ_174 => K147 l1 l3 l5 l6 (l7 + 1) μ_174))))
set_option maxHeartbeats 4000000 in
set_option maxRecDepth 100000 in
theorem xw_read_B147 {G : kt_G} {σ : kt_Y} {X : kt_X} (hX : kt_ok G X RX10 cX10_read 9 2 0 0) (hr : kt_rt X = (some .int)) {m : Nat} (hm : kt_md σ m) {n : Nat} {q : (Int32 × kt_M)} {K147 : Int32 → Int32 → Int32 → Int32 → Int32 → kt_M → Option (Int32 × kt_M)} (hK147 : ∀ (l1 : Int32) (l3 : Int32) (l5 : Int32) (l6 : Int32) (l7 : Int32) (μ : kt_M), K147 l1 l3 l5 l6 l7 μ = some q → kt_W G X 9 147 [(0, .ref m), (1, .int l1), (3, .int l3), (5, .int l5), (6, .int l6), (7, .int l7)] [] σ μ 0 0 (kt_Z G X (kt_q σ (fun rv μ2 => rv = some (.int q.1) ∧ μ2 = q.2)) 0 0)) {l1 : Int32} {l3 : Int32} {l5 : Int32} {l6 : Int32} {l7 : Int32} {μ : kt_M} (h : x_read_B147 n m K147 l1 l3 l5 l6 l7 μ = some q) : kt_W G X 9 147 [(0, .ref m), (1, .int l1), (3, .int l3), (5, .int l5), (6, .int l6), (7, .int l7)] [] σ μ 0 0 (kt_Z G X (kt_q σ (fun rv μ2 => rv = some (.int q.1) ∧ μ2 = q.2)) 0 0) := by
  unfold x_read_B147 at h
  refine kr_iload hX dX10_read_147 rfl ?_
  refine kr_iload hX dX10_read_149 rfl ?_
  refine kr_icmp_ge (tgt := 181) hX dX10_read_151 (by decide) (fun c_151 => ?_) (fun c_151 => ?_)
  · replace h := kq_t c_151 h
    refine kr_aload_n (i := 0) hX dX10_read_181 rfl rfl ?_
    refine kr_iload hX dX10_read_182 rfl ?_
    refine kr_puti (c0 := 10) (k := 33) hX kf_10_370 dX10_read_184 rfl rfl rfl (md_k hm) ?_
    refine kr_ltM h (fun μ_184 h => ?_)
    refine kr_iload hX dX10_read_187 rfl ?_
    refine kr_iret hX hr dX10_read_189 ⟨rfl, ?_⟩
    exact kq_rI h
  · replace h := kq_f c_151 h
    refine kr_aload_n (i := 0) hX dX10_read_154 rfl rfl ?_
    refine kr_getr (c0 := 10) (k := 2) hX ⟨_, kf_10_16⟩ dX10_read_155 rfl (md_k hm) (md_r2 hm) ?_
    refine kr_iload hX dX10_read_158 rfl ?_
    refine kr_aload_n (i := 0) hX dX10_read_160 rfl rfl ?_
    refine kr_getr (c0 := 10) (k := 32) hX ⟨_, kf_10_67⟩ dX10_read_161 rfl (md_k hm) (md_r32 hm) ?_
    refine kr_bipush (v := 40) hX dX10_read_164 (by decide) ?_
    refine kr_iload_n (i := 1) hX dX10_read_166 rfl rfl ?_
    refine kr_imul hX dX10_read_167 ?_
    refine kr_iload_n (i := 3) hX dX10_read_168 rfl rfl ?_
    refine kr_iadd hX dX10_read_169 ?_
    refine kr_iload hX dX10_read_170 rfl ?_
    refine kr_iadd hX dX10_read_172 ?_
    obtain ⟨i_173, h⟩ := kq_ck_e h
    refine kr_iald hX dX10_read_173 (md_a18 hm) (vp_in_iff.mpr i_173) ?_
    obtain ⟨i_174, h⟩ := kq_ck_e h
    refine kr_iast hX dX10_read_174 (md_a3 hm) (vp_in_iff.mpr i_174) ?_
    refine kr_ltM h (fun μ_174 h => ?_)
    refine kr_iinc (v := (l7 + 1)) hX dX10_read_175 rfl rfl (by decide) rfl rfl ?_
    refine kr_goto (tgt := 147) hX dX10_read_178 (by decide) ?_
    refine kr_keep (lv' := [(0, .ref m), (1, .int l1), (3, .int l3), (5, .int l5), (6, .int l6), (7, .int (l7 + 1))]) [0, 1, 2, 3, 4, 5] rfl ?_
    exact hK147 _ _ _ _ _ _ h
def x_read_L147 (n : Nat) (m : Nat) : Nat → Int32 → Int32 → Int32 → Int32 → Int32 → kt_M → Option (Int32 × kt_M)
  | 0, _, _, _, _, _, _ => none
  | k + 1, l1, l3, l5, l6, l7, μ => x_read_B147 n m (x_read_L147 n m k) l1 l3 l5 l6 l7 μ
set_option maxHeartbeats 4000000 in
set_option maxRecDepth 100000 in
theorem xw_read_L147 {G : kt_G} {σ : kt_Y} {X : kt_X} (hX : kt_ok G X RX10 cX10_read 9 2 0 0) (hr : kt_rt X = (some .int)) {m : Nat} (hm : kt_md σ m) {n : Nat} {q : (Int32 × kt_M)} : ∀ (k : Nat) (l1 : Int32) (l3 : Int32) (l5 : Int32) (l6 : Int32) (l7 : Int32) (μ : kt_M), x_read_L147 n m k l1 l3 l5 l6 l7 μ = some q → kt_W G X 9 147 [(0, .ref m), (1, .int l1), (3, .int l3), (5, .int l5), (6, .int l6), (7, .int l7)] [] σ μ 0 0 (kt_Z G X (kt_q σ (fun rv μ2 => rv = some (.int q.1) ∧ μ2 = q.2)) 0 0) := by
  intro k
  induction k with
  | zero => intro l1 l3 l5 l6 l7 μ h; cases h
  | succ k ih => intro l1 l3 l5 l6 l7 μ h; exact xw_read_B147 hX hr hm ih h
def x_read_B29 (n : Nat) (m : Nat) (K29 : Int32 → Int32 → Int32 → Int32 → Int32 → Int32 → kt_M → Option (Int32 × kt_M)) (l1 : Int32) (l2 : Int32) (l3 : Int32) (l4 : Int32) (l5 : Int32) (l6 : Int32) (μ : kt_M) : Option (Int32 × kt_M) := (if l4 ≤ l6 then x_read_L147 n m n l1 l3 l5 l6 (0 : Int32) μ else (if l5 = 0 then kq_ck (kq_in l1 4) ((if (kt_i μ (m + 16) (Int32.toNatClampNeg l1)) = ((-4) : Int32) then x_read_J101 n m K29 l1 l2 l3 l4 l6 ((Int32.toInt64 l3) + (Int32.toInt64 l6)) (1 : Int32) μ else kq_ck (kq_in l1 4) ((if (kt_i μ (m + 16) (Int32.toNatClampNeg l1)) = l2 then kq_ck (kq_in l1 4) (kq_b1 (x_in n ((Int32.toInt64 l3) + (Int32.toInt64 l6)) (0 : Int64) (Int32.toInt64 ((kt_i μ (m + 17) (Int32.toNatClampNeg l1)) - (1 : Int32)))) (fun r_90 => (if r_90 = 0 then x_read_J101 n m K29 l1 l2 l3 l4 l6 ((Int32.toInt64 l3) + (Int32.toInt64 l6)) (2 : Int32) μ else x_read_J101 n m K29 l1 l2 l3 l4 l6 ((Int32.toInt64 l3) + (Int32.toInt64 l6)) (0 : Int32) μ))) else x_read_J101 n m K29 l1 l2 l3 l4 l6 ((Int32.toInt64 l3) + (Int32.toInt64 l6)) (3 : Int32) μ)))) else x_read_L147 n m n l1 l3 l5 l6 (0 : Int32) μ))
set_option maxHeartbeats 4000000 in
set_option maxRecDepth 100000 in
theorem xw_read_B29 {G : kt_G} {σ : kt_Y} {X : kt_X} (hX : kt_ok G X RX10 cX10_read 9 2 0 0) (hr : kt_rt X = (some .int)) {m : Nat} (hm : kt_md σ m) {n : Nat} {q : (Int32 × kt_M)} {K29 : Int32 → Int32 → Int32 → Int32 → Int32 → Int32 → kt_M → Option (Int32 × kt_M)} (hK29 : ∀ (l1 : Int32) (l2 : Int32) (l3 : Int32) (l4 : Int32) (l5 : Int32) (l6 : Int32) (μ : kt_M), K29 l1 l2 l3 l4 l5 l6 μ = some q → kt_W G X 9 29 [(0, .ref m), (1, .int l1), (2, .int l2), (3, .int l3), (4, .int l4), (5, .int l5), (6, .int l6)] [] σ μ 0 0 (kt_Z G X (kt_q σ (fun rv μ2 => rv = some (.int q.1) ∧ μ2 = q.2)) 0 0)) {l1 : Int32} {l2 : Int32} {l3 : Int32} {l4 : Int32} {l5 : Int32} {l6 : Int32} {μ : kt_M} (h : x_read_B29 n m K29 l1 l2 l3 l4 l5 l6 μ = some q) : kt_W G X 9 29 [(0, .ref m), (1, .int l1), (2, .int l2), (3, .int l3), (4, .int l4), (5, .int l5), (6, .int l6)] [] σ μ 0 0 (kt_Z G X (kt_q σ (fun rv μ2 => rv = some (.int q.1) ∧ μ2 = q.2)) 0 0) := by
  unfold x_read_B29 at h
  refine kr_iload hX dX10_read_29 rfl ?_
  refine kr_iload hX dX10_read_31 rfl ?_
  refine kr_icmp_ge (tgt := 144) hX dX10_read_33 (by decide) (fun c_33 => ?_) (fun c_33 => ?_)
  · replace h := kq_t c_33 h
    refine kr_iconst (v := 0) hX dX10_read_144 (by decide) ?_
    refine kr_istore hX dX10_read_145 (by decide) rfl rfl ?_
    refine kr_keep (lv' := [(0, .ref m), (1, .int l1), (3, .int l3), (5, .int l5), (6, .int l6), (7, .int (0 : Int32))]) [0, 1, 3, 5, 6, 7] rfl ?_
    exact xw_read_L147 hX hr hm n _ _ _ _ _ _ h
  · replace h := kq_f c_33 h
    refine kr_iload hX dX10_read_36 rfl ?_
    refine kr_if_ne (tgt := 144) hX dX10_read_38 (by decide) (fun c_38 => ?_) (fun c_38 => ?_)
    · replace h := kq_f c_38 h
      refine kr_iconst (v := 0) hX dX10_read_144 (by decide) ?_
      refine kr_istore hX dX10_read_145 (by decide) rfl rfl ?_
      refine kr_keep (lv' := [(0, .ref m), (1, .int l1), (3, .int l3), (5, .int l5), (6, .int l6), (7, .int (0 : Int32))]) [0, 1, 3, 5, 6, 7] rfl ?_
      exact xw_read_L147 hX hr hm n _ _ _ _ _ _ h
    · replace h := kq_t c_38 h
      refine kr_iload_n (i := 3) hX dX10_read_41 rfl rfl ?_
      refine kr_i2l hX dX10_read_42 rfl ?_
      refine kr_iload hX dX10_read_43 rfl ?_
      refine kr_i2l hX dX10_read_45 rfl ?_
      refine kr_ladd hX dX10_read_46 ?_
      refine kr_lstore hX dX10_read_47 (by decide) rfl rfl ?_
      refine kr_aload_n (i := 0) hX dX10_read_49 rfl rfl ?_
      refine kr_getr (c0 := 10) (k := 30) hX ⟨_, kf_10_61⟩ dX10_read_50 rfl (md_k hm) (md_r30 hm) ?_
      refine kr_iload_n (i := 1) hX dX10_read_53 rfl rfl ?_
      obtain ⟨i_54, h⟩ := kq_ck_e h
      refine kr_iald hX dX10_read_54 (md_a16 hm) (vp_in_iff.mpr i_54) ?_
      refine kr_bipush (v := (-4)) hX dX10_read_55 (by decide) ?_
      refine kr_icmp_ne (tgt := 64) hX dX10_read_57 (by decide) (fun c_57 => ?_) (fun c_57 => ?_)
      · replace h := kq_f c_57 h
        refine kr_aload_n (i := 0) hX dX10_read_64 rfl rfl ?_
        refine kr_getr (c0 := 10) (k := 30) hX ⟨_, kf_10_61⟩ dX10_read_65 rfl (md_k hm) (md_r30 hm) ?_
        refine kr_iload_n (i := 1) hX dX10_read_68 rfl rfl ?_
        obtain ⟨i_69, h⟩ := kq_ck_e h
        refine kr_iald hX dX10_read_69 (md_a16 hm) (vp_in_iff.mpr i_69) ?_
        refine kr_iload_n (i := 2) hX dX10_read_70 rfl rfl ?_
        refine kr_icmp_eq (tgt := 78) hX dX10_read_71 (by decide) (fun c_71 => ?_) (fun c_71 => ?_)
        · replace h := kq_t c_71 h
          refine kr_lload hX dX10_read_78 rfl ?_
          refine kr_lconst (v := 0) hX dX10_read_80 (by decide) ?_
          refine kr_aload_n (i := 0) hX dX10_read_81 rfl rfl ?_
          refine kr_getr (c0 := 10) (k := 31) hX ⟨_, kf_10_64⟩ dX10_read_82 rfl (md_k hm) (md_r31 hm) ?_
          refine kr_iload_n (i := 1) hX dX10_read_85 rfl rfl ?_
          obtain ⟨i_86, h⟩ := kq_ck_e h
          refine kr_iald hX dX10_read_86 (md_a17 hm) (vp_in_iff.mpr i_86) ?_
          refine kr_iconst (v := 1) hX dX10_read_87 (by decide) ?_
          refine kr_isub hX dX10_read_88 ?_
          refine kr_i2l hX dX10_read_89 rfl ?_
          obtain ⟨r_90, e_90, h⟩ := kq_b1_e h
          refine kr_dS [_, _, _] hX km_10_80 dX10_read_90 (xs_in e_90) rfl rfl (by decide) (Nat.le_of_ble_eq_true rfl) (Nat.le_refl _) (Nat.le_refl _) ?_
          refine kr_if_eq (tgt := 100) hX dX10_read_93 (by decide) (fun c_93 => ?_) (fun c_93 => ?_)
          · replace h := kq_t c_93 h
            refine kr_iconst (v := 2) hX dX10_read_100 (by decide) ?_
            refine kr_keep (lv' := [(0, .ref m), (1, .int l1), (2, .int l2), (3, .int l3), (4, .int l4), (6, .int l6), (7, .long ((Int32.toInt64 l3) + (Int32.toInt64 l6)))]) [0, 1, 2, 3, 4, 6, 7] rfl ?_
            exact xw_read_J101 hX hr hm hK29 h
          · replace h := kq_f c_93 h
            refine kr_iconst (v := 0) hX dX10_read_96 (by decide) ?_
            refine kr_goto (tgt := 101) hX dX10_read_97 (by decide) ?_
            refine kr_keep (lv' := [(0, .ref m), (1, .int l1), (2, .int l2), (3, .int l3), (4, .int l4), (6, .int l6), (7, .long ((Int32.toInt64 l3) + (Int32.toInt64 l6)))]) [0, 1, 2, 3, 4, 6, 7] rfl ?_
            exact xw_read_J101 hX hr hm hK29 h
        · replace h := kq_f c_71 h
          refine kr_iconst (v := 3) hX dX10_read_74 (by decide) ?_
          refine kr_goto (tgt := 101) hX dX10_read_75 (by decide) ?_
          refine kr_keep (lv' := [(0, .ref m), (1, .int l1), (2, .int l2), (3, .int l3), (4, .int l4), (6, .int l6), (7, .long ((Int32.toInt64 l3) + (Int32.toInt64 l6)))]) [0, 1, 2, 3, 4, 6, 7] rfl ?_
          exact xw_read_J101 hX hr hm hK29 h
      · replace h := kq_t c_57 h
        refine kr_iconst (v := 1) hX dX10_read_60 (by decide) ?_
        refine kr_goto (tgt := 101) hX dX10_read_61 (by decide) ?_
        refine kr_keep (lv' := [(0, .ref m), (1, .int l1), (2, .int l2), (3, .int l3), (4, .int l4), (6, .int l6), (7, .long ((Int32.toInt64 l3) + (Int32.toInt64 l6)))]) [0, 1, 2, 3, 4, 6, 7] rfl ?_
        exact xw_read_J101 hX hr hm hK29 h
def x_read_L29 (n : Nat) (m : Nat) : Nat → Int32 → Int32 → Int32 → Int32 → Int32 → Int32 → kt_M → Option (Int32 × kt_M)
  | 0, _, _, _, _, _, _, _ => none
  | k + 1, l1, l2, l3, l4, l5, l6, μ => x_read_B29 n m (x_read_L29 n m k) l1 l2 l3 l4 l5 l6 μ
set_option maxHeartbeats 4000000 in
set_option maxRecDepth 100000 in
theorem xw_read_L29 {G : kt_G} {σ : kt_Y} {X : kt_X} (hX : kt_ok G X RX10 cX10_read 9 2 0 0) (hr : kt_rt X = (some .int)) {m : Nat} (hm : kt_md σ m) {n : Nat} {q : (Int32 × kt_M)} : ∀ (k : Nat) (l1 : Int32) (l2 : Int32) (l3 : Int32) (l4 : Int32) (l5 : Int32) (l6 : Int32) (μ : kt_M), x_read_L29 n m k l1 l2 l3 l4 l5 l6 μ = some q → kt_W G X 9 29 [(0, .ref m), (1, .int l1), (2, .int l2), (3, .int l3), (4, .int l4), (5, .int l5), (6, .int l6)] [] σ μ 0 0 (kt_Z G X (kt_q σ (fun rv μ2 => rv = some (.int q.1) ∧ μ2 = q.2)) 0 0) := by
  intro k
  induction k with
  | zero => intro l1 l2 l3 l4 l5 l6 μ h; cases h
  | succ k ih => intro l1 l2 l3 l4 l5 l6 μ h; exact xw_read_B29 hX hr hm ih h
def x_read (n : Nat) (m : Nat) (μ : kt_M) (a0 : Int32) (a1 : Int32) (a2 : Int32) (a3 : Int32) : Option (Int32 × kt_M) := kq_b1 (x_isSheet n a0 a1) (fun r_2 => (if r_2 = 0 then some (((-1) : Int32), μ) else kq_b1 (x_in n (Int32.toInt64 a3) (0 : Int64) (8 : Int64)) (fun r_15 => (if r_15 = 0 then some (((-1) : Int32), μ) else x_read_L29 n m n a0 a1 a2 a3 (0 : Int32) (0 : Int32) μ))))
set_option maxHeartbeats 4000000 in
set_option maxRecDepth 100000 in
theorem xs_read {G : kt_G} {σ : kt_Y} {μ : kt_M} {m : Nat} (hm : kt_md σ m) {n : Nat} {a0 : Int32} {a1 : Int32} {a2 : Int32} {a3 : Int32} {r : Int32} {μ1 : kt_M} (h : x_read n m μ a0 a1 a2 a3 = some (r, μ1)) : kt_F G yX10_read cX10_read 9 (some .int) 2 [.ref m, .int a0, .int a1, .int a2, .int a3] σ μ (fun rv μ2 => rv = some (.int r) ∧ μ2 = μ1) := by
  have key : ∀ q : (Int32 × kt_M), x_read n m μ a0 a1 a2 a3 = some q → kt_F G yX10_read cX10_read 9 (some .int) 2 [.ref m, .int a0, .int a1, .int a2, .int a3] σ μ (fun rv μ2 => rv = some (.int q.1) ∧ μ2 = q.2) := by
    intro q h
    unfold x_read at h
    refine kt_F.of (by decide) (Nat.le_of_ble_eq_true rfl) (fun X hX hr => ?_)
    refine kr_iload_n (i := 1) hX dX10_read_0 rfl rfl ?_
    refine kr_iload_n (i := 2) hX dX10_read_1 rfl rfl ?_
    obtain ⟨r_2, e_2, h⟩ := kq_b1_e h
    refine kr_dS [_, _] hX km_10_367 dX10_read_2 (xs_isSheet e_2) rfl rfl (by decide) (Nat.le_of_ble_eq_true rfl) (Nat.le_refl _) (Nat.le_refl _) ?_
    refine kr_if_eq (tgt := 21) hX dX10_read_5 (by decide) (fun c_5 => ?_) (fun c_5 => ?_)
    · replace h := kq_t c_5 h
      refine kr_iconst (v := (-1)) hX dX10_read_21 (by decide) ?_
      refine kr_iret hX hr dX10_read_22 ⟨rfl, ?_⟩
      exact kq_rI h
    · replace h := kq_f c_5 h
      refine kr_iload hX dX10_read_8 rfl ?_
      refine kr_i2l hX dX10_read_10 rfl ?_
      refine kr_lconst (v := 0) hX dX10_read_11 (by decide) ?_
      refine kr_ldc2 (v := 8) hX kw_1225 dX10_read_12 ?_
      obtain ⟨r_15, e_15, h⟩ := kq_b1_e h
      refine kr_dS [_, _, _] hX km_10_80 dX10_read_15 (xs_in e_15) rfl rfl (by decide) (Nat.le_of_ble_eq_true rfl) (Nat.le_refl _) (Nat.le_refl _) ?_
      refine kr_if_ne (tgt := 23) hX dX10_read_18 (by decide) (fun c_18 => ?_) (fun c_18 => ?_)
      · replace h := kq_f c_18 h
        refine kr_iconst (v := 0) hX dX10_read_23 (by decide) ?_
        refine kr_istore hX dX10_read_24 (by decide) rfl rfl ?_
        refine kr_iconst (v := 0) hX dX10_read_26 (by decide) ?_
        refine kr_istore hX dX10_read_27 (by decide) rfl rfl ?_
        refine kr_keep (lv' := [(0, .ref m), (1, .int a0), (2, .int a1), (3, .int a2), (4, .int a3), (5, .int (0 : Int32)), (6, .int (0 : Int32))]) [0, 1, 2, 3, 4, 5, 6] rfl ?_
        exact xw_read_L29 hX hr hm n _ _ _ _ _ _ _ h
      · replace h := kq_t c_18 h
        refine kr_iconst (v := (-1)) hX dX10_read_21 (by decide) ?_
        refine kr_iret hX hr dX10_read_22 ⟨rfl, ?_⟩
        exact kq_rI h
  exact key (r, μ1) h
def x_torn (n : Nat) (m : Nat) (μ : kt_M) : Option (Int32 × kt_M) := some ((kt_i μ m 33), μ)
set_option maxHeartbeats 4000000 in
set_option maxRecDepth 100000 in
theorem xs_torn {G : kt_G} {σ : kt_Y} {μ : kt_M} {m : Nat} (hm : kt_md σ m) {n : Nat} {r : Int32} {μ1 : kt_M} (h : x_torn n m μ = some (r, μ1)) : kt_F G yX10_torn cX10_torn 1 (some .int) 0 [.ref m] σ μ (fun rv μ2 => rv = some (.int r) ∧ μ2 = μ1) := by
  have key : ∀ q : (Int32 × kt_M), x_torn n m μ = some q → kt_F G yX10_torn cX10_torn 1 (some .int) 0 [.ref m] σ μ (fun rv μ2 => rv = some (.int q.1) ∧ μ2 = q.2) := by
    intro q h
    unfold x_torn at h
    refine kt_F.of (by decide) (Nat.le_of_ble_eq_true rfl) (fun X hX hr => ?_)
    refine kr_aload_n (i := 0) hX dX10_torn_0 rfl rfl ?_
    refine kr_geti (c0 := 10) (k := 33) hX ⟨_, kf_10_370⟩ dX10_torn_1 rfl (md_k hm) ?_
    refine kr_iret hX hr dX10_torn_4 ⟨rfl, ?_⟩
    exact kq_rI h
  exact key (r, μ1) h
def x_nilInputs_J27 (n : Nat) (m : Nat) (K4 : Int32 → Int32 → kt_M → Option (Int32 × kt_M)) (l2 : Int32) (s0 : Int32) (s1 : Int32) (μ : kt_M) : Option (Int32 × kt_M) := kq_b1 (x_flag n s1) (fun r_27 => K4 (s0 + r_27) (l2 + 1) μ)
set_option maxHeartbeats 4000000 in
set_option maxRecDepth 100000 in
theorem xw_nilInputs_J27 {G : kt_G} {σ : kt_Y} {X : kt_X} (hX : kt_ok G X RX10 cX10_nilInputs 3 1 0 0) (hr : kt_rt X = (some .int)) {m : Nat} (hm : kt_md σ m) {n : Nat} {q : (Int32 × kt_M)} {K4 : Int32 → Int32 → kt_M → Option (Int32 × kt_M)} (hK4 : ∀ (l1 : Int32) (l2 : Int32) (μ : kt_M), K4 l1 l2 μ = some q → kt_W G X 3 4 [(0, .ref m), (1, .int l1), (2, .int l2)] [] σ μ 0 0 (kt_Z G X (kt_q σ (fun rv μ2 => rv = some (.int q.1) ∧ μ2 = q.2)) 0 0)) {l2 : Int32} {s0 : Int32} {s1 : Int32} {μ : kt_M} (h : x_nilInputs_J27 n m K4 l2 s0 s1 μ = some q) : kt_W G X 3 27 [(0, .ref m), (2, .int l2)] [.int s1, .int s0] σ μ 0 0 (kt_Z G X (kt_q σ (fun rv μ2 => rv = some (.int q.1) ∧ μ2 = q.2)) 0 0) := by
  unfold x_nilInputs_J27 at h
  obtain ⟨r_27, e_27, h⟩ := kq_b1_e h
  refine kr_dS [_] hX km_10_145 dX10_nilInputs_27 (xs_flag e_27) rfl rfl (by decide) (Nat.le_of_ble_eq_true rfl) (Nat.le_refl _) (Nat.le_refl _) ?_
  refine kr_iadd hX dX10_nilInputs_30 ?_
  refine kr_istore_n (i := 1) hX dX10_nilInputs_31 rfl (by decide) rfl rfl ?_
  refine kr_iinc (v := (l2 + 1)) hX dX10_nilInputs_32 rfl rfl (by decide) rfl rfl ?_
  refine kr_goto (tgt := 4) hX dX10_nilInputs_35 (by decide) ?_
  refine kr_keep (lv' := [(0, .ref m), (1, .int (s0 + r_27)), (2, .int (l2 + 1))]) [0, 2, 1] rfl ?_
  exact hK4 _ _ _ h
def x_nilInputs_B4 (n : Nat) (m : Nat) (K4 : Int32 → Int32 → kt_M → Option (Int32 × kt_M)) (l1 : Int32) (l2 : Int32) (μ : kt_M) : Option (Int32 × kt_M) := (if (8 : Int32) ≤ l2 then some (l1, μ) else kq_ck (kq_in l2 8) ((if (kt_i μ (m + 3) (Int32.toNatClampNeg l2)) = (51 : Int32) then x_nilInputs_J27 n m K4 l2 l1 (1 : Int32) μ else x_nilInputs_J27 n m K4 l2 l1 (0 : Int32) μ)))
set_option maxHeartbeats 4000000 in
set_option maxRecDepth 100000 in
theorem xw_nilInputs_B4 {G : kt_G} {σ : kt_Y} {X : kt_X} (hX : kt_ok G X RX10 cX10_nilInputs 3 1 0 0) (hr : kt_rt X = (some .int)) {m : Nat} (hm : kt_md σ m) {n : Nat} {q : (Int32 × kt_M)} {K4 : Int32 → Int32 → kt_M → Option (Int32 × kt_M)} (hK4 : ∀ (l1 : Int32) (l2 : Int32) (μ : kt_M), K4 l1 l2 μ = some q → kt_W G X 3 4 [(0, .ref m), (1, .int l1), (2, .int l2)] [] σ μ 0 0 (kt_Z G X (kt_q σ (fun rv μ2 => rv = some (.int q.1) ∧ μ2 = q.2)) 0 0)) {l1 : Int32} {l2 : Int32} {μ : kt_M} (h : x_nilInputs_B4 n m K4 l1 l2 μ = some q) : kt_W G X 3 4 [(0, .ref m), (1, .int l1), (2, .int l2)] [] σ μ 0 0 (kt_Z G X (kt_q σ (fun rv μ2 => rv = some (.int q.1) ∧ μ2 = q.2)) 0 0) := by
  unfold x_nilInputs_B4 at h
  refine kr_iload_n (i := 2) hX dX10_nilInputs_4 rfl rfl ?_
  refine kr_bipush (v := 8) hX dX10_nilInputs_5 (by decide) ?_
  refine kr_icmp_ge (tgt := 38) hX dX10_nilInputs_7 (by decide) (fun c_7 => ?_) (fun c_7 => ?_)
  · replace h := kq_t c_7 h
    refine kr_iload_n (i := 1) hX dX10_nilInputs_38 rfl rfl ?_
    refine kr_iret hX hr dX10_nilInputs_39 ⟨rfl, ?_⟩
    exact kq_rI h
  · replace h := kq_f c_7 h
    refine kr_iload_n (i := 1) hX dX10_nilInputs_10 rfl rfl ?_
    refine kr_aload_n (i := 0) hX dX10_nilInputs_11 rfl rfl ?_
    refine kr_getr (c0 := 10) (k := 2) hX ⟨_, kf_10_16⟩ dX10_nilInputs_12 rfl (md_k hm) (md_r2 hm) ?_
    refine kr_iload_n (i := 2) hX dX10_nilInputs_15 rfl rfl ?_
    obtain ⟨i_16, h⟩ := kq_ck_e h
    refine kr_iald hX dX10_nilInputs_16 (md_a3 hm) (vp_in_iff.mpr i_16) ?_
    refine kr_bipush (v := 51) hX dX10_nilInputs_17 (by decide) ?_
    refine kr_icmp_ne (tgt := 26) hX dX10_nilInputs_19 (by decide) (fun c_19 => ?_) (fun c_19 => ?_)
    · replace h := kq_f c_19 h
      refine kr_iconst (v := 0) hX dX10_nilInputs_26 (by decide) ?_
      refine kr_keep (lv' := [(0, .ref m), (2, .int l2)]) [0, 2] rfl ?_
      exact xw_nilInputs_J27 hX hr hm hK4 h
    · replace h := kq_t c_19 h
      refine kr_iconst (v := 1) hX dX10_nilInputs_22 (by decide) ?_
      refine kr_goto (tgt := 27) hX dX10_nilInputs_23 (by decide) ?_
      refine kr_keep (lv' := [(0, .ref m), (2, .int l2)]) [0, 2] rfl ?_
      exact xw_nilInputs_J27 hX hr hm hK4 h
def x_nilInputs_L4 (n : Nat) (m : Nat) : Nat → Int32 → Int32 → kt_M → Option (Int32 × kt_M)
  | 0, _, _, _ => none
  | k + 1, l1, l2, μ => x_nilInputs_B4 n m (x_nilInputs_L4 n m k) l1 l2 μ
set_option maxHeartbeats 4000000 in
set_option maxRecDepth 100000 in
theorem xw_nilInputs_L4 {G : kt_G} {σ : kt_Y} {X : kt_X} (hX : kt_ok G X RX10 cX10_nilInputs 3 1 0 0) (hr : kt_rt X = (some .int)) {m : Nat} (hm : kt_md σ m) {n : Nat} {q : (Int32 × kt_M)} : ∀ (k : Nat) (l1 : Int32) (l2 : Int32) (μ : kt_M), x_nilInputs_L4 n m k l1 l2 μ = some q → kt_W G X 3 4 [(0, .ref m), (1, .int l1), (2, .int l2)] [] σ μ 0 0 (kt_Z G X (kt_q σ (fun rv μ2 => rv = some (.int q.1) ∧ μ2 = q.2)) 0 0) := by
  intro k
  induction k with
  | zero => intro l1 l2 μ h; cases h
  | succ k ih => intro l1 l2 μ h; exact xw_nilInputs_B4 hX hr hm ih h
def x_nilInputs (n : Nat) (m : Nat) (μ : kt_M) : Option (Int32 × kt_M) := x_nilInputs_L4 n m n (0 : Int32) (0 : Int32) μ
set_option maxHeartbeats 4000000 in
set_option maxRecDepth 100000 in
theorem xs_nilInputs {G : kt_G} {σ : kt_Y} {μ : kt_M} {m : Nat} (hm : kt_md σ m) {n : Nat} {r : Int32} {μ1 : kt_M} (h : x_nilInputs n m μ = some (r, μ1)) : kt_F G yX10_nilInputs cX10_nilInputs 3 (some .int) 1 [.ref m] σ μ (fun rv μ2 => rv = some (.int r) ∧ μ2 = μ1) := by
  have key : ∀ q : (Int32 × kt_M), x_nilInputs n m μ = some q → kt_F G yX10_nilInputs cX10_nilInputs 3 (some .int) 1 [.ref m] σ μ (fun rv μ2 => rv = some (.int q.1) ∧ μ2 = q.2) := by
    intro q h
    unfold x_nilInputs at h
    refine kt_F.of (by decide) (Nat.le_of_ble_eq_true rfl) (fun X hX hr => ?_)
    refine kr_iconst (v := 0) hX dX10_nilInputs_0 (by decide) ?_
    refine kr_istore_n (i := 1) hX dX10_nilInputs_1 rfl (by decide) rfl rfl ?_
    refine kr_iconst (v := 0) hX dX10_nilInputs_2 (by decide) ?_
    refine kr_istore_n (i := 2) hX dX10_nilInputs_3 rfl (by decide) rfl rfl ?_
    refine kr_keep (lv' := [(0, .ref m), (1, .int (0 : Int32)), (2, .int (0 : Int32))]) [0, 1, 2] rfl ?_
    exact xw_nilInputs_L4 hX hr hm n _ _ _ h
  exact key (r, μ1) h
def x_count (n : Nat) (m : Nat) (μ : kt_M) (a0 : Int32) : Option (Int32 × kt_M) := (if a0 = (0 : Int32) then kq_b1 (x_flag n (kt_i μ (m + 4) (Int32.toNatClampNeg (0 : Int32)))) (fun r_42 => kq_b1 (x_flag n (kt_i μ (m + 4) (Int32.toNatClampNeg (1 : Int32)))) (fun r_51 => some ((r_42 + r_51), μ))) else (if a0 = (1 : Int32) then some ((kt_i μ m 6), μ) else (if a0 = (2 : Int32) then kq_b2 (x_nilInputs n m μ) (fun r_62 μ_62 => some (r_62, μ_62)) else (if a0 = (3 : Int32) then (if (kt_i μ (m + 16) (Int32.toNatClampNeg (0 : Int32))) = ((-4) : Int32) then some (((-4) : Int32), μ) else some ((kt_i μ (m + 17) (Int32.toNatClampNeg (0 : Int32))), μ)) else (if a0 = (4 : Int32) then some ((kt_i μ m 4), μ) else some (((-1) : Int32), μ))))))
set_option maxHeartbeats 4000000 in
set_option maxRecDepth 100000 in
theorem xs_count {G : kt_G} {σ : kt_Y} {μ : kt_M} {m : Nat} (hm : kt_md σ m) {n : Nat} {a0 : Int32} {r : Int32} {μ1 : kt_M} (h : x_count n m μ a0 = some (r, μ1)) : kt_F G yX10_count cX10_count 2 (some .int) 2 [.ref m, .int a0] σ μ (fun rv μ2 => rv = some (.int r) ∧ μ2 = μ1) := by
  have key : ∀ q : (Int32 × kt_M), x_count n m μ a0 = some q → kt_F G yX10_count cX10_count 2 (some .int) 2 [.ref m, .int a0] σ μ (fun rv μ2 => rv = some (.int q.1) ∧ μ2 = q.2) := by
    intro q h
    unfold x_count at h
    refine kt_F.of (by decide) (Nat.le_of_ble_eq_true rfl) (fun X hX hr => ?_)
    refine kr_iload_n (i := 1) hX dX10_count_0 rfl rfl ?_
    by_cases c_1_0 : a0 = (0 : Int32)
    · replace h := kq_t c_1_0 h
      refine kr_tabIn (tgt := 36) (off := 35) hX dX10_count_1 (by rw [c_1_0]; decide) (by rw [c_1_0]; decide) (by rw [c_1_0]; rfl) (by decide) ?_
      refine kr_aload_n (i := 0) hX dX10_count_36 rfl rfl ?_
      refine kr_getr (c0 := 10) (k := 3) hX ⟨_, kf_10_19⟩ dX10_count_37 rfl (md_k hm) (md_r3 hm) ?_
      refine kr_iconst (v := 0) hX dX10_count_40 (by decide) ?_
      refine kr_bald hX dX10_count_41 (md_a4 hm) (vp_in_iff.mpr (by decide)) ?_
      obtain ⟨r_42, e_42, h⟩ := kq_b1_e h
      refine kr_dS [_] hX km_10_145 dX10_count_42 (xs_flag e_42) rfl rfl (by decide) (Nat.le_of_ble_eq_true rfl) (Nat.le_refl _) (Nat.le_refl _) ?_
      refine kr_aload_n (i := 0) hX dX10_count_45 rfl rfl ?_
      refine kr_getr (c0 := 10) (k := 3) hX ⟨_, kf_10_19⟩ dX10_count_46 rfl (md_k hm) (md_r3 hm) ?_
      refine kr_iconst (v := 1) hX dX10_count_49 (by decide) ?_
      refine kr_bald hX dX10_count_50 (md_a4 hm) (vp_in_iff.mpr (by decide)) ?_
      obtain ⟨r_51, e_51, h⟩ := kq_b1_e h
      refine kr_dS [_] hX km_10_145 dX10_count_51 (xs_flag e_51) rfl rfl (by decide) (Nat.le_of_ble_eq_true rfl) (Nat.le_refl _) (Nat.le_refl _) ?_
      refine kr_iadd hX dX10_count_54 ?_
      refine kr_iret hX hr dX10_count_55 ⟨rfl, ?_⟩
      exact kq_rI h
    replace h := kq_f c_1_0 h
    by_cases c_1_1 : a0 = (1 : Int32)
    · replace h := kq_t c_1_1 h
      refine kr_tabIn (tgt := 56) (off := 55) hX dX10_count_1 (by rw [c_1_1]; decide) (by rw [c_1_1]; decide) (by rw [c_1_1]; rfl) (by decide) ?_
      refine kr_aload_n (i := 0) hX dX10_count_56 rfl rfl ?_
      refine kr_geti (c0 := 10) (k := 6) hX ⟨_, kf_10_84⟩ dX10_count_57 rfl (md_k hm) ?_
      refine kr_iret hX hr dX10_count_60 ⟨rfl, ?_⟩
      exact kq_rI h
    replace h := kq_f c_1_1 h
    by_cases c_1_2 : a0 = (2 : Int32)
    · replace h := kq_t c_1_2 h
      refine kr_tabIn (tgt := 61) (off := 60) hX dX10_count_1 (by rw [c_1_2]; decide) (by rw [c_1_2]; decide) (by rw [c_1_2]; rfl) (by decide) ?_
      refine kr_aload_n (i := 0) hX dX10_count_61 rfl rfl ?_
      obtain ⟨r_62, μ_62, e_62, h⟩ := kq_b2_e h
      refine kr_dV (c1 := 10) [] hX km_10_373 dX10_count_62 (xs_nilInputs hm e_62) rfl rfl ⟨_, _, rfl⟩ (by decide) (Nat.le_of_ble_eq_true rfl) (Nat.le_refl _) (Nat.le_refl _) (md_k hm) ?_
      refine kr_iret hX hr dX10_count_65 ⟨rfl, ?_⟩
      exact kq_rI h
    replace h := kq_f c_1_2 h
    by_cases c_1_3 : a0 = (3 : Int32)
    · replace h := kq_t c_1_3 h
      refine kr_tabIn (tgt := 66) (off := 65) hX dX10_count_1 (by rw [c_1_3]; decide) (by rw [c_1_3]; decide) (by rw [c_1_3]; rfl) (by decide) ?_
      refine kr_aload_n (i := 0) hX dX10_count_66 rfl rfl ?_
      refine kr_getr (c0 := 10) (k := 30) hX ⟨_, kf_10_61⟩ dX10_count_67 rfl (md_k hm) (md_r30 hm) ?_
      refine kr_iconst (v := 0) hX dX10_count_70 (by decide) ?_
      refine kr_iald hX dX10_count_71 (md_a16 hm) (vp_in_iff.mpr (by decide)) ?_
      refine kr_bipush (v := (-4)) hX dX10_count_72 (by decide) ?_
      refine kr_icmp_ne (tgt := 82) hX dX10_count_74 (by decide) (fun c_74 => ?_) (fun c_74 => ?_)
      · replace h := kq_f c_74 h
        refine kr_aload_n (i := 0) hX dX10_count_82 rfl rfl ?_
        refine kr_getr (c0 := 10) (k := 31) hX ⟨_, kf_10_64⟩ dX10_count_83 rfl (md_k hm) (md_r31 hm) ?_
        refine kr_iconst (v := 0) hX dX10_count_86 (by decide) ?_
        refine kr_iald hX dX10_count_87 (md_a17 hm) (vp_in_iff.mpr (by decide)) ?_
        refine kr_iret hX hr dX10_count_88 ⟨rfl, ?_⟩
        exact kq_rI h
      · replace h := kq_t c_74 h
        refine kr_bipush (v := (-4)) hX dX10_count_77 (by decide) ?_
        refine kr_goto (tgt := 88) hX dX10_count_79 (by decide) ?_
        refine kr_iret hX hr dX10_count_88 ⟨rfl, ?_⟩
        exact kq_rI h
    replace h := kq_f c_1_3 h
    by_cases c_1_4 : a0 = (4 : Int32)
    · replace h := kq_t c_1_4 h
      refine kr_tabIn (tgt := 89) (off := 88) hX dX10_count_1 (by rw [c_1_4]; decide) (by rw [c_1_4]; decide) (by rw [c_1_4]; rfl) (by decide) ?_
      refine kr_aload_n (i := 0) hX dX10_count_89 rfl rfl ?_
      refine kr_geti (c0 := 10) (k := 4) hX ⟨_, kf_10_23⟩ dX10_count_90 rfl (md_k hm) ?_
      refine kr_iret hX hr dX10_count_93 ⟨rfl, ?_⟩
      exact kq_rI h
    replace h := kq_f c_1_4 h
    refine kr_tabOut (tgt := 94) hX dX10_count_1 (by have q_0 := kt_ne c_1_0 (z := 0) (by decide); have q_1 := kt_ne c_1_1 (z := 1) (by decide); have q_2 := kt_ne c_1_2 (z := 2) (by decide); have q_3 := kt_ne c_1_3 (z := 3) (by decide); have q_4 := kt_ne c_1_4 (z := 4) (by decide); omega) (by decide) ?_
    refine kr_iconst (v := (-1)) hX dX10_count_94 (by decide) ?_
    refine kr_iret hX hr dX10_count_95 ⟨rfl, ?_⟩
    exact kq_rI h
  exact key (r, μ1) h

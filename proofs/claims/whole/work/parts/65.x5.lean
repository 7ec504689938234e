def x_told_J38 (n : Nat) (s0 : Int32) : Option Int32 := kq_b1 (x_flag n s0) (fun r_38 => some r_38)
set_option maxHeartbeats 4000000 in
set_option maxRecDepth 100000 in
theorem xw_told_J38 {G : kt_G} {σ : kt_Y} {μ : kt_M} {X : kt_X} (hX : kt_ok G X RX10 cX10_told 3 1 0 0) (hr : kt_rt X = (some .int)) {n : Nat} {q : Int32} {s0 : Int32} (h : x_told_J38 n s0 = some q) : kt_W G X 3 38 [] [.int s0] σ μ 0 0 (kt_Z G X (kt_q σ (fun rv μ2 => rv = some (.int q) ∧ μ2 = μ)) 0 0) := by
  unfold x_told_J38 at h
  obtain ⟨r_38, e_38, h⟩ := kq_b1_e h
  refine kr_dS [_] hX km_10_145 dX10_told_38 (xs_flag e_38) rfl rfl (by decide) (Nat.le_of_ble_eq_true rfl) (Nat.le_refl _) (Nat.le_refl _) ?_
  refine kr_iret hX hr dX10_told_41 ⟨rfl, ?_⟩
  exact kq_rIs h
def x_told (n : Nat) (a0 : Int64) (a1 : Int32) : Option Int32 := (if a1 = 0 then kq_b1 (x_lowOf n a0) (fun r_5 => some r_5) else (if a1 = (1 : Int32) then kq_b1 (x_highOf n a0) (fun r_17 => some r_17) else (if (lg_cmp (a0 &&& (2251799813685248 : Int64)) (0 : Int64)) = 0 then x_told_J38 n (0 : Int32) else x_told_J38 n (1 : Int32))))
set_option maxHeartbeats 4000000 in
set_option maxRecDepth 100000 in
theorem xs_told {G : kt_G} {σ : kt_Y} {μ : kt_M} {n : Nat} {a0 : Int64} {a1 : Int32} {q : Int32} (h : x_told n a0 a1 = some q) : kt_F G yX10_told cX10_told 3 (some .int) 1 [.long a0, .int a1] σ μ (fun rv μ2 => rv = some (.int q) ∧ μ2 = μ) := by
  unfold x_told at h
  refine kt_F.of (by decide) (Nat.le_of_ble_eq_true rfl) (fun X hX hr => ?_)
  refine kr_iload_n (i := 2) hX dX10_told_0 rfl rfl ?_
  refine kr_if_ne (tgt := 11) hX dX10_told_1 (by decide) (fun c_1 => ?_) (fun c_1 => ?_)
  · replace h := kq_f c_1 h
    refine kr_iload_n (i := 2) hX dX10_told_11 rfl rfl ?_
    refine kr_iconst (v := 1) hX dX10_told_12 (by decide) ?_
    refine kr_icmp_ne (tgt := 23) hX dX10_told_13 (by decide) (fun c_13 => ?_) (fun c_13 => ?_)
    · replace h := kq_f c_13 h
      refine kr_lload_n (i := 0) hX dX10_told_23 rfl rfl ?_
      refine kr_ldc2 (v := 2251799813685248) hX kw_1252 dX10_told_24 ?_
      refine kr_land hX dX10_told_27 ?_
      refine kr_lconst (v := 0) hX dX10_told_28 (by decide) ?_
      refine kr_lcmp hX dX10_told_29 ?_
      refine kr_if_eq (tgt := 37) hX dX10_told_30 (by decide) (fun c_30 => ?_) (fun c_30 => ?_)
      · replace h := kq_t c_30 h
        refine kr_iconst (v := 0) hX dX10_told_37 (by decide) ?_
        refine kr_keep (lv' := []) [] rfl ?_
        exact xw_told_J38 hX hr h
      · replace h := kq_f c_30 h
        refine kr_iconst (v := 1) hX dX10_told_33 (by decide) ?_
        refine kr_goto (tgt := 38) hX dX10_told_34 (by decide) ?_
        refine kr_keep (lv' := []) [] rfl ?_
        exact xw_told_J38 hX hr h
    · replace h := kq_t c_13 h
      refine kr_lload_n (i := 0) hX dX10_told_16 rfl rfl ?_
      obtain ⟨r_17, e_17, h⟩ := kq_b1_e h
      refine kr_dS [_] hX km_10_208 dX10_told_17 (xs_highOf e_17) rfl rfl (by decide) (Nat.le_of_ble_eq_true rfl) (Nat.le_refl _) (Nat.le_refl _) ?_
      refine kr_goto (tgt := 41) hX dX10_told_20 (by decide) ?_
      refine kr_iret hX hr dX10_told_41 ⟨rfl, ?_⟩
      exact kq_rIs h
  · replace h := kq_t c_1 h
    refine kr_lload_n (i := 0) hX dX10_told_4 rfl rfl ?_
    obtain ⟨r_5, e_5, h⟩ := kq_b1_e h
    refine kr_dS [_] hX km_10_204 dX10_told_5 (xs_lowOf e_5) rfl rfl (by decide) (Nat.le_of_ble_eq_true rfl) (Nat.le_refl _) (Nat.le_refl _) ?_
    refine kr_goto (tgt := 41) hX dX10_told_8 (by decide) ?_
    refine kr_iret hX hr dX10_told_41 ⟨rfl, ?_⟩
    exact kq_rIs h
def x_range (n : Nat) (m : Nat) (μ : kt_M) (a0 : Int32) (a1 : Int32) (a2 : Int32) : Option (Int32 × kt_M) := kq_b2 (x_isBlock n m μ (1 : Int32) a0) (fun r_3 μ_3 => (if r_3 = 0 then some (((-1) : Int32), μ_3) else kq_b1 (x_isVariable n a1) (fun r_10 => (if r_10 = 0 then some (((-1) : Int32), μ_3) else kq_b1 (x_in n (Int32.toInt64 a2) (0 : Int64) (2 : Int64)) (fun r_22 => (if r_22 = 0 then some (((-1) : Int32), μ_3) else kq_b2 (x_findRanges n m μ_3) (fun r_31 μ_31 => kq_b2 (x_isReached n m μ_31 a0) (fun r_36 μ_36 => (if r_36 = 0 then some (((-2) : Int32), μ_36) else kq_ck (kq_in (((4 : Int32) * a0) + a1) 64) (kq_b1 (x_told n (kt_l μ_36 (m + 6) (Int32.toNatClampNeg (((4 : Int32) * a0) + a1))) a2) (fun r_53 => some (r_53, μ_36))))))))))))
set_option maxHeartbeats 4000000 in
set_option maxRecDepth 100000 in
theorem xs_range {G : kt_G} {σ : kt_Y} {μ : kt_M} {m : Nat} (hm : kt_md σ m) {n : Nat} {a0 : Int32} {a1 : Int32} {a2 : Int32} {r : Int32} {μ1 : kt_M} (h : x_range n m μ a0 a1 a2 = some (r, μ1)) : kt_F G yX10_range cX10_range 4 (some .int) 6 [.ref m, .int a0, .int a1, .int a2] σ μ (fun rv μ2 => rv = some (.int r) ∧ μ2 = μ1) := by
  have key : ∀ q : (Int32 × kt_M), x_range n m μ a0 a1 a2 = some q → kt_F G yX10_range cX10_range 4 (some .int) 6 [.ref m, .int a0, .int a1, .int a2] σ μ (fun rv μ2 => rv = some (.int q.1) ∧ μ2 = q.2) := by
    intro q h
    unfold x_range at h
    refine kt_F.of (by decide) (Nat.le_of_ble_eq_true rfl) (fun X hX hr => ?_)
    refine kr_aload_n (i := 0) hX dX10_range_0 rfl rfl ?_
    refine kr_iconst (v := 1) hX dX10_range_1 (by decide) ?_
    refine kr_iload_n (i := 1) hX dX10_range_2 rfl rfl ?_
    obtain ⟨r_3, μ_3, e_3, h⟩ := kq_b2_e h
    refine kr_dV (c1 := 10) [_, _] hX km_10_178 dX10_range_3 (xs_isBlock hm e_3) rfl rfl ⟨_, _, rfl⟩ (by decide) (Nat.le_of_ble_eq_true rfl) (Nat.le_refl _) (Nat.le_refl _) (md_k hm) ?_
    refine kr_if_eq (tgt := 28) hX dX10_range_6 (by decide) (fun c_6 => ?_) (fun c_6 => ?_)
    · replace h := kq_t c_6 h
      refine kr_iconst (v := (-1)) hX dX10_range_28 (by decide) ?_
      refine kr_iret hX hr dX10_range_29 ⟨rfl, ?_⟩
      exact kq_rI h
    · replace h := kq_f c_6 h
      refine kr_iload_n (i := 2) hX dX10_range_9 rfl rfl ?_
      obtain ⟨r_10, e_10, h⟩ := kq_b1_e h
      refine kr_dS [_] hX km_10_267 dX10_range_10 (xs_isVariable e_10) rfl rfl (by decide) (Nat.le_of_ble_eq_true rfl) (Nat.le_refl _) (Nat.le_refl _) ?_
      refine kr_if_eq (tgt := 28) hX dX10_range_13 (by decide) (fun c_13 => ?_) (fun c_13 => ?_)
      · replace h := kq_t c_13 h
        refine kr_iconst (v := (-1)) hX dX10_range_28 (by decide) ?_
        refine kr_iret hX hr dX10_range_29 ⟨rfl, ?_⟩
        exact kq_rI h
      · replace h := kq_f c_13 h
        refine kr_iload_n (i := 3) hX dX10_range_16 rfl rfl ?_
        refine kr_i2l hX dX10_range_17 rfl ?_
        refine kr_lconst (v := 0) hX dX10_range_18 (by decide) ?_
        refine kr_ldc2 (v := 2) hX kw_1349 dX10_range_19 ?_
        obtain ⟨r_22, e_22, h⟩ := kq_b1_e h
        refine kr_dS [_, _, _] hX km_10_80 dX10_range_22 (xs_in e_22) rfl rfl (by decide) (Nat.le_of_ble_eq_true rfl) (Nat.le_refl _) (Nat.le_refl _) ?_
        refine kr_if_ne (tgt := 30) hX dX10_range_25 (by decide) (fun c_25 => ?_) (fun c_25 => ?_)
        · replace h := kq_f c_25 h
          refine kr_aload_n (i := 0) hX dX10_range_30 rfl rfl ?_
          obtain ⟨r_31, μ_31, e_31, h⟩ := kq_b2_e h
          refine kr_dV (c1 := 10) [] hX km_10_270 dX10_range_31 (xs_findRanges hm e_31) rfl rfl ⟨_, _, rfl⟩ (by decide) (Nat.le_of_ble_eq_true rfl) (Nat.le_refl _) (Nat.le_refl _) (md_k hm) ?_
          refine kr_aload_n (i := 0) hX dX10_range_34 rfl rfl ?_
          refine kr_iload_n (i := 1) hX dX10_range_35 rfl rfl ?_
          obtain ⟨r_36, μ_36, e_36, h⟩ := kq_b2_e h
          refine kr_dV (c1 := 10) [_] hX km_10_251 dX10_range_36 (xs_isReached hm e_36) rfl rfl ⟨_, _, rfl⟩ (by decide) (Nat.le_of_ble_eq_true rfl) (Nat.le_refl _) (Nat.le_refl _) (md_k hm) ?_
          refine kr_if_eq (tgt := 59) hX dX10_range_39 (by decide) (fun c_39 => ?_) (fun c_39 => ?_)
          · replace h := kq_t c_39 h
            refine kr_bipush (v := (-2)) hX dX10_range_59 (by decide) ?_
            refine kr_iret hX hr dX10_range_61 ⟨rfl, ?_⟩
            exact kq_rI h
          · replace h := kq_f c_39 h
            refine kr_aload_n (i := 0) hX dX10_range_42 rfl rfl ?_
            refine kr_getr (c0 := 10) (k := 13) hX ⟨_, kf_10_30⟩ dX10_range_43 rfl (md_k hm) (md_r13 hm) ?_
            refine kr_iconst (v := 4) hX dX10_range_46 (by decide) ?_
            refine kr_iload_n (i := 1) hX dX10_range_47 rfl rfl ?_
            refine kr_imul hX dX10_range_48 ?_
            refine kr_iload_n (i := 2) hX dX10_range_49 rfl rfl ?_
            refine kr_iadd hX dX10_range_50 ?_
            obtain ⟨i_51, h⟩ := kq_ck_e h
            refine kr_lald hX dX10_range_51 (md_a6 hm) (vp_in_iff.mpr i_51) ?_
            refine kr_iload_n (i := 3) hX dX10_range_52 rfl rfl ?_
            obtain ⟨r_53, e_53, h⟩ := kq_b1_e h
            refine kr_dS [_, _] hX km_10_273 dX10_range_53 (xs_told e_53) rfl rfl (by decide) (Nat.le_of_ble_eq_true rfl) (Nat.le_refl _) (Nat.le_refl _) ?_
            refine kr_goto (tgt := 61) hX dX10_range_56 (by decide) ?_
            refine kr_iret hX hr dX10_range_61 ⟨rfl, ?_⟩
            exact kq_rI h
        · replace h := kq_t c_25 h
          refine kr_iconst (v := (-1)) hX dX10_range_28 (by decide) ?_
          refine kr_iret hX hr dX10_range_29 ⟨rfl, ?_⟩
          exact kq_rI h
  exact key (r, μ1) h
def x_along (n : Nat) (m : Nat) (μ : kt_M) (a0 : Int32) (a1 : Int32) (a2 : Int32) (a3 : Int32) : Option (Int32 × kt_M) := kq_b2 (x_isEdge n m μ (1 : Int32) a0 a1) (fun r_4 μ_4 => (if r_4 = 0 then some (((-1) : Int32), μ_4) else kq_b1 (x_isVariable n a2) (fun r_11 => (if r_11 = 0 then some (((-1) : Int32), μ_4) else kq_b1 (x_in n (Int32.toInt64 a3) (0 : Int64) (2 : Int64)) (fun r_24 => (if r_24 = 0 then some (((-1) : Int32), μ_4) else kq_b2 (x_findRanges n m μ_4) (fun r_33 μ_33 => kq_b2 (x_isOpen n m μ_33 a0 a1) (fun r_39 μ_39 => (if r_39 = 0 then some (((-2) : Int32), μ_39) else kq_ck (kq_in a2 4) (kq_b1 (x_told n (kt_l μ_39 (m + 8) (Int32.toNatClampNeg a2)) a3) (fun r_53 => some (r_53, μ_39))))))))))))
set_option maxHeartbeats 4000000 in
set_option maxRecDepth 100000 in
theorem xs_along {G : kt_G} {σ : kt_Y} {μ : kt_M} {m : Nat} (hm : kt_md σ m) {n : Nat} {a0 : Int32} {a1 : Int32} {a2 : Int32} {a3 : Int32} {r : Int32} {μ1 : kt_M} (h : x_along n m μ a0 a1 a2 a3 = some (r, μ1)) : kt_F G yX10_along cX10_along 5 (some .int) 6 [.ref m, .int a0, .int a1, .int a2, .int a3] σ μ (fun rv μ2 => rv = some (.int r) ∧ μ2 = μ1) := by
  have key : ∀ q : (Int32 × kt_M), x_along n m μ a0 a1 a2 a3 = some q → kt_F G yX10_along cX10_along 5 (some .int) 6 [.ref m, .int a0, .int a1, .int a2, .int a3] σ μ (fun rv μ2 => rv = some (.int q.1) ∧ μ2 = q.2) := by
    intro q h
    unfold x_along at h
    refine kt_F.of (by decide) (Nat.le_of_ble_eq_true rfl) (fun X hX hr => ?_)
    refine kr_aload_n (i := 0) hX dX10_along_0 rfl rfl ?_
    refine kr_iconst (v := 1) hX dX10_along_1 (by decide) ?_
    refine kr_iload_n (i := 1) hX dX10_along_2 rfl rfl ?_
    refine kr_iload_n (i := 2) hX dX10_along_3 rfl rfl ?_
    obtain ⟨r_4, μ_4, e_4, h⟩ := kq_b2_e h
    refine kr_dV (c1 := 10) [_, _, _] hX km_10_277 dX10_along_4 (xs_isEdge hm e_4) rfl rfl ⟨_, _, rfl⟩ (by decide) (Nat.le_of_ble_eq_true rfl) (Nat.le_refl _) (Nat.le_refl _) (md_k hm) ?_
    refine kr_if_eq (tgt := 30) hX dX10_along_7 (by decide) (fun c_7 => ?_) (fun c_7 => ?_)
    · replace h := kq_t c_7 h
      refine kr_iconst (v := (-1)) hX dX10_along_30 (by decide) ?_
      refine kr_iret hX hr dX10_along_31 ⟨rfl, ?_⟩
      exact kq_rI h
    · replace h := kq_f c_7 h
      refine kr_iload_n (i := 3) hX dX10_along_10 rfl rfl ?_
      obtain ⟨r_11, e_11, h⟩ := kq_b1_e h
      refine kr_dS [_] hX km_10_267 dX10_along_11 (xs_isVariable e_11) rfl rfl (by decide) (Nat.le_of_ble_eq_true rfl) (Nat.le_refl _) (Nat.le_refl _) ?_
      refine kr_if_eq (tgt := 30) hX dX10_along_14 (by decide) (fun c_14 => ?_) (fun c_14 => ?_)
      · replace h := kq_t c_14 h
        refine kr_iconst (v := (-1)) hX dX10_along_30 (by decide) ?_
        refine kr_iret hX hr dX10_along_31 ⟨rfl, ?_⟩
        exact kq_rI h
      · replace h := kq_f c_14 h
        refine kr_iload hX dX10_along_17 rfl ?_
        refine kr_i2l hX dX10_along_19 rfl ?_
        refine kr_lconst (v := 0) hX dX10_along_20 (by decide) ?_
        refine kr_ldc2 (v := 2) hX kw_1349 dX10_along_21 ?_
        obtain ⟨r_24, e_24, h⟩ := kq_b1_e h
        refine kr_dS [_, _, _] hX km_10_80 dX10_along_24 (xs_in e_24) rfl rfl (by decide) (Nat.le_of_ble_eq_true rfl) (Nat.le_refl _) (Nat.le_refl _) ?_
        refine kr_if_ne (tgt := 32) hX dX10_along_27 (by decide) (fun c_27 => ?_) (fun c_27 => ?_)
        · replace h := kq_f c_27 h
          refine kr_aload_n (i := 0) hX dX10_along_32 rfl rfl ?_
          obtain ⟨r_33, μ_33, e_33, h⟩ := kq_b2_e h
          refine kr_dV (c1 := 10) [] hX km_10_270 dX10_along_33 (xs_findRanges hm e_33) rfl rfl ⟨_, _, rfl⟩ (by decide) (Nat.le_of_ble_eq_true rfl) (Nat.le_refl _) (Nat.le_refl _) (md_k hm) ?_
          refine kr_aload_n (i := 0) hX dX10_along_36 rfl rfl ?_
          refine kr_iload_n (i := 1) hX dX10_along_37 rfl rfl ?_
          refine kr_iload_n (i := 2) hX dX10_along_38 rfl rfl ?_
          obtain ⟨r_39, μ_39, e_39, h⟩ := kq_b2_e h
          refine kr_dV (c1 := 10) [_, _] hX km_10_260 dX10_along_39 (xs_isOpen hm e_39) rfl rfl ⟨_, _, rfl⟩ (by decide) (Nat.le_of_ble_eq_true rfl) (Nat.le_refl _) (Nat.le_refl _) (md_k hm) ?_
          refine kr_if_eq (tgt := 59) hX dX10_along_42 (by decide) (fun c_42 => ?_) (fun c_42 => ?_)
          · replace h := kq_t c_42 h
            refine kr_bipush (v := (-2)) hX dX10_along_59 (by decide) ?_
            refine kr_iret hX hr dX10_along_61 ⟨rfl, ?_⟩
            exact kq_rI h
          · replace h := kq_f c_42 h
            refine kr_aload_n (i := 0) hX dX10_along_45 rfl rfl ?_
            refine kr_getr (c0 := 10) (k := 15) hX ⟨_, kf_10_37⟩ dX10_along_46 rfl (md_k hm) (md_r15 hm) ?_
            refine kr_iload_n (i := 3) hX dX10_along_49 rfl rfl ?_
            obtain ⟨i_50, h⟩ := kq_ck_e h
            refine kr_lald hX dX10_along_50 (md_a8 hm) (vp_in_iff.mpr i_50) ?_
            refine kr_iload hX dX10_along_51 rfl ?_
            obtain ⟨r_53, e_53, h⟩ := kq_b1_e h
            refine kr_dS [_, _] hX km_10_273 dX10_along_53 (xs_told e_53) rfl rfl (by decide) (Nat.le_of_ble_eq_true rfl) (Nat.le_refl _) (Nat.le_refl _) ?_
            refine kr_goto (tgt := 61) hX dX10_along_56 (by decide) ?_
            refine kr_iret hX hr dX10_along_61 ⟨rfl, ?_⟩
            exact kq_rI h
        · replace h := kq_t c_27 h
          refine kr_iconst (v := (-1)) hX dX10_along_30 (by decide) ?_
          refine kr_iret hX hr dX10_along_31 ⟨rfl, ?_⟩
          exact kq_rI h
  exact key (r, μ1) h
def x_outcome (n : Nat) (m : Nat) (μ : kt_M) (a0 : Int32) : Option (Int32 × kt_M) := kq_b2 (x_isBlock n m μ (1 : Int32) a0) (fun r_3 μ_3 => (if r_3 = 0 then some (((-1) : Int32), μ_3) else kq_b2 (x_findRanges n m μ_3) (fun r_12 μ_12 => kq_b2 (x_isReached n m μ_12 a0) (fun r_17 μ_17 => (if r_17 = 0 then some (((-2) : Int32), μ_17) else kq_b2 (x_of n m μ_17 (1 : Int32) a0 (13 : Int32)) (fun r_33 μ_33 => kq_b1 (x_isTest n r_33) (fun r_36 => (if r_36 = 0 then some (((-4) : Int32), μ_33) else kq_b2 (x_outcomeAt n m μ_33 a0) (fun r_44 μ_44 => some (r_44, μ_44))))))))))
set_option maxHeartbeats 4000000 in
set_option maxRecDepth 100000 in
theorem xs_outcome {G : kt_G} {σ : kt_Y} {μ : kt_M} {m : Nat} (hm : kt_md σ m) {n : Nat} {a0 : Int32} {r : Int32} {μ1 : kt_M} (h : x_outcome n m μ a0 = some (r, μ1)) : kt_F G yX10_outcome cX10_outcome 2 (some .int) 6 [.ref m, .int a0] σ μ (fun rv μ2 => rv = some (.int r) ∧ μ2 = μ1) := by
  have key : ∀ q : (Int32 × kt_M), x_outcome n m μ a0 = some q → kt_F G yX10_outcome cX10_outcome 2 (some .int) 6 [.ref m, .int a0] σ μ (fun rv μ2 => rv = some (.int q.1) ∧ μ2 = q.2) := by
    intro q h
    unfold x_outcome at h
    refine kt_F.of (by decide) (Nat.le_of_ble_eq_true rfl) (fun X hX hr => ?_)
    refine kr_aload_n (i := 0) hX dX10_outcome_0 rfl rfl ?_
    refine kr_iconst (v := 1) hX dX10_outcome_1 (by decide) ?_
    refine kr_iload_n (i := 1) hX dX10_outcome_2 rfl rfl ?_
    obtain ⟨r_3, μ_3, e_3, h⟩ := kq_b2_e h
    refine kr_dV (c1 := 10) [_, _] hX km_10_178 dX10_outcome_3 (xs_isBlock hm e_3) rfl rfl ⟨_, _, rfl⟩ (by decide) (Nat.le_of_ble_eq_true rfl) (Nat.le_refl _) (Nat.le_refl _) (md_k hm) ?_
    refine kr_if_ne (tgt := 11) hX dX10_outcome_6 (by decide) (fun c_6 => ?_) (fun c_6 => ?_)
    · replace h := kq_f c_6 h
      refine kr_aload_n (i := 0) hX dX10_outcome_11 rfl rfl ?_
      obtain ⟨r_12, μ_12, e_12, h⟩ := kq_b2_e h
      refine kr_dV (c1 := 10) [] hX km_10_270 dX10_outcome_12 (xs_findRanges hm e_12) rfl rfl ⟨_, _, rfl⟩ (by decide) (Nat.le_of_ble_eq_true rfl) (Nat.le_refl _) (Nat.le_refl _) (md_k hm) ?_
      refine kr_aload_n (i := 0) hX dX10_outcome_15 rfl rfl ?_
      refine kr_iload_n (i := 1) hX dX10_outcome_16 rfl rfl ?_
      obtain ⟨r_17, μ_17, e_17, h⟩ := kq_b2_e h
      refine kr_dV (c1 := 10) [_] hX km_10_251 dX10_outcome_17 (xs_isReached hm e_17) rfl rfl ⟨_, _, rfl⟩ (by decide) (Nat.le_of_ble_eq_true rfl) (Nat.le_refl _) (Nat.le_refl _) (md_k hm) ?_
      refine kr_if_ne (tgt := 28) hX dX10_outcome_20 (by decide) (fun c_20 => ?_) (fun c_20 => ?_)
      · replace h := kq_f c_20 h
        refine kr_aload_n (i := 0) hX dX10_outcome_28 rfl rfl ?_
        refine kr_iconst (v := 1) hX dX10_outcome_29 (by decide) ?_
        refine kr_iload_n (i := 1) hX dX10_outcome_30 rfl rfl ?_
        refine kr_bipush (v := 13) hX dX10_outcome_31 (by decide) ?_
        obtain ⟨r_33, μ_33, e_33, h⟩ := kq_b2_e h
        refine kr_dV (c1 := 10) [_, _, _] hX km_10_175 dX10_outcome_33 (xs_of hm e_33) rfl rfl ⟨_, _, rfl⟩ (by decide) (Nat.le_of_ble_eq_true rfl) (Nat.le_refl _) (Nat.le_refl _) (md_k hm) ?_
        obtain ⟨r_36, e_36, h⟩ := kq_b1_e h
        refine kr_dS [_] hX km_10_188 dX10_outcome_36 (xs_isTest e_36) rfl rfl (by decide) (Nat.le_of_ble_eq_true rfl) (Nat.le_refl _) (Nat.le_refl _) ?_
        refine kr_if_eq (tgt := 50) hX dX10_outcome_39 (by decide) (fun c_39 => ?_) (fun c_39 => ?_)
        · replace h := kq_t c_39 h
          refine kr_bipush (v := (-4)) hX dX10_outcome_50 (by decide) ?_
          refine kr_iret hX hr dX10_outcome_52 ⟨rfl, ?_⟩
          exact kq_rI h
        · replace h := kq_f c_39 h
          refine kr_aload_n (i := 0) hX dX10_outcome_42 rfl rfl ?_
          refine kr_iload_n (i := 1) hX dX10_outcome_43 rfl rfl ?_
          obtain ⟨r_44, μ_44, e_44, h⟩ := kq_b2_e h
          refine kr_dV (c1 := 10) [_] hX km_10_281 dX10_outcome_44 (xs_outcomeAt hm e_44) rfl rfl ⟨_, _, rfl⟩ (by decide) (Nat.le_of_ble_eq_true rfl) (Nat.le_refl _) (Nat.le_refl _) (md_k hm) ?_
          refine kr_goto (tgt := 52) hX dX10_outcome_47 (by decide) ?_
          refine kr_iret hX hr dX10_outcome_52 ⟨rfl, ?_⟩
          exact kq_rI h
      · replace h := kq_t c_20 h
        refine kr_bipush (v := (-2)) hX dX10_outcome_23 (by decide) ?_
        refine kr_goto (tgt := 52) hX dX10_outcome_25 (by decide) ?_
        refine kr_iret hX hr dX10_outcome_52 ⟨rfl, ?_⟩
        exact kq_rI h
    · replace h := kq_t c_6 h
      refine kr_iconst (v := (-1)) hX dX10_outcome_9 (by decide) ?_
      refine kr_iret hX hr dX10_outcome_10 ⟨rfl, ?_⟩
      exact kq_rI h
  exact key (r, μ1) h
def x_known (n : Nat) (m : Nat) (μ : kt_M) (a0 : Int32) (a1 : Int32) : Option (Int32 × kt_M) := kq_b2 (x_isEdge n m μ (1 : Int32) a0 a1) (fun r_4 μ_4 => (if r_4 = 0 then some (((-1) : Int32), μ_4) else kq_b2 (x_findRanges n m μ_4) (fun r_13 μ_13 => kq_b2 (x_isOpen n m μ_13 a0 a1) (fun r_19 μ_19 => (if r_19 = 0 then some (((-2) : Int32), μ_19) else kq_b2 (x_of n m μ_19 (1 : Int32) a0 ((14 : Int32) + a1)) (fun r_37 μ_37 => kq_b2 (x_of n m μ_37 (1 : Int32) r_37 (13 : Int32)) (fun r_42 μ_42 => kq_b1 (x_isTest n r_42) (fun r_45 => (if r_45 = 0 then some (((-4) : Int32), μ_42) else kq_b2 (x_outcomeAlong n m μ_42 a0 a1) (fun r_54 μ_54 => some (r_54, μ_54)))))))))))
set_option maxHeartbeats 4000000 in
set_option maxRecDepth 100000 in
theorem xs_known {G : kt_G} {σ : kt_Y} {μ : kt_M} {m : Nat} (hm : kt_md σ m) {n : Nat} {a0 : Int32} {a1 : Int32} {r : Int32} {μ1 : kt_M} (h : x_known n m μ a0 a1 = some (r, μ1)) : kt_F G yX10_known cX10_known 3 (some .int) 6 [.ref m, .int a0, .int a1] σ μ (fun rv μ2 => rv = some (.int r) ∧ μ2 = μ1) := by
  have key : ∀ q : (Int32 × kt_M), x_known n m μ a0 a1 = some q → kt_F G yX10_known cX10_known 3 (some .int) 6 [.ref m, .int a0, .int a1] σ μ (fun rv μ2 => rv = some (.int q.1) ∧ μ2 = q.2) := by
    intro q h
    unfold x_known at h
    refine kt_F.of (by decide) (Nat.le_of_ble_eq_true rfl) (fun X hX hr => ?_)
    refine kr_aload_n (i := 0) hX dX10_known_0 rfl rfl ?_
    refine kr_iconst (v := 1) hX dX10_known_1 (by decide) ?_
    refine kr_iload_n (i := 1) hX dX10_known_2 rfl rfl ?_
    refine kr_iload_n (i := 2) hX dX10_known_3 rfl rfl ?_
    obtain ⟨r_4, μ_4, e_4, h⟩ := kq_b2_e h
    refine kr_dV (c1 := 10) [_, _, _] hX km_10_277 dX10_known_4 (xs_isEdge hm e_4) rfl rfl ⟨_, _, rfl⟩ (by decide) (Nat.le_of_ble_eq_true rfl) (Nat.le_refl _) (Nat.le_refl _) (md_k hm) ?_
    refine kr_if_ne (tgt := 12) hX dX10_known_7 (by decide) (fun c_7 => ?_) (fun c_7 => ?_)
    · replace h := kq_f c_7 h
      refine kr_aload_n (i := 0) hX dX10_known_12 rfl rfl ?_
      obtain ⟨r_13, μ_13, e_13, h⟩ := kq_b2_e h
      refine kr_dV (c1 := 10) [] hX km_10_270 dX10_known_13 (xs_findRanges hm e_13) rfl rfl ⟨_, _, rfl⟩ (by decide) (Nat.le_of_ble_eq_true rfl) (Nat.le_refl _) (Nat.le_refl _) (md_k hm) ?_
      refine kr_aload_n (i := 0) hX dX10_known_16 rfl rfl ?_
      refine kr_iload_n (i := 1) hX dX10_known_17 rfl rfl ?_
      refine kr_iload_n (i := 2) hX dX10_known_18 rfl rfl ?_
      obtain ⟨r_19, μ_19, e_19, h⟩ := kq_b2_e h
      refine kr_dV (c1 := 10) [_, _] hX km_10_260 dX10_known_19 (xs_isOpen hm e_19) rfl rfl ⟨_, _, rfl⟩ (by decide) (Nat.le_of_ble_eq_true rfl) (Nat.le_refl _) (Nat.le_refl _) (md_k hm) ?_
      refine kr_if_ne (tgt := 28) hX dX10_known_22 (by decide) (fun c_22 => ?_) (fun c_22 => ?_)
      · replace h := kq_f c_22 h
        refine kr_aload_n (i := 0) hX dX10_known_28 rfl rfl ?_
        refine kr_iconst (v := 1) hX dX10_known_29 (by decide) ?_
        refine kr_aload_n (i := 0) hX dX10_known_30 rfl rfl ?_
        refine kr_iconst (v := 1) hX dX10_known_31 (by decide) ?_
        refine kr_iload_n (i := 1) hX dX10_known_32 rfl rfl ?_
        refine kr_bipush (v := 14) hX dX10_known_33 (by decide) ?_
        refine kr_iload_n (i := 2) hX dX10_known_35 rfl rfl ?_
        refine kr_iadd hX dX10_known_36 ?_
        obtain ⟨r_37, μ_37, e_37, h⟩ := kq_b2_e h
        refine kr_dV (c1 := 10) [_, _, _] hX km_10_175 dX10_known_37 (xs_of hm e_37) rfl rfl ⟨_, _, rfl⟩ (by decide) (Nat.le_of_ble_eq_true rfl) (Nat.le_refl _) (Nat.le_refl _) (md_k hm) ?_
        refine kr_bipush (v := 13) hX dX10_known_40 (by decide) ?_
        obtain ⟨r_42, μ_42, e_42, h⟩ := kq_b2_e h
        refine kr_dV (c1 := 10) [_, _, _] hX km_10_175 dX10_known_42 (xs_of hm e_42) rfl rfl ⟨_, _, rfl⟩ (by decide) (Nat.le_of_ble_eq_true rfl) (Nat.le_refl _) (Nat.le_refl _) (md_k hm) ?_
        obtain ⟨r_45, e_45, h⟩ := kq_b1_e h
        refine kr_dS [_] hX km_10_188 dX10_known_45 (xs_isTest e_45) rfl rfl (by decide) (Nat.le_of_ble_eq_true rfl) (Nat.le_refl _) (Nat.le_refl _) ?_
        refine kr_if_eq (tgt := 60) hX dX10_known_48 (by decide) (fun c_48 => ?_) (fun c_48 => ?_)
        · replace h := kq_t c_48 h
          refine kr_bipush (v := (-4)) hX dX10_known_60 (by decide) ?_
          refine kr_iret hX hr dX10_known_62 ⟨rfl, ?_⟩
          exact kq_rI h
        · replace h := kq_f c_48 h
          refine kr_aload_n (i := 0) hX dX10_known_51 rfl rfl ?_
          refine kr_iload_n (i := 1) hX dX10_known_52 rfl rfl ?_
          refine kr_iload_n (i := 2) hX dX10_known_53 rfl rfl ?_
          obtain ⟨r_54, μ_54, e_54, h⟩ := kq_b2_e h
          refine kr_dV (c1 := 10) [_, _] hX km_10_284 dX10_known_54 (xs_outcomeAlong hm e_54) rfl rfl ⟨_, _, rfl⟩ (by decide) (Nat.le_of_ble_eq_true rfl) (Nat.le_refl _) (Nat.le_refl _) (md_k hm) ?_
          refine kr_goto (tgt := 62) hX dX10_known_57 (by decide) ?_
          refine kr_iret hX hr dX10_known_62 ⟨rfl, ?_⟩
          exact kq_rI h
      · replace h := kq_t c_22 h
        refine kr_bipush (v := (-2)) hX dX10_known_25 (by decide) ?_
        refine kr_iret hX hr dX10_known_27 ⟨rfl, ?_⟩
        exact kq_rI h
    · replace h := kq_t c_7 h
      refine kr_iconst (v := (-1)) hX dX10_known_10 (by decide) ?_
      refine kr_iret hX hr dX10_known_11 ⟨rfl, ?_⟩
      exact kq_rI h
  exact key (r, μ1) h
def x_nearest_J86 (n : Nat) (m : Nat) (K2 : Int32 → Int32 → kt_M → Option (Int32 × kt_M)) (l1 : Int32) (l2 : Int32) (l3 : Int32) (μ : kt_M) : Option (Int32 × kt_M) := (if l3 = 0 then K2 l1 (l2 + 1) μ else some (l2, μ))
set_option maxHeartbeats 4000000 in
set_option maxRecDepth 100000 in
theorem xw_nearest_J86 {G : kt_G} {σ : kt_Y} {X : kt_X} (hX : kt_ok G X RX10 cX10_nearest 5 5 0 0) (hr : kt_rt X = (some .int)) {m : Nat} (hm : kt_md σ m) {n : Nat} {q : (Int32 × kt_M)} {K2 : Int32 → Int32 → kt_M → Option (Int32 × kt_M)} (hK2 : ∀ (l1 : Int32) (l2 : Int32) (μ : kt_M), K2 l1 l2 μ = some q → kt_W G X 5 2 [(0, .ref m), (1, .int l1), (2, .int l2)] [] σ μ 0 0 (kt_Z G X (kt_q σ (fun rv μ2 => rv = some (.int q.1) ∧ μ2 = q.2)) 0 0)) {l1 : Int32} {l2 : Int32} {l3 : Int32} {μ : kt_M} (h : x_nearest_J86 n m K2 l1 l2 l3 μ = some q) : kt_W G X 5 86 [(0, .ref m), (1, .int l1), (2, .int l2), (3, .int l3)] [] σ μ 0 0 (kt_Z G X (kt_q σ (fun rv μ2 => rv = some (.int q.1) ∧ μ2 = q.2)) 0 0) := by
  unfold x_nearest_J86 at h
  refine kr_iload_n (i := 3) hX dX10_nearest_86 rfl rfl ?_
  refine kr_if_eq (tgt := 92) hX dX10_nearest_87 (by decide) (fun c_87 => ?_) (fun c_87 => ?_)
  · replace h := kq_t c_87 h
    refine kr_iinc (v := (l2 + 1)) hX dX10_nearest_92 rfl rfl (by decide) rfl rfl ?_
    refine kr_goto (tgt := 2) hX dX10_nearest_95 (by decide) ?_
    refine kr_keep (lv' := [(0, .ref m), (1, .int l1), (2, .int (l2 + 1))]) [0, 1, 2] rfl ?_
    exact hK2 _ _ _ h
  · replace h := kq_f c_87 h
    refine kr_iload_n (i := 2) hX dX10_nearest_90 rfl rfl ?_
    refine kr_iret hX hr dX10_nearest_91 ⟨rfl, ?_⟩
    exact kq_rI h
def x_nearest_B34 (n : Nat) (m : Nat) (K2 : Int32 → Int32 → kt_M → Option (Int32 × kt_M)) (K34 : Int32 → Int32 → Int32 → Int32 → kt_M → Option (Int32 × kt_M)) (l1 : Int32) (l2 : Int32) (l3 : Int32) (l4 : Int32) (μ : kt_M) : Option (Int32 × kt_M) := kq_b2 (x_many n m μ (1 : Int32)) (fun r_38 μ_38 => (if r_38 ≤ l4 then x_nearest_J86 n m K2 l1 l2 l3 μ_38 else (if l3 = 0 then x_nearest_J86 n m K2 l1 l2 l3 μ_38 else (if l4 = l1 then K34 l1 l2 (1 : Int32) (l4 + 1) μ_38 else kq_b2 (x_doesDominate n m μ_38 l4 l1) (fun r_58 μ_58 => (if r_58 = 0 then K34 l1 l2 (1 : Int32) (l4 + 1) μ_58 else kq_b2 (x_doesDominate n m μ_58 l4 l2) (fun r_68 μ_68 => (if r_68 = 0 then K34 l1 l2 (0 : Int32) (l4 + 1) μ_68 else K34 l1 l2 (1 : Int32) (l4 + 1) μ_68))))))))
set_option maxHeartbeats 4000000 in
set_option maxRecDepth 100000 in
theorem xw_nearest_B34 {G : kt_G} {σ : kt_Y} {X : kt_X} (hX : kt_ok G X RX10 cX10_nearest 5 5 0 0) (hr : kt_rt X = (some .int)) {m : Nat} (hm : kt_md σ m) {n : Nat} {q : (Int32 × kt_M)} {K2 : Int32 → Int32 → kt_M → Option (Int32 × kt_M)} (hK2 : ∀ (l1 : Int32) (l2 : Int32) (μ : kt_M), K2 l1 l2 μ = some q → kt_W G X 5 2 [(0, .ref m), (1, .int l1), (2, .int l2)] [] σ μ 0 0 (kt_Z G X (kt_q σ (fun rv μ2 => rv = some (.int q.1) ∧ μ2 = q.2)) 0 0)) {K34 : Int32 → Int32 → Int32 → Int32 → kt_M → Option (Int32 × kt_M)} (hK34 : ∀ (l1 : Int32) (l2 : Int32) (l3 : Int32) (l4 : Int32) (μ : kt_M), K34 l1 l2 l3 l4 μ = some q → kt_W G X 5 34 [(0, .ref m), (1, .int l1), (2, .int l2), (3, .int l3), (4, .int l4)] [] σ μ 0 0 (kt_Z G X (kt_q σ (fun rv μ2 => rv = some (.int q.1) ∧ μ2 = q.2)) 0 0)) {l1 : Int32} {l2 : Int32} {l3 : Int32} {l4 : Int32} {μ : kt_M} (h : x_nearest_B34 n m K2 K34 l1 l2 l3 l4 μ = some q) : kt_W G X 5 34 [(0, .ref m), (1, .int l1), (2, .int l2), (3, .int l3), (4, .int l4)] [] σ μ 0 0 (kt_Z G X (kt_q σ (fun rv μ2 => rv = some (.int q.1) ∧ μ2 = q.2)) 0 0) := by
  unfold x_nearest_B34 at h
  refine kr_iload hX dX10_nearest_34 rfl ?_
  refine kr_aload_n (i := 0) hX dX10_nearest_36 rfl rfl ?_
  refine kr_iconst (v := 1) hX dX10_nearest_37 (by decide) ?_
  obtain ⟨r_38, μ_38, e_38, h⟩ := kq_b2_e h
  refine kr_dV (c1 := 10) [_] hX km_10_172 dX10_nearest_38 (xs_many hm e_38) rfl rfl ⟨_, _, rfl⟩ (by decide) (Nat.le_of_ble_eq_true rfl) (Nat.le_refl _) (Nat.le_refl _) (md_k hm) ?_
  refine kr_icmp_ge (tgt := 86) hX dX10_nearest_41 (by decide) (fun c_41 => ?_) (fun c_41 => ?_)
  · replace h := kq_t c_41 h
    refine kr_keep (lv' := [(0, .ref m), (1, .int l1), (2, .int l2), (3, .int l3)]) [0, 1, 2, 3] rfl ?_
    exact xw_nearest_J86 hX hr hm hK2 h
  · replace h := kq_f c_41 h
    refine kr_iload_n (i := 3) hX dX10_nearest_44 rfl rfl ?_
    refine kr_if_eq (tgt := 86) hX dX10_nearest_45 (by decide) (fun c_45 => ?_) (fun c_45 => ?_)
    · replace h := kq_t c_45 h
      refine kr_keep (lv' := [(0, .ref m), (1, .int l1), (2, .int l2), (3, .int l3)]) [0, 1, 2, 3] rfl ?_
      exact xw_nearest_J86 hX hr hm hK2 h
    · replace h := kq_f c_45 h
      refine kr_iload hX dX10_nearest_48 rfl ?_
      refine kr_iload_n (i := 1) hX dX10_nearest_50 rfl rfl ?_
      refine kr_icmp_eq (tgt := 74) hX dX10_nearest_51 (by decide) (fun c_51 => ?_) (fun c_51 => ?_)
      · replace h := kq_t c_51 h
        refine kr_iconst (v := 1) hX dX10_nearest_74 (by decide) ?_
        refine kr_goto (tgt := 79) hX dX10_nearest_75 (by decide) ?_
        refine kr_istore_n (i := 3) hX dX10_nearest_79 rfl (by decide) rfl rfl ?_
        refine kr_iinc (v := (l4 + 1)) hX dX10_nearest_80 rfl rfl (by decide) rfl rfl ?_
        refine kr_goto (tgt := 34) hX dX10_nearest_83 (by decide) ?_
        refine kr_keep (lv' := [(0, .ref m), (1, .int l1), (2, .int l2), (3, .int (1 : Int32)), (4, .int (l4 + 1))]) [0, 1, 2, 3, 4] rfl ?_
        exact hK34 _ _ _ _ _ h
      · replace h := kq_f c_51 h
        refine kr_aload_n (i := 0) hX dX10_nearest_54 rfl rfl ?_
        refine kr_iload hX dX10_nearest_55 rfl ?_
        refine kr_iload_n (i := 1) hX dX10_nearest_57 rfl rfl ?_
        obtain ⟨r_58, μ_58, e_58, h⟩ := kq_b2_e h
        refine kr_dV (c1 := 10) [_, _] hX km_10_290 dX10_nearest_58 (xs_doesDominate hm e_58) rfl rfl ⟨_, _, rfl⟩ (by decide) (Nat.le_of_ble_eq_true rfl) (Nat.le_refl _) (Nat.le_refl _) (md_k hm) ?_
        refine kr_if_eq (tgt := 74) hX dX10_nearest_61 (by decide) (fun c_61 => ?_) (fun c_61 => ?_)
        · replace h := kq_t c_61 h
          refine kr_iconst (v := 1) hX dX10_nearest_74 (by decide) ?_
          refine kr_goto (tgt := 79) hX dX10_nearest_75 (by decide) ?_
          refine kr_istore_n (i := 3) hX dX10_nearest_79 rfl (by decide) rfl rfl ?_
          refine kr_iinc (v := (l4 + 1)) hX dX10_nearest_80 rfl rfl (by decide) rfl rfl ?_
          refine kr_goto (tgt := 34) hX dX10_nearest_83 (by decide) ?_
          refine kr_keep (lv' := [(0, .ref m), (1, .int l1), (2, .int l2), (3, .int (1 : Int32)), (4, .int (l4 + 1))]) [0, 1, 2, 3, 4] rfl ?_
          exact hK34 _ _ _ _ _ h
        · replace h := kq_f c_61 h
          refine kr_aload_n (i := 0) hX dX10_nearest_64 rfl rfl ?_
          refine kr_iload hX dX10_nearest_65 rfl ?_
          refine kr_iload_n (i := 2) hX dX10_nearest_67 rfl rfl ?_
          obtain ⟨r_68, μ_68, e_68, h⟩ := kq_b2_e h
          refine kr_dV (c1 := 10) [_, _] hX km_10_290 dX10_nearest_68 (xs_doesDominate hm e_68) rfl rfl ⟨_, _, rfl⟩ (by decide) (Nat.le_of_ble_eq_true rfl) (Nat.le_refl _) (Nat.le_refl _) (md_k hm) ?_
          refine kr_if_eq (tgt := 78) hX dX10_nearest_71 (by decide) (fun c_71 => ?_) (fun c_71 => ?_)
          · replace h := kq_t c_71 h
            refine kr_iconst (v := 0) hX dX10_nearest_78 (by decide) ?_
            refine kr_istore_n (i := 3) hX dX10_nearest_79 rfl (by decide) rfl rfl ?_
            refine kr_iinc (v := (l4 + 1)) hX dX10_nearest_80 rfl rfl (by decide) rfl rfl ?_
            refine kr_goto (tgt := 34) hX dX10_nearest_83 (by decide) ?_
            refine kr_keep (lv' := [(0, .ref m), (1, .int l1), (2, .int l2), (3, .int (0 : Int32)), (4, .int (l4 + 1))]) [0, 1, 2, 3, 4] rfl ?_
            exact hK34 _ _ _ _ _ h
          · replace h := kq_f c_71 h
            refine kr_iconst (v := 1) hX dX10_nearest_74 (by decide) ?_
            refine kr_goto (tgt := 79) hX dX10_nearest_75 (by decide) ?_
            refine kr_istore_n (i := 3) hX dX10_nearest_79 rfl (by decide) rfl rfl ?_
            refine kr_iinc (v := (l4 + 1)) hX dX10_nearest_80 rfl rfl (by decide) rfl rfl ?_
            refine kr_goto (tgt := 34) hX dX10_nearest_83 (by decide) ?_
            refine kr_keep (lv' := [(0, .ref m), (1, .int l1), (2, .int l2), (3, .int (1 : Int32)), (4, .int (l4 + 1))]) [0, 1, 2, 3, 4] rfl ?_
            exact hK34 _ _ _ _ _ h
def x_nearest_L34 (n : Nat) (m : Nat) (K2 : Int32 → Int32 → kt_M → Option (Int32 × kt_M)) : Nat → Int32 → Int32 → Int32 → Int32 → kt_M → Option (Int32 × kt_M)
  | 0, _, _, _, _, _ => none
  | k + 1, l1, l2, l3, l4, μ => x_nearest_B34 n m K2 (x_nearest_L34 n m K2 k) l1 l2 l3 l4 μ
set_option maxHeartbeats 4000000 in
set_option maxRecDepth 100000 in
theorem xw_nearest_L34 {G : kt_G} {σ : kt_Y} {X : kt_X} (hX : kt_ok G X RX10 cX10_nearest 5 5 0 0) (hr : kt_rt X = (some .int)) {m : Nat} (hm : kt_md σ m) {n : Nat} {q : (Int32 × kt_M)} {K2 : Int32 → Int32 → kt_M → Option (Int32 × kt_M)} (hK2 : ∀ (l1 : Int32) (l2 : Int32) (μ : kt_M), K2 l1 l2 μ = some q → kt_W G X 5 2 [(0, .ref m), (1, .int l1), (2, .int l2)] [] σ μ 0 0 (kt_Z G X (kt_q σ (fun rv μ2 => rv = some (.int q.1) ∧ μ2 = q.2)) 0 0)) : ∀ (k : Nat) (l1 : Int32) (l2 : Int32) (l3 : Int32) (l4 : Int32) (μ : kt_M), x_nearest_L34 n m K2 k l1 l2 l3 l4 μ = some q → kt_W G X 5 34 [(0, .ref m), (1, .int l1), (2, .int l2), (3, .int l3), (4, .int l4)] [] σ μ 0 0 (kt_Z G X (kt_q σ (fun rv μ2 => rv = some (.int q.1) ∧ μ2 = q.2)) 0 0) := by
  intro k
  induction k with
  | zero => intro l1 l2 l3 l4 μ h; cases h
  | succ k ih => intro l1 l2 l3 l4 μ h; exact xw_nearest_B34 hX hr hm hK2 ih h
def x_nearest_B2 (n : Nat) (m : Nat) (K2 : Int32 → Int32 → kt_M → Option (Int32 × kt_M)) (l1 : Int32) (l2 : Int32) (μ : kt_M) : Option (Int32 × kt_M) := kq_b2 (x_many n m μ (1 : Int32)) (fun r_5 μ_5 => (if r_5 ≤ l2 then some (((-4) : Int32), μ_5) else (if l2 = l1 then x_nearest_L34 n m K2 n l1 l2 (0 : Int32) (0 : Int32) μ_5 else kq_b2 (x_doesDominate n m μ_5 l2 l1) (fun r_19 μ_19 => (if r_19 = 0 then x_nearest_L34 n m K2 n l1 l2 (0 : Int32) (0 : Int32) μ_19 else x_nearest_L34 n m K2 n l1 l2 (1 : Int32) (0 : Int32) μ_19)))))
set_option maxHeartbeats 4000000 in
set_option maxRecDepth 100000 in
theorem xw_nearest_B2 {G : kt_G} {σ : kt_Y} {X : kt_X} (hX : kt_ok G X RX10 cX10_nearest 5 5 0 0) (hr : kt_rt X = (some .int)) {m : Nat} (hm : kt_md σ m) {n : Nat} {q : (Int32 × kt_M)} {K2 : Int32 → Int32 → kt_M → Option (Int32 × kt_M)} (hK2 : ∀ (l1 : Int32) (l2 : Int32) (μ : kt_M), K2 l1 l2 μ = some q → kt_W G X 5 2 [(0, .ref m), (1, .int l1), (2, .int l2)] [] σ μ 0 0 (kt_Z G X (kt_q σ (fun rv μ2 => rv = some (.int q.1) ∧ μ2 = q.2)) 0 0)) {l1 : Int32} {l2 : Int32} {μ : kt_M} (h : x_nearest_B2 n m K2 l1 l2 μ = some q) : kt_W G X 5 2 [(0, .ref m), (1, .int l1), (2, .int l2)] [] σ μ 0 0 (kt_Z G X (kt_q σ (fun rv μ2 => rv = some (.int q.1) ∧ μ2 = q.2)) 0 0) := by
  unfold x_nearest_B2 at h
  refine kr_iload_n (i := 2) hX dX10_nearest_2 rfl rfl ?_
  refine kr_aload_n (i := 0) hX dX10_nearest_3 rfl rfl ?_
  refine kr_iconst (v := 1) hX dX10_nearest_4 (by decide) ?_
  obtain ⟨r_5, μ_5, e_5, h⟩ := kq_b2_e h
  refine kr_dV (c1 := 10) [_] hX km_10_172 dX10_nearest_5 (xs_many hm e_5) rfl rfl ⟨_, _, rfl⟩ (by decide) (Nat.le_of_ble_eq_true rfl) (Nat.le_refl _) (Nat.le_refl _) (md_k hm) ?_
  refine kr_icmp_ge (tgt := 98) hX dX10_nearest_8 (by decide) (fun c_8 => ?_) (fun c_8 => ?_)
  · replace h := kq_t c_8 h
    refine kr_bipush (v := (-4)) hX dX10_nearest_98 (by decide) ?_
    refine kr_iret hX hr dX10_nearest_100 ⟨rfl, ?_⟩
    exact kq_rI h
  · replace h := kq_f c_8 h
    refine kr_iload_n (i := 2) hX dX10_nearest_11 rfl rfl ?_
    refine kr_iload_n (i := 1) hX dX10_nearest_12 rfl rfl ?_
    refine kr_icmp_eq (tgt := 29) hX dX10_nearest_13 (by decide) (fun c_13 => ?_) (fun c_13 => ?_)
    · replace h := kq_t c_13 h
      refine kr_iconst (v := 0) hX dX10_nearest_29 (by decide) ?_
      refine kr_istore_n (i := 3) hX dX10_nearest_30 rfl (by decide) rfl rfl ?_
      refine kr_iconst (v := 0) hX dX10_nearest_31 (by decide) ?_
      refine kr_istore hX dX10_nearest_32 (by decide) rfl rfl ?_
      refine kr_keep (lv' := [(0, .ref m), (1, .int l1), (2, .int l2), (3, .int (0 : Int32)), (4, .int (0 : Int32))]) [0, 1, 2, 3, 4] rfl ?_
      exact xw_nearest_L34 hX hr hm hK2 n _ _ _ _ _ h
    · replace h := kq_f c_13 h
      refine kr_aload_n (i := 0) hX dX10_nearest_16 rfl rfl ?_
      refine kr_iload_n (i := 2) hX dX10_nearest_17 rfl rfl ?_
      refine kr_iload_n (i := 1) hX dX10_nearest_18 rfl rfl ?_
      obtain ⟨r_19, μ_19, e_19, h⟩ := kq_b2_e h
      refine kr_dV (c1 := 10) [_, _] hX km_10_290 dX10_nearest_19 (xs_doesDominate hm e_19) rfl rfl ⟨_, _, rfl⟩ (by decide) (Nat.le_of_ble_eq_true rfl) (Nat.le_refl _) (Nat.le_refl _) (md_k hm) ?_
      refine kr_if_eq (tgt := 29) hX dX10_nearest_22 (by decide) (fun c_22 => ?_) (fun c_22 => ?_)
      · replace h := kq_t c_22 h
        refine kr_iconst (v := 0) hX dX10_nearest_29 (by decide) ?_
        refine kr_istore_n (i := 3) hX dX10_nearest_30 rfl (by decide) rfl rfl ?_
        refine kr_iconst (v := 0) hX dX10_nearest_31 (by decide) ?_
        refine kr_istore hX dX10_nearest_32 (by decide) rfl rfl ?_
        refine kr_keep (lv' := [(0, .ref m), (1, .int l1), (2, .int l2), (3, .int (0 : Int32)), (4, .int (0 : Int32))]) [0, 1, 2, 3, 4] rfl ?_
        exact xw_nearest_L34 hX hr hm hK2 n _ _ _ _ _ h
      · replace h := kq_f c_22 h
        refine kr_iconst (v := 1) hX dX10_nearest_25 (by decide) ?_
        refine kr_goto (tgt := 30) hX dX10_nearest_26 (by decide) ?_
        refine kr_istore_n (i := 3) hX dX10_nearest_30 rfl (by decide) rfl rfl ?_
        refine kr_iconst (v := 0) hX dX10_nearest_31 (by decide) ?_
        refine kr_istore hX dX10_nearest_32 (by decide) rfl rfl ?_
        refine kr_keep (lv' := [(0, .ref m), (1, .int l1), (2, .int l2), (3, .int (1 : Int32)), (4, .int (0 : Int32))]) [0, 1, 2, 3, 4] rfl ?_
        exact xw_nearest_L34 hX hr hm hK2 n _ _ _ _ _ h
def x_nearest_L2 (n : Nat) (m : Nat) : Nat → Int32 → Int32 → kt_M → Option (Int32 × kt_M)
  | 0, _, _, _ => none
  | k + 1, l1, l2, μ => x_nearest_B2 n m (x_nearest_L2 n m k) l1 l2 μ
set_option maxHeartbeats 4000000 in
set_option maxRecDepth 100000 in
theorem xw_nearest_L2 {G : kt_G} {σ : kt_Y} {X : kt_X} (hX : kt_ok G X RX10 cX10_nearest 5 5 0 0) (hr : kt_rt X = (some .int)) {m : Nat} (hm : kt_md σ m) {n : Nat} {q : (Int32 × kt_M)} : ∀ (k : Nat) (l1 : Int32) (l2 : Int32) (μ : kt_M), x_nearest_L2 n m k l1 l2 μ = some q → kt_W G X 5 2 [(0, .ref m), (1, .int l1), (2, .int l2)] [] σ μ 0 0 (kt_Z G X (kt_q σ (fun rv μ2 => rv = some (.int q.1) ∧ μ2 = q.2)) 0 0) := by
  intro k
  induction k with
  | zero => intro l1 l2 μ h; cases h
  | succ k ih => intro l1 l2 μ h; exact xw_nearest_B2 hX hr hm ih h
def x_nearest (n : Nat) (m : Nat) (μ : kt_M) (a0 : Int32) : Option (Int32 × kt_M) := x_nearest_L2 n m n a0 (0 : Int32) μ
set_option maxHeartbeats 4000000 in
set_option maxRecDepth 100000 in
theorem xs_nearest {G : kt_G} {σ : kt_Y} {μ : kt_M} {m : Nat} (hm : kt_md σ m) {n : Nat} {a0 : Int32} {r : Int32} {μ1 : kt_M} (h : x_nearest n m μ a0 = some (r, μ1)) : kt_F G yX10_nearest cX10_nearest 5 (some .int) 5 [.ref m, .int a0] σ μ (fun rv μ2 => rv = some (.int r) ∧ μ2 = μ1) := by
  have key : ∀ q : (Int32 × kt_M), x_nearest n m μ a0 = some q → kt_F G yX10_nearest cX10_nearest 5 (some .int) 5 [.ref m, .int a0] σ μ (fun rv μ2 => rv = some (.int q.1) ∧ μ2 = q.2) := by
    intro q h
    unfold x_nearest at h
    refine kt_F.of (by decide) (Nat.le_of_ble_eq_true rfl) (fun X hX hr => ?_)
    refine kr_iconst (v := 0) hX dX10_nearest_0 (by decide) ?_
    refine kr_istore_n (i := 2) hX dX10_nearest_1 rfl (by decide) rfl rfl ?_
    refine kr_keep (lv' := [(0, .ref m), (1, .int a0), (2, .int (0 : Int32))]) [0, 1, 2] rfl ?_
    exact xw_nearest_L2 hX hr hm n _ _ _ h
  exact key (r, μ1) h
def x_dominates (n : Nat) (m : Nat) (μ : kt_M) (a0 : Int32) (a1 : Int32) : Option (Int32 × kt_M) := kq_b2 (x_isBlock n m μ (1 : Int32) a0) (fun r_3 μ_3 => (if r_3 = 0 then some (((-1) : Int32), μ_3) else kq_b2 (x_isBlock n m μ_3 (1 : Int32) a1) (fun r_12 μ_12 => (if r_12 = 0 then some (((-1) : Int32), μ_12) else kq_b2 (x_doesDominate n m μ_12 a0 a1) (fun r_21 μ_21 => kq_b1 (x_flag n r_21) (fun r_24 => some (r_24, μ_21)))))))
set_option maxHeartbeats 4000000 in
set_option maxRecDepth 100000 in
theorem xs_dominates {G : kt_G} {σ : kt_Y} {μ : kt_M} {m : Nat} (hm : kt_md σ m) {n : Nat} {a0 : Int32} {a1 : Int32} {r : Int32} {μ1 : kt_M} (h : x_dominates n m μ a0 a1 = some (r, μ1)) : kt_F G yX10_dominates cX10_dominates 3 (some .int) 5 [.ref m, .int a0, .int a1] σ μ (fun rv μ2 => rv = some (.int r) ∧ μ2 = μ1) := by
  have key : ∀ q : (Int32 × kt_M), x_dominates n m μ a0 a1 = some q → kt_F G yX10_dominates cX10_dominates 3 (some .int) 5 [.ref m, .int a0, .int a1] σ μ (fun rv μ2 => rv = some (.int q.1) ∧ μ2 = q.2) := by
    intro q h
    unfold x_dominates at h
    refine kt_F.of (by decide) (Nat.le_of_ble_eq_true rfl) (fun X hX hr => ?_)
    refine kr_aload_n (i := 0) hX dX10_dominates_0 rfl rfl ?_
    refine kr_iconst (v := 1) hX dX10_dominates_1 (by decide) ?_
    refine kr_iload_n (i := 1) hX dX10_dominates_2 rfl rfl ?_
    obtain ⟨r_3, μ_3, e_3, h⟩ := kq_b2_e h
    refine kr_dV (c1 := 10) [_, _] hX km_10_178 dX10_dominates_3 (xs_isBlock hm e_3) rfl rfl ⟨_, _, rfl⟩ (by decide) (Nat.le_of_ble_eq_true rfl) (Nat.le_refl _) (Nat.le_refl _) (md_k hm) ?_
    refine kr_if_eq (tgt := 30) hX dX10_dominates_6 (by decide) (fun c_6 => ?_) (fun c_6 => ?_)
    · replace h := kq_t c_6 h
      refine kr_iconst (v := (-1)) hX dX10_dominates_30 (by decide) ?_
      refine kr_iret hX hr dX10_dominates_31 ⟨rfl, ?_⟩
      exact kq_rI h
    · replace h := kq_f c_6 h
      refine kr_aload_n (i := 0) hX dX10_dominates_9 rfl rfl ?_
      refine kr_iconst (v := 1) hX dX10_dominates_10 (by decide) ?_
      refine kr_iload_n (i := 2) hX dX10_dominates_11 rfl rfl ?_
      obtain ⟨r_12, μ_12, e_12, h⟩ := kq_b2_e h
      refine kr_dV (c1 := 10) [_, _] hX km_10_178 dX10_dominates_12 (xs_isBlock hm e_12) rfl rfl ⟨_, _, rfl⟩ (by decide) (Nat.le_of_ble_eq_true rfl) (Nat.le_refl _) (Nat.le_refl _) (md_k hm) ?_
      refine kr_if_eq (tgt := 30) hX dX10_dominates_15 (by decide) (fun c_15 => ?_) (fun c_15 => ?_)
      · replace h := kq_t c_15 h
        refine kr_iconst (v := (-1)) hX dX10_dominates_30 (by decide) ?_
        refine kr_iret hX hr dX10_dominates_31 ⟨rfl, ?_⟩
        exact kq_rI h
      · replace h := kq_f c_15 h
        refine kr_aload_n (i := 0) hX dX10_dominates_18 rfl rfl ?_
        refine kr_iload_n (i := 1) hX dX10_dominates_19 rfl rfl ?_
        refine kr_iload_n (i := 2) hX dX10_dominates_20 rfl rfl ?_
        obtain ⟨r_21, μ_21, e_21, h⟩ := kq_b2_e h
        refine kr_dV (c1 := 10) [_, _] hX km_10_290 dX10_dominates_21 (xs_doesDominate hm e_21) rfl rfl ⟨_, _, rfl⟩ (by decide) (Nat.le_of_ble_eq_true rfl) (Nat.le_refl _) (Nat.le_refl _) (md_k hm) ?_
        obtain ⟨r_24, e_24, h⟩ := kq_b1_e h
        refine kr_dS [_] hX km_10_145 dX10_dominates_24 (xs_flag e_24) rfl rfl (by decide) (Nat.le_of_ble_eq_true rfl) (Nat.le_refl _) (Nat.le_refl _) ?_
        refine kr_goto (tgt := 31) hX dX10_dominates_27 (by decide) ?_
        refine kr_iret hX hr dX10_dominates_31 ⟨rfl, ?_⟩
        exact kq_rI h
  exact key (r, μ1) h
def x_loop (n : Nat) (m : Nat) (μ : kt_M) (a0 : Int32) (a1 : Int32) : Option (Int32 × kt_M) := kq_b2 (x_isBlock n m μ (1 : Int32) a0) (fun r_3 μ_3 => (if r_3 = 0 then some (((-1) : Int32), μ_3) else kq_b1 (x_in n (Int32.toInt64 a1) (0 : Int64) (1 : Int64)) (fun r_13 => (if r_13 = 0 then some (((-1) : Int32), μ_3) else (if a1 = 0 then kq_b2 (x_isHead n m μ_3 a0) (fun r_27 μ_27 => kq_b1 (x_flag n r_27) (fun r_30 => some (r_30, μ_27))) else kq_b2 (x_nearest n m μ_3 a0) (fun r_38 μ_38 => some (r_38, μ_38)))))))
set_option maxHeartbeats 4000000 in
set_option maxRecDepth 100000 in
theorem xs_loop {G : kt_G} {σ : kt_Y} {μ : kt_M} {m : Nat} (hm : kt_md σ m) {n : Nat} {a0 : Int32} {a1 : Int32} {r : Int32} {μ1 : kt_M} (h : x_loop n m μ a0 a1 = some (r, μ1)) : kt_F G yX10_loop cX10_loop 3 (some .int) 6 [.ref m, .int a0, .int a1] σ μ (fun rv μ2 => rv = some (.int r) ∧ μ2 = μ1) := by
  have key : ∀ q : (Int32 × kt_M), x_loop n m μ a0 a1 = some q → kt_F G yX10_loop cX10_loop 3 (some .int) 6 [.ref m, .int a0, .int a1] σ μ (fun rv μ2 => rv = some (.int q.1) ∧ μ2 = q.2) := by
    intro q h
    unfold x_loop at h
    refine kt_F.of (by decide) (Nat.le_of_ble_eq_true rfl) (fun X hX hr => ?_)
    refine kr_aload_n (i := 0) hX dX10_loop_0 rfl rfl ?_
    refine kr_iconst (v := 1) hX dX10_loop_1 (by decide) ?_
    refine kr_iload_n (i := 1) hX dX10_loop_2 rfl rfl ?_
    obtain ⟨r_3, μ_3, e_3, h⟩ := kq_b2_e h
    refine kr_dV (c1 := 10) [_, _] hX km_10_178 dX10_loop_3 (xs_isBlock hm e_3) rfl rfl ⟨_, _, rfl⟩ (by decide) (Nat.le_of_ble_eq_true rfl) (Nat.le_refl _) (Nat.le_refl _) (md_k hm) ?_
    refine kr_if_eq (tgt := 19) hX dX10_loop_6 (by decide) (fun c_6 => ?_) (fun c_6 => ?_)
    · replace h := kq_t c_6 h
      refine kr_iconst (v := (-1)) hX dX10_loop_19 (by decide) ?_
      refine kr_iret hX hr dX10_loop_20 ⟨rfl, ?_⟩
      exact kq_rI h
    · replace h := kq_f c_6 h
      refine kr_iload_n (i := 2) hX dX10_loop_9 rfl rfl ?_
      refine kr_i2l hX dX10_loop_10 rfl ?_
      refine kr_lconst (v := 0) hX dX10_loop_11 (by decide) ?_
      refine kr_lconst (v := 1) hX dX10_loop_12 (by decide) ?_
      obtain ⟨r_13, e_13, h⟩ := kq_b1_e h
      refine kr_dS [_, _, _] hX km_10_80 dX10_loop_13 (xs_in e_13) rfl rfl (by decide) (Nat.le_of_ble_eq_true rfl) (Nat.le_refl _) (Nat.le_refl _) ?_
      refine kr_if_ne (tgt := 21) hX dX10_loop_16 (by decide) (fun c_16 => ?_) (fun c_16 => ?_)
      · replace h := kq_f c_16 h
        refine kr_iload_n (i := 2) hX dX10_loop_21 rfl rfl ?_
        refine kr_if_ne (tgt := 36) hX dX10_loop_22 (by decide) (fun c_22 => ?_) (fun c_22 => ?_)
        · replace h := kq_f c_22 h
          refine kr_aload_n (i := 0) hX dX10_loop_36 rfl rfl ?_
          refine kr_iload_n (i := 1) hX dX10_loop_37 rfl rfl ?_
          obtain ⟨r_38, μ_38, e_38, h⟩ := kq_b2_e h
          refine kr_dV (c1 := 10) [_] hX km_10_296 dX10_loop_38 (xs_nearest hm e_38) rfl rfl ⟨_, _, rfl⟩ (by decide) (Nat.le_of_ble_eq_true rfl) (Nat.le_refl _) (Nat.le_refl _) (md_k hm) ?_
          refine kr_iret hX hr dX10_loop_41 ⟨rfl, ?_⟩
          exact kq_rI h
        · replace h := kq_t c_22 h
          refine kr_aload_n (i := 0) hX dX10_loop_25 rfl rfl ?_
          refine kr_iload_n (i := 1) hX dX10_loop_26 rfl rfl ?_
          obtain ⟨r_27, μ_27, e_27, h⟩ := kq_b2_e h
          refine kr_dV (c1 := 10) [_] hX km_10_293 dX10_loop_27 (xs_isHead hm e_27) rfl rfl ⟨_, _, rfl⟩ (by decide) (Nat.le_of_ble_eq_true rfl) (Nat.le_refl _) (Nat.le_refl _) (md_k hm) ?_
          obtain ⟨r_30, e_30, h⟩ := kq_b1_e h
          refine kr_dS [_] hX km_10_145 dX10_loop_30 (xs_flag e_30) rfl rfl (by decide) (Nat.le_of_ble_eq_true rfl) (Nat.le_refl _) (Nat.le_refl _) ?_
          refine kr_goto (tgt := 41) hX dX10_loop_33 (by decide) ?_
          refine kr_iret hX hr dX10_loop_41 ⟨rfl, ?_⟩
          exact kq_rI h
      · replace h := kq_t c_16 h
        refine kr_iconst (v := (-1)) hX dX10_loop_19 (by decide) ?_
        refine kr_iret hX hr dX10_loop_20 ⟨rfl, ?_⟩
        exact kq_rI h
  exact key (r, μ1) h
def x_why (n : Nat) (m : Nat) (μ : kt_M) (a0 : Int32) (a1 : Int32) : Option (Int32 × kt_M) := kq_b2 (x_isEdge n m μ (1 : Int32) a0 a1) (fun r_4 μ_4 => (if r_4 = 0 then some (((-1) : Int32), μ_4) else kq_b2 (x_findRanges n m μ_4) (fun r_13 μ_13 => kq_b2 (x_against n m μ_13 a0 a1) (fun r_19 μ_19 => some (r_19, μ_19)))))
set_option maxHeartbeats 4000000 in
set_option maxRecDepth 100000 in
theorem xs_why {G : kt_G} {σ : kt_Y} {μ : kt_M} {m : Nat} (hm : kt_md σ m) {n : Nat} {a0 : Int32} {a1 : Int32} {r : Int32} {μ1 : kt_M} (h : x_why n m μ a0 a1 = some (r, μ1)) : kt_F G yX10_why cX10_why 3 (some .int) 7 [.ref m, .int a0, .int a1] σ μ (fun rv μ2 => rv = some (.int r) ∧ μ2 = μ1) := by
  have key : ∀ q : (Int32 × kt_M), x_why n m μ a0 a1 = some q → kt_F G yX10_why cX10_why 3 (some .int) 7 [.ref m, .int a0, .int a1] σ μ (fun rv μ2 => rv = some (.int q.1) ∧ μ2 = q.2) := by
    intro q h
    unfold x_why at h
    refine kt_F.of (by decide) (Nat.le_of_ble_eq_true rfl) (fun X hX hr => ?_)
    refine kr_aload_n (i := 0) hX dX10_why_0 rfl rfl ?_
    refine kr_iconst (v := 1) hX dX10_why_1 (by decide) ?_
    refine kr_iload_n (i := 1) hX dX10_why_2 rfl rfl ?_
    refine kr_iload_n (i := 2) hX dX10_why_3 rfl rfl ?_
    obtain ⟨r_4, μ_4, e_4, h⟩ := kq_b2_e h
    refine kr_dV (c1 := 10) [_, _, _] hX km_10_277 dX10_why_4 (xs_isEdge hm e_4) rfl rfl ⟨_, _, rfl⟩ (by decide) (Nat.le_of_ble_eq_true rfl) (Nat.le_refl _) (Nat.le_refl _) (md_k hm) ?_
    refine kr_if_ne (tgt := 12) hX dX10_why_7 (by decide) (fun c_7 => ?_) (fun c_7 => ?_)
    · replace h := kq_f c_7 h
      refine kr_aload_n (i := 0) hX dX10_why_12 rfl rfl ?_
      obtain ⟨r_13, μ_13, e_13, h⟩ := kq_b2_e h
      refine kr_dV (c1 := 10) [] hX km_10_270 dX10_why_13 (xs_findRanges hm e_13) rfl rfl ⟨_, _, rfl⟩ (by decide) (Nat.le_of_ble_eq_true rfl) (Nat.le_refl _) (Nat.le_refl _) (md_k hm) ?_
      refine kr_aload_n (i := 0) hX dX10_why_16 rfl rfl ?_
      refine kr_iload_n (i := 1) hX dX10_why_17 rfl rfl ?_
      refine kr_iload_n (i := 2) hX dX10_why_18 rfl rfl ?_
      obtain ⟨r_19, μ_19, e_19, h⟩ := kq_b2_e h
      refine kr_dV (c1 := 10) [_, _] hX km_10_299 dX10_why_19 (xs_against hm e_19) rfl rfl ⟨_, _, rfl⟩ (by decide) (Nat.le_of_ble_eq_true rfl) (Nat.le_refl _) (Nat.le_refl _) (md_k hm) ?_
      refine kr_iret hX hr dX10_why_22 ⟨rfl, ?_⟩
      exact kq_rI h
    · replace h := kq_t c_7 h
      refine kr_iconst (v := (-1)) hX dX10_why_10 (by decide) ?_
      refine kr_iret hX hr dX10_why_11 ⟨rfl, ?_⟩
      exact kq_rI h
  exact key (r, μ1) h
def x_goesTo (n : Nat) (m : Nat) (μ : kt_M) (a0 : Int32) (a1 : Int32) : Option (Unit × kt_M) := kq_b1 (x_at n (1 : Int32) a0 (0 : Int32)) (fun r_3 => kq_b2 (x_noTest n m μ (m + 1) 1284 r_3) (fun r_13 μ_13 => kq_ck (kq_in (r_3 + (13 : Int32)) 1284) (kq_lt (kt_si μ_13 (m + 1) (Int32.toNatClampNeg (r_3 + (13 : Int32))) (1 : Int32)) (fun μ_25 => kq_ck (kq_in (r_3 + (14 : Int32)) 1284) (kq_lt (kt_si μ_25 (m + 1) (Int32.toNatClampNeg (r_3 + (14 : Int32))) a1) (fun μ_35 => some ((), μ_35)))))))
set_option maxHeartbeats 4000000 in
set_option maxRecDepth 100000 in
theorem xs_goesTo {G : kt_G} {σ : kt_Y} {μ : kt_M} {m : Nat} (hm : kt_md σ m) {n : Nat} {a0 : Int32} {a1 : Int32} {r : Unit} {μ1 : kt_M} (h : x_goesTo n m μ a0 a1 = some (r, μ1)) : kt_F G yX10_goesTo cX10_goesTo 4 none 1 [.ref m, .int a0, .int a1] σ μ (fun rv μ2 => rv = none ∧ μ2 = μ1) := by
  have key : ∀ q : (Unit × kt_M), x_goesTo n m μ a0 a1 = some q → kt_F G yX10_goesTo cX10_goesTo 4 none 1 [.ref m, .int a0, .int a1] σ μ (fun rv μ2 => rv = none ∧ μ2 = q.2) := by
    intro q h
    unfold x_goesTo at h
    refine kt_F.of (by decide) (Nat.le_of_ble_eq_true rfl) (fun X hX hr => ?_)
    refine kr_iconst (v := 1) hX dX10_goesTo_0 (by decide) ?_
    refine kr_iload_n (i := 1) hX dX10_goesTo_1 rfl rfl ?_
    refine kr_iconst (v := 0) hX dX10_goesTo_2 (by decide) ?_
    obtain ⟨r_3, e_3, h⟩ := kq_b1_e h
    refine kr_dS [_, _, _] hX km_10_70 dX10_goesTo_3 (xs_at e_3) rfl rfl (by decide) (Nat.le_of_ble_eq_true rfl) (Nat.le_refl _) (Nat.le_refl _) ?_
    refine kr_istore_n (i := 3) hX dX10_goesTo_6 rfl (by decide) rfl rfl ?_
    refine kr_aload_n (i := 0) hX dX10_goesTo_7 rfl rfl ?_
    refine kr_aload_n (i := 0) hX dX10_goesTo_8 rfl rfl ?_
    refine kr_getr (c0 := 10) (k := 0) hX ⟨_, kf_10_9⟩ dX10_goesTo_9 rfl (md_k hm) (md_r0 hm) ?_
    refine kr_iload_n (i := 3) hX dX10_goesTo_12 rfl rfl ?_
    obtain ⟨r_13, μ_13, e_13, h⟩ := kq_b2_e h
    refine kr_dV (c1 := 10) [_, _] hX km_10_149 dX10_goesTo_13 (xs_noTest hm (md_a1 hm) e_13) rfl rfl ⟨_, _, rfl⟩ (by decide) (Nat.le_of_ble_eq_true rfl) (Nat.le_refl _) (Nat.le_refl _) (md_k hm) ?_
    refine kr_aload_n (i := 0) hX dX10_goesTo_16 rfl rfl ?_
    refine kr_getr (c0 := 10) (k := 0) hX ⟨_, kf_10_9⟩ dX10_goesTo_17 rfl (md_k hm) (md_r0 hm) ?_
    refine kr_iload_n (i := 3) hX dX10_goesTo_20 rfl rfl ?_
    refine kr_bipush (v := 13) hX dX10_goesTo_21 (by decide) ?_
    refine kr_iadd hX dX10_goesTo_23 ?_
    refine kr_iconst (v := 1) hX dX10_goesTo_24 (by decide) ?_
    obtain ⟨i_25, h⟩ := kq_ck_e h
    refine kr_iast hX dX10_goesTo_25 (md_a1 hm) (vp_in_iff.mpr i_25) ?_
    refine kr_ltM h (fun μ_25 h => ?_)
    refine kr_aload_n (i := 0) hX dX10_goesTo_26 rfl rfl ?_
    refine kr_getr (c0 := 10) (k := 0) hX ⟨_, kf_10_9⟩ dX10_goesTo_27 rfl (md_k hm) (md_r0 hm) ?_
    refine kr_iload_n (i := 3) hX dX10_goesTo_30 rfl rfl ?_
    refine kr_bipush (v := 14) hX dX10_goesTo_31 (by decide) ?_
    refine kr_iadd hX dX10_goesTo_33 ?_
    refine kr_iload_n (i := 2) hX dX10_goesTo_34 rfl rfl ?_
    obtain ⟨i_35, h⟩ := kq_ck_e h
    refine kr_iast hX dX10_goesTo_35 (md_a1 hm) (vp_in_iff.mpr i_35) ?_
    refine kr_ltM h (fun μ_35 h => ?_)
    refine kr_vret hX hr dX10_goesTo_36 ⟨rfl, ?_⟩
    exact kq_rV h
  exact key (r, μ1) h
def x_threaded_B40 (n : Nat) (m : Nat) (K40 : Int32 → Int32 → Int32 → Int32 → Int32 → Int32 → kt_M → Option (Int32 × kt_M)) (l1 : Int32) (l2 : Int32) (l3 : Int32) (l4 : Int32) (l5 : Int32) (l6 : Int32) (μ : kt_M) : Option (Int32 × kt_M) := (if (20 : Int32) ≤ l6 then kq_b2 (x_goesTo n m μ l5 l4) (fun r_79 μ_79 => kq_b1 (x_at n (1 : Int32) l1 ((14 : Int32) + l2)) (fun r_92 => kq_ck (kq_in r_92 1284) (kq_lt (kt_si μ_79 (m + 1) (Int32.toNatClampNeg r_92) l5) (fun μ_97 => kq_lt (kt_si μ_97 (m + 1) (Int32.toNatClampNeg (321 : Int32)) ((kt_i μ_97 (m + 1) (Int32.toNatClampNeg (321 : Int32))) + (1 : Int32))) (fun μ_109 => some (l5, μ_109)))))) else kq_b1 (x_at n (1 : Int32) l5 l6) (fun r_56 => kq_b2 (x_of n m μ (1 : Int32) l3 l6) (fun r_64 μ_64 => kq_ck (kq_in r_56 1284) (kq_lt (kt_si μ_64 (m + 1) (Int32.toNatClampNeg r_56) r_64) (fun μ_67 => K40 l1 l2 l3 l4 l5 (l6 + 1) μ_67)))))
set_option maxHeartbeats 4000000 in
set_option maxRecDepth 100000 in
theorem xw_threaded_B40 {G : kt_G} {σ : kt_Y} {X : kt_X} (hX : kt_ok G X RX10 cX10_threaded 7 6 0 0) (hr : kt_rt X = (some .int)) {m : Nat} (hm : kt_md σ m) {n : Nat} {q : (Int32 × kt_M)} {K40 : Int32 → Int32 → Int32 → Int32 → Int32 → Int32 → kt_M → Option (Int32 × kt_M)} (hK40 : ∀ (l1 : Int32) (l2 : Int32) (l3 : Int32) (l4 : Int32) (l5 : Int32) (l6 : Int32) (μ : kt_M), K40 l1 l2 l3 l4 l5 l6 μ = some q → kt_W G X 7 40 [(0, .ref m), (1, .int l1), (2, .int l2), (3, .int l3), (4, .int l4), (5, .int l5), (6, .int l6)] [] σ μ 0 0 (kt_Z G X (kt_q σ (fun rv μ2 => rv = some (.int q.1) ∧ μ2 = q.2)) 0 0)) {l1 : Int32} {l2 : Int32} {l3 : Int32} {l4 : Int32} {l5 : Int32} {l6 : Int32} {μ : kt_M} (h : x_threaded_B40 n m K40 l1 l2 l3 l4 l5 l6 μ = some q) : kt_W G X 7 40 [(0, .ref m), (1, .int l1), (2, .int l2), (3, .int l3), (4, .int l4), (5, .int l5), (6, .int l6)] [] σ μ 0 0 (kt_Z G X (kt_q σ (fun rv μ2 => rv = some (.int q.1) ∧ μ2 = q.2)) 0 0) := by
  unfold x_threaded_B40 at h
  refine kr_iload hX dX10_threaded_40 rfl ?_
  refine kr_bipush (v := 20) hX dX10_threaded_42 (by decide) ?_
  refine kr_icmp_ge (tgt := 74) hX dX10_threaded_44 (by decide) (fun c_44 => ?_) (fun c_44 => ?_)
  · replace h := kq_t c_44 h
    refine kr_aload_n (i := 0) hX dX10_threaded_74 rfl rfl ?_
    refine kr_iload hX dX10_threaded_75 rfl ?_
    refine kr_iload hX dX10_threaded_77 rfl ?_
    obtain ⟨r_79, μ_79, e_79, h⟩ := kq_b2_e h
    refine kr_dV (c1 := 10) [_, _] hX km_10_302 dX10_threaded_79 (xs_goesTo hm e_79) rfl rfl ⟨_, _, rfl⟩ (by decide) (Nat.le_of_ble_eq_true rfl) (Nat.le_refl _) (Nat.le_refl _) (md_k hm) ?_
    refine kr_aload_n (i := 0) hX dX10_threaded_82 rfl rfl ?_
    refine kr_getr (c0 := 10) (k := 0) hX ⟨_, kf_10_9⟩ dX10_threaded_83 rfl (md_k hm) (md_r0 hm) ?_
    refine kr_iconst (v := 1) hX dX10_threaded_86 (by decide) ?_
    refine kr_iload_n (i := 1) hX dX10_threaded_87 rfl rfl ?_
    refine kr_bipush (v := 14) hX dX10_threaded_88 (by decide) ?_
    refine kr_iload_n (i := 2) hX dX10_threaded_90 rfl rfl ?_
    refine kr_iadd hX dX10_threaded_91 ?_
    obtain ⟨r_92, e_92, h⟩ := kq_b1_e h
    refine kr_dS [_, _, _] hX km_10_70 dX10_threaded_92 (xs_at e_92) rfl rfl (by decide) (Nat.le_of_ble_eq_true rfl) (Nat.le_refl _) (Nat.le_refl _) ?_
    refine kr_iload hX dX10_threaded_95 rfl ?_
    obtain ⟨i_97, h⟩ := kq_ck_e h
    refine kr_iast hX dX10_threaded_97 (md_a1 hm) (vp_in_iff.mpr i_97) ?_
    refine kr_ltM h (fun μ_97 h => ?_)
    refine kr_aload_n (i := 0) hX dX10_threaded_98 rfl rfl ?_
    refine kr_getr (c0 := 10) (k := 0) hX ⟨_, kf_10_9⟩ dX10_threaded_99 rfl (md_k hm) (md_r0 hm) ?_
    refine kr_sipush (v := 321) hX dX10_threaded_102 (by decide) ?_
    refine kr_dup2_11 hX dX10_threaded_105 rfl rfl ?_
    refine kr_iald hX dX10_threaded_106 (md_a1 hm) (vp_in_iff.mpr (by decide)) ?_
    refine kr_iconst (v := 1) hX dX10_threaded_107 (by decide) ?_
    refine kr_iadd hX dX10_threaded_108 ?_
    refine kr_iast hX dX10_threaded_109 (md_a1 hm) (vp_in_iff.mpr (by decide)) ?_
    refine kr_ltM h (fun μ_109 h => ?_)
    refine kr_iload hX dX10_threaded_110 rfl ?_
    refine kr_iret hX hr dX10_threaded_112 ⟨rfl, ?_⟩
    exact kq_rI h
  · replace h := kq_f c_44 h
    refine kr_aload_n (i := 0) hX dX10_threaded_47 rfl rfl ?_
    refine kr_getr (c0 := 10) (k := 0) hX ⟨_, kf_10_9⟩ dX10_threaded_48 rfl (md_k hm) (md_r0 hm) ?_
    refine kr_iconst (v := 1) hX dX10_threaded_51 (by decide) ?_
    refine kr_iload hX dX10_threaded_52 rfl ?_
    refine kr_iload hX dX10_threaded_54 rfl ?_
    obtain ⟨r_56, e_56, h⟩ := kq_b1_e h
    refine kr_dS [_, _, _] hX km_10_70 dX10_threaded_56 (xs_at e_56) rfl rfl (by decide) (Nat.le_of_ble_eq_true rfl) (Nat.le_refl _) (Nat.le_refl _) ?_
    refine kr_aload_n (i := 0) hX dX10_threaded_59 rfl rfl ?_
    refine kr_iconst (v := 1) hX dX10_threaded_60 (by decide) ?_
    refine kr_iload_n (i := 3) hX dX10_threaded_61 rfl rfl ?_
    refine kr_iload hX dX10_threaded_62 rfl ?_
    obtain ⟨r_64, μ_64, e_64, h⟩ := kq_b2_e h
    refine kr_dV (c1 := 10) [_, _, _] hX km_10_175 dX10_threaded_64 (xs_of hm e_64) rfl rfl ⟨_, _, rfl⟩ (by decide) (Nat.le_of_ble_eq_true rfl) (Nat.le_refl _) (Nat.le_refl _) (md_k hm) ?_
    obtain ⟨i_67, h⟩ := kq_ck_e h
    refine kr_iast hX dX10_threaded_67 (md_a1 hm) (vp_in_iff.mpr i_67) ?_
    refine kr_ltM h (fun μ_67 h => ?_)
    refine kr_iinc (v := (l6 + 1)) hX dX10_threaded_68 rfl rfl (by decide) rfl rfl ?_
    refine kr_goto (tgt := 40) hX dX10_threaded_71 (by decide) ?_
    refine kr_keep (lv' := [(0, .ref m), (1, .int l1), (2, .int l2), (3, .int l3), (4, .int l4), (5, .int l5), (6, .int (l6 + 1))]) [0, 1, 2, 3, 4, 5, 6] rfl ?_
    exact hK40 _ _ _ _ _ _ _ h
def x_threaded_L40 (n : Nat) (m : Nat) : Nat → Int32 → Int32 → Int32 → Int32 → Int32 → Int32 → kt_M → Option (Int32 × kt_M)
  | 0, _, _, _, _, _, _, _ => none
  | k + 1, l1, l2, l3, l4, l5, l6, μ => x_threaded_B40 n m (x_threaded_L40 n m k) l1 l2 l3 l4 l5 l6 μ
set_option maxHeartbeats 4000000 in
set_option maxRecDepth 100000 in
theorem xw_threaded_L40 {G : kt_G} {σ : kt_Y} {X : kt_X} (hX : kt_ok G X RX10 cX10_threaded 7 6 0 0) (hr : kt_rt X = (some .int)) {m : Nat} (hm : kt_md σ m) {n : Nat} {q : (Int32 × kt_M)} : ∀ (k : Nat) (l1 : Int32) (l2 : Int32) (l3 : Int32) (l4 : Int32) (l5 : Int32) (l6 : Int32) (μ : kt_M), x_threaded_L40 n m k l1 l2 l3 l4 l5 l6 μ = some q → kt_W G X 7 40 [(0, .ref m), (1, .int l1), (2, .int l2), (3, .int l3), (4, .int l4), (5, .int l5), (6, .int l6)] [] σ μ 0 0 (kt_Z G X (kt_q σ (fun rv μ2 => rv = some (.int q.1) ∧ μ2 = q.2)) 0 0) := by
  intro k
  induction k with
  | zero => intro l1 l2 l3 l4 l5 l6 μ h; cases h
  | succ k ih => intro l1 l2 l3 l4 l5 l6 μ h; exact xw_threaded_B40 hX hr hm ih h
def x_threaded (n : Nat) (m : Nat) (μ : kt_M) (a0 : Int32) (a1 : Int32) : Option (Int32 × kt_M) := kq_b2 (x_of n m μ (1 : Int32) a0 ((14 : Int32) + a1)) (fun r_7 μ_7 => kq_b2 (x_outcomeAlong n m μ_7 a0 a1) (fun r_19 μ_19 => kq_b2 (x_of n m μ_19 (1 : Int32) r_7 (((14 : Int32) + r_19) - (1 : Int32))) (fun r_25 μ_25 => kq_b2 (x_many n m μ_25 (1 : Int32)) (fun r_32 μ_32 => x_threaded_L40 n m n a0 a1 r_7 r_25 r_32 (0 : Int32) μ_32))))
set_option maxHeartbeats 4000000 in
set_option maxRecDepth 100000 in
theorem xs_threaded {G : kt_G} {σ : kt_Y} {μ : kt_M} {m : Nat} (hm : kt_md σ m) {n : Nat} {a0 : Int32} {a1 : Int32} {r : Int32} {μ1 : kt_M} (h : x_threaded n m μ a0 a1 = some (r, μ1)) : kt_F G yX10_threaded cX10_threaded 7 (some .int) 6 [.ref m, .int a0, .int a1] σ μ (fun rv μ2 => rv = some (.int r) ∧ μ2 = μ1) := by
  have key : ∀ q : (Int32 × kt_M), x_threaded n m μ a0 a1 = some q → kt_F G yX10_threaded cX10_threaded 7 (some .int) 6 [.ref m, .int a0, .int a1] σ μ (fun rv μ2 => rv = some (.int q.1) ∧ μ2 = q.2) := by
    intro q h
    unfold x_threaded at h
    refine kt_F.of (by decide) (Nat.le_of_ble_eq_true rfl) (fun X hX hr => ?_)
    refine kr_aload_n (i := 0) hX dX10_threaded_0 rfl rfl ?_
    refine kr_iconst (v := 1) hX dX10_threaded_1 (by decide) ?_
    refine kr_iload_n (i := 1) hX dX10_threaded_2 rfl rfl ?_
    refine kr_bipush (v := 14) hX dX10_threaded_3 (by decide) ?_
    refine kr_iload_n (i := 2) hX dX10_threaded_5 rfl rfl ?_
    refine kr_iadd hX dX10_threaded_6 ?_
    obtain ⟨r_7, μ_7, e_7, h⟩ := kq_b2_e h
    refine kr_dV (c1 := 10) [_, _, _] hX km_10_175 dX10_threaded_7 (xs_of hm e_7) rfl rfl ⟨_, _, rfl⟩ (by decide) (Nat.le_of_ble_eq_true rfl) (Nat.le_refl _) (Nat.le_refl _) (md_k hm) ?_
    refine kr_istore_n (i := 3) hX dX10_threaded_10 rfl (by decide) rfl rfl ?_
    refine kr_aload_n (i := 0) hX dX10_threaded_11 rfl rfl ?_
    refine kr_iconst (v := 1) hX dX10_threaded_12 (by decide) ?_
    refine kr_iload_n (i := 3) hX dX10_threaded_13 rfl rfl ?_
    refine kr_bipush (v := 14) hX dX10_threaded_14 (by decide) ?_
    refine kr_aload_n (i := 0) hX dX10_threaded_16 rfl rfl ?_
    refine kr_iload_n (i := 1) hX dX10_threaded_17 rfl rfl ?_
    refine kr_iload_n (i := 2) hX dX10_threaded_18 rfl rfl ?_
    obtain ⟨r_19, μ_19, e_19, h⟩ := kq_b2_e h
    refine kr_dV (c1 := 10) [_, _] hX km_10_284 dX10_threaded_19 (xs_outcomeAlong hm e_19) rfl rfl ⟨_, _, rfl⟩ (by decide) (Nat.le_of_ble_eq_true rfl) (Nat.le_refl _) (Nat.le_refl _) (md_k hm) ?_
    refine kr_iadd hX dX10_threaded_22 ?_
    refine kr_iconst (v := 1) hX dX10_threaded_23 (by decide) ?_
    refine kr_isub hX dX10_threaded_24 ?_
    obtain ⟨r_25, μ_25, e_25, h⟩ := kq_b2_e h
    refine kr_dV (c1 := 10) [_, _, _] hX km_10_175 dX10_threaded_25 (xs_of hm e_25) rfl rfl ⟨_, _, rfl⟩ (by decide) (Nat.le_of_ble_eq_true rfl) (Nat.le_refl _) (Nat.le_refl _) (md_k hm) ?_
    refine kr_istore hX dX10_threaded_28 (by decide) rfl rfl ?_
    refine kr_aload_n (i := 0) hX dX10_threaded_30 rfl rfl ?_
    refine kr_iconst (v := 1) hX dX10_threaded_31 (by decide) ?_
    obtain ⟨r_32, μ_32, e_32, h⟩ := kq_b2_e h
    refine kr_dV (c1 := 10) [_] hX km_10_172 dX10_threaded_32 (xs_many hm e_32) rfl rfl ⟨_, _, rfl⟩ (by decide) (Nat.le_of_ble_eq_true rfl) (Nat.le_refl _) (Nat.le_refl _) (md_k hm) ?_
    refine kr_istore hX dX10_threaded_35 (by decide) rfl rfl ?_
    refine kr_iconst (v := 0) hX dX10_threaded_37 (by decide) ?_
    refine kr_istore hX dX10_threaded_38 (by decide) rfl rfl ?_
    refine kr_keep (lv' := [(0, .ref m), (1, .int a0), (2, .int a1), (3, .int r_7), (4, .int r_25), (5, .int r_32), (6, .int (0 : Int32))]) [0, 1, 2, 3, 4, 5, 6] rfl ?_
    exact xw_threaded_L40 hX hr hm n _ _ _ _ _ _ _ h
  exact key (r, μ1) h
def x_thread (n : Nat) (m : Nat) (μ : kt_M) (a0 : Int32) (a1 : Int32) : Option (Int32 × kt_M) := kq_b2 (x_isEdge n m μ (1 : Int32) a0 a1) (fun r_4 μ_4 => (if r_4 = 0 then some (((-1) : Int32), μ_4) else kq_b2 (x_findRanges n m μ_4) (fun r_13 μ_13 => kq_b2 (x_against n m μ_13 a0 a1) (fun r_19 μ_19 => (if r_19 = 0 then kq_b2 (x_threaded n m μ_19 a0 a1) (fun r_28 μ_28 => some (r_28, μ_28)) else some (((-2) : Int32), μ_19))))))
set_option maxHeartbeats 4000000 in
set_option maxRecDepth 100000 in
theorem xs_thread {G : kt_G} {σ : kt_Y} {μ : kt_M} {m : Nat} (hm : kt_md σ m) {n : Nat} {a0 : Int32} {a1 : Int32} {r : Int32} {μ1 : kt_M} (h : x_thread n m μ a0 a1 = some (r, μ1)) : kt_F G yX10_thread cX10_thread 3 (some .int) 7 [.ref m, .int a0, .int a1] σ μ (fun rv μ2 => rv = some (.int r) ∧ μ2 = μ1) := by
  have key : ∀ q : (Int32 × kt_M), x_thread n m μ a0 a1 = some q → kt_F G yX10_thread cX10_thread 3 (some .int) 7 [.ref m, .int a0, .int a1] σ μ (fun rv μ2 => rv = some (.int q.1) ∧ μ2 = q.2) := by
    intro q h
    unfold x_thread at h
    refine kt_F.of (by decide) (Nat.le_of_ble_eq_true rfl) (fun X hX hr => ?_)
    refine kr_aload_n (i := 0) hX dX10_thread_0 rfl rfl ?_
    refine kr_iconst (v := 1) hX dX10_thread_1 (by decide) ?_
    refine kr_iload_n (i := 1) hX dX10_thread_2 rfl rfl ?_
    refine kr_iload_n (i := 2) hX dX10_thread_3 rfl rfl ?_
    obtain ⟨r_4, μ_4, e_4, h⟩ := kq_b2_e h
    refine kr_dV (c1 := 10) [_, _, _] hX km_10_277 dX10_thread_4 (xs_isEdge hm e_4) rfl rfl ⟨_, _, rfl⟩ (by decide) (Nat.le_of_ble_eq_true rfl) (Nat.le_refl _) (Nat.le_refl _) (md_k hm) ?_
    refine kr_if_ne (tgt := 12) hX dX10_thread_7 (by decide) (fun c_7 => ?_) (fun c_7 => ?_)
    · replace h := kq_f c_7 h
      refine kr_aload_n (i := 0) hX dX10_thread_12 rfl rfl ?_
      obtain ⟨r_13, μ_13, e_13, h⟩ := kq_b2_e h
      refine kr_dV (c1 := 10) [] hX km_10_270 dX10_thread_13 (xs_findRanges hm e_13) rfl rfl ⟨_, _, rfl⟩ (by decide) (Nat.le_of_ble_eq_true rfl) (Nat.le_refl _) (Nat.le_refl _) (md_k hm) ?_
      refine kr_aload_n (i := 0) hX dX10_thread_16 rfl rfl ?_
      refine kr_iload_n (i := 1) hX dX10_thread_17 rfl rfl ?_
      refine kr_iload_n (i := 2) hX dX10_thread_18 rfl rfl ?_
      obtain ⟨r_19, μ_19, e_19, h⟩ := kq_b2_e h
      refine kr_dV (c1 := 10) [_, _] hX km_10_299 dX10_thread_19 (xs_against hm e_19) rfl rfl ⟨_, _, rfl⟩ (by decide) (Nat.le_of_ble_eq_true rfl) (Nat.le_refl _) (Nat.le_refl _) (md_k hm) ?_
      refine kr_if_ne (tgt := 34) hX dX10_thread_22 (by decide) (fun c_22 => ?_) (fun c_22 => ?_)
      · replace h := kq_f c_22 h
        refine kr_bipush (v := (-2)) hX dX10_thread_34 (by decide) ?_
        refine kr_iret hX hr dX10_thread_36 ⟨rfl, ?_⟩
        exact kq_rI h
      · replace h := kq_t c_22 h
        refine kr_aload_n (i := 0) hX dX10_thread_25 rfl rfl ?_
        refine kr_iload_n (i := 1) hX dX10_thread_26 rfl rfl ?_
        refine kr_iload_n (i := 2) hX dX10_thread_27 rfl rfl ?_
        obtain ⟨r_28, μ_28, e_28, h⟩ := kq_b2_e h
        refine kr_dV (c1 := 10) [_, _] hX km_10_305 dX10_thread_28 (xs_threaded hm e_28) rfl rfl ⟨_, _, rfl⟩ (by decide) (Nat.le_of_ble_eq_true rfl) (Nat.le_refl _) (Nat.le_refl _) (md_k hm) ?_
        refine kr_goto (tgt := 36) hX dX10_thread_31 (by decide) ?_
        refine kr_iret hX hr dX10_thread_36 ⟨rfl, ?_⟩
        exact kq_rI h
    · replace h := kq_t c_7 h
      refine kr_iconst (v := (-1)) hX dX10_thread_10 (by decide) ?_
      refine kr_iret hX hr dX10_thread_11 ⟨rfl, ?_⟩
      exact kq_rI h
  exact key (r, μ1) h
def x_threadsFirst_B17 (n : Nat) (m : Nat) (K6 : Int32 → kt_M → Option (Int32 × kt_M)) (K17 : Int32 → Int32 → kt_M → Option (Int32 × kt_M)) (l1 : Int32) (l2 : Int32) (μ : kt_M) : Option (Int32 × kt_M) := kq_b2 (x_edgesOf n m μ (1 : Int32) l1) (fun r_21 μ_21 => (if r_21 ≤ l2 then K6 (l1 + 1) μ_21 else kq_b2 (x_against n m μ_21 l1 l2) (fun r_30 μ_30 => (if r_30 = 0 then kq_b2 (x_threaded n m μ_30 l1 l2) (fun r_39 μ_39 => some ((1 : Int32), μ_39)) else K17 l1 (l2 + 1) μ_30))))
set_option maxHeartbeats 4000000 in
set_option maxRecDepth 100000 in
theorem xw_threadsFirst_B17 {G : kt_G} {σ : kt_Y} {X : kt_X} (hX : kt_ok G X RX10 cX10_threadsFirst 3 7 0 0) (hr : kt_rt X = (some .boolean)) {m : Nat} (hm : kt_md σ m) {n : Nat} {q : (Int32 × kt_M)} {K6 : Int32 → kt_M → Option (Int32 × kt_M)} (hK6 : ∀ (l1 : Int32) (μ : kt_M), K6 l1 μ = some q → kt_W G X 3 6 [(0, .ref m), (1, .int l1)] [] σ μ 0 0 (kt_Z G X (kt_q σ (fun rv μ2 => rv = some (.int q.1) ∧ μ2 = q.2)) 0 0)) {K17 : Int32 → Int32 → kt_M → Option (Int32 × kt_M)} (hK17 : ∀ (l1 : Int32) (l2 : Int32) (μ : kt_M), K17 l1 l2 μ = some q → kt_W G X 3 17 [(0, .ref m), (1, .int l1), (2, .int l2)] [] σ μ 0 0 (kt_Z G X (kt_q σ (fun rv μ2 => rv = some (.int q.1) ∧ μ2 = q.2)) 0 0)) {l1 : Int32} {l2 : Int32} {μ : kt_M} (h : x_threadsFirst_B17 n m K6 K17 l1 l2 μ = some q) : kt_W G X 3 17 [(0, .ref m), (1, .int l1), (2, .int l2)] [] σ μ 0 0 (kt_Z G X (kt_q σ (fun rv μ2 => rv = some (.int q.1) ∧ μ2 = q.2)) 0 0) := by
  unfold x_threadsFirst_B17 at h
  refine kr_iload_n (i := 2) hX dX10_threadsFirst_17 rfl rfl ?_
  refine kr_aload_n (i := 0) hX dX10_threadsFirst_18 rfl rfl ?_
  refine kr_iconst (v := 1) hX dX10_threadsFirst_19 (by decide) ?_
  refine kr_iload_n (i := 1) hX dX10_threadsFirst_20 rfl rfl ?_
  obtain ⟨r_21, μ_21, e_21, h⟩ := kq_b2_e h
  refine kr_dV (c1 := 10) [_, _] hX km_10_182 dX10_threadsFirst_21 (xs_edgesOf hm e_21) rfl rfl ⟨_, _, rfl⟩ (by decide) (Nat.le_of_ble_eq_true rfl) (Nat.le_refl _) (Nat.le_refl _) (md_k hm) ?_
  refine kr_icmp_ge (tgt := 51) hX dX10_threadsFirst_24 (by decide) (fun c_24 => ?_) (fun c_24 => ?_)
  · replace h := kq_t c_24 h
    refine kr_iinc (v := (l1 + 1)) hX dX10_threadsFirst_51 rfl rfl (by decide) rfl rfl ?_
    refine kr_goto (tgt := 6) hX dX10_threadsFirst_54 (by decide) ?_
    refine kr_keep (lv' := [(0, .ref m), (1, .int (l1 + 1))]) [0, 1] rfl ?_
    exact hK6 _ _ h
  · replace h := kq_f c_24 h
    refine kr_aload_n (i := 0) hX dX10_threadsFirst_27 rfl rfl ?_
    refine kr_iload_n (i := 1) hX dX10_threadsFirst_28 rfl rfl ?_
    refine kr_iload_n (i := 2) hX dX10_threadsFirst_29 rfl rfl ?_
    obtain ⟨r_30, μ_30, e_30, h⟩ := kq_b2_e h
    refine kr_dV (c1 := 10) [_, _] hX km_10_299 dX10_threadsFirst_30 (xs_against hm e_30) rfl rfl ⟨_, _, rfl⟩ (by decide) (Nat.le_of_ble_eq_true rfl) (Nat.le_refl _) (Nat.le_refl _) (md_k hm) ?_
    refine kr_if_ne (tgt := 45) hX dX10_threadsFirst_33 (by decide) (fun c_33 => ?_) (fun c_33 => ?_)
    · replace h := kq_f c_33 h
      refine kr_iinc (v := (l2 + 1)) hX dX10_threadsFirst_45 rfl rfl (by decide) rfl rfl ?_
      refine kr_goto (tgt := 17) hX dX10_threadsFirst_48 (by decide) ?_
      refine kr_keep (lv' := [(0, .ref m), (1, .int l1), (2, .int (l2 + 1))]) [0, 1, 2] rfl ?_
      exact hK17 _ _ _ h
    · replace h := kq_t c_33 h
      refine kr_aload_n (i := 0) hX dX10_threadsFirst_36 rfl rfl ?_
      refine kr_iload_n (i := 1) hX dX10_threadsFirst_37 rfl rfl ?_
      refine kr_iload_n (i := 2) hX dX10_threadsFirst_38 rfl rfl ?_
      obtain ⟨r_39, μ_39, e_39, h⟩ := kq_b2_e h
      refine kr_dV (c1 := 10) [_, _] hX km_10_305 dX10_threadsFirst_39 (xs_threaded hm e_39) rfl rfl ⟨_, _, rfl⟩ (by decide) (Nat.le_of_ble_eq_true rfl) (Nat.le_refl _) (Nat.le_refl _) (md_k hm) ?_
      refine kr_pop hX dX10_threadsFirst_42 rfl ?_
      refine kr_iconst (v := 1) hX dX10_threadsFirst_43 (by decide) ?_
      refine kr_zret hX hr (by decide) dX10_threadsFirst_44 ⟨rfl, ?_⟩
      exact kq_rI h
def x_threadsFirst_L17 (n : Nat) (m : Nat) (K6 : Int32 → kt_M → Option (Int32 × kt_M)) : Nat → Int32 → Int32 → kt_M → Option (Int32 × kt_M)
  | 0, _, _, _ => none
  | k + 1, l1, l2, μ => x_threadsFirst_B17 n m K6 (x_threadsFirst_L17 n m K6 k) l1 l2 μ
set_option maxHeartbeats 4000000 in
set_option maxRecDepth 100000 in
theorem xw_threadsFirst_L17 {G : kt_G} {σ : kt_Y} {X : kt_X} (hX : kt_ok G X RX10 cX10_threadsFirst 3 7 0 0) (hr : kt_rt X = (some .boolean)) {m : Nat} (hm : kt_md σ m) {n : Nat} {q : (Int32 × kt_M)} {K6 : Int32 → kt_M → Option (Int32 × kt_M)} (hK6 : ∀ (l1 : Int32) (μ : kt_M), K6 l1 μ = some q → kt_W G X 3 6 [(0, .ref m), (1, .int l1)] [] σ μ 0 0 (kt_Z G X (kt_q σ (fun rv μ2 => rv = some (.int q.1) ∧ μ2 = q.2)) 0 0)) : ∀ (k : Nat) (l1 : Int32) (l2 : Int32) (μ : kt_M), x_threadsFirst_L17 n m K6 k l1 l2 μ = some q → kt_W G X 3 17 [(0, .ref m), (1, .int l1), (2, .int l2)] [] σ μ 0 0 (kt_Z G X (kt_q σ (fun rv μ2 => rv = some (.int q.1) ∧ μ2 = q.2)) 0 0) := by
  intro k
  induction k with
  | zero => intro l1 l2 μ h; cases h
  | succ k ih => intro l1 l2 μ h; exact xw_threadsFirst_B17 hX hr hm hK6 ih h
def x_threadsFirst_B6 (n : Nat) (m : Nat) (K6 : Int32 → kt_M → Option (Int32 × kt_M)) (l1 : Int32) (μ : kt_M) : Option (Int32 × kt_M) := kq_b2 (x_many n m μ (1 : Int32)) (fun r_9 μ_9 => (if r_9 ≤ l1 then some ((0 : Int32), μ_9) else x_threadsFirst_L17 n m K6 n l1 (0 : Int32) μ_9))
set_option maxHeartbeats 4000000 in
set_option maxRecDepth 100000 in
theorem xw_threadsFirst_B6 {G : kt_G} {σ : kt_Y} {X : kt_X} (hX : kt_ok G X RX10 cX10_threadsFirst 3 7 0 0) (hr : kt_rt X = (some .boolean)) {m : Nat} (hm : kt_md σ m) {n : Nat} {q : (Int32 × kt_M)} {K6 : Int32 → kt_M → Option (Int32 × kt_M)} (hK6 : ∀ (l1 : Int32) (μ : kt_M), K6 l1 μ = some q → kt_W G X 3 6 [(0, .ref m), (1, .int l1)] [] σ μ 0 0 (kt_Z G X (kt_q σ (fun rv μ2 => rv = some (.int q.1) ∧ μ2 = q.2)) 0 0)) {l1 : Int32} {μ : kt_M} (h : x_threadsFirst_B6 n m K6 l1 μ = some q) : kt_W G X 3 6 [(0, .ref m), (1, .int l1)] [] σ μ 0 0 (kt_Z G X (kt_q σ (fun rv μ2 => rv = some (.int q.1) ∧ μ2 = q.2)) 0 0) := by
  unfold x_threadsFirst_B6 at h
  refine kr_iload_n (i := 1) hX dX10_threadsFirst_6 rfl rfl ?_
  refine kr_aload_n (i := 0) hX dX10_threadsFirst_7 rfl rfl ?_
  refine kr_iconst (v := 1) hX dX10_threadsFirst_8 (by decide) ?_
  obtain ⟨r_9, μ_9, e_9, h⟩ := kq_b2_e h
  refine kr_dV (c1 := 10) [_] hX km_10_172 dX10_threadsFirst_9 (xs_many hm e_9) rfl rfl ⟨_, _, rfl⟩ (by decide) (Nat.le_of_ble_eq_true rfl) (Nat.le_refl _) (Nat.le_refl _) (md_k hm) ?_
  refine kr_icmp_ge (tgt := 57) hX dX10_threadsFirst_12 (by decide) (fun c_12 => ?_) (fun c_12 => ?_)
  · replace h := kq_t c_12 h
    refine kr_iconst (v := 0) hX dX10_threadsFirst_57 (by decide) ?_
    refine kr_zret hX hr (by decide) dX10_threadsFirst_58 ⟨rfl, ?_⟩
    exact kq_rI h
  · replace h := kq_f c_12 h
    refine kr_iconst (v := 0) hX dX10_threadsFirst_15 (by decide) ?_
    refine kr_istore_n (i := 2) hX dX10_threadsFirst_16 rfl (by decide) rfl rfl ?_
    refine kr_keep (lv' := [(0, .ref m), (1, .int l1), (2, .int (0 : Int32))]) [0, 1, 2] rfl ?_
    exact xw_threadsFirst_L17 hX hr hm hK6 n _ _ _ h
def x_threadsFirst_L6 (n : Nat) (m : Nat) : Nat → Int32 → kt_M → Option (Int32 × kt_M)
  | 0, _, _ => none
  | k + 1, l1, μ => x_threadsFirst_B6 n m (x_threadsFirst_L6 n m k) l1 μ
set_option maxHeartbeats 4000000 in
set_option maxRecDepth 100000 in
theorem xw_threadsFirst_L6 {G : kt_G} {σ : kt_Y} {X : kt_X} (hX : kt_ok G X RX10 cX10_threadsFirst 3 7 0 0) (hr : kt_rt X = (some .boolean)) {m : Nat} (hm : kt_md σ m) {n : Nat} {q : (Int32 × kt_M)} : ∀ (k : Nat) (l1 : Int32) (μ : kt_M), x_threadsFirst_L6 n m k l1 μ = some q → kt_W G X 3 6 [(0, .ref m), (1, .int l1)] [] σ μ 0 0 (kt_Z G X (kt_q σ (fun rv μ2 => rv = some (.int q.1) ∧ μ2 = q.2)) 0 0) := by
  intro k
  induction k with
  | zero => intro l1 μ h; cases h
  | succ k ih => intro l1 μ h; exact xw_threadsFirst_B6 hX hr hm ih h
def x_threadsFirst (n : Nat) (m : Nat) (μ : kt_M) : Option (Int32 × kt_M) := kq_b2 (x_findRanges n m μ) (fun r_1 μ_1 => x_threadsFirst_L6 n m n (0 : Int32) μ_1)
set_option maxHeartbeats 4000000 in
set_option maxRecDepth 100000 in
theorem xs_threadsFirst {G : kt_G} {σ : kt_Y} {μ : kt_M} {m : Nat} (hm : kt_md σ m) {n : Nat} {r : Int32} {μ1 : kt_M} (h : x_threadsFirst n m μ = some (r, μ1)) : kt_F G yX10_threadsFirst cX10_threadsFirst 3 (some .boolean) 7 [.ref m] σ μ (fun rv μ2 => rv = some (.int r) ∧ μ2 = μ1) := by
  have key : ∀ q : (Int32 × kt_M), x_threadsFirst n m μ = some q → kt_F G yX10_threadsFirst cX10_threadsFirst 3 (some .boolean) 7 [.ref m] σ μ (fun rv μ2 => rv = some (.int q.1) ∧ μ2 = q.2) := by
    intro q h
    unfold x_threadsFirst at h
    refine kt_F.of (by decide) (Nat.le_of_ble_eq_true rfl) (fun X hX hr => ?_)
    refine kr_aload_n (i := 0) hX dX10_threadsFirst_0 rfl rfl ?_
    obtain ⟨r_1, μ_1, e_1, h⟩ := kq_b2_e h
    refine kr_dV (c1 := 10) [] hX km_10_270 dX10_threadsFirst_1 (xs_findRanges hm e_1) rfl rfl ⟨_, _, rfl⟩ (by decide) (Nat.le_of_ble_eq_true rfl) (Nat.le_refl _) (Nat.le_refl _) (md_k hm) ?_
    refine kr_iconst (v := 0) hX dX10_threadsFirst_4 (by decide) ?_
    refine kr_istore_n (i := 1) hX dX10_threadsFirst_5 rfl (by decide) rfl rfl ?_
    refine kr_keep (lv' := [(0, .ref m), (1, .int (0 : Int32))]) [0, 1] rfl ?_
    exact xw_threadsFirst_L6 hX hr hm n _ _ h
  exact key (r, μ1) h
def x_threads_B16 (n : Nat) (m : Nat) (K16 : Int32 → Int32 → kt_M → Option (Int32 × kt_M)) (l1 : Int32) (l2 : Int32) (μ : kt_M) : Option (Int32 × kt_M) := (if l1 ≤ l2 then some (l2, μ) else kq_b2 (x_threadsFirst n m μ) (fun r_22 μ_22 => (if r_22 = 0 then some (l2, μ_22) else K16 l1 (l2 + 1) μ_22)))
set_option maxHeartbeats 4000000 in
set_option maxRecDepth 100000 in
theorem xw_threads_B16 {G : kt_G} {σ : kt_Y} {X : kt_X} (hX : kt_ok G X RX10 cX10_threads 3 8 0 0) (hr : kt_rt X = (some .int)) {m : Nat} (hm : kt_md σ m) {n : Nat} {q : (Int32 × kt_M)} {K16 : Int32 → Int32 → kt_M → Option (Int32 × kt_M)} (hK16 : ∀ (l1 : Int32) (l2 : Int32) (μ : kt_M), K16 l1 l2 μ = some q → kt_W G X 3 16 [(0, .ref m), (1, .int l1), (2, .int l2)] [] σ μ 0 0 (kt_Z G X (kt_q σ (fun rv μ2 => rv = some (.int q.1) ∧ μ2 = q.2)) 0 0)) {l1 : Int32} {l2 : Int32} {μ : kt_M} (h : x_threads_B16 n m K16 l1 l2 μ = some q) : kt_W G X 3 16 [(0, .ref m), (1, .int l1), (2, .int l2)] [] σ μ 0 0 (kt_Z G X (kt_q σ (fun rv μ2 => rv = some (.int q.1) ∧ μ2 = q.2)) 0 0) := by
  unfold x_threads_B16 at h
  refine kr_iload_n (i := 2) hX dX10_threads_16 rfl rfl ?_
  refine kr_iload_n (i := 1) hX dX10_threads_17 rfl rfl ?_
  refine kr_icmp_ge (tgt := 34) hX dX10_threads_18 (by decide) (fun c_18 => ?_) (fun c_18 => ?_)
  · replace h := kq_t c_18 h
    refine kr_iload_n (i := 2) hX dX10_threads_34 rfl rfl ?_
    refine kr_iret hX hr dX10_threads_35 ⟨rfl, ?_⟩
    exact kq_rI h
  · replace h := kq_f c_18 h
    refine kr_aload_n (i := 0) hX dX10_threads_21 rfl rfl ?_
    obtain ⟨r_22, μ_22, e_22, h⟩ := kq_b2_e h
    refine kr_dV (c1 := 10) [] hX km_10_310 dX10_threads_22 (xs_threadsFirst hm e_22) rfl rfl ⟨_, _, rfl⟩ (by decide) (Nat.le_of_ble_eq_true rfl) (Nat.le_refl _) (Nat.le_refl _) (md_k hm) ?_
    refine kr_if_eq (tgt := 34) hX dX10_threads_25 (by decide) (fun c_25 => ?_) (fun c_25 => ?_)
    · replace h := kq_t c_25 h
      refine kr_iload_n (i := 2) hX dX10_threads_34 rfl rfl ?_
      refine kr_iret hX hr dX10_threads_35 ⟨rfl, ?_⟩
      exact kq_rI h
    · replace h := kq_f c_25 h
      refine kr_iinc (v := (l2 + 1)) hX dX10_threads_28 rfl rfl (by decide) rfl rfl ?_
      refine kr_goto (tgt := 16) hX dX10_threads_31 (by decide) ?_
      refine kr_keep (lv' := [(0, .ref m), (1, .int l1), (2, .int (l2 + 1))]) [0, 1, 2] rfl ?_
      exact hK16 _ _ _ h
def x_threads_L16 (n : Nat) (m : Nat) : Nat → Int32 → Int32 → kt_M → Option (Int32 × kt_M)
  | 0, _, _, _ => none
  | k + 1, l1, l2, μ => x_threads_B16 n m (x_threads_L16 n m k) l1 l2 μ
set_option maxHeartbeats 4000000 in
set_option maxRecDepth 100000 in
theorem xw_threads_L16 {G : kt_G} {σ : kt_Y} {X : kt_X} (hX : kt_ok G X RX10 cX10_threads 3 8 0 0) (hr : kt_rt X = (some .int)) {m : Nat} (hm : kt_md σ m) {n : Nat} {q : (Int32 × kt_M)} : ∀ (k : Nat) (l1 : Int32) (l2 : Int32) (μ : kt_M), x_threads_L16 n m k l1 l2 μ = some q → kt_W G X 3 16 [(0, .ref m), (1, .int l1), (2, .int l2)] [] σ μ 0 0 (kt_Z G X (kt_q σ (fun rv μ2 => rv = some (.int q.1) ∧ μ2 = q.2)) 0 0) := by
  intro k
  induction k with
  | zero => intro l1 l2 μ h; cases h
  | succ k ih => intro l1 l2 μ h; exact xw_threads_B16 hX hr hm ih h
def x_threads (n : Nat) (m : Nat) (μ : kt_M) (a0 : Int32) : Option (Int32 × kt_M) := kq_b1 (x_in n (Int32.toInt64 a0) (1 : Int64) (16 : Int64)) (fun r_6 => (if r_6 = 0 then some (((-1) : Int32), μ) else x_threads_L16 n m n a0 (0 : Int32) μ))
set_option maxHeartbeats 4000000 in
set_option maxRecDepth 100000 in
theorem xs_threads {G : kt_G} {σ : kt_Y} {μ : kt_M} {m : Nat} (hm : kt_md σ m) {n : Nat} {a0 : Int32} {r : Int32} {μ1 : kt_M} (h : x_threads n m μ a0 = some (r, μ1)) : kt_F G yX10_threads cX10_threads 3 (some .int) 8 [.ref m, .int a0] σ μ (fun rv μ2 => rv = some (.int r) ∧ μ2 = μ1) := by
  have key : ∀ q : (Int32 × kt_M), x_threads n m μ a0 = some q → kt_F G yX10_threads cX10_threads 3 (some .int) 8 [.ref m, .int a0] σ μ (fun rv μ2 => rv = some (.int q.1) ∧ μ2 = q.2) := by
    intro q h
    unfold x_threads at h
    refine kt_F.of (by decide) (Nat.le_of_ble_eq_true rfl) (fun X hX hr => ?_)
    refine kr_iload_n (i := 1) hX dX10_threads_0 rfl rfl ?_
    refine kr_i2l hX dX10_threads_1 rfl ?_
    refine kr_lconst (v := 1) hX dX10_threads_2 (by decide) ?_
    refine kr_ldc2 (v := 16) hX kw_1409 dX10_threads_3 ?_
    obtain ⟨r_6, e_6, h⟩ := kq_b1_e h
    refine kr_dS [_, _, _] hX km_10_80 dX10_threads_6 (xs_in e_6) rfl rfl (by decide) (Nat.le_of_ble_eq_true rfl) (Nat.le_refl _) (Nat.le_refl _) ?_
    refine kr_if_ne (tgt := 14) hX dX10_threads_9 (by decide) (fun c_9 => ?_) (fun c_9 => ?_)
    · replace h := kq_f c_9 h
      refine kr_iconst (v := 0) hX dX10_threads_14 (by decide) ?_
      refine kr_istore_n (i := 2) hX dX10_threads_15 rfl (by decide) rfl rfl ?_
      refine kr_keep (lv' := [(0, .ref m), (1, .int a0), (2, .int (0 : Int32))]) [0, 1, 2] rfl ?_
      exact xw_threads_L16 hX hr hm n _ _ _ h
    · replace h := kq_t c_9 h
      refine kr_iconst (v := (-1)) hX dX10_threads_12 (by decide) ?_
      refine kr_iret hX hr dX10_threads_13 ⟨rfl, ?_⟩
      exact kq_rI h
  exact key (r, μ1) h
def x_fold_J53 (n : Nat) (m : Nat) (K8 : Int32 → Int32 → kt_M → Option (Int32 × kt_M)) (l1 : Int32) (l2 : Int32) (s1 : Int32) (s2 : Int32) (μ : kt_M) : Option (Int32 × kt_M) := kq_ck (kq_in s1 16) (kq_lt (kt_si μ (m + 10) (Int32.toNatClampNeg s1) s2) (fun μ_53 => K8 l1 (l2 + 1) μ_53))
set_option maxHeartbeats 4000000 in
set_option maxRecDepth 100000 in
theorem xw_fold_J53 {G : kt_G} {σ : kt_Y} {X : kt_X} (hX : kt_ok G X RX10 cX10_fold 3 6 0 0) (hr : kt_rt X = (some .int)) {m : Nat} (hm : kt_md σ m) {n : Nat} {q : (Int32 × kt_M)} {K8 : Int32 → Int32 → kt_M → Option (Int32 × kt_M)} (hK8 : ∀ (l1 : Int32) (l2 : Int32) (μ : kt_M), K8 l1 l2 μ = some q → kt_W G X 3 8 [(0, .ref m), (1, .int l1), (2, .int l2)] [] σ μ 0 0 (kt_Z G X (kt_q σ (fun rv μ2 => rv = some (.int q.1) ∧ μ2 = q.2)) 0 0)) {l1 : Int32} {l2 : Int32} {s1 : Int32} {s2 : Int32} {μ : kt_M} (h : x_fold_J53 n m K8 l1 l2 s1 s2 μ = some q) : kt_W G X 3 53 [(0, .ref m), (1, .int l1), (2, .int l2)] [.int s2, .int s1, .ref (m + 10)] σ μ 0 0 (kt_Z G X (kt_q σ (fun rv μ2 => rv = some (.int q.1) ∧ μ2 = q.2)) 0 0) := by
  unfold x_fold_J53 at h
  obtain ⟨i_53, h⟩ := kq_ck_e h
  refine kr_iast hX dX10_fold_53 (md_a10 hm) (vp_in_iff.mpr i_53) ?_
  refine kr_ltM h (fun μ_53 h => ?_)
  refine kr_iinc (v := (l2 + 1)) hX dX10_fold_54 rfl rfl (by decide) rfl rfl ?_
  refine kr_goto (tgt := 8) hX dX10_fold_57 (by decide) ?_
  refine kr_keep (lv' := [(0, .ref m), (1, .int l1), (2, .int (l2 + 1))]) [0, 1, 2] rfl ?_
  exact hK8 _ _ _ h
def x_fold_B62 (n : Nat) (m : Nat) (K62 : Int32 → Int32 → kt_M → Option (Int32 × kt_M)) (l1 : Int32) (l2 : Int32) (μ : kt_M) : Option (Int32 × kt_M) := kq_b2 (x_many n m μ (1 : Int32)) (fun r_65 μ_65 => (if r_65 ≤ l2 then some (l1, μ_65) else kq_ck (kq_in l2 16) ((if (kt_i μ_65 (m + 10) (Int32.toNatClampNeg l2)) ≤ 0 then K62 l1 (l2 + 1) μ_65 else kq_ck (kq_in l2 16) (kq_b2 (x_of n m μ_65 (1 : Int32) l2 (((14 : Int32) + (kt_i μ_65 (m + 10) (Int32.toNatClampNeg l2))) - (1 : Int32))) (fun r_96 μ_96 => kq_b2 (x_goesTo n m μ_96 l2 r_96) (fun r_99 μ_99 => K62 (l1 + 1) (l2 + 1) μ_99)))))))
set_option maxHeartbeats 4000000 in
set_option maxRecDepth 100000 in
theorem xw_fold_B62 {G : kt_G} {σ : kt_Y} {X : kt_X} (hX : kt_ok G X RX10 cX10_fold 3 6 0 0) (hr : kt_rt X = (some .int)) {m : Nat} (hm : kt_md σ m) {n : Nat} {q : (Int32 × kt_M)} {K62 : Int32 → Int32 → kt_M → Option (Int32 × kt_M)} (hK62 : ∀ (l1 : Int32) (l2 : Int32) (μ : kt_M), K62 l1 l2 μ = some q → kt_W G X 3 62 [(0, .ref m), (1, .int l1), (2, .int l2)] [] σ μ 0 0 (kt_Z G X (kt_q σ (fun rv μ2 => rv = some (.int q.1) ∧ μ2 = q.2)) 0 0)) {l1 : Int32} {l2 : Int32} {μ : kt_M} (h : x_fold_B62 n m K62 l1 l2 μ = some q) : kt_W G X 3 62 [(0, .ref m), (1, .int l1), (2, .int l2)] [] σ μ 0 0 (kt_Z G X (kt_q σ (fun rv μ2 => rv = some (.int q.1) ∧ μ2 = q.2)) 0 0) := by
  unfold x_fold_B62 at h
  refine kr_iload_n (i := 2) hX dX10_fold_62 rfl rfl ?_
  refine kr_aload_n (i := 0) hX dX10_fold_63 rfl rfl ?_
  refine kr_iconst (v := 1) hX dX10_fold_64 (by decide) ?_
  obtain ⟨r_65, μ_65, e_65, h⟩ := kq_b2_e h
  refine kr_dV (c1 := 10) [_] hX km_10_172 dX10_fold_65 (xs_many hm e_65) rfl rfl ⟨_, _, rfl⟩ (by decide) (Nat.le_of_ble_eq_true rfl) (Nat.le_refl _) (Nat.le_refl _) (md_k hm) ?_
  refine kr_icmp_ge (tgt := 111) hX dX10_fold_68 (by decide) (fun c_68 => ?_) (fun c_68 => ?_)
  · replace h := kq_t c_68 h
    refine kr_iload_n (i := 1) hX dX10_fold_111 rfl rfl ?_
    refine kr_iret hX hr dX10_fold_112 ⟨rfl, ?_⟩
    exact kq_rI h
  · replace h := kq_f c_68 h
    refine kr_aload_n (i := 0) hX dX10_fold_71 rfl rfl ?_
    refine kr_getr (c0 := 10) (k := 17) hX ⟨_, kf_10_43⟩ dX10_fold_72 rfl (md_k hm) (md_r17 hm) ?_
    refine kr_iload_n (i := 2) hX dX10_fold_75 rfl rfl ?_
    obtain ⟨i_76, h⟩ := kq_ck_e h
    refine kr_iald hX dX10_fold_76 (md_a10 hm) (vp_in_iff.mpr i_76) ?_
    refine kr_if_le (tgt := 105) hX dX10_fold_77 (by decide) (fun c_77 => ?_) (fun c_77 => ?_)
    · replace h := kq_t c_77 h
      refine kr_iinc (v := (l2 + 1)) hX dX10_fold_105 rfl rfl (by decide) rfl rfl ?_
      refine kr_goto (tgt := 62) hX dX10_fold_108 (by decide) ?_
      refine kr_keep (lv' := [(0, .ref m), (1, .int l1), (2, .int (l2 + 1))]) [0, 1, 2] rfl ?_
      exact hK62 _ _ _ h
    · replace h := kq_f c_77 h
      refine kr_aload_n (i := 0) hX dX10_fold_80 rfl rfl ?_
      refine kr_iload_n (i := 2) hX dX10_fold_81 rfl rfl ?_
      refine kr_aload_n (i := 0) hX dX10_fold_82 rfl rfl ?_
      refine kr_iconst (v := 1) hX dX10_fold_83 (by decide) ?_
      refine kr_iload_n (i := 2) hX dX10_fold_84 rfl rfl ?_
      refine kr_bipush (v := 14) hX dX10_fold_85 (by decide) ?_
      refine kr_aload_n (i := 0) hX dX10_fold_87 rfl rfl ?_
      refine kr_getr (c0 := 10) (k := 17) hX ⟨_, kf_10_43⟩ dX10_fold_88 rfl (md_k hm) (md_r17 hm) ?_
      refine kr_iload_n (i := 2) hX dX10_fold_91 rfl rfl ?_
      obtain ⟨i_92, h⟩ := kq_ck_e h
      refine kr_iald hX dX10_fold_92 (md_a10 hm) (vp_in_iff.mpr i_92) ?_
      refine kr_iadd hX dX10_fold_93 ?_
      refine kr_iconst (v := 1) hX dX10_fold_94 (by decide) ?_
      refine kr_isub hX dX10_fold_95 ?_
      obtain ⟨r_96, μ_96, e_96, h⟩ := kq_b2_e h
      refine kr_dV (c1 := 10) [_, _, _] hX km_10_175 dX10_fold_96 (xs_of hm e_96) rfl rfl ⟨_, _, rfl⟩ (by decide) (Nat.le_of_ble_eq_true rfl) (Nat.le_refl _) (Nat.le_refl _) (md_k hm) ?_
      obtain ⟨r_99, μ_99, e_99, h⟩ := kq_b2_e h
      refine kr_dV (c1 := 10) [_, _] hX km_10_302 dX10_fold_99 (xs_goesTo hm e_99) rfl rfl ⟨_, _, rfl⟩ (by decide) (Nat.le_of_ble_eq_true rfl) (Nat.le_refl _) (Nat.le_refl _) (md_k hm) ?_
      refine kr_iinc (v := (l1 + 1)) hX dX10_fold_102 rfl rfl (by decide) rfl rfl ?_
      refine kr_iinc (v := (l2 + 1)) hX dX10_fold_105 rfl rfl (by decide) rfl rfl ?_
      refine kr_goto (tgt := 62) hX dX10_fold_108 (by decide) ?_
      refine kr_keep (lv' := [(0, .ref m), (1, .int (l1 + 1)), (2, .int (l2 + 1))]) [0, 1, 2] rfl ?_
      exact hK62 _ _ _ h
def x_fold_L62 (n : Nat) (m : Nat) : Nat → Int32 → Int32 → kt_M → Option (Int32 × kt_M)
  | 0, _, _, _ => none
  | k + 1, l1, l2, μ => x_fold_B62 n m (x_fold_L62 n m k) l1 l2 μ
set_option maxHeartbeats 4000000 in
set_option maxRecDepth 100000 in
theorem xw_fold_L62 {G : kt_G} {σ : kt_Y} {X : kt_X} (hX : kt_ok G X RX10 cX10_fold 3 6 0 0) (hr : kt_rt X = (some .int)) {m : Nat} (hm : kt_md σ m) {n : Nat} {q : (Int32 × kt_M)} : ∀ (k : Nat) (l1 : Int32) (l2 : Int32) (μ : kt_M), x_fold_L62 n m k l1 l2 μ = some q → kt_W G X 3 62 [(0, .ref m), (1, .int l1), (2, .int l2)] [] σ μ 0 0 (kt_Z G X (kt_q σ (fun rv μ2 => rv = some (.int q.1) ∧ μ2 = q.2)) 0 0) := by
  intro k
  induction k with
  | zero => intro l1 l2 μ h; cases h
  | succ k ih => intro l1 l2 μ h; exact xw_fold_B62 hX hr hm ih h
def x_fold_B8 (n : Nat) (m : Nat) (K8 : Int32 → Int32 → kt_M → Option (Int32 × kt_M)) (l1 : Int32) (l2 : Int32) (μ : kt_M) : Option (Int32 × kt_M) := kq_b2 (x_many n m μ (1 : Int32)) (fun r_11 μ_11 => (if r_11 ≤ l2 then x_fold_L62 n m n l1 (0 : Int32) μ_11 else kq_b2 (x_isReached n m μ_11 l2) (fun r_24 μ_24 => (if r_24 = 0 then x_fold_J53 n m K8 l1 l2 l2 (0 : Int32) μ_24 else kq_b2 (x_of n m μ_24 (1 : Int32) l2 (13 : Int32)) (fun r_35 μ_35 => kq_b1 (x_isTest n r_35) (fun r_38 => (if r_38 = 0 then x_fold_J53 n m K8 l1 l2 l2 (0 : Int32) μ_35 else kq_b2 (x_outcomeAt n m μ_35 l2) (fun r_46 μ_46 => x_fold_J53 n m K8 l1 l2 l2 r_46 μ_46))))))))
set_option maxHeartbeats 4000000 in
set_option maxRecDepth 100000 in
theorem xw_fold_B8 {G : kt_G} {σ : kt_Y} {X : kt_X} (hX : kt_ok G X RX10 cX10_fold 3 6 0 0) (hr : kt_rt X = (some .int)) {m : Nat} (hm : kt_md σ m) {n : Nat} {q : (Int32 × kt_M)} {K8 : Int32 → Int32 → kt_M → Option (Int32 × kt_M)} (hK8 : ∀ (l1 : Int32) (l2 : Int32) (μ : kt_M), K8 l1 l2 μ = some q → kt_W G X 3 8 [(0, .ref m), (1, .int l1), (2, .int l2)] [] σ μ 0 0 (kt_Z G X (kt_q σ (fun rv μ2 => rv = some (.int q.1) ∧ μ2 = q.2)) 0 0)) {l1 : Int32} {l2 : Int32} {μ : kt_M} (h : x_fold_B8 n m K8 l1 l2 μ = some q) : kt_W G X 3 8 [(0, .ref m), (1, .int l1), (2, .int l2)] [] σ μ 0 0 (kt_Z G X (kt_q σ (fun rv μ2 => rv = some (.int q.1) ∧ μ2 = q.2)) 0 0) := by
  unfold x_fold_B8 at h
  refine kr_iload_n (i := 2) hX dX10_fold_8 rfl rfl ?_
  refine kr_aload_n (i := 0) hX dX10_fold_9 rfl rfl ?_
  refine kr_iconst (v := 1) hX dX10_fold_10 (by decide) ?_
  obtain ⟨r_11, μ_11, e_11, h⟩ := kq_b2_e h
  refine kr_dV (c1 := 10) [_] hX km_10_172 dX10_fold_11 (xs_many hm e_11) rfl rfl ⟨_, _, rfl⟩ (by decide) (Nat.le_of_ble_eq_true rfl) (Nat.le_refl _) (Nat.le_refl _) (md_k hm) ?_
  refine kr_icmp_ge (tgt := 60) hX dX10_fold_14 (by decide) (fun c_14 => ?_) (fun c_14 => ?_)
  · replace h := kq_t c_14 h
    refine kr_iconst (v := 0) hX dX10_fold_60 (by decide) ?_
    refine kr_istore_n (i := 2) hX dX10_fold_61 rfl (by decide) rfl rfl ?_
    refine kr_keep (lv' := [(0, .ref m), (1, .int l1), (2, .int (0 : Int32))]) [0, 1, 2] rfl ?_
    exact xw_fold_L62 hX hr hm n _ _ _ h
  · replace h := kq_f c_14 h
    refine kr_aload_n (i := 0) hX dX10_fold_17 rfl rfl ?_
    refine kr_getr (c0 := 10) (k := 17) hX ⟨_, kf_10_43⟩ dX10_fold_18 rfl (md_k hm) (md_r17 hm) ?_
    refine kr_iload_n (i := 2) hX dX10_fold_21 rfl rfl ?_
    refine kr_aload_n (i := 0) hX dX10_fold_22 rfl rfl ?_
    refine kr_iload_n (i := 2) hX dX10_fold_23 rfl rfl ?_
    obtain ⟨r_24, μ_24, e_24, h⟩ := kq_b2_e h
    refine kr_dV (c1 := 10) [_] hX km_10_251 dX10_fold_24 (xs_isReached hm e_24) rfl rfl ⟨_, _, rfl⟩ (by decide) (Nat.le_of_ble_eq_true rfl) (Nat.le_refl _) (Nat.le_refl _) (md_k hm) ?_
    refine kr_if_eq (tgt := 52) hX dX10_fold_27 (by decide) (fun c_27 => ?_) (fun c_27 => ?_)
    · replace h := kq_t c_27 h
      refine kr_iconst (v := 0) hX dX10_fold_52 (by decide) ?_
      refine kr_keep (lv' := [(0, .ref m), (1, .int l1), (2, .int l2)]) [0, 1, 2] rfl ?_
      exact xw_fold_J53 hX hr hm hK8 h
    · replace h := kq_f c_27 h
      refine kr_aload_n (i := 0) hX dX10_fold_30 rfl rfl ?_
      refine kr_iconst (v := 1) hX dX10_fold_31 (by decide) ?_
      refine kr_iload_n (i := 2) hX dX10_fold_32 rfl rfl ?_
      refine kr_bipush (v := 13) hX dX10_fold_33 (by decide) ?_
      obtain ⟨r_35, μ_35, e_35, h⟩ := kq_b2_e h
      refine kr_dV (c1 := 10) [_, _, _] hX km_10_175 dX10_fold_35 (xs_of hm e_35) rfl rfl ⟨_, _, rfl⟩ (by decide) (Nat.le_of_ble_eq_true rfl) (Nat.le_refl _) (Nat.le_refl _) (md_k hm) ?_
      obtain ⟨r_38, e_38, h⟩ := kq_b1_e h
      refine kr_dS [_] hX km_10_188 dX10_fold_38 (xs_isTest e_38) rfl rfl (by decide) (Nat.le_of_ble_eq_true rfl) (Nat.le_refl _) (Nat.le_refl _) ?_
      refine kr_if_eq (tgt := 52) hX dX10_fold_41 (by decide) (fun c_41 => ?_) (fun c_41 => ?_)
      · replace h := kq_t c_41 h
        refine kr_iconst (v := 0) hX dX10_fold_52 (by decide) ?_
        refine kr_keep (lv' := [(0, .ref m), (1, .int l1), (2, .int l2)]) [0, 1, 2] rfl ?_
        exact xw_fold_J53 hX hr hm hK8 h
      · replace h := kq_f c_41 h
        refine kr_aload_n (i := 0) hX dX10_fold_44 rfl rfl ?_
        refine kr_iload_n (i := 2) hX dX10_fold_45 rfl rfl ?_
        obtain ⟨r_46, μ_46, e_46, h⟩ := kq_b2_e h
        refine kr_dV (c1 := 10) [_] hX km_10_281 dX10_fold_46 (xs_outcomeAt hm e_46) rfl rfl ⟨_, _, rfl⟩ (by decide) (Nat.le_of_ble_eq_true rfl) (Nat.le_refl _) (Nat.le_refl _) (md_k hm) ?_
        refine kr_goto (tgt := 53) hX dX10_fold_49 (by decide) ?_
        refine kr_keep (lv' := [(0, .ref m), (1, .int l1), (2, .int l2)]) [0, 1, 2] rfl ?_
        exact xw_fold_J53 hX hr hm hK8 h
def x_fold_L8 (n : Nat) (m : Nat) : Nat → Int32 → Int32 → kt_M → Option (Int32 × kt_M)
  | 0, _, _, _ => none
  | k + 1, l1, l2, μ => x_fold_B8 n m (x_fold_L8 n m k) l1 l2 μ
set_option maxHeartbeats 4000000 in
set_option maxRecDepth 100000 in
theorem xw_fold_L8 {G : kt_G} {σ : kt_Y} {X : kt_X} (hX : kt_ok G X RX10 cX10_fold 3 6 0 0) (hr : kt_rt X = (some .int)) {m : Nat} (hm : kt_md σ m) {n : Nat} {q : (Int32 × kt_M)} : ∀ (k : Nat) (l1 : Int32) (l2 : Int32) (μ : kt_M), x_fold_L8 n m k l1 l2 μ = some q → kt_W G X 3 8 [(0, .ref m), (1, .int l1), (2, .int l2)] [] σ μ 0 0 (kt_Z G X (kt_q σ (fun rv μ2 => rv = some (.int q.1) ∧ μ2 = q.2)) 0 0) := by
  intro k
  induction k with
  | zero => intro l1 l2 μ h; cases h
  | succ k ih => intro l1 l2 μ h; exact xw_fold_B8 hX hr hm ih h
def x_fold (n : Nat) (m : Nat) (μ : kt_M) : Option (Int32 × kt_M) := kq_b2 (x_findRanges n m μ) (fun r_1 μ_1 => x_fold_L8 n m n (0 : Int32) (0 : Int32) μ_1)
set_option maxHeartbeats 4000000 in
set_option maxRecDepth 100000 in
theorem xs_fold {G : kt_G} {σ : kt_Y} {μ : kt_M} {m : Nat} (hm : kt_md σ m) {n : Nat} {r : Int32} {μ1 : kt_M} (h : x_fold n m μ = some (r, μ1)) : kt_F G yX10_fold cX10_fold 3 (some .int) 6 [.ref m] σ μ (fun rv μ2 => rv = some (.int r) ∧ μ2 = μ1) := by
  have key : ∀ q : (Int32 × kt_M), x_fold n m μ = some q → kt_F G yX10_fold cX10_fold 3 (some .int) 6 [.ref m] σ μ (fun rv μ2 => rv = some (.int q.1) ∧ μ2 = q.2) := by
    intro q h
    unfold x_fold at h
    refine kt_F.of (by decide) (Nat.le_of_ble_eq_true rfl) (fun X hX hr => ?_)
    refine kr_aload_n (i := 0) hX dX10_fold_0 rfl rfl ?_
    obtain ⟨r_1, μ_1, e_1, h⟩ := kq_b2_e h
    refine kr_dV (c1 := 10) [] hX km_10_270 dX10_fold_1 (xs_findRanges hm e_1) rfl rfl ⟨_, _, rfl⟩ (by decide) (Nat.le_of_ble_eq_true rfl) (Nat.le_refl _) (Nat.le_refl _) (md_k hm) ?_
    refine kr_iconst (v := 0) hX dX10_fold_4 (by decide) ?_
    refine kr_istore_n (i := 1) hX dX10_fold_5 rfl (by decide) rfl rfl ?_
    refine kr_iconst (v := 0) hX dX10_fold_6 (by decide) ?_
    refine kr_istore_n (i := 2) hX dX10_fold_7 rfl (by decide) rfl rfl ?_
    refine kr_keep (lv' := [(0, .ref m), (1, .int (0 : Int32)), (2, .int (0 : Int32))]) [0, 1, 2] rfl ?_
    exact xw_fold_L8 hX hr hm n _ _ _ h
  exact key (r, μ1) h

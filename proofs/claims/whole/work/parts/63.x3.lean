def x_moved (n : Nat) (a0 : Int64) (a1 : Int32) : Option Int64 := kq_b1 (x_lowOf n a0) (fun r_1 => (if r_1 = ((-4) : Int32) then some a0 else kq_b1 (x_lowOf n a0) (fun r_19 => kq_b1 (x_bounded n (r_19 + a1)) (fun r_24 => kq_b1 (x_highOf n a0) (fun r_28 => kq_b1 (x_bounded n (r_28 + a1)) (fun r_33 => kq_b1 (x_from n r_24 r_33) (fun r_36 => some ((a0 &&& (2251799813685248 : Int64)) ||| r_36))))))))
set_option maxHeartbeats 4000000 in
set_option maxRecDepth 100000 in
theorem xs_moved {G : kt_G} {σ : kt_Y} {μ : kt_M} {n : Nat} {a0 : Int64} {a1 : Int32} {q : Int64} (h : x_moved n a0 a1 = some q) : kt_F G yX10_moved cX10_moved 3 (some .long) 1 [.long a0, .int a1] σ μ (fun rv μ2 => rv = some (.long q) ∧ μ2 = μ) := by
  unfold x_moved at h
  refine kt_F.of (by decide) (Nat.le_of_ble_eq_true rfl) (fun X hX hr => ?_)
  refine kr_lload_n (i := 0) hX dX10_moved_0 rfl rfl ?_
  obtain ⟨r_1, e_1, h⟩ := kq_b1_e h
  refine kr_dS [_] hX km_10_204 dX10_moved_1 (xs_lowOf e_1) rfl rfl (by decide) (Nat.le_of_ble_eq_true rfl) (Nat.le_refl _) (Nat.le_refl _) ?_
  refine kr_bipush (v := (-4)) hX dX10_moved_4 (by decide) ?_
  refine kr_icmp_ne (tgt := 13) hX dX10_moved_6 (by decide) (fun c_6 => ?_) (fun c_6 => ?_)
  · replace h := kq_f c_6 h
    refine kr_lload_n (i := 0) hX dX10_moved_13 rfl rfl ?_
    refine kr_ldc2 (v := 2251799813685248) hX kw_1252 dX10_moved_14 ?_
    refine kr_land hX dX10_moved_17 ?_
    refine kr_lload_n (i := 0) hX dX10_moved_18 rfl rfl ?_
    obtain ⟨r_19, e_19, h⟩ := kq_b1_e h
    refine kr_dS [_] hX km_10_204 dX10_moved_19 (xs_lowOf e_19) rfl rfl (by decide) (Nat.le_of_ble_eq_true rfl) (Nat.le_refl _) (Nat.le_refl _) ?_
    refine kr_iload_n (i := 2) hX dX10_moved_22 rfl rfl ?_
    refine kr_iadd hX dX10_moved_23 ?_
    obtain ⟨r_24, e_24, h⟩ := kq_b1_e h
    refine kr_dS [_] hX km_10_217 dX10_moved_24 (xs_bounded e_24) rfl rfl (by decide) (Nat.le_of_ble_eq_true rfl) (Nat.le_refl _) (Nat.le_refl _) ?_
    refine kr_lload_n (i := 0) hX dX10_moved_27 rfl rfl ?_
    obtain ⟨r_28, e_28, h⟩ := kq_b1_e h
    refine kr_dS [_] hX km_10_208 dX10_moved_28 (xs_highOf e_28) rfl rfl (by decide) (Nat.le_of_ble_eq_true rfl) (Nat.le_refl _) (Nat.le_refl _) ?_
    refine kr_iload_n (i := 2) hX dX10_moved_31 rfl rfl ?_
    refine kr_iadd hX dX10_moved_32 ?_
    obtain ⟨r_33, e_33, h⟩ := kq_b1_e h
    refine kr_dS [_] hX km_10_217 dX10_moved_33 (xs_bounded e_33) rfl rfl (by decide) (Nat.le_of_ble_eq_true rfl) (Nat.le_refl _) (Nat.le_refl _) ?_
    obtain ⟨r_36, e_36, h⟩ := kq_b1_e h
    refine kr_dS [_, _] hX km_10_211 dX10_moved_36 (xs_from e_36) rfl rfl (by decide) (Nat.le_of_ble_eq_true rfl) (Nat.le_refl _) (Nat.le_refl _) ?_
    refine kr_lor hX dX10_moved_39 ?_
    refine kr_lret hX hr dX10_moved_40 ⟨rfl, ?_⟩
    exact kq_rJs h
  · replace h := kq_t c_6 h
    refine kr_lload_n (i := 0) hX dX10_moved_9 rfl rfl ?_
    refine kr_goto (tgt := 40) hX dX10_moved_10 (by decide) ?_
    refine kr_lret hX hr dX10_moved_40 ⟨rfl, ?_⟩
    exact kq_rJs h
def x_actsOn_B2 (n : Nat) (m : Nat) (K2 : Int32 → Int32 → kt_M → Option (Unit × kt_M)) (l1 : Int32) (l2 : Int32) (μ : kt_M) : Option (Unit × kt_M) := kq_b2 (x_of n m μ (1 : Int32) l1 (0 : Int32)) (fun r_7 μ_7 => (if r_7 ≤ l2 then some ((), μ_7) else kq_b2 (x_of n m μ_7 (1 : Int32) l1 (((1 : Int32) + ((3 : Int32) * l2)) + (1 : Int32))) (fun r_23 μ_23 => kq_b2 (x_of n m μ_23 (1 : Int32) l1 (((1 : Int32) + ((3 : Int32) * l2)) + (2 : Int32))) (fun r_37 μ_37 => kq_b2 (x_of n m μ_37 (1 : Int32) l1 ((1 : Int32) + ((3 : Int32) * l2))) (fun r_50 μ_50 => (if r_50 = (0 : Int32) then kq_ck (kq_in r_23 4) (kq_lt (kt_sl μ_50 (m + 7) (Int32.toNatClampNeg r_23) ((1 : Int64) <<< ((r_37).toInt64 &&& 63))) (fun μ_97 => K2 l1 (l2 + 1) μ_97)) else (if r_50 = (1 : Int32) then kq_ck (kq_in r_23 4) (kq_b1 (x_moved n (kt_l μ_50 (m + 7) (Int32.toNatClampNeg r_23)) r_37) (fun r_114 => kq_ck (kq_in r_23 4) (kq_lt (kt_sl μ_50 (m + 7) (Int32.toNatClampNeg r_23) r_114) (fun μ_117 => K2 l1 (l2 + 1) μ_117)))) else (if r_50 = (2 : Int32) then kq_ck (kq_in r_23 4) (kq_b1 (x_moved n (kt_l μ_50 (m + 7) (Int32.toNatClampNeg r_23)) (-r_37)) (fun r_135 => kq_ck (kq_in r_23 4) (kq_lt (kt_sl μ_50 (m + 7) (Int32.toNatClampNeg r_23) r_135) (fun μ_138 => K2 l1 (l2 + 1) μ_138)))) else (if r_50 = (3 : Int32) then kq_ck (kq_in r_37 4) (kq_ck (kq_in r_23 4) (kq_lt (kt_sl μ_50 (m + 7) (Int32.toNatClampNeg r_23) (kt_l μ_50 (m + 7) (Int32.toNatClampNeg r_37))) (fun μ_154 => K2 l1 (l2 + 1) μ_154))) else (if r_50 = (4 : Int32) then kq_ck (kq_in r_23 4) (kq_lt (kt_sl μ_50 (m + 7) (Int32.toNatClampNeg r_23) (4503599627370495 : Int64)) (fun μ_166 => K2 l1 (l2 + 1) μ_166)) else K2 l1 (l2 + 1) μ_50))))))))))
set_option maxHeartbeats 4000000 in
set_option maxRecDepth 100000 in
theorem xw_actsOn_B2 {G : kt_G} {σ : kt_Y} {X : kt_X} (hX : kt_ok G X RX10 cX10_actsOn 5 2 0 0) (hr : kt_rt X = none) {m : Nat} (hm : kt_md σ m) {n : Nat} {q : (Unit × kt_M)} {K2 : Int32 → Int32 → kt_M → Option (Unit × kt_M)} (hK2 : ∀ (l1 : Int32) (l2 : Int32) (μ : kt_M), K2 l1 l2 μ = some q → kt_W G X 5 2 [(0, .ref m), (1, .int l1), (2, .int l2)] [] σ μ 0 0 (kt_Z G X (kt_q σ (fun rv μ2 => rv = none ∧ μ2 = q.2)) 0 0)) {l1 : Int32} {l2 : Int32} {μ : kt_M} (h : x_actsOn_B2 n m K2 l1 l2 μ = some q) : kt_W G X 5 2 [(0, .ref m), (1, .int l1), (2, .int l2)] [] σ μ 0 0 (kt_Z G X (kt_q σ (fun rv μ2 => rv = none ∧ μ2 = q.2)) 0 0) := by
  unfold x_actsOn_B2 at h
  refine kr_iload_n (i := 2) hX dX10_actsOn_2 rfl rfl ?_
  refine kr_aload_n (i := 0) hX dX10_actsOn_3 rfl rfl ?_
  refine kr_iconst (v := 1) hX dX10_actsOn_4 (by decide) ?_
  refine kr_iload_n (i := 1) hX dX10_actsOn_5 rfl rfl ?_
  refine kr_iconst (v := 0) hX dX10_actsOn_6 (by decide) ?_
  obtain ⟨r_7, μ_7, e_7, h⟩ := kq_b2_e h
  refine kr_dV (c1 := 10) [_, _, _] hX km_10_175 dX10_actsOn_7 (xs_of hm e_7) rfl rfl ⟨_, _, rfl⟩ (by decide) (Nat.le_of_ble_eq_true rfl) (Nat.le_refl _) (Nat.le_refl _) (md_k hm) ?_
  refine kr_icmp_ge (tgt := 176) hX dX10_actsOn_10 (by decide) (fun c_10 => ?_) (fun c_10 => ?_)
  · replace h := kq_t c_10 h
    refine kr_vret hX hr dX10_actsOn_176 ⟨rfl, ?_⟩
    exact kq_rV h
  · replace h := kq_f c_10 h
    refine kr_aload_n (i := 0) hX dX10_actsOn_13 rfl rfl ?_
    refine kr_iconst (v := 1) hX dX10_actsOn_14 (by decide) ?_
    refine kr_iload_n (i := 1) hX dX10_actsOn_15 rfl rfl ?_
    refine kr_iconst (v := 1) hX dX10_actsOn_16 (by decide) ?_
    refine kr_iconst (v := 3) hX dX10_actsOn_17 (by decide) ?_
    refine kr_iload_n (i := 2) hX dX10_actsOn_18 rfl rfl ?_
    refine kr_imul hX dX10_actsOn_19 ?_
    refine kr_iadd hX dX10_actsOn_20 ?_
    refine kr_iconst (v := 1) hX dX10_actsOn_21 (by decide) ?_
    refine kr_iadd hX dX10_actsOn_22 ?_
    obtain ⟨r_23, μ_23, e_23, h⟩ := kq_b2_e h
    refine kr_dV (c1 := 10) [_, _, _] hX km_10_175 dX10_actsOn_23 (xs_of hm e_23) rfl rfl ⟨_, _, rfl⟩ (by decide) (Nat.le_of_ble_eq_true rfl) (Nat.le_refl _) (Nat.le_refl _) (md_k hm) ?_
    refine kr_istore_n (i := 3) hX dX10_actsOn_26 rfl (by decide) rfl rfl ?_
    refine kr_aload_n (i := 0) hX dX10_actsOn_27 rfl rfl ?_
    refine kr_iconst (v := 1) hX dX10_actsOn_28 (by decide) ?_
    refine kr_iload_n (i := 1) hX dX10_actsOn_29 rfl rfl ?_
    refine kr_iconst (v := 1) hX dX10_actsOn_30 (by decide) ?_
    refine kr_iconst (v := 3) hX dX10_actsOn_31 (by decide) ?_
    refine kr_iload_n (i := 2) hX dX10_actsOn_32 rfl rfl ?_
    refine kr_imul hX dX10_actsOn_33 ?_
    refine kr_iadd hX dX10_actsOn_34 ?_
    refine kr_iconst (v := 2) hX dX10_actsOn_35 (by decide) ?_
    refine kr_iadd hX dX10_actsOn_36 ?_
    obtain ⟨r_37, μ_37, e_37, h⟩ := kq_b2_e h
    refine kr_dV (c1 := 10) [_, _, _] hX km_10_175 dX10_actsOn_37 (xs_of hm e_37) rfl rfl ⟨_, _, rfl⟩ (by decide) (Nat.le_of_ble_eq_true rfl) (Nat.le_refl _) (Nat.le_refl _) (md_k hm) ?_
    refine kr_istore hX dX10_actsOn_40 (by decide) rfl rfl ?_
    refine kr_aload_n (i := 0) hX dX10_actsOn_42 rfl rfl ?_
    refine kr_iconst (v := 1) hX dX10_actsOn_43 (by decide) ?_
    refine kr_iload_n (i := 1) hX dX10_actsOn_44 rfl rfl ?_
    refine kr_iconst (v := 1) hX dX10_actsOn_45 (by decide) ?_
    refine kr_iconst (v := 3) hX dX10_actsOn_46 (by decide) ?_
    refine kr_iload_n (i := 2) hX dX10_actsOn_47 rfl rfl ?_
    refine kr_imul hX dX10_actsOn_48 ?_
    refine kr_iadd hX dX10_actsOn_49 ?_
    obtain ⟨r_50, μ_50, e_50, h⟩ := kq_b2_e h
    refine kr_dV (c1 := 10) [_, _, _] hX km_10_175 dX10_actsOn_50 (xs_of hm e_50) rfl rfl ⟨_, _, rfl⟩ (by decide) (Nat.le_of_ble_eq_true rfl) (Nat.le_refl _) (Nat.le_refl _) (md_k hm) ?_
    by_cases c_53_0 : r_50 = (0 : Int32)
    · replace h := kq_t c_53_0 h
      refine kr_tabIn (tgt := 88) (off := 35) hX dX10_actsOn_53 (by rw [c_53_0]; decide) (by rw [c_53_0]; decide) (by rw [c_53_0]; rfl) (by decide) ?_
      refine kr_aload_n (i := 0) hX dX10_actsOn_88 rfl rfl ?_
      refine kr_getr (c0 := 10) (k := 14) hX ⟨_, kf_10_34⟩ dX10_actsOn_89 rfl (md_k hm) (md_r14 hm) ?_
      refine kr_iload_n (i := 3) hX dX10_actsOn_92 rfl rfl ?_
      refine kr_lconst (v := 1) hX dX10_actsOn_93 (by decide) ?_
      refine kr_iload hX dX10_actsOn_94 rfl ?_
      refine kr_lshl hX dX10_actsOn_96 rfl ?_
      obtain ⟨i_97, h⟩ := kq_ck_e h
      refine kr_last hX dX10_actsOn_97 (md_a7 hm) (vp_in_iff.mpr i_97) ?_
      refine kr_ltM h (fun μ_97 h => ?_)
      refine kr_goto (tgt := 170) hX dX10_actsOn_98 (by decide) ?_
      refine kr_iinc (v := (l2 + 1)) hX dX10_actsOn_170 rfl rfl (by decide) rfl rfl ?_
      refine kr_goto (tgt := 2) hX dX10_actsOn_173 (by decide) ?_
      refine kr_keep (lv' := [(0, .ref m), (1, .int l1), (2, .int (l2 + 1))]) [0, 1, 2] rfl ?_
      exact hK2 _ _ _ h
    replace h := kq_f c_53_0 h
    by_cases c_53_1 : r_50 = (1 : Int32)
    · replace h := kq_t c_53_1 h
      refine kr_tabIn (tgt := 101) (off := 48) hX dX10_actsOn_53 (by rw [c_53_1]; decide) (by rw [c_53_1]; decide) (by rw [c_53_1]; rfl) (by decide) ?_
      refine kr_aload_n (i := 0) hX dX10_actsOn_101 rfl rfl ?_
      refine kr_getr (c0 := 10) (k := 14) hX ⟨_, kf_10_34⟩ dX10_actsOn_102 rfl (md_k hm) (md_r14 hm) ?_
      refine kr_iload_n (i := 3) hX dX10_actsOn_105 rfl rfl ?_
      refine kr_aload_n (i := 0) hX dX10_actsOn_106 rfl rfl ?_
      refine kr_getr (c0 := 10) (k := 14) hX ⟨_, kf_10_34⟩ dX10_actsOn_107 rfl (md_k hm) (md_r14 hm) ?_
      refine kr_iload_n (i := 3) hX dX10_actsOn_110 rfl rfl ?_
      obtain ⟨i_111, h⟩ := kq_ck_e h
      refine kr_lald hX dX10_actsOn_111 (md_a7 hm) (vp_in_iff.mpr i_111) ?_
      refine kr_iload hX dX10_actsOn_112 rfl ?_
      obtain ⟨r_114, e_114, h⟩ := kq_b1_e h
      refine kr_dS [_, _] hX km_10_220 dX10_actsOn_114 (xs_moved e_114) rfl rfl (by decide) (Nat.le_of_ble_eq_true rfl) (Nat.le_refl _) (Nat.le_refl _) ?_
      obtain ⟨i_117, h⟩ := kq_ck_e h
      refine kr_last hX dX10_actsOn_117 (md_a7 hm) (vp_in_iff.mpr i_117) ?_
      refine kr_ltM h (fun μ_117 h => ?_)
      refine kr_goto (tgt := 170) hX dX10_actsOn_118 (by decide) ?_
      refine kr_iinc (v := (l2 + 1)) hX dX10_actsOn_170 rfl rfl (by decide) rfl rfl ?_
      refine kr_goto (tgt := 2) hX dX10_actsOn_173 (by decide) ?_
      refine kr_keep (lv' := [(0, .ref m), (1, .int l1), (2, .int (l2 + 1))]) [0, 1, 2] rfl ?_
      exact hK2 _ _ _ h
    replace h := kq_f c_53_1 h
    by_cases c_53_2 : r_50 = (2 : Int32)
    · replace h := kq_t c_53_2 h
      refine kr_tabIn (tgt := 121) (off := 68) hX dX10_actsOn_53 (by rw [c_53_2]; decide) (by rw [c_53_2]; decide) (by rw [c_53_2]; rfl) (by decide) ?_
      refine kr_aload_n (i := 0) hX dX10_actsOn_121 rfl rfl ?_
      refine kr_getr (c0 := 10) (k := 14) hX ⟨_, kf_10_34⟩ dX10_actsOn_122 rfl (md_k hm) (md_r14 hm) ?_
      refine kr_iload_n (i := 3) hX dX10_actsOn_125 rfl rfl ?_
      refine kr_aload_n (i := 0) hX dX10_actsOn_126 rfl rfl ?_
      refine kr_getr (c0 := 10) (k := 14) hX ⟨_, kf_10_34⟩ dX10_actsOn_127 rfl (md_k hm) (md_r14 hm) ?_
      refine kr_iload_n (i := 3) hX dX10_actsOn_130 rfl rfl ?_
      obtain ⟨i_131, h⟩ := kq_ck_e h
      refine kr_lald hX dX10_actsOn_131 (md_a7 hm) (vp_in_iff.mpr i_131) ?_
      refine kr_iload hX dX10_actsOn_132 rfl ?_
      refine kr_ineg hX dX10_actsOn_134 ?_
      obtain ⟨r_135, e_135, h⟩ := kq_b1_e h
      refine kr_dS [_, _] hX km_10_220 dX10_actsOn_135 (xs_moved e_135) rfl rfl (by decide) (Nat.le_of_ble_eq_true rfl) (Nat.le_refl _) (Nat.le_refl _) ?_
      obtain ⟨i_138, h⟩ := kq_ck_e h
      refine kr_last hX dX10_actsOn_138 (md_a7 hm) (vp_in_iff.mpr i_138) ?_
      refine kr_ltM h (fun μ_138 h => ?_)
      refine kr_goto (tgt := 170) hX dX10_actsOn_139 (by decide) ?_
      refine kr_iinc (v := (l2 + 1)) hX dX10_actsOn_170 rfl rfl (by decide) rfl rfl ?_
      refine kr_goto (tgt := 2) hX dX10_actsOn_173 (by decide) ?_
      refine kr_keep (lv' := [(0, .ref m), (1, .int l1), (2, .int (l2 + 1))]) [0, 1, 2] rfl ?_
      exact hK2 _ _ _ h
    replace h := kq_f c_53_2 h
    by_cases c_53_3 : r_50 = (3 : Int32)
    · replace h := kq_t c_53_3 h
      refine kr_tabIn (tgt := 142) (off := 89) hX dX10_actsOn_53 (by rw [c_53_3]; decide) (by rw [c_53_3]; decide) (by rw [c_53_3]; rfl) (by decide) ?_
      refine kr_aload_n (i := 0) hX dX10_actsOn_142 rfl rfl ?_
      refine kr_getr (c0 := 10) (k := 14) hX ⟨_, kf_10_34⟩ dX10_actsOn_143 rfl (md_k hm) (md_r14 hm) ?_
      refine kr_iload_n (i := 3) hX dX10_actsOn_146 rfl rfl ?_
      refine kr_aload_n (i := 0) hX dX10_actsOn_147 rfl rfl ?_
      refine kr_getr (c0 := 10) (k := 14) hX ⟨_, kf_10_34⟩ dX10_actsOn_148 rfl (md_k hm) (md_r14 hm) ?_
      refine kr_iload hX dX10_actsOn_151 rfl ?_
      obtain ⟨i_153, h⟩ := kq_ck_e h
      refine kr_lald hX dX10_actsOn_153 (md_a7 hm) (vp_in_iff.mpr i_153) ?_
      obtain ⟨i_154, h⟩ := kq_ck_e h
      refine kr_last hX dX10_actsOn_154 (md_a7 hm) (vp_in_iff.mpr i_154) ?_
      refine kr_ltM h (fun μ_154 h => ?_)
      refine kr_goto (tgt := 170) hX dX10_actsOn_155 (by decide) ?_
      refine kr_iinc (v := (l2 + 1)) hX dX10_actsOn_170 rfl rfl (by decide) rfl rfl ?_
      refine kr_goto (tgt := 2) hX dX10_actsOn_173 (by decide) ?_
      refine kr_keep (lv' := [(0, .ref m), (1, .int l1), (2, .int (l2 + 1))]) [0, 1, 2] rfl ?_
      exact hK2 _ _ _ h
    replace h := kq_f c_53_3 h
    by_cases c_53_4 : r_50 = (4 : Int32)
    · replace h := kq_t c_53_4 h
      refine kr_tabIn (tgt := 158) (off := 105) hX dX10_actsOn_53 (by rw [c_53_4]; decide) (by rw [c_53_4]; decide) (by rw [c_53_4]; rfl) (by decide) ?_
      refine kr_aload_n (i := 0) hX dX10_actsOn_158 rfl rfl ?_
      refine kr_getr (c0 := 10) (k := 14) hX ⟨_, kf_10_34⟩ dX10_actsOn_159 rfl (md_k hm) (md_r14 hm) ?_
      refine kr_iload_n (i := 3) hX dX10_actsOn_162 rfl rfl ?_
      refine kr_ldc2 (v := 4503599627370495) hX kw_1280 dX10_actsOn_163 ?_
      obtain ⟨i_166, h⟩ := kq_ck_e h
      refine kr_last hX dX10_actsOn_166 (md_a7 hm) (vp_in_iff.mpr i_166) ?_
      refine kr_ltM h (fun μ_166 h => ?_)
      refine kr_goto (tgt := 170) hX dX10_actsOn_167 (by decide) ?_
      refine kr_iinc (v := (l2 + 1)) hX dX10_actsOn_170 rfl rfl (by decide) rfl rfl ?_
      refine kr_goto (tgt := 2) hX dX10_actsOn_173 (by decide) ?_
      refine kr_keep (lv' := [(0, .ref m), (1, .int l1), (2, .int (l2 + 1))]) [0, 1, 2] rfl ?_
      exact hK2 _ _ _ h
    replace h := kq_f c_53_4 h
    refine kr_tabOut (tgt := 170) hX dX10_actsOn_53 (by have q_0 := kt_ne c_53_0 (z := 0) (by decide); have q_1 := kt_ne c_53_1 (z := 1) (by decide); have q_2 := kt_ne c_53_2 (z := 2) (by decide); have q_3 := kt_ne c_53_3 (z := 3) (by decide); have q_4 := kt_ne c_53_4 (z := 4) (by decide); omega) (by decide) ?_
    refine kr_iinc (v := (l2 + 1)) hX dX10_actsOn_170 rfl rfl (by decide) rfl rfl ?_
    refine kr_goto (tgt := 2) hX dX10_actsOn_173 (by decide) ?_
    refine kr_keep (lv' := [(0, .ref m), (1, .int l1), (2, .int (l2 + 1))]) [0, 1, 2] rfl ?_
    exact hK2 _ _ _ h
def x_actsOn_L2 (n : Nat) (m : Nat) : Nat → Int32 → Int32 → kt_M → Option (Unit × kt_M)
  | 0, _, _, _ => none
  | k + 1, l1, l2, μ => x_actsOn_B2 n m (x_actsOn_L2 n m k) l1 l2 μ
set_option maxHeartbeats 4000000 in
set_option maxRecDepth 100000 in
theorem xw_actsOn_L2 {G : kt_G} {σ : kt_Y} {X : kt_X} (hX : kt_ok G X RX10 cX10_actsOn 5 2 0 0) (hr : kt_rt X = none) {m : Nat} (hm : kt_md σ m) {n : Nat} {q : (Unit × kt_M)} : ∀ (k : Nat) (l1 : Int32) (l2 : Int32) (μ : kt_M), x_actsOn_L2 n m k l1 l2 μ = some q → kt_W G X 5 2 [(0, .ref m), (1, .int l1), (2, .int l2)] [] σ μ 0 0 (kt_Z G X (kt_q σ (fun rv μ2 => rv = none ∧ μ2 = q.2)) 0 0) := by
  intro k
  induction k with
  | zero => intro l1 l2 μ h; cases h
  | succ k ih => intro l1 l2 μ h; exact xw_actsOn_B2 hX hr hm ih h
def x_actsOn (n : Nat) (m : Nat) (μ : kt_M) (a0 : Int32) : Option (Unit × kt_M) := x_actsOn_L2 n m n a0 (0 : Int32) μ
set_option maxHeartbeats 4000000 in
set_option maxRecDepth 100000 in
theorem xs_actsOn {G : kt_G} {σ : kt_Y} {μ : kt_M} {m : Nat} (hm : kt_md σ m) {n : Nat} {a0 : Int32} {r : Unit} {μ1 : kt_M} (h : x_actsOn n m μ a0 = some (r, μ1)) : kt_F G yX10_actsOn cX10_actsOn 5 none 2 [.ref m, .int a0] σ μ (fun rv μ2 => rv = none ∧ μ2 = μ1) := by
  have key : ∀ q : (Unit × kt_M), x_actsOn n m μ a0 = some q → kt_F G yX10_actsOn cX10_actsOn 5 none 2 [.ref m, .int a0] σ μ (fun rv μ2 => rv = none ∧ μ2 = q.2) := by
    intro q h
    unfold x_actsOn at h
    refine kt_F.of (by decide) (Nat.le_of_ble_eq_true rfl) (fun X hX hr => ?_)
    refine kr_iconst (v := 0) hX dX10_actsOn_0 (by decide) ?_
    refine kr_istore_n (i := 2) hX dX10_actsOn_1 rfl (by decide) rfl rfl ?_
    refine kr_keep (lv' := [(0, .ref m), (1, .int a0), (2, .int (0 : Int32))]) [0, 1, 2] rfl ?_
    exact xw_actsOn_L2 hX hr hm n _ _ _ h
  exact key (r, μ1) h
def x_comesTo_B2 (n : Nat) (m : Nat) (K2 : Int32 → Int32 → kt_M → Option (Unit × kt_M)) (l1 : Int32) (l2 : Int32) (μ : kt_M) : Option (Unit × kt_M) := (if (4 : Int32) ≤ l2 then kq_b2 (x_actsOn n m μ l1) (fun r_31 μ_31 => some ((), μ_31)) else kq_ck (kq_in (((4 : Int32) * l1) + l2) 64) (kq_ck (kq_in l2 4) (kq_lt (kt_sl μ (m + 7) (Int32.toNatClampNeg l2) (kt_l μ (m + 6) (Int32.toNatClampNeg (((4 : Int32) * l1) + l2)))) (fun μ_22 => K2 l1 (l2 + 1) μ_22))))
set_option maxHeartbeats 4000000 in
set_option maxRecDepth 100000 in
theorem xw_comesTo_B2 {G : kt_G} {σ : kt_Y} {X : kt_X} (hX : kt_ok G X RX10 cX10_comesTo 3 3 0 0) (hr : kt_rt X = none) {m : Nat} (hm : kt_md σ m) {n : Nat} {q : (Unit × kt_M)} {K2 : Int32 → Int32 → kt_M → Option (Unit × kt_M)} (hK2 : ∀ (l1 : Int32) (l2 : Int32) (μ : kt_M), K2 l1 l2 μ = some q → kt_W G X 3 2 [(0, .ref m), (1, .int l1), (2, .int l2)] [] σ μ 0 0 (kt_Z G X (kt_q σ (fun rv μ2 => rv = none ∧ μ2 = q.2)) 0 0)) {l1 : Int32} {l2 : Int32} {μ : kt_M} (h : x_comesTo_B2 n m K2 l1 l2 μ = some q) : kt_W G X 3 2 [(0, .ref m), (1, .int l1), (2, .int l2)] [] σ μ 0 0 (kt_Z G X (kt_q σ (fun rv μ2 => rv = none ∧ μ2 = q.2)) 0 0) := by
  unfold x_comesTo_B2 at h
  refine kr_iload_n (i := 2) hX dX10_comesTo_2 rfl rfl ?_
  refine kr_iconst (v := 4) hX dX10_comesTo_3 (by decide) ?_
  refine kr_icmp_ge (tgt := 29) hX dX10_comesTo_4 (by decide) (fun c_4 => ?_) (fun c_4 => ?_)
  · replace h := kq_t c_4 h
    refine kr_aload_n (i := 0) hX dX10_comesTo_29 rfl rfl ?_
    refine kr_iload_n (i := 1) hX dX10_comesTo_30 rfl rfl ?_
    obtain ⟨r_31, μ_31, e_31, h⟩ := kq_b2_e h
    refine kr_dV (c1 := 10) [_] hX km_10_245 dX10_comesTo_31 (xs_actsOn hm e_31) rfl rfl ⟨_, _, rfl⟩ (by decide) (Nat.le_of_ble_eq_true rfl) (Nat.le_refl _) (Nat.le_refl _) (md_k hm) ?_
    refine kr_vret hX hr dX10_comesTo_34 ⟨rfl, ?_⟩
    exact kq_rV h
  · replace h := kq_f c_4 h
    refine kr_aload_n (i := 0) hX dX10_comesTo_7 rfl rfl ?_
    refine kr_getr (c0 := 10) (k := 14) hX ⟨_, kf_10_34⟩ dX10_comesTo_8 rfl (md_k hm) (md_r14 hm) ?_
    refine kr_iload_n (i := 2) hX dX10_comesTo_11 rfl rfl ?_
    refine kr_aload_n (i := 0) hX dX10_comesTo_12 rfl rfl ?_
    refine kr_getr (c0 := 10) (k := 13) hX ⟨_, kf_10_30⟩ dX10_comesTo_13 rfl (md_k hm) (md_r13 hm) ?_
    refine kr_iconst (v := 4) hX dX10_comesTo_16 (by decide) ?_
    refine kr_iload_n (i := 1) hX dX10_comesTo_17 rfl rfl ?_
    refine kr_imul hX dX10_comesTo_18 ?_
    refine kr_iload_n (i := 2) hX dX10_comesTo_19 rfl rfl ?_
    refine kr_iadd hX dX10_comesTo_20 ?_
    obtain ⟨i_21, h⟩ := kq_ck_e h
    refine kr_lald hX dX10_comesTo_21 (md_a6 hm) (vp_in_iff.mpr i_21) ?_
    obtain ⟨i_22, h⟩ := kq_ck_e h
    refine kr_last hX dX10_comesTo_22 (md_a7 hm) (vp_in_iff.mpr i_22) ?_
    refine kr_ltM h (fun μ_22 h => ?_)
    refine kr_iinc (v := (l2 + 1)) hX dX10_comesTo_23 rfl rfl (by decide) rfl rfl ?_
    refine kr_goto (tgt := 2) hX dX10_comesTo_26 (by decide) ?_
    refine kr_keep (lv' := [(0, .ref m), (1, .int l1), (2, .int (l2 + 1))]) [0, 1, 2] rfl ?_
    exact hK2 _ _ _ h
def x_comesTo_L2 (n : Nat) (m : Nat) : Nat → Int32 → Int32 → kt_M → Option (Unit × kt_M)
  | 0, _, _, _ => none
  | k + 1, l1, l2, μ => x_comesTo_B2 n m (x_comesTo_L2 n m k) l1 l2 μ
set_option maxHeartbeats 4000000 in
set_option maxRecDepth 100000 in
theorem xw_comesTo_L2 {G : kt_G} {σ : kt_Y} {X : kt_X} (hX : kt_ok G X RX10 cX10_comesTo 3 3 0 0) (hr : kt_rt X = none) {m : Nat} (hm : kt_md σ m) {n : Nat} {q : (Unit × kt_M)} : ∀ (k : Nat) (l1 : Int32) (l2 : Int32) (μ : kt_M), x_comesTo_L2 n m k l1 l2 μ = some q → kt_W G X 3 2 [(0, .ref m), (1, .int l1), (2, .int l2)] [] σ μ 0 0 (kt_Z G X (kt_q σ (fun rv μ2 => rv = none ∧ μ2 = q.2)) 0 0) := by
  intro k
  induction k with
  | zero => intro l1 l2 μ h; cases h
  | succ k ih => intro l1 l2 μ h; exact xw_comesTo_B2 hX hr hm ih h
def x_comesTo (n : Nat) (m : Nat) (μ : kt_M) (a0 : Int32) : Option (Unit × kt_M) := x_comesTo_L2 n m n a0 (0 : Int32) μ
set_option maxHeartbeats 4000000 in
set_option maxRecDepth 100000 in
theorem xs_comesTo {G : kt_G} {σ : kt_Y} {μ : kt_M} {m : Nat} (hm : kt_md σ m) {n : Nat} {a0 : Int32} {r : Unit} {μ1 : kt_M} (h : x_comesTo n m μ a0 = some (r, μ1)) : kt_F G yX10_comesTo cX10_comesTo 3 none 3 [.ref m, .int a0] σ μ (fun rv μ2 => rv = none ∧ μ2 = μ1) := by
  have key : ∀ q : (Unit × kt_M), x_comesTo n m μ a0 = some q → kt_F G yX10_comesTo cX10_comesTo 3 none 3 [.ref m, .int a0] σ μ (fun rv μ2 => rv = none ∧ μ2 = q.2) := by
    intro q h
    unfold x_comesTo at h
    refine kt_F.of (by decide) (Nat.le_of_ble_eq_true rfl) (fun X hX hr => ?_)
    refine kr_iconst (v := 0) hX dX10_comesTo_0 (by decide) ?_
    refine kr_istore_n (i := 2) hX dX10_comesTo_1 rfl (by decide) rfl rfl ?_
    refine kr_keep (lv' := [(0, .ref m), (1, .int a0), (2, .int (0 : Int32))]) [0, 1, 2] rfl ?_
    exact xw_comesTo_L2 hX hr hm n _ _ _ h
  exact key (r, μ1) h
def x_lessNumber_J43 (n : Nat) (m : Nat) (s1 : Int32) (s2 : Int64) (μ : kt_M) : Option (Unit × kt_M) := kq_ck (kq_in s1 4) (kq_lt (kt_sl μ (m + 8) (Int32.toNatClampNeg s1) s2) (fun μ_43 => some ((), μ_43)))
set_option maxHeartbeats 4000000 in
set_option maxRecDepth 100000 in
theorem xw_lessNumber_J43 {G : kt_G} {σ : kt_Y} {X : kt_X} (hX : kt_ok G X RX10 cX10_lessNumber 6 1 0 0) (hr : kt_rt X = none) {m : Nat} (hm : kt_md σ m) {n : Nat} {q : (Unit × kt_M)} {s1 : Int32} {s2 : Int64} {μ : kt_M} (h : x_lessNumber_J43 n m s1 s2 μ = some q) : kt_W G X 6 43 [(0, .ref m)] [.long s2, .int s1, .ref (m + 8)] σ μ 0 0 (kt_Z G X (kt_q σ (fun rv μ2 => rv = none ∧ μ2 = q.2)) 0 0) := by
  unfold x_lessNumber_J43 at h
  obtain ⟨i_43, h⟩ := kq_ck_e h
  refine kr_last hX dX10_lessNumber_43 (md_a8 hm) (vp_in_iff.mpr i_43) ?_
  refine kr_ltM h (fun μ_43 h => ?_)
  refine kr_vret hX hr dX10_lessNumber_44 ⟨rfl, ?_⟩
  exact kq_rV h
def x_lessNumber (n : Nat) (m : Nat) (μ : kt_M) (a0 : Int32) (a1 : Int32) (a2 : Int32) : Option (Unit × kt_M) := kq_ck (kq_in a0 4) ((if a2 = 0 then kq_b1 (x_from n (0 : Int32) (a1 - (1 : Int32))) (fun r_23 => x_lessNumber_J43 n m a0 ((kt_l μ (m + 7) (Int32.toNatClampNeg a0)) &&& r_23) μ) else kq_b1 (x_from n a1 (50 : Int32)) (fun r_35 => x_lessNumber_J43 n m a0 ((kt_l μ (m + 7) (Int32.toNatClampNeg a0)) &&& (r_35 ||| (2251799813685248 : Int64))) μ)))
set_option maxHeartbeats 4000000 in
set_option maxRecDepth 100000 in
theorem xs_lessNumber {G : kt_G} {σ : kt_Y} {μ : kt_M} {m : Nat} (hm : kt_md σ m) {n : Nat} {a0 : Int32} {a1 : Int32} {a2 : Int32} {r : Unit} {μ1 : kt_M} (h : x_lessNumber n m μ a0 a1 a2 = some (r, μ1)) : kt_F G yX10_lessNumber cX10_lessNumber 6 none 1 [.ref m, .int a0, .int a1, .int a2] σ μ (fun rv μ2 => rv = none ∧ μ2 = μ1) := by
  have key : ∀ q : (Unit × kt_M), x_lessNumber n m μ a0 a1 a2 = some q → kt_F G yX10_lessNumber cX10_lessNumber 6 none 1 [.ref m, .int a0, .int a1, .int a2] σ μ (fun rv μ2 => rv = none ∧ μ2 = q.2) := by
    intro q h
    unfold x_lessNumber at h
    refine kt_F.of (by decide) (Nat.le_of_ble_eq_true rfl) (fun X hX hr => ?_)
    refine kr_aload_n (i := 0) hX dX10_lessNumber_0 rfl rfl ?_
    refine kr_getr (c0 := 10) (k := 14) hX ⟨_, kf_10_34⟩ dX10_lessNumber_1 rfl (md_k hm) (md_r14 hm) ?_
    refine kr_iload_n (i := 1) hX dX10_lessNumber_4 rfl rfl ?_
    obtain ⟨i_5, h⟩ := kq_ck_e h
    refine kr_lald hX dX10_lessNumber_5 (md_a7 hm) (vp_in_iff.mpr i_5) ?_
    refine kr_lstore hX dX10_lessNumber_6 (by decide) rfl rfl ?_
    refine kr_aload_n (i := 0) hX dX10_lessNumber_8 rfl rfl ?_
    refine kr_getr (c0 := 10) (k := 15) hX ⟨_, kf_10_37⟩ dX10_lessNumber_9 rfl (md_k hm) (md_r15 hm) ?_
    refine kr_iload_n (i := 1) hX dX10_lessNumber_12 rfl rfl ?_
    refine kr_iload_n (i := 3) hX dX10_lessNumber_13 rfl rfl ?_
    refine kr_if_ne (tgt := 30) hX dX10_lessNumber_14 (by decide) (fun c_14 => ?_) (fun c_14 => ?_)
    · replace h := kq_f c_14 h
      refine kr_lload hX dX10_lessNumber_30 rfl ?_
      refine kr_iload_n (i := 2) hX dX10_lessNumber_32 rfl rfl ?_
      refine kr_bipush (v := 50) hX dX10_lessNumber_33 (by decide) ?_
      obtain ⟨r_35, e_35, h⟩ := kq_b1_e h
      refine kr_dS [_, _] hX km_10_211 dX10_lessNumber_35 (xs_from e_35) rfl rfl (by decide) (Nat.le_of_ble_eq_true rfl) (Nat.le_refl _) (Nat.le_refl _) ?_
      refine kr_ldc2 (v := 2251799813685248) hX kw_1252 dX10_lessNumber_38 ?_
      refine kr_lor hX dX10_lessNumber_41 ?_
      refine kr_land hX dX10_lessNumber_42 ?_
      refine kr_keep (lv' := [(0, .ref m)]) [0] rfl ?_
      exact xw_lessNumber_J43 hX hr hm h
    · replace h := kq_t c_14 h
      refine kr_lload hX dX10_lessNumber_17 rfl ?_
      refine kr_iconst (v := 0) hX dX10_lessNumber_19 (by decide) ?_
      refine kr_iload_n (i := 2) hX dX10_lessNumber_20 rfl rfl ?_
      refine kr_iconst (v := 1) hX dX10_lessNumber_21 (by decide) ?_
      refine kr_isub hX dX10_lessNumber_22 ?_
      obtain ⟨r_23, e_23, h⟩ := kq_b1_e h
      refine kr_dS [_, _] hX km_10_211 dX10_lessNumber_23 (xs_from e_23) rfl rfl (by decide) (Nat.le_of_ble_eq_true rfl) (Nat.le_refl _) (Nat.le_refl _) ?_
      refine kr_land hX dX10_lessNumber_26 ?_
      refine kr_goto (tgt := 43) hX dX10_lessNumber_27 (by decide) ?_
      refine kr_keep (lv' := [(0, .ref m)]) [0] rfl ?_
      exact xw_lessNumber_J43 hX hr hm h
  exact key (r, μ1) h
def x_lessVariable_J118 (n : Nat) (m : Nat) (l1 : Int32) (l2 : Int32) (l9 : Int64) (s0 : Int64) (μ : kt_M) : Option (Unit × kt_M) := kq_ck (kq_in l1 4) (kq_ck (kq_in l1 4) (kq_lt (kt_sl μ (m + 8) (Int32.toNatClampNeg l1) ((kt_l μ (m + 8) (Int32.toNatClampNeg l1)) &&& l9)) (fun μ_130 => kq_ck (kq_in l2 4) (kq_ck (kq_in l2 4) (kq_lt (kt_sl μ_130 (m + 8) (Int32.toNatClampNeg l2) ((kt_l μ_130 (m + 8) (Int32.toNatClampNeg l2)) &&& s0)) (fun μ_141 => some ((), μ_141)))))))
set_option maxHeartbeats 4000000 in
set_option maxRecDepth 100000 in
theorem xw_lessVariable_J118 {G : kt_G} {σ : kt_Y} {X : kt_X} (hX : kt_ok G X RX10 cX10_lessVariable 13 1 0 0) (hr : kt_rt X = none) {m : Nat} (hm : kt_md σ m) {n : Nat} {q : (Unit × kt_M)} {l1 : Int32} {l2 : Int32} {l9 : Int64} {s0 : Int64} {μ : kt_M} (h : x_lessVariable_J118 n m l1 l2 l9 s0 μ = some q) : kt_W G X 13 118 [(0, .ref m), (1, .int l1), (2, .int l2), (9, .long l9)] [.long s0] σ μ 0 0 (kt_Z G X (kt_q σ (fun rv μ2 => rv = none ∧ μ2 = q.2)) 0 0) := by
  unfold x_lessVariable_J118 at h
  refine kr_lstore hX dX10_lessVariable_118 (by decide) rfl rfl ?_
  refine kr_aload_n (i := 0) hX dX10_lessVariable_120 rfl rfl ?_
  refine kr_getr (c0 := 10) (k := 15) hX ⟨_, kf_10_37⟩ dX10_lessVariable_121 rfl (md_k hm) (md_r15 hm) ?_
  refine kr_iload_n (i := 1) hX dX10_lessVariable_124 rfl rfl ?_
  refine kr_dup2_11 hX dX10_lessVariable_125 rfl rfl ?_
  obtain ⟨i_126, h⟩ := kq_ck_e h
  refine kr_lald hX dX10_lessVariable_126 (md_a8 hm) (vp_in_iff.mpr i_126) ?_
  refine kr_lload hX dX10_lessVariable_127 rfl ?_
  refine kr_land hX dX10_lessVariable_129 ?_
  obtain ⟨i_130, h⟩ := kq_ck_e h
  refine kr_last hX dX10_lessVariable_130 (md_a8 hm) (vp_in_iff.mpr i_130) ?_
  refine kr_ltM h (fun μ_130 h => ?_)
  refine kr_aload_n (i := 0) hX dX10_lessVariable_131 rfl rfl ?_
  refine kr_getr (c0 := 10) (k := 15) hX ⟨_, kf_10_37⟩ dX10_lessVariable_132 rfl (md_k hm) (md_r15 hm) ?_
  refine kr_iload_n (i := 2) hX dX10_lessVariable_135 rfl rfl ?_
  refine kr_dup2_11 hX dX10_lessVariable_136 rfl rfl ?_
  obtain ⟨i_137, h⟩ := kq_ck_e h
  refine kr_lald hX dX10_lessVariable_137 (md_a8 hm) (vp_in_iff.mpr i_137) ?_
  refine kr_lload hX dX10_lessVariable_138 rfl ?_
  refine kr_land hX dX10_lessVariable_140 ?_
  obtain ⟨i_141, h⟩ := kq_ck_e h
  refine kr_last hX dX10_lessVariable_141 (md_a8 hm) (vp_in_iff.mpr i_141) ?_
  refine kr_ltM h (fun μ_141 h => ?_)
  refine kr_goto (tgt := 187) hX dX10_lessVariable_142 (by decide) ?_
  refine kr_vret hX hr dX10_lessVariable_187 ⟨rfl, ?_⟩
  exact kq_rV h
def x_lessVariable_J86 (n : Nat) (m : Nat) (l1 : Int32) (l2 : Int32) (l4 : Int64) (l6 : Int64) (s0 : Int64) (μ : kt_M) : Option (Unit × kt_M) := (if (lg_cmp l4 (0 : Int64)) = 0 then x_lessVariable_J118 n m l1 l2 s0 (0 : Int64) μ else (if (lg_cmp l6 (0 : Int64)) = 0 then x_lessVariable_J118 n m l1 l2 s0 (0 : Int64) μ else kq_b1 (x_lowOf n l4) (fun r_108 => kq_b1 (x_from n (r_108 + (1 : Int32)) (50 : Int32)) (fun r_115 => x_lessVariable_J118 n m l1 l2 s0 r_115 μ))))
set_option maxHeartbeats 4000000 in
set_option maxRecDepth 100000 in
theorem xw_lessVariable_J86 {G : kt_G} {σ : kt_Y} {X : kt_X} (hX : kt_ok G X RX10 cX10_lessVariable 13 1 0 0) (hr : kt_rt X = none) {m : Nat} (hm : kt_md σ m) {n : Nat} {q : (Unit × kt_M)} {l1 : Int32} {l2 : Int32} {l4 : Int64} {l6 : Int64} {s0 : Int64} {μ : kt_M} (h : x_lessVariable_J86 n m l1 l2 l4 l6 s0 μ = some q) : kt_W G X 13 86 [(0, .ref m), (1, .int l1), (2, .int l2), (4, .long l4), (6, .long l6)] [.long s0] σ μ 0 0 (kt_Z G X (kt_q σ (fun rv μ2 => rv = none ∧ μ2 = q.2)) 0 0) := by
  unfold x_lessVariable_J86 at h
  refine kr_lstore hX dX10_lessVariable_86 (by decide) rfl rfl ?_
  refine kr_lload hX dX10_lessVariable_88 rfl ?_
  refine kr_lconst (v := 0) hX dX10_lessVariable_90 (by decide) ?_
  refine kr_lcmp hX dX10_lessVariable_91 ?_
  refine kr_if_eq (tgt := 102) hX dX10_lessVariable_92 (by decide) (fun c_92 => ?_) (fun c_92 => ?_)
  · replace h := kq_t c_92 h
    refine kr_lconst (v := 0) hX dX10_lessVariable_102 (by decide) ?_
    refine kr_goto (tgt := 118) hX dX10_lessVariable_103 (by decide) ?_
    refine kr_keep (lv' := [(0, .ref m), (1, .int l1), (2, .int l2), (9, .long s0)]) [0, 1, 2, 5] rfl ?_
    exact xw_lessVariable_J118 hX hr hm h
  · replace h := kq_f c_92 h
    refine kr_lload hX dX10_lessVariable_95 rfl ?_
    refine kr_lconst (v := 0) hX dX10_lessVariable_97 (by decide) ?_
    refine kr_lcmp hX dX10_lessVariable_98 ?_
    refine kr_if_ne (tgt := 106) hX dX10_lessVariable_99 (by decide) (fun c_99 => ?_) (fun c_99 => ?_)
    · replace h := kq_f c_99 h
      refine kr_lload hX dX10_lessVariable_106 rfl ?_
      obtain ⟨r_108, e_108, h⟩ := kq_b1_e h
      refine kr_dS [_] hX km_10_204 dX10_lessVariable_108 (xs_lowOf e_108) rfl rfl (by decide) (Nat.le_of_ble_eq_true rfl) (Nat.le_refl _) (Nat.le_refl _) ?_
      refine kr_iconst (v := 1) hX dX10_lessVariable_111 (by decide) ?_
      refine kr_iadd hX dX10_lessVariable_112 ?_
      refine kr_bipush (v := 50) hX dX10_lessVariable_113 (by decide) ?_
      obtain ⟨r_115, e_115, h⟩ := kq_b1_e h
      refine kr_dS [_, _] hX km_10_211 dX10_lessVariable_115 (xs_from e_115) rfl rfl (by decide) (Nat.le_of_ble_eq_true rfl) (Nat.le_refl _) (Nat.le_refl _) ?_
      refine kr_keep (lv' := [(0, .ref m), (1, .int l1), (2, .int l2), (9, .long s0)]) [0, 1, 2, 5] rfl ?_
      exact xw_lessVariable_J118 hX hr hm h
    · replace h := kq_t c_99 h
      refine kr_lconst (v := 0) hX dX10_lessVariable_102 (by decide) ?_
      refine kr_goto (tgt := 118) hX dX10_lessVariable_103 (by decide) ?_
      refine kr_keep (lv' := [(0, .ref m), (1, .int l1), (2, .int l2), (9, .long s0)]) [0, 1, 2, 5] rfl ?_
      exact xw_lessVariable_J118 hX hr hm h
def x_lessVariable_J51 (n : Nat) (m : Nat) (l1 : Int32) (l2 : Int32) (l3 : Int32) (l4 : Int64) (l6 : Int64) (s0 : Int32) (μ : kt_M) : Option (Unit × kt_M) := (if l3 = 0 then (if (lg_cmp l4 (0 : Int64)) = 0 then x_lessVariable_J86 n m l1 l2 l4 l6 (0 : Int64) μ else (if (lg_cmp l6 (0 : Int64)) = 0 then x_lessVariable_J86 n m l1 l2 l4 l6 (0 : Int64) μ else kq_b1 (x_highOf n l6) (fun r_78 => kq_b1 (x_from n (0 : Int32) (r_78 - (1 : Int32))) (fun r_83 => x_lessVariable_J86 n m l1 l2 l4 l6 r_83 μ)))) else (if s0 = 0 then some ((), μ) else kq_ck (kq_in l1 4) (kq_b1 (x_lowOf n l6) (fun r_159 => kq_b1 (x_from n r_159 (50 : Int32)) (fun r_164 => kq_ck (kq_in l1 4) (kq_lt (kt_sl μ (m + 8) (Int32.toNatClampNeg l1) ((kt_l μ (m + 8) (Int32.toNatClampNeg l1)) &&& r_164)) (fun μ_168 => kq_ck (kq_in l2 4) (kq_b1 (x_highOf n l4) (fun r_179 => kq_b1 (x_from n (0 : Int32) r_179) (fun r_182 => kq_ck (kq_in l2 4) (kq_lt (kt_sl μ_168 (m + 8) (Int32.toNatClampNeg l2) ((kt_l μ_168 (m + 8) (Int32.toNatClampNeg l2)) &&& r_182)) (fun μ_186 => some ((), μ_186)))))))))))))
set_option maxHeartbeats 4000000 in
set_option maxRecDepth 100000 in
theorem xw_lessVariable_J51 {G : kt_G} {σ : kt_Y} {X : kt_X} (hX : kt_ok G X RX10 cX10_lessVariable 13 1 0 0) (hr : kt_rt X = none) {m : Nat} (hm : kt_md σ m) {n : Nat} {q : (Unit × kt_M)} {l1 : Int32} {l2 : Int32} {l3 : Int32} {l4 : Int64} {l6 : Int64} {s0 : Int32} {μ : kt_M} (h : x_lessVariable_J51 n m l1 l2 l3 l4 l6 s0 μ = some q) : kt_W G X 13 51 [(0, .ref m), (1, .int l1), (2, .int l2), (3, .int l3), (4, .long l4), (6, .long l6)] [.int s0] σ μ 0 0 (kt_Z G X (kt_q σ (fun rv μ2 => rv = none ∧ μ2 = q.2)) 0 0) := by
  unfold x_lessVariable_J51 at h
  refine kr_istore hX dX10_lessVariable_51 (by decide) rfl rfl ?_
  refine kr_iload_n (i := 3) hX dX10_lessVariable_53 rfl rfl ?_
  refine kr_if_ne (tgt := 145) hX dX10_lessVariable_54 (by decide) (fun c_54 => ?_) (fun c_54 => ?_)
  · replace h := kq_f c_54 h
    refine kr_iload hX dX10_lessVariable_145 rfl ?_
    refine kr_if_eq (tgt := 187) hX dX10_lessVariable_147 (by decide) (fun c_147 => ?_) (fun c_147 => ?_)
    · replace h := kq_t c_147 h
      refine kr_vret hX hr dX10_lessVariable_187 ⟨rfl, ?_⟩
      exact kq_rV h
    · replace h := kq_f c_147 h
      refine kr_aload_n (i := 0) hX dX10_lessVariable_150 rfl rfl ?_
      refine kr_getr (c0 := 10) (k := 15) hX ⟨_, kf_10_37⟩ dX10_lessVariable_151 rfl (md_k hm) (md_r15 hm) ?_
      refine kr_iload_n (i := 1) hX dX10_lessVariable_154 rfl rfl ?_
      refine kr_dup2_11 hX dX10_lessVariable_155 rfl rfl ?_
      obtain ⟨i_156, h⟩ := kq_ck_e h
      refine kr_lald hX dX10_lessVariable_156 (md_a8 hm) (vp_in_iff.mpr i_156) ?_
      refine kr_lload hX dX10_lessVariable_157 rfl ?_
      obtain ⟨r_159, e_159, h⟩ := kq_b1_e h
      refine kr_dS [_] hX km_10_204 dX10_lessVariable_159 (xs_lowOf e_159) rfl rfl (by decide) (Nat.le_of_ble_eq_true rfl) (Nat.le_refl _) (Nat.le_refl _) ?_
      refine kr_bipush (v := 50) hX dX10_lessVariable_162 (by decide) ?_
      obtain ⟨r_164, e_164, h⟩ := kq_b1_e h
      refine kr_dS [_, _] hX km_10_211 dX10_lessVariable_164 (xs_from e_164) rfl rfl (by decide) (Nat.le_of_ble_eq_true rfl) (Nat.le_refl _) (Nat.le_refl _) ?_
      refine kr_land hX dX10_lessVariable_167 ?_
      obtain ⟨i_168, h⟩ := kq_ck_e h
      refine kr_last hX dX10_lessVariable_168 (md_a8 hm) (vp_in_iff.mpr i_168) ?_
      refine kr_ltM h (fun μ_168 h => ?_)
      refine kr_aload_n (i := 0) hX dX10_lessVariable_169 rfl rfl ?_
      refine kr_getr (c0 := 10) (k := 15) hX ⟨_, kf_10_37⟩ dX10_lessVariable_170 rfl (md_k hm) (md_r15 hm) ?_
      refine kr_iload_n (i := 2) hX dX10_lessVariable_173 rfl rfl ?_
      refine kr_dup2_11 hX dX10_lessVariable_174 rfl rfl ?_
      obtain ⟨i_175, h⟩ := kq_ck_e h
      refine kr_lald hX dX10_lessVariable_175 (md_a8 hm) (vp_in_iff.mpr i_175) ?_
      refine kr_iconst (v := 0) hX dX10_lessVariable_176 (by decide) ?_
      refine kr_lload hX dX10_lessVariable_177 rfl ?_
      obtain ⟨r_179, e_179, h⟩ := kq_b1_e h
      refine kr_dS [_] hX km_10_208 dX10_lessVariable_179 (xs_highOf e_179) rfl rfl (by decide) (Nat.le_of_ble_eq_true rfl) (Nat.le_refl _) (Nat.le_refl _) ?_
      obtain ⟨r_182, e_182, h⟩ := kq_b1_e h
      refine kr_dS [_, _] hX km_10_211 dX10_lessVariable_182 (xs_from e_182) rfl rfl (by decide) (Nat.le_of_ble_eq_true rfl) (Nat.le_refl _) (Nat.le_refl _) ?_
      refine kr_land hX dX10_lessVariable_185 ?_
      obtain ⟨i_186, h⟩ := kq_ck_e h
      refine kr_last hX dX10_lessVariable_186 (md_a8 hm) (vp_in_iff.mpr i_186) ?_
      refine kr_ltM h (fun μ_186 h => ?_)
      refine kr_vret hX hr dX10_lessVariable_187 ⟨rfl, ?_⟩
      exact kq_rV h
  · replace h := kq_t c_54 h
    refine kr_lload hX dX10_lessVariable_57 rfl ?_
    refine kr_lconst (v := 0) hX dX10_lessVariable_59 (by decide) ?_
    refine kr_lcmp hX dX10_lessVariable_60 ?_
    refine kr_if_eq (tgt := 71) hX dX10_lessVariable_61 (by decide) (fun c_61 => ?_) (fun c_61 => ?_)
    · replace h := kq_t c_61 h
      refine kr_lconst (v := 0) hX dX10_lessVariable_71 (by decide) ?_
      refine kr_goto (tgt := 86) hX dX10_lessVariable_72 (by decide) ?_
      refine kr_keep (lv' := [(0, .ref m), (1, .int l1), (2, .int l2), (4, .long l4), (6, .long l6)]) [0, 1, 2, 4, 5] rfl ?_
      exact xw_lessVariable_J86 hX hr hm h
    · replace h := kq_f c_61 h
      refine kr_lload hX dX10_lessVariable_64 rfl ?_
      refine kr_lconst (v := 0) hX dX10_lessVariable_66 (by decide) ?_
      refine kr_lcmp hX dX10_lessVariable_67 ?_
      refine kr_if_ne (tgt := 75) hX dX10_lessVariable_68 (by decide) (fun c_68 => ?_) (fun c_68 => ?_)
      · replace h := kq_f c_68 h
        refine kr_iconst (v := 0) hX dX10_lessVariable_75 (by decide) ?_
        refine kr_lload hX dX10_lessVariable_76 rfl ?_
        obtain ⟨r_78, e_78, h⟩ := kq_b1_e h
        refine kr_dS [_] hX km_10_208 dX10_lessVariable_78 (xs_highOf e_78) rfl rfl (by decide) (Nat.le_of_ble_eq_true rfl) (Nat.le_refl _) (Nat.le_refl _) ?_
        refine kr_iconst (v := 1) hX dX10_lessVariable_81 (by decide) ?_
        refine kr_isub hX dX10_lessVariable_82 ?_
        obtain ⟨r_83, e_83, h⟩ := kq_b1_e h
        refine kr_dS [_, _] hX km_10_211 dX10_lessVariable_83 (xs_from e_83) rfl rfl (by decide) (Nat.le_of_ble_eq_true rfl) (Nat.le_refl _) (Nat.le_refl _) ?_
        refine kr_keep (lv' := [(0, .ref m), (1, .int l1), (2, .int l2), (4, .long l4), (6, .long l6)]) [0, 1, 2, 4, 5] rfl ?_
        exact xw_lessVariable_J86 hX hr hm h
      · replace h := kq_t c_68 h
        refine kr_lconst (v := 0) hX dX10_lessVariable_71 (by decide) ?_
        refine kr_goto (tgt := 86) hX dX10_lessVariable_72 (by decide) ?_
        refine kr_keep (lv' := [(0, .ref m), (1, .int l1), (2, .int l2), (4, .long l4), (6, .long l6)]) [0, 1, 2, 4, 5] rfl ?_
        exact xw_lessVariable_J86 hX hr hm h
def x_lessVariable (n : Nat) (m : Nat) (μ : kt_M) (a0 : Int32) (a1 : Int32) (a2 : Int32) : Option (Unit × kt_M) := kq_ck (kq_in a0 4) (kq_ck (kq_in a1 4) (kq_ck (kq_in a0 4) (kq_ck (kq_in a1 4) ((if (lg_cmp (((kt_l μ (m + 7) (Int32.toNatClampNeg a0)) ||| (kt_l μ (m + 7) (Int32.toNatClampNeg a1))) &&& (2251799813685248 : Int64)) (0 : Int64)) = 0 then x_lessVariable_J51 n m a0 a1 a2 ((kt_l μ (m + 7) (Int32.toNatClampNeg a0)) &&& (2251799813685247 : Int64)) ((kt_l μ (m + 7) (Int32.toNatClampNeg a1)) &&& (2251799813685247 : Int64)) (1 : Int32) μ else x_lessVariable_J51 n m a0 a1 a2 ((kt_l μ (m + 7) (Int32.toNatClampNeg a0)) &&& (2251799813685247 : Int64)) ((kt_l μ (m + 7) (Int32.toNatClampNeg a1)) &&& (2251799813685247 : Int64)) (0 : Int32) μ)))))
set_option maxHeartbeats 4000000 in
set_option maxRecDepth 100000 in
theorem xs_lessVariable {G : kt_G} {σ : kt_Y} {μ : kt_M} {m : Nat} (hm : kt_md σ m) {n : Nat} {a0 : Int32} {a1 : Int32} {a2 : Int32} {r : Unit} {μ1 : kt_M} (h : x_lessVariable n m μ a0 a1 a2 = some (r, μ1)) : kt_F G yX10_lessVariable cX10_lessVariable 13 none 1 [.ref m, .int a0, .int a1, .int a2] σ μ (fun rv μ2 => rv = none ∧ μ2 = μ1) := by
  have key : ∀ q : (Unit × kt_M), x_lessVariable n m μ a0 a1 a2 = some q → kt_F G yX10_lessVariable cX10_lessVariable 13 none 1 [.ref m, .int a0, .int a1, .int a2] σ μ (fun rv μ2 => rv = none ∧ μ2 = q.2) := by
    intro q h
    unfold x_lessVariable at h
    refine kt_F.of (by decide) (Nat.le_of_ble_eq_true rfl) (fun X hX hr => ?_)
    refine kr_aload_n (i := 0) hX dX10_lessVariable_0 rfl rfl ?_
    refine kr_getr (c0 := 10) (k := 14) hX ⟨_, kf_10_34⟩ dX10_lessVariable_1 rfl (md_k hm) (md_r14 hm) ?_
    refine kr_iload_n (i := 1) hX dX10_lessVariable_4 rfl rfl ?_
    obtain ⟨i_5, h⟩ := kq_ck_e h
    refine kr_lald hX dX10_lessVariable_5 (md_a7 hm) (vp_in_iff.mpr i_5) ?_
    refine kr_ldc2 (v := 2251799813685247) hX kw_1293 dX10_lessVariable_6 ?_
    refine kr_land hX dX10_lessVariable_9 ?_
    refine kr_lstore hX dX10_lessVariable_10 (by decide) rfl rfl ?_
    refine kr_aload_n (i := 0) hX dX10_lessVariable_12 rfl rfl ?_
    refine kr_getr (c0 := 10) (k := 14) hX ⟨_, kf_10_34⟩ dX10_lessVariable_13 rfl (md_k hm) (md_r14 hm) ?_
    refine kr_iload_n (i := 2) hX dX10_lessVariable_16 rfl rfl ?_
    obtain ⟨i_17, h⟩ := kq_ck_e h
    refine kr_lald hX dX10_lessVariable_17 (md_a7 hm) (vp_in_iff.mpr i_17) ?_
    refine kr_ldc2 (v := 2251799813685247) hX kw_1293 dX10_lessVariable_18 ?_
    refine kr_land hX dX10_lessVariable_21 ?_
    refine kr_lstore hX dX10_lessVariable_22 (by decide) rfl rfl ?_
    refine kr_aload_n (i := 0) hX dX10_lessVariable_24 rfl rfl ?_
    refine kr_getr (c0 := 10) (k := 14) hX ⟨_, kf_10_34⟩ dX10_lessVariable_25 rfl (md_k hm) (md_r14 hm) ?_
    refine kr_iload_n (i := 1) hX dX10_lessVariable_28 rfl rfl ?_
    obtain ⟨i_29, h⟩ := kq_ck_e h
    refine kr_lald hX dX10_lessVariable_29 (md_a7 hm) (vp_in_iff.mpr i_29) ?_
    refine kr_aload_n (i := 0) hX dX10_lessVariable_30 rfl rfl ?_
    refine kr_getr (c0 := 10) (k := 14) hX ⟨_, kf_10_34⟩ dX10_lessVariable_31 rfl (md_k hm) (md_r14 hm) ?_
    refine kr_iload_n (i := 2) hX dX10_lessVariable_34 rfl rfl ?_
    obtain ⟨i_35, h⟩ := kq_ck_e h
    refine kr_lald hX dX10_lessVariable_35 (md_a7 hm) (vp_in_iff.mpr i_35) ?_
    refine kr_lor hX dX10_lessVariable_36 ?_
    refine kr_ldc2 (v := 2251799813685248) hX kw_1252 dX10_lessVariable_37 ?_
    refine kr_land hX dX10_lessVariable_40 ?_
    refine kr_lconst (v := 0) hX dX10_lessVariable_41 (by decide) ?_
    refine kr_lcmp hX dX10_lessVariable_42 ?_
    refine kr_if_ne (tgt := 50) hX dX10_lessVariable_43 (by decide) (fun c_43 => ?_) (fun c_43 => ?_)
    · replace h := kq_f c_43 h
      refine kr_iconst (v := 0) hX dX10_lessVariable_50 (by decide) ?_
      refine kr_keep (lv' := [(0, .ref m), (1, .int a0), (2, .int a1), (3, .int a2), (4, .long ((kt_l μ (m + 7) (Int32.toNatClampNeg a0)) &&& (2251799813685247 : Int64))), (6, .long ((kt_l μ (m + 7) (Int32.toNatClampNeg a1)) &&& (2251799813685247 : Int64)))]) [0, 1, 2, 3, 4, 5] rfl ?_
      exact xw_lessVariable_J51 hX hr hm h
    · replace h := kq_t c_43 h
      refine kr_iconst (v := 1) hX dX10_lessVariable_46 (by decide) ?_
      refine kr_goto (tgt := 51) hX dX10_lessVariable_47 (by decide) ?_
      refine kr_keep (lv' := [(0, .ref m), (1, .int a0), (2, .int a1), (3, .int a2), (4, .long ((kt_l μ (m + 7) (Int32.toNatClampNeg a0)) &&& (2251799813685247 : Int64))), (6, .long ((kt_l μ (m + 7) (Int32.toNatClampNeg a1)) &&& (2251799813685247 : Int64)))]) [0, 1, 2, 3, 4, 5] rfl ?_
      exact xw_lessVariable_J51 hX hr hm h
  exact key (r, μ1) h
def x_filled (n : Nat) (a0 : Int64) : Option Int64 := kq_b1 (x_lowOf n a0) (fun r_1 => (if r_1 = ((-4) : Int32) then some a0 else kq_b1 (x_lowOf n a0) (fun r_15 => kq_b1 (x_highOf n a0) (fun r_19 => kq_b1 (x_from n r_15 r_19) (fun r_22 => some (a0 ||| r_22))))))
set_option maxHeartbeats 4000000 in
set_option maxRecDepth 100000 in
theorem xs_filled {G : kt_G} {σ : kt_Y} {μ : kt_M} {n : Nat} {a0 : Int64} {q : Int64} (h : x_filled n a0 = some q) : kt_F G yX10_filled cX10_filled 2 (some .long) 1 [.long a0] σ μ (fun rv μ2 => rv = some (.long q) ∧ μ2 = μ) := by
  unfold x_filled at h
  refine kt_F.of (by decide) (Nat.le_of_ble_eq_true rfl) (fun X hX hr => ?_)
  refine kr_lload_n (i := 0) hX dX10_filled_0 rfl rfl ?_
  obtain ⟨r_1, e_1, h⟩ := kq_b1_e h
  refine kr_dS [_] hX km_10_204 dX10_filled_1 (xs_lowOf e_1) rfl rfl (by decide) (Nat.le_of_ble_eq_true rfl) (Nat.le_refl _) (Nat.le_refl _) ?_
  refine kr_bipush (v := (-4)) hX dX10_filled_4 (by decide) ?_
  refine kr_icmp_ne (tgt := 13) hX dX10_filled_6 (by decide) (fun c_6 => ?_) (fun c_6 => ?_)
  · replace h := kq_f c_6 h
    refine kr_lload_n (i := 0) hX dX10_filled_13 rfl rfl ?_
    refine kr_lload_n (i := 0) hX dX10_filled_14 rfl rfl ?_
    obtain ⟨r_15, e_15, h⟩ := kq_b1_e h
    refine kr_dS [_] hX km_10_204 dX10_filled_15 (xs_lowOf e_15) rfl rfl (by decide) (Nat.le_of_ble_eq_true rfl) (Nat.le_refl _) (Nat.le_refl _) ?_
    refine kr_lload_n (i := 0) hX dX10_filled_18 rfl rfl ?_
    obtain ⟨r_19, e_19, h⟩ := kq_b1_e h
    refine kr_dS [_] hX km_10_208 dX10_filled_19 (xs_highOf e_19) rfl rfl (by decide) (Nat.le_of_ble_eq_true rfl) (Nat.le_refl _) (Nat.le_refl _) ?_
    obtain ⟨r_22, e_22, h⟩ := kq_b1_e h
    refine kr_dS [_, _] hX km_10_211 dX10_filled_22 (xs_from e_22) rfl rfl (by decide) (Nat.le_of_ble_eq_true rfl) (Nat.le_refl _) (Nat.le_refl _) ?_
    refine kr_lor hX dX10_filled_25 ?_
    refine kr_lret hX hr dX10_filled_26 ⟨rfl, ?_⟩
    exact kq_rJs h
  · replace h := kq_t c_6 h
    refine kr_lload_n (i := 0) hX dX10_filled_9 rfl rfl ?_
    refine kr_goto (tgt := 26) hX dX10_filled_10 (by decide) ?_
    refine kr_lret hX hr dX10_filled_26 ⟨rfl, ?_⟩
    exact kq_rJs h
def x_like_J91 (n : Nat) (m : Nat) (s1 : Int32) (s2 : Int64) (μ : kt_M) : Option (Unit × kt_M) := kq_ck (kq_in s1 4) (kq_lt (kt_sl μ (m + 8) (Int32.toNatClampNeg s1) s2) (fun μ_91 => some ((), μ_91)))
set_option maxHeartbeats 4000000 in
set_option maxRecDepth 100000 in
theorem xw_like_J91 {G : kt_G} {σ : kt_Y} {X : kt_X} (hX : kt_ok G X RX10 cX10_like 7 2 0 0) (hr : kt_rt X = none) {m : Nat} (hm : kt_md σ m) {n : Nat} {q : (Unit × kt_M)} {s1 : Int32} {s2 : Int64} {μ : kt_M} (h : x_like_J91 n m s1 s2 μ = some q) : kt_W G X 7 91 [(0, .ref m)] [.long s2, .int s1, .ref (m + 8)] σ μ 0 0 (kt_Z G X (kt_q σ (fun rv μ2 => rv = none ∧ μ2 = q.2)) 0 0) := by
  unfold x_like_J91 at h
  obtain ⟨i_91, h⟩ := kq_ck_e h
  refine kr_last hX dX10_like_91 (md_a8 hm) (vp_in_iff.mpr i_91) ?_
  refine kr_ltM h (fun μ_91 h => ?_)
  refine kr_vret hX hr dX10_like_92 ⟨rfl, ?_⟩
  exact kq_rV h
def x_like_J47 (n : Nat) (m : Nat) (l1 : Int32) (l2 : Int32) (l3 : Int32) (l4 : Int32) (μ : kt_M) : Option (Unit × kt_M) := (if l2 = 0 then (if l4 = 0 then kq_ck (kq_in l1 4) (x_like_J91 n m l1 ((kt_l μ (m + 7) (Int32.toNatClampNeg l1)) &&& ((1 : Int64) <<< ((l3).toInt64 &&& 63))) μ) else kq_ck (kq_in l1 4) (kq_b1 (x_filled n ((kt_l μ (m + 7) (Int32.toNatClampNeg l1)) &&& (((1 : Int64) <<< ((l3).toInt64 &&& 63)) ^^^ ((-1) : Int64)))) (fun r_88 => x_like_J91 n m l1 r_88 μ))) else some ((), μ))
set_option maxHeartbeats 4000000 in
set_option maxRecDepth 100000 in
theorem xw_like_J47 {G : kt_G} {σ : kt_Y} {X : kt_X} (hX : kt_ok G X RX10 cX10_like 7 2 0 0) (hr : kt_rt X = none) {m : Nat} (hm : kt_md σ m) {n : Nat} {q : (Unit × kt_M)} {l1 : Int32} {l2 : Int32} {l3 : Int32} {l4 : Int32} {μ : kt_M} (h : x_like_J47 n m l1 l2 l3 l4 μ = some q) : kt_W G X 7 47 [(0, .ref m), (1, .int l1), (2, .int l2), (3, .int l3), (4, .int l4)] [] σ μ 0 0 (kt_Z G X (kt_q σ (fun rv μ2 => rv = none ∧ μ2 = q.2)) 0 0) := by
  unfold x_like_J47 at h
  refine kr_iload_n (i := 2) hX dX10_like_47 rfl rfl ?_
  refine kr_if_ne (tgt := 92) hX dX10_like_48 (by decide) (fun c_48 => ?_) (fun c_48 => ?_)
  · replace h := kq_f c_48 h
    refine kr_vret hX hr dX10_like_92 ⟨rfl, ?_⟩
    exact kq_rV h
  · replace h := kq_t c_48 h
    refine kr_aload_n (i := 0) hX dX10_like_51 rfl rfl ?_
    refine kr_getr (c0 := 10) (k := 15) hX ⟨_, kf_10_37⟩ dX10_like_52 rfl (md_k hm) (md_r15 hm) ?_
    refine kr_iload_n (i := 1) hX dX10_like_55 rfl rfl ?_
    refine kr_iload hX dX10_like_56 rfl ?_
    refine kr_if_ne (tgt := 74) hX dX10_like_58 (by decide) (fun c_58 => ?_) (fun c_58 => ?_)
    · replace h := kq_f c_58 h
      refine kr_aload_n (i := 0) hX dX10_like_74 rfl rfl ?_
      refine kr_getr (c0 := 10) (k := 14) hX ⟨_, kf_10_34⟩ dX10_like_75 rfl (md_k hm) (md_r14 hm) ?_
      refine kr_iload_n (i := 1) hX dX10_like_78 rfl rfl ?_
      obtain ⟨i_79, h⟩ := kq_ck_e h
      refine kr_lald hX dX10_like_79 (md_a7 hm) (vp_in_iff.mpr i_79) ?_
      refine kr_lconst (v := 1) hX dX10_like_80 (by decide) ?_
      refine kr_iload_n (i := 3) hX dX10_like_81 rfl rfl ?_
      refine kr_lshl hX dX10_like_82 rfl ?_
      refine kr_ldc2 (v := (-1)) hX kw_1294 dX10_like_83 ?_
      refine kr_lxor hX dX10_like_86 ?_
      refine kr_land hX dX10_like_87 ?_
      obtain ⟨r_88, e_88, h⟩ := kq_b1_e h
      refine kr_dS [_] hX km_10_230 dX10_like_88 (xs_filled e_88) rfl rfl (by decide) (Nat.le_of_ble_eq_true rfl) (Nat.le_refl _) (Nat.le_refl _) ?_
      refine kr_keep (lv' := [(0, .ref m)]) [0] rfl ?_
      exact xw_like_J91 hX hr hm h
    · replace h := kq_t c_58 h
      refine kr_aload_n (i := 0) hX dX10_like_61 rfl rfl ?_
      refine kr_getr (c0 := 10) (k := 14) hX ⟨_, kf_10_34⟩ dX10_like_62 rfl (md_k hm) (md_r14 hm) ?_
      refine kr_iload_n (i := 1) hX dX10_like_65 rfl rfl ?_
      obtain ⟨i_66, h⟩ := kq_ck_e h
      refine kr_lald hX dX10_like_66 (md_a7 hm) (vp_in_iff.mpr i_66) ?_
      refine kr_lconst (v := 1) hX dX10_like_67 (by decide) ?_
      refine kr_iload_n (i := 3) hX dX10_like_68 rfl rfl ?_
      refine kr_lshl hX dX10_like_69 rfl ?_
      refine kr_land hX dX10_like_70 ?_
      refine kr_goto (tgt := 91) hX dX10_like_71 (by decide) ?_
      refine kr_keep (lv' := [(0, .ref m)]) [0] rfl ?_
      exact xw_like_J91 hX hr hm h
def x_like (n : Nat) (m : Nat) (μ : kt_M) (a0 : Int32) (a1 : Int32) (a2 : Int32) (a3 : Int32) : Option (Unit × kt_M) := (if a1 = 0 then x_like_J47 n m a0 a1 a2 a3 μ else (if a3 = 0 then kq_ck (kq_in a0 4) (kq_ck (kq_in a2 4) (kq_ck (kq_in a0 4) (kq_lt (kt_sl μ (m + 8) (Int32.toNatClampNeg a0) (((kt_l μ (m + 7) (Int32.toNatClampNeg a0)) &&& (kt_l μ (m + 7) (Int32.toNatClampNeg a2))) &&& (2251799813685247 : Int64))) (fun μ_35 => kq_ck (kq_in a2 4) (kq_lt (kt_sl μ_35 (m + 8) (Int32.toNatClampNeg a2) (((kt_l μ (m + 7) (Int32.toNatClampNeg a0)) &&& (kt_l μ (m + 7) (Int32.toNatClampNeg a2))) &&& (2251799813685247 : Int64))) (fun μ_43 => some ((), μ_43))))))) else x_like_J47 n m a0 a1 a2 a3 μ))
set_option maxHeartbeats 4000000 in
set_option maxRecDepth 100000 in
theorem xs_like {G : kt_G} {σ : kt_Y} {μ : kt_M} {m : Nat} (hm : kt_md σ m) {n : Nat} {a0 : Int32} {a1 : Int32} {a2 : Int32} {a3 : Int32} {r : Unit} {μ1 : kt_M} (h : x_like n m μ a0 a1 a2 a3 = some (r, μ1)) : kt_F G yX10_like cX10_like 7 none 2 [.ref m, .int a0, .int a1, .int a2, .int a3] σ μ (fun rv μ2 => rv = none ∧ μ2 = μ1) := by
  have key : ∀ q : (Unit × kt_M), x_like n m μ a0 a1 a2 a3 = some q → kt_F G yX10_like cX10_like 7 none 2 [.ref m, .int a0, .int a1, .int a2, .int a3] σ μ (fun rv μ2 => rv = none ∧ μ2 = q.2) := by
    intro q h
    unfold x_like at h
    refine kt_F.of (by decide) (Nat.le_of_ble_eq_true rfl) (fun X hX hr => ?_)
    refine kr_iload_n (i := 2) hX dX10_like_0 rfl rfl ?_
    refine kr_if_eq (tgt := 47) hX dX10_like_1 (by decide) (fun c_1 => ?_) (fun c_1 => ?_)
    · replace h := kq_t c_1 h
      refine kr_keep (lv' := [(0, .ref m), (1, .int a0), (2, .int a1), (3, .int a2), (4, .int a3)]) [0, 1, 2, 3, 4] rfl ?_
      exact xw_like_J47 hX hr hm h
    · replace h := kq_f c_1 h
      refine kr_iload hX dX10_like_4 rfl ?_
      refine kr_if_ne (tgt := 47) hX dX10_like_6 (by decide) (fun c_6 => ?_) (fun c_6 => ?_)
      · replace h := kq_f c_6 h
        refine kr_keep (lv' := [(0, .ref m), (1, .int a0), (2, .int a1), (3, .int a2), (4, .int a3)]) [0, 1, 2, 3, 4] rfl ?_
        exact xw_like_J47 hX hr hm h
      · replace h := kq_t c_6 h
        refine kr_aload_n (i := 0) hX dX10_like_9 rfl rfl ?_
        refine kr_getr (c0 := 10) (k := 14) hX ⟨_, kf_10_34⟩ dX10_like_10 rfl (md_k hm) (md_r14 hm) ?_
        refine kr_iload_n (i := 1) hX dX10_like_13 rfl rfl ?_
        obtain ⟨i_14, h⟩ := kq_ck_e h
        refine kr_lald hX dX10_like_14 (md_a7 hm) (vp_in_iff.mpr i_14) ?_
        refine kr_aload_n (i := 0) hX dX10_like_15 rfl rfl ?_
        refine kr_getr (c0 := 10) (k := 14) hX ⟨_, kf_10_34⟩ dX10_like_16 rfl (md_k hm) (md_r14 hm) ?_
        refine kr_iload_n (i := 3) hX dX10_like_19 rfl rfl ?_
        obtain ⟨i_20, h⟩ := kq_ck_e h
        refine kr_lald hX dX10_like_20 (md_a7 hm) (vp_in_iff.mpr i_20) ?_
        refine kr_land hX dX10_like_21 ?_
        refine kr_ldc2 (v := 2251799813685247) hX kw_1293 dX10_like_22 ?_
        refine kr_land hX dX10_like_25 ?_
        refine kr_lstore hX dX10_like_26 (by decide) rfl rfl ?_
        refine kr_aload_n (i := 0) hX dX10_like_28 rfl rfl ?_
        refine kr_getr (c0 := 10) (k := 15) hX ⟨_, kf_10_37⟩ dX10_like_29 rfl (md_k hm) (md_r15 hm) ?_
        refine kr_iload_n (i := 1) hX dX10_like_32 rfl rfl ?_
        refine kr_lload hX dX10_like_33 rfl ?_
        obtain ⟨i_35, h⟩ := kq_ck_e h
        refine kr_last hX dX10_like_35 (md_a8 hm) (vp_in_iff.mpr i_35) ?_
        refine kr_ltM h (fun μ_35 h => ?_)
        refine kr_aload_n (i := 0) hX dX10_like_36 rfl rfl ?_
        refine kr_getr (c0 := 10) (k := 15) hX ⟨_, kf_10_37⟩ dX10_like_37 rfl (md_k hm) (md_r15 hm) ?_
        refine kr_iload_n (i := 3) hX dX10_like_40 rfl rfl ?_
        refine kr_lload hX dX10_like_41 rfl ?_
        obtain ⟨i_43, h⟩ := kq_ck_e h
        refine kr_last hX dX10_like_43 (md_a8 hm) (vp_in_iff.mpr i_43) ?_
        refine kr_ltM h (fun μ_43 h => ?_)
        refine kr_goto (tgt := 92) hX dX10_like_44 (by decide) ?_
        refine kr_vret hX hr dX10_like_92 ⟨rfl, ?_⟩
        exact kq_rV h
  exact key (r, μ1) h
def x_goesAlong_J136 (n : Nat) (m : Nat) (μ : kt_M) : Option (Int32 × kt_M) := (if (lg_cmp (kt_l μ (m + 8) (Int32.toNatClampNeg (0 : Int32))) (0 : Int64)) = 0 then some ((0 : Int32), μ) else (if (lg_cmp (kt_l μ (m + 8) (Int32.toNatClampNeg (1 : Int32))) (0 : Int64)) = 0 then some ((0 : Int32), μ) else (if (lg_cmp (kt_l μ (m + 8) (Int32.toNatClampNeg (2 : Int32))) (0 : Int64)) = 0 then some ((0 : Int32), μ) else (if (lg_cmp (kt_l μ (m + 8) (Int32.toNatClampNeg (3 : Int32))) (0 : Int64)) = 0 then some ((0 : Int32), μ) else some ((1 : Int32), μ)))))
set_option maxHeartbeats 4000000 in
set_option maxRecDepth 100000 in
theorem xw_goesAlong_J136 {G : kt_G} {σ : kt_Y} {X : kt_X} (hX : kt_ok G X RX10 cX10_goesAlong 6 3 0 0) (hr : kt_rt X = (some .boolean)) {m : Nat} (hm : kt_md σ m) {n : Nat} {q : (Int32 × kt_M)} {μ : kt_M} (h : x_goesAlong_J136 n m μ = some q) : kt_W G X 6 136 [(0, .ref m)] [] σ μ 0 0 (kt_Z G X (kt_q σ (fun rv μ2 => rv = some (.int q.1) ∧ μ2 = q.2)) 0 0) := by
  unfold x_goesAlong_J136 at h
  refine kr_aload_n (i := 0) hX dX10_goesAlong_136 rfl rfl ?_
  refine kr_getr (c0 := 10) (k := 15) hX ⟨_, kf_10_37⟩ dX10_goesAlong_137 rfl (md_k hm) (md_r15 hm) ?_
  refine kr_iconst (v := 0) hX dX10_goesAlong_140 (by decide) ?_
  refine kr_lald hX dX10_goesAlong_141 (md_a8 hm) (vp_in_iff.mpr (by decide)) ?_
  refine kr_lconst (v := 0) hX dX10_goesAlong_142 (by decide) ?_
  refine kr_lcmp hX dX10_goesAlong_143 ?_
  refine kr_if_eq (tgt := 184) hX dX10_goesAlong_144 (by decide) (fun c_144 => ?_) (fun c_144 => ?_)
  · replace h := kq_t c_144 h
    refine kr_iconst (v := 0) hX dX10_goesAlong_184 (by decide) ?_
    refine kr_zret hX hr (by decide) dX10_goesAlong_185 ⟨rfl, ?_⟩
    exact kq_rI h
  · replace h := kq_f c_144 h
    refine kr_aload_n (i := 0) hX dX10_goesAlong_147 rfl rfl ?_
    refine kr_getr (c0 := 10) (k := 15) hX ⟨_, kf_10_37⟩ dX10_goesAlong_148 rfl (md_k hm) (md_r15 hm) ?_
    refine kr_iconst (v := 1) hX dX10_goesAlong_151 (by decide) ?_
    refine kr_lald hX dX10_goesAlong_152 (md_a8 hm) (vp_in_iff.mpr (by decide)) ?_
    refine kr_lconst (v := 0) hX dX10_goesAlong_153 (by decide) ?_
    refine kr_lcmp hX dX10_goesAlong_154 ?_
    refine kr_if_eq (tgt := 184) hX dX10_goesAlong_155 (by decide) (fun c_155 => ?_) (fun c_155 => ?_)
    · replace h := kq_t c_155 h
      refine kr_iconst (v := 0) hX dX10_goesAlong_184 (by decide) ?_
      refine kr_zret hX hr (by decide) dX10_goesAlong_185 ⟨rfl, ?_⟩
      exact kq_rI h
    · replace h := kq_f c_155 h
      refine kr_aload_n (i := 0) hX dX10_goesAlong_158 rfl rfl ?_
      refine kr_getr (c0 := 10) (k := 15) hX ⟨_, kf_10_37⟩ dX10_goesAlong_159 rfl (md_k hm) (md_r15 hm) ?_
      refine kr_iconst (v := 2) hX dX10_goesAlong_162 (by decide) ?_
      refine kr_lald hX dX10_goesAlong_163 (md_a8 hm) (vp_in_iff.mpr (by decide)) ?_
      refine kr_lconst (v := 0) hX dX10_goesAlong_164 (by decide) ?_
      refine kr_lcmp hX dX10_goesAlong_165 ?_
      refine kr_if_eq (tgt := 184) hX dX10_goesAlong_166 (by decide) (fun c_166 => ?_) (fun c_166 => ?_)
      · replace h := kq_t c_166 h
        refine kr_iconst (v := 0) hX dX10_goesAlong_184 (by decide) ?_
        refine kr_zret hX hr (by decide) dX10_goesAlong_185 ⟨rfl, ?_⟩
        exact kq_rI h
      · replace h := kq_f c_166 h
        refine kr_aload_n (i := 0) hX dX10_goesAlong_169 rfl rfl ?_
        refine kr_getr (c0 := 10) (k := 15) hX ⟨_, kf_10_37⟩ dX10_goesAlong_170 rfl (md_k hm) (md_r15 hm) ?_
        refine kr_iconst (v := 3) hX dX10_goesAlong_173 (by decide) ?_
        refine kr_lald hX dX10_goesAlong_174 (md_a8 hm) (vp_in_iff.mpr (by decide)) ?_
        refine kr_lconst (v := 0) hX dX10_goesAlong_175 (by decide) ?_
        refine kr_lcmp hX dX10_goesAlong_176 ?_
        refine kr_if_eq (tgt := 184) hX dX10_goesAlong_177 (by decide) (fun c_177 => ?_) (fun c_177 => ?_)
        · replace h := kq_t c_177 h
          refine kr_iconst (v := 0) hX dX10_goesAlong_184 (by decide) ?_
          refine kr_zret hX hr (by decide) dX10_goesAlong_185 ⟨rfl, ?_⟩
          exact kq_rI h
        · replace h := kq_f c_177 h
          refine kr_iconst (v := 1) hX dX10_goesAlong_180 (by decide) ?_
          refine kr_goto (tgt := 185) hX dX10_goesAlong_181 (by decide) ?_
          refine kr_zret hX hr (by decide) dX10_goesAlong_185 ⟨rfl, ?_⟩
          exact kq_rI h
def x_goesAlong_J116 (n : Nat) (m : Nat) (l1 : Int32) (l2 : Int32) (l3 : Int32) (l4 : Int32) (μ : kt_M) : Option (Int32 × kt_M) := kq_b2 (x_of n m μ (1 : Int32) l1 (13 : Int32)) (fun r_121 μ_121 => (if r_121 = (2 : Int32) then kq_b2 (x_lessNumber n m μ_121 l3 l4 l2) (fun r_133 μ_133 => x_goesAlong_J136 n m μ_133) else x_goesAlong_J136 n m μ_121))
set_option maxHeartbeats 4000000 in
set_option maxRecDepth 100000 in
theorem xw_goesAlong_J116 {G : kt_G} {σ : kt_Y} {X : kt_X} (hX : kt_ok G X RX10 cX10_goesAlong 6 3 0 0) (hr : kt_rt X = (some .boolean)) {m : Nat} (hm : kt_md σ m) {n : Nat} {q : (Int32 × kt_M)} {l1 : Int32} {l2 : Int32} {l3 : Int32} {l4 : Int32} {μ : kt_M} (h : x_goesAlong_J116 n m l1 l2 l3 l4 μ = some q) : kt_W G X 6 116 [(0, .ref m), (1, .int l1), (2, .int l2), (3, .int l3), (4, .int l4)] [] σ μ 0 0 (kt_Z G X (kt_q σ (fun rv μ2 => rv = some (.int q.1) ∧ μ2 = q.2)) 0 0) := by
  unfold x_goesAlong_J116 at h
  refine kr_aload_n (i := 0) hX dX10_goesAlong_116 rfl rfl ?_
  refine kr_iconst (v := 1) hX dX10_goesAlong_117 (by decide) ?_
  refine kr_iload_n (i := 1) hX dX10_goesAlong_118 rfl rfl ?_
  refine kr_bipush (v := 13) hX dX10_goesAlong_119 (by decide) ?_
  obtain ⟨r_121, μ_121, e_121, h⟩ := kq_b2_e h
  refine kr_dV (c1 := 10) [_, _, _] hX km_10_175 dX10_goesAlong_121 (xs_of hm e_121) rfl rfl ⟨_, _, rfl⟩ (by decide) (Nat.le_of_ble_eq_true rfl) (Nat.le_refl _) (Nat.le_refl _) (md_k hm) ?_
  refine kr_iconst (v := 2) hX dX10_goesAlong_124 (by decide) ?_
  refine kr_icmp_ne (tgt := 136) hX dX10_goesAlong_125 (by decide) (fun c_125 => ?_) (fun c_125 => ?_)
  · replace h := kq_f c_125 h
    refine kr_keep (lv' := [(0, .ref m)]) [0] rfl ?_
    exact xw_goesAlong_J136 hX hr hm h
  · replace h := kq_t c_125 h
    refine kr_aload_n (i := 0) hX dX10_goesAlong_128 rfl rfl ?_
    refine kr_iload_n (i := 3) hX dX10_goesAlong_129 rfl rfl ?_
    refine kr_iload hX dX10_goesAlong_130 rfl ?_
    refine kr_iload_n (i := 2) hX dX10_goesAlong_132 rfl rfl ?_
    obtain ⟨r_133, μ_133, e_133, h⟩ := kq_b2_e h
    refine kr_dV (c1 := 10) [_, _, _] hX km_10_242 dX10_goesAlong_133 (xs_lessNumber hm e_133) rfl rfl ⟨_, _, rfl⟩ (by decide) (Nat.le_of_ble_eq_true rfl) (Nat.le_refl _) (Nat.le_refl _) (md_k hm) ?_
    refine kr_keep (lv' := [(0, .ref m)]) [0] rfl ?_
    exact xw_goesAlong_J136 hX hr hm h
def x_goesAlong_J61 (n : Nat) (m : Nat) (l1 : Int32) (l2 : Int32) (l3 : Int32) (l4 : Int32) (s0 : Int32) (μ : kt_M) : Option (Int32 × kt_M) := kq_b2 (x_of n m μ (1 : Int32) l1 (13 : Int32)) (fun r_68 μ_68 => (if r_68 = (3 : Int32) then kq_b2 (x_like n m μ_68 l3 s0 l4 l2) (fun r_82 μ_82 => x_goesAlong_J136 n m μ_82) else kq_b2 (x_of n m μ_68 (1 : Int32) l1 (13 : Int32)) (fun r_93 μ_93 => (if r_93 = (2 : Int32) then (if s0 = 0 then x_goesAlong_J116 n m l1 l2 l3 l4 μ_93 else kq_b2 (x_lessVariable n m μ_93 l3 l4 l2) (fun r_110 μ_110 => x_goesAlong_J136 n m μ_110)) else x_goesAlong_J116 n m l1 l2 l3 l4 μ_93))))
set_option maxHeartbeats 4000000 in
set_option maxRecDepth 100000 in
theorem xw_goesAlong_J61 {G : kt_G} {σ : kt_Y} {X : kt_X} (hX : kt_ok G X RX10 cX10_goesAlong 6 3 0 0) (hr : kt_rt X = (some .boolean)) {m : Nat} (hm : kt_md σ m) {n : Nat} {q : (Int32 × kt_M)} {l1 : Int32} {l2 : Int32} {l3 : Int32} {l4 : Int32} {s0 : Int32} {μ : kt_M} (h : x_goesAlong_J61 n m l1 l2 l3 l4 s0 μ = some q) : kt_W G X 6 61 [(0, .ref m), (1, .int l1), (2, .int l2), (3, .int l3), (4, .int l4)] [.int s0] σ μ 0 0 (kt_Z G X (kt_q σ (fun rv μ2 => rv = some (.int q.1) ∧ μ2 = q.2)) 0 0) := by
  unfold x_goesAlong_J61 at h
  refine kr_istore hX dX10_goesAlong_61 (by decide) rfl rfl ?_
  refine kr_aload_n (i := 0) hX dX10_goesAlong_63 rfl rfl ?_
  refine kr_iconst (v := 1) hX dX10_goesAlong_64 (by decide) ?_
  refine kr_iload_n (i := 1) hX dX10_goesAlong_65 rfl rfl ?_
  refine kr_bipush (v := 13) hX dX10_goesAlong_66 (by decide) ?_
  obtain ⟨r_68, μ_68, e_68, h⟩ := kq_b2_e h
  refine kr_dV (c1 := 10) [_, _, _] hX km_10_175 dX10_goesAlong_68 (xs_of hm e_68) rfl rfl ⟨_, _, rfl⟩ (by decide) (Nat.le_of_ble_eq_true rfl) (Nat.le_refl _) (Nat.le_refl _) (md_k hm) ?_
  refine kr_iconst (v := 3) hX dX10_goesAlong_71 (by decide) ?_
  refine kr_icmp_ne (tgt := 88) hX dX10_goesAlong_72 (by decide) (fun c_72 => ?_) (fun c_72 => ?_)
  · replace h := kq_f c_72 h
    refine kr_aload_n (i := 0) hX dX10_goesAlong_88 rfl rfl ?_
    refine kr_iconst (v := 1) hX dX10_goesAlong_89 (by decide) ?_
    refine kr_iload_n (i := 1) hX dX10_goesAlong_90 rfl rfl ?_
    refine kr_bipush (v := 13) hX dX10_goesAlong_91 (by decide) ?_
    obtain ⟨r_93, μ_93, e_93, h⟩ := kq_b2_e h
    refine kr_dV (c1 := 10) [_, _, _] hX km_10_175 dX10_goesAlong_93 (xs_of hm e_93) rfl rfl ⟨_, _, rfl⟩ (by decide) (Nat.le_of_ble_eq_true rfl) (Nat.le_refl _) (Nat.le_refl _) (md_k hm) ?_
    refine kr_iconst (v := 2) hX dX10_goesAlong_96 (by decide) ?_
    refine kr_icmp_ne (tgt := 116) hX dX10_goesAlong_97 (by decide) (fun c_97 => ?_) (fun c_97 => ?_)
    · replace h := kq_f c_97 h
      refine kr_keep (lv' := [(0, .ref m), (1, .int l1), (2, .int l2), (3, .int l3), (4, .int l4)]) [0, 1, 2, 3, 4] rfl ?_
      exact xw_goesAlong_J116 hX hr hm h
    · replace h := kq_t c_97 h
      refine kr_iload hX dX10_goesAlong_100 rfl ?_
      refine kr_if_eq (tgt := 116) hX dX10_goesAlong_102 (by decide) (fun c_102 => ?_) (fun c_102 => ?_)
      · replace h := kq_t c_102 h
        refine kr_keep (lv' := [(0, .ref m), (1, .int l1), (2, .int l2), (3, .int l3), (4, .int l4)]) [0, 1, 2, 3, 4] rfl ?_
        exact xw_goesAlong_J116 hX hr hm h
      · replace h := kq_f c_102 h
        refine kr_aload_n (i := 0) hX dX10_goesAlong_105 rfl rfl ?_
        refine kr_iload_n (i := 3) hX dX10_goesAlong_106 rfl rfl ?_
        refine kr_iload hX dX10_goesAlong_107 rfl ?_
        refine kr_iload_n (i := 2) hX dX10_goesAlong_109 rfl rfl ?_
        obtain ⟨r_110, μ_110, e_110, h⟩ := kq_b2_e h
        refine kr_dV (c1 := 10) [_, _, _] hX km_10_238 dX10_goesAlong_110 (xs_lessVariable hm e_110) rfl rfl ⟨_, _, rfl⟩ (by decide) (Nat.le_of_ble_eq_true rfl) (Nat.le_refl _) (Nat.le_refl _) (md_k hm) ?_
        refine kr_goto (tgt := 136) hX dX10_goesAlong_113 (by decide) ?_
        refine kr_keep (lv' := [(0, .ref m)]) [0] rfl ?_
        exact xw_goesAlong_J136 hX hr hm h
  · replace h := kq_t c_72 h
    refine kr_aload_n (i := 0) hX dX10_goesAlong_75 rfl rfl ?_
    refine kr_iload_n (i := 3) hX dX10_goesAlong_76 rfl rfl ?_
    refine kr_iload hX dX10_goesAlong_77 rfl ?_
    refine kr_iload hX dX10_goesAlong_79 rfl ?_
    refine kr_iload_n (i := 2) hX dX10_goesAlong_81 rfl rfl ?_
    obtain ⟨r_82, μ_82, e_82, h⟩ := kq_b2_e h
    refine kr_dV (c1 := 10) [_, _, _, _] hX km_10_234 dX10_goesAlong_82 (xs_like hm e_82) rfl rfl ⟨_, _, rfl⟩ (by decide) (Nat.le_of_ble_eq_true rfl) (Nat.le_refl _) (Nat.le_refl _) (md_k hm) ?_
    refine kr_goto (tgt := 136) hX dX10_goesAlong_85 (by decide) ?_
    refine kr_keep (lv' := [(0, .ref m)]) [0] rfl ?_
    exact xw_goesAlong_J136 hX hr hm h
def x_goesAlong_B2 (n : Nat) (m : Nat) (K2 : Int32 → Int32 → Int32 → kt_M → Option (Int32 × kt_M)) (l1 : Int32) (l2 : Int32) (l3 : Int32) (μ : kt_M) : Option (Int32 × kt_M) := (if (4 : Int32) ≤ l3 then kq_b2 (x_of n m μ (1 : Int32) l1 (16 : Int32)) (fun r_30 μ_30 => kq_b2 (x_of n m μ_30 (1 : Int32) l1 (18 : Int32)) (fun r_39 μ_39 => kq_b2 (x_of n m μ_39 (1 : Int32) l1 (17 : Int32)) (fun r_49 μ_49 => (if r_49 = (1 : Int32) then x_goesAlong_J61 n m l1 l2 r_30 r_39 (1 : Int32) μ_49 else x_goesAlong_J61 n m l1 l2 r_30 r_39 (0 : Int32) μ_49)))) else kq_ck (kq_in l3 4) (kq_ck (kq_in l3 4) (kq_lt (kt_sl μ (m + 8) (Int32.toNatClampNeg l3) (kt_l μ (m + 7) (Int32.toNatClampNeg l3))) (fun μ_18 => K2 l1 l2 (l3 + 1) μ_18))))
set_option maxHeartbeats 4000000 in
set_option maxRecDepth 100000 in
theorem xw_goesAlong_B2 {G : kt_G} {σ : kt_Y} {X : kt_X} (hX : kt_ok G X RX10 cX10_goesAlong 6 3 0 0) (hr : kt_rt X = (some .boolean)) {m : Nat} (hm : kt_md σ m) {n : Nat} {q : (Int32 × kt_M)} {K2 : Int32 → Int32 → Int32 → kt_M → Option (Int32 × kt_M)} (hK2 : ∀ (l1 : Int32) (l2 : Int32) (l3 : Int32) (μ : kt_M), K2 l1 l2 l3 μ = some q → kt_W G X 6 2 [(0, .ref m), (1, .int l1), (2, .int l2), (3, .int l3)] [] σ μ 0 0 (kt_Z G X (kt_q σ (fun rv μ2 => rv = some (.int q.1) ∧ μ2 = q.2)) 0 0)) {l1 : Int32} {l2 : Int32} {l3 : Int32} {μ : kt_M} (h : x_goesAlong_B2 n m K2 l1 l2 l3 μ = some q) : kt_W G X 6 2 [(0, .ref m), (1, .int l1), (2, .int l2), (3, .int l3)] [] σ μ 0 0 (kt_Z G X (kt_q σ (fun rv μ2 => rv = some (.int q.1) ∧ μ2 = q.2)) 0 0) := by
  unfold x_goesAlong_B2 at h
  refine kr_iload_n (i := 3) hX dX10_goesAlong_2 rfl rfl ?_
  refine kr_iconst (v := 4) hX dX10_goesAlong_3 (by decide) ?_
  refine kr_icmp_ge (tgt := 25) hX dX10_goesAlong_4 (by decide) (fun c_4 => ?_) (fun c_4 => ?_)
  · replace h := kq_t c_4 h
    refine kr_aload_n (i := 0) hX dX10_goesAlong_25 rfl rfl ?_
    refine kr_iconst (v := 1) hX dX10_goesAlong_26 (by decide) ?_
    refine kr_iload_n (i := 1) hX dX10_goesAlong_27 rfl rfl ?_
    refine kr_bipush (v := 16) hX dX10_goesAlong_28 (by decide) ?_
    obtain ⟨r_30, μ_30, e_30, h⟩ := kq_b2_e h
    refine kr_dV (c1 := 10) [_, _, _] hX km_10_175 dX10_goesAlong_30 (xs_of hm e_30) rfl rfl ⟨_, _, rfl⟩ (by decide) (Nat.le_of_ble_eq_true rfl) (Nat.le_refl _) (Nat.le_refl _) (md_k hm) ?_
    refine kr_istore_n (i := 3) hX dX10_goesAlong_33 rfl (by decide) rfl rfl ?_
    refine kr_aload_n (i := 0) hX dX10_goesAlong_34 rfl rfl ?_
    refine kr_iconst (v := 1) hX dX10_goesAlong_35 (by decide) ?_
    refine kr_iload_n (i := 1) hX dX10_goesAlong_36 rfl rfl ?_
    refine kr_bipush (v := 18) hX dX10_goesAlong_37 (by decide) ?_
    obtain ⟨r_39, μ_39, e_39, h⟩ := kq_b2_e h
    refine kr_dV (c1 := 10) [_, _, _] hX km_10_175 dX10_goesAlong_39 (xs_of hm e_39) rfl rfl ⟨_, _, rfl⟩ (by decide) (Nat.le_of_ble_eq_true rfl) (Nat.le_refl _) (Nat.le_refl _) (md_k hm) ?_
    refine kr_istore hX dX10_goesAlong_42 (by decide) rfl rfl ?_
    refine kr_aload_n (i := 0) hX dX10_goesAlong_44 rfl rfl ?_
    refine kr_iconst (v := 1) hX dX10_goesAlong_45 (by decide) ?_
    refine kr_iload_n (i := 1) hX dX10_goesAlong_46 rfl rfl ?_
    refine kr_bipush (v := 17) hX dX10_goesAlong_47 (by decide) ?_
    obtain ⟨r_49, μ_49, e_49, h⟩ := kq_b2_e h
    refine kr_dV (c1 := 10) [_, _, _] hX km_10_175 dX10_goesAlong_49 (xs_of hm e_49) rfl rfl ⟨_, _, rfl⟩ (by decide) (Nat.le_of_ble_eq_true rfl) (Nat.le_refl _) (Nat.le_refl _) (md_k hm) ?_
    refine kr_iconst (v := 1) hX dX10_goesAlong_52 (by decide) ?_
    refine kr_icmp_ne (tgt := 60) hX dX10_goesAlong_53 (by decide) (fun c_53 => ?_) (fun c_53 => ?_)
    · replace h := kq_f c_53 h
      refine kr_iconst (v := 0) hX dX10_goesAlong_60 (by decide) ?_
      refine kr_keep (lv' := [(0, .ref m), (1, .int l1), (2, .int l2), (3, .int r_30), (4, .int r_39)]) [0, 1, 2, 3, 4] rfl ?_
      exact xw_goesAlong_J61 hX hr hm h
    · replace h := kq_t c_53 h
      refine kr_iconst (v := 1) hX dX10_goesAlong_56 (by decide) ?_
      refine kr_goto (tgt := 61) hX dX10_goesAlong_57 (by decide) ?_
      refine kr_keep (lv' := [(0, .ref m), (1, .int l1), (2, .int l2), (3, .int r_30), (4, .int r_39)]) [0, 1, 2, 3, 4] rfl ?_
      exact xw_goesAlong_J61 hX hr hm h
  · replace h := kq_f c_4 h
    refine kr_aload_n (i := 0) hX dX10_goesAlong_7 rfl rfl ?_
    refine kr_getr (c0 := 10) (k := 15) hX ⟨_, kf_10_37⟩ dX10_goesAlong_8 rfl (md_k hm) (md_r15 hm) ?_
    refine kr_iload_n (i := 3) hX dX10_goesAlong_11 rfl rfl ?_
    refine kr_aload_n (i := 0) hX dX10_goesAlong_12 rfl rfl ?_
    refine kr_getr (c0 := 10) (k := 14) hX ⟨_, kf_10_34⟩ dX10_goesAlong_13 rfl (md_k hm) (md_r14 hm) ?_
    refine kr_iload_n (i := 3) hX dX10_goesAlong_16 rfl rfl ?_
    obtain ⟨i_17, h⟩ := kq_ck_e h
    refine kr_lald hX dX10_goesAlong_17 (md_a7 hm) (vp_in_iff.mpr i_17) ?_
    obtain ⟨i_18, h⟩ := kq_ck_e h
    refine kr_last hX dX10_goesAlong_18 (md_a8 hm) (vp_in_iff.mpr i_18) ?_
    refine kr_ltM h (fun μ_18 h => ?_)
    refine kr_iinc (v := (l3 + 1)) hX dX10_goesAlong_19 rfl rfl (by decide) rfl rfl ?_
    refine kr_goto (tgt := 2) hX dX10_goesAlong_22 (by decide) ?_
    refine kr_keep (lv' := [(0, .ref m), (1, .int l1), (2, .int l2), (3, .int (l3 + 1))]) [0, 1, 2, 3] rfl ?_
    exact hK2 _ _ _ _ h
def x_goesAlong_L2 (n : Nat) (m : Nat) : Nat → Int32 → Int32 → Int32 → kt_M → Option (Int32 × kt_M)
  | 0, _, _, _, _ => none
  | k + 1, l1, l2, l3, μ => x_goesAlong_B2 n m (x_goesAlong_L2 n m k) l1 l2 l3 μ
set_option maxHeartbeats 4000000 in
set_option maxRecDepth 100000 in
theorem xw_goesAlong_L2 {G : kt_G} {σ : kt_Y} {X : kt_X} (hX : kt_ok G X RX10 cX10_goesAlong 6 3 0 0) (hr : kt_rt X = (some .boolean)) {m : Nat} (hm : kt_md σ m) {n : Nat} {q : (Int32 × kt_M)} : ∀ (k : Nat) (l1 : Int32) (l2 : Int32) (l3 : Int32) (μ : kt_M), x_goesAlong_L2 n m k l1 l2 l3 μ = some q → kt_W G X 6 2 [(0, .ref m), (1, .int l1), (2, .int l2), (3, .int l3)] [] σ μ 0 0 (kt_Z G X (kt_q σ (fun rv μ2 => rv = some (.int q.1) ∧ μ2 = q.2)) 0 0) := by
  intro k
  induction k with
  | zero => intro l1 l2 l3 μ h; cases h
  | succ k ih => intro l1 l2 l3 μ h; exact xw_goesAlong_B2 hX hr hm ih h
def x_goesAlong (n : Nat) (m : Nat) (μ : kt_M) (a0 : Int32) (a1 : Int32) : Option (Int32 × kt_M) := x_goesAlong_L2 n m n a0 a1 (0 : Int32) μ
set_option maxHeartbeats 4000000 in
set_option maxRecDepth 100000 in
theorem xs_goesAlong {G : kt_G} {σ : kt_Y} {μ : kt_M} {m : Nat} (hm : kt_md σ m) {n : Nat} {a0 : Int32} {a1 : Int32} {r : Int32} {μ1 : kt_M} (h : x_goesAlong n m μ a0 a1 = some (r, μ1)) : kt_F G yX10_goesAlong cX10_goesAlong 6 (some .boolean) 3 [.ref m, .int a0, .int a1] σ μ (fun rv μ2 => rv = some (.int r) ∧ μ2 = μ1) := by
  have key : ∀ q : (Int32 × kt_M), x_goesAlong n m μ a0 a1 = some q → kt_F G yX10_goesAlong cX10_goesAlong 6 (some .boolean) 3 [.ref m, .int a0, .int a1] σ μ (fun rv μ2 => rv = some (.int q.1) ∧ μ2 = q.2) := by
    intro q h
    unfold x_goesAlong at h
    refine kt_F.of (by decide) (Nat.le_of_ble_eq_true rfl) (fun X hX hr => ?_)
    refine kr_iconst (v := 0) hX dX10_goesAlong_0 (by decide) ?_
    refine kr_istore_n (i := 3) hX dX10_goesAlong_1 rfl (by decide) rfl rfl ?_
    refine kr_keep (lv' := [(0, .ref m), (1, .int a0), (2, .int a1), (3, .int (0 : Int32))]) [0, 1, 2, 3] rfl ?_
    exact xw_goesAlong_L2 hX hr hm n _ _ _ _ h
  exact key (r, μ1) h

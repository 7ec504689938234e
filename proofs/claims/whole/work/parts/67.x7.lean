def x_wrote (n : Nat) (m : Nat) (μ : kt_M) (a0 : Int32) (a1 : Int32) : Option (Int32 × kt_M) := kq_b2 (x_isProgram n m μ a0) (fun r_2 μ_2 => (if r_2 = 0 then some (((-1) : Int32), μ_2) else (if 0 ≤ a1 then kq_b2 (x_runs n m μ_2 a0) (fun r_16 μ_16 => (if (kt_i μ_16 m 25) ≤ a1 then some (((-4) : Int32), μ_16) else kq_ck (kq_in a1 240) (some ((kt_i μ_16 (m + 13) (Int32.toNatClampNeg a1)), μ_16)))) else some (((-1) : Int32), μ_2))))
set_option maxHeartbeats 4000000 in
set_option maxRecDepth 100000 in
theorem xs_wrote {G : kt_G} {σ : kt_Y} {μ : kt_M} {m : Nat} (hm : kt_md σ m) {n : Nat} {a0 : Int32} {a1 : Int32} {r : Int32} {μ1 : kt_M} (h : x_wrote n m μ a0 a1 = some (r, μ1)) : kt_F G yX10_wrote cX10_wrote 3 (some .int) 4 [.ref m, .int a0, .int a1] σ μ (fun rv μ2 => rv = some (.int r) ∧ μ2 = μ1) := by
  have key : ∀ q : (Int32 × kt_M), x_wrote n m μ a0 a1 = some q → kt_F G yX10_wrote cX10_wrote 3 (some .int) 4 [.ref m, .int a0, .int a1] σ μ (fun rv μ2 => rv = some (.int q.1) ∧ μ2 = q.2) := by
    intro q h
    unfold x_wrote at h
    refine kt_F.of (by decide) (Nat.le_of_ble_eq_true rfl) (fun X hX hr => ?_)
    refine kr_aload_n (i := 0) hX dX10_wrote_0 rfl rfl ?_
    refine kr_iload_n (i := 1) hX dX10_wrote_1 rfl rfl ?_
    obtain ⟨r_2, μ_2, e_2, h⟩ := kq_b2_e h
    refine kr_dV (c1 := 10) [_] hX km_10_191 dX10_wrote_2 (xs_isProgram hm e_2) rfl rfl ⟨_, _, rfl⟩ (by decide) (Nat.le_of_ble_eq_true rfl) (Nat.le_refl _) (Nat.le_refl _) (md_k hm) ?_
    refine kr_if_eq (tgt := 12) hX dX10_wrote_5 (by decide) (fun c_5 => ?_) (fun c_5 => ?_)
    · replace h := kq_t c_5 h
      refine kr_iconst (v := (-1)) hX dX10_wrote_12 (by decide) ?_
      refine kr_iret hX hr dX10_wrote_13 ⟨rfl, ?_⟩
      exact kq_rI h
    · replace h := kq_f c_5 h
      refine kr_iload_n (i := 2) hX dX10_wrote_8 rfl rfl ?_
      refine kr_if_ge (tgt := 14) hX dX10_wrote_9 (by decide) (fun c_9 => ?_) (fun c_9 => ?_)
      · replace h := kq_t c_9 h
        refine kr_aload_n (i := 0) hX dX10_wrote_14 rfl rfl ?_
        refine kr_iload_n (i := 1) hX dX10_wrote_15 rfl rfl ?_
        obtain ⟨r_16, μ_16, e_16, h⟩ := kq_b2_e h
        refine kr_dV (c1 := 10) [_] hX km_10_346 dX10_wrote_16 (xs_runs hm e_16) rfl rfl ⟨_, _, rfl⟩ (by decide) (Nat.le_of_ble_eq_true rfl) (Nat.le_refl _) (Nat.le_refl _) (md_k hm) ?_
        refine kr_iload_n (i := 2) hX dX10_wrote_19 rfl rfl ?_
        refine kr_aload_n (i := 0) hX dX10_wrote_20 rfl rfl ?_
        refine kr_geti (c0 := 10) (k := 25) hX ⟨_, kf_10_318⟩ dX10_wrote_21 rfl (md_k hm) ?_
        refine kr_icmp_ge (tgt := 36) hX dX10_wrote_24 (by decide) (fun c_24 => ?_) (fun c_24 => ?_)
        · replace h := kq_t c_24 h
          refine kr_bipush (v := (-4)) hX dX10_wrote_36 (by decide) ?_
          refine kr_iret hX hr dX10_wrote_38 ⟨rfl, ?_⟩
          exact kq_rI h
        · replace h := kq_f c_24 h
          refine kr_aload_n (i := 0) hX dX10_wrote_27 rfl rfl ?_
          refine kr_getr (c0 := 10) (k := 20) hX ⟨_, kf_10_52⟩ dX10_wrote_28 rfl (md_k hm) (md_r20 hm) ?_
          refine kr_iload_n (i := 2) hX dX10_wrote_31 rfl rfl ?_
          obtain ⟨i_32, h⟩ := kq_ck_e h
          refine kr_iald hX dX10_wrote_32 (md_a13 hm) (vp_in_iff.mpr i_32) ?_
          refine kr_goto (tgt := 38) hX dX10_wrote_33 (by decide) ?_
          refine kr_iret hX hr dX10_wrote_38 ⟨rfl, ?_⟩
          exact kq_rI h
      · replace h := kq_f c_9 h
        refine kr_iconst (v := (-1)) hX dX10_wrote_12 (by decide) ?_
        refine kr_iret hX hr dX10_wrote_13 ⟨rfl, ?_⟩
        exact kq_rI h
  exact key (r, μ1) h
def x_path (n : Nat) (m : Nat) (μ : kt_M) (a0 : Int32) (a1 : Int32) : Option (Int32 × kt_M) := kq_b2 (x_isProgram n m μ a0) (fun r_2 μ_2 => (if r_2 = 0 then some (((-1) : Int32), μ_2) else (if 0 ≤ a1 then kq_b2 (x_runs n m μ_2 a0) (fun r_16 μ_16 => (if (kt_i μ_16 m 22) ≤ a1 then some (((-4) : Int32), μ_16) else kq_ck (kq_in a1 60) (some ((kt_i μ_16 (m + 14) (Int32.toNatClampNeg a1)), μ_16)))) else some (((-1) : Int32), μ_2))))
set_option maxHeartbeats 4000000 in
set_option maxRecDepth 100000 in
theorem xs_path {G : kt_G} {σ : kt_Y} {μ : kt_M} {m : Nat} (hm : kt_md σ m) {n : Nat} {a0 : Int32} {a1 : Int32} {r : Int32} {μ1 : kt_M} (h : x_path n m μ a0 a1 = some (r, μ1)) : kt_F G yX10_path cX10_path 3 (some .int) 4 [.ref m, .int a0, .int a1] σ μ (fun rv μ2 => rv = some (.int r) ∧ μ2 = μ1) := by
  have key : ∀ q : (Int32 × kt_M), x_path n m μ a0 a1 = some q → kt_F G yX10_path cX10_path 3 (some .int) 4 [.ref m, .int a0, .int a1] σ μ (fun rv μ2 => rv = some (.int q.1) ∧ μ2 = q.2) := by
    intro q h
    unfold x_path at h
    refine kt_F.of (by decide) (Nat.le_of_ble_eq_true rfl) (fun X hX hr => ?_)
    refine kr_aload_n (i := 0) hX dX10_path_0 rfl rfl ?_
    refine kr_iload_n (i := 1) hX dX10_path_1 rfl rfl ?_
    obtain ⟨r_2, μ_2, e_2, h⟩ := kq_b2_e h
    refine kr_dV (c1 := 10) [_] hX km_10_191 dX10_path_2 (xs_isProgram hm e_2) rfl rfl ⟨_, _, rfl⟩ (by decide) (Nat.le_of_ble_eq_true rfl) (Nat.le_refl _) (Nat.le_refl _) (md_k hm) ?_
    refine kr_if_eq (tgt := 12) hX dX10_path_5 (by decide) (fun c_5 => ?_) (fun c_5 => ?_)
    · replace h := kq_t c_5 h
      refine kr_iconst (v := (-1)) hX dX10_path_12 (by decide) ?_
      refine kr_iret hX hr dX10_path_13 ⟨rfl, ?_⟩
      exact kq_rI h
    · replace h := kq_f c_5 h
      refine kr_iload_n (i := 2) hX dX10_path_8 rfl rfl ?_
      refine kr_if_ge (tgt := 14) hX dX10_path_9 (by decide) (fun c_9 => ?_) (fun c_9 => ?_)
      · replace h := kq_t c_9 h
        refine kr_aload_n (i := 0) hX dX10_path_14 rfl rfl ?_
        refine kr_iload_n (i := 1) hX dX10_path_15 rfl rfl ?_
        obtain ⟨r_16, μ_16, e_16, h⟩ := kq_b2_e h
        refine kr_dV (c1 := 10) [_] hX km_10_346 dX10_path_16 (xs_runs hm e_16) rfl rfl ⟨_, _, rfl⟩ (by decide) (Nat.le_of_ble_eq_true rfl) (Nat.le_refl _) (Nat.le_refl _) (md_k hm) ?_
        refine kr_iload_n (i := 2) hX dX10_path_19 rfl rfl ?_
        refine kr_aload_n (i := 0) hX dX10_path_20 rfl rfl ?_
        refine kr_geti (c0 := 10) (k := 22) hX ⟨_, kf_10_324⟩ dX10_path_21 rfl (md_k hm) ?_
        refine kr_icmp_ge (tgt := 36) hX dX10_path_24 (by decide) (fun c_24 => ?_) (fun c_24 => ?_)
        · replace h := kq_t c_24 h
          refine kr_bipush (v := (-4)) hX dX10_path_36 (by decide) ?_
          refine kr_iret hX hr dX10_path_38 ⟨rfl, ?_⟩
          exact kq_rI h
        · replace h := kq_f c_24 h
          refine kr_aload_n (i := 0) hX dX10_path_27 rfl rfl ?_
          refine kr_getr (c0 := 10) (k := 21) hX ⟨_, kf_10_55⟩ dX10_path_28 rfl (md_k hm) (md_r21 hm) ?_
          refine kr_iload_n (i := 2) hX dX10_path_31 rfl rfl ?_
          obtain ⟨i_32, h⟩ := kq_ck_e h
          refine kr_iald hX dX10_path_32 (md_a14 hm) (vp_in_iff.mpr i_32) ?_
          refine kr_goto (tgt := 38) hX dX10_path_33 (by decide) ?_
          refine kr_iret hX hr dX10_path_38 ⟨rfl, ?_⟩
          exact kq_rI h
      · replace h := kq_f c_9 h
        refine kr_iconst (v := (-1)) hX dX10_path_12 (by decide) ?_
        refine kr_iret hX hr dX10_path_13 ⟨rfl, ?_⟩
        exact kq_rI h
  exact key (r, μ1) h
def x_gets (n : Nat) (m : Nat) (μ : kt_M) : Option (Int32 × kt_M) := kq_lt (kt_si μ m 28 (((kt_i μ m 28) * (1103515245 : Int32)) + (12345 : Int32))) (fun μ_13 => some ((((kt_i μ_13 m 28) >>> ((16 : Int32) &&& 31)) &&& (32767 : Int32)), μ_13))
set_option maxHeartbeats 4000000 in
set_option maxRecDepth 100000 in
theorem xs_gets {G : kt_G} {σ : kt_Y} {μ : kt_M} {m : Nat} (hm : kt_md σ m) {n : Nat} {r : Int32} {μ1 : kt_M} (h : x_gets n m μ = some (r, μ1)) : kt_F G yX10_gets cX10_gets 1 (some .int) 0 [.ref m] σ μ (fun rv μ2 => rv = some (.int r) ∧ μ2 = μ1) := by
  have key : ∀ q : (Int32 × kt_M), x_gets n m μ = some q → kt_F G yX10_gets cX10_gets 1 (some .int) 0 [.ref m] σ μ (fun rv μ2 => rv = some (.int q.1) ∧ μ2 = q.2) := by
    intro q h
    unfold x_gets at h
    refine kt_F.of (by decide) (Nat.le_of_ble_eq_true rfl) (fun X hX hr => ?_)
    refine kr_aload_n (i := 0) hX dX10_gets_0 rfl rfl ?_
    refine kr_aload_n (i := 0) hX dX10_gets_1 rfl rfl ?_
    refine kr_geti (c0 := 10) (k := 28) hX ⟨_, kf_10_349⟩ dX10_gets_2 rfl (md_k hm) ?_
    refine kr_ldcw (v := 1103515245) hX kw_1467 dX10_gets_5 ?_
    refine kr_imul hX dX10_gets_8 ?_
    refine kr_sipush (v := 12345) hX dX10_gets_9 (by decide) ?_
    refine kr_iadd hX dX10_gets_12 ?_
    refine kr_puti (c0 := 10) (k := 28) hX kf_10_349 dX10_gets_13 rfl rfl rfl (md_k hm) ?_
    refine kr_ltM h (fun μ_13 h => ?_)
    refine kr_aload_n (i := 0) hX dX10_gets_16 rfl rfl ?_
    refine kr_geti (c0 := 10) (k := 28) hX ⟨_, kf_10_349⟩ dX10_gets_17 rfl (md_k hm) ?_
    refine kr_bipush (v := 16) hX dX10_gets_20 (by decide) ?_
    refine kr_ishr hX dX10_gets_22 ?_
    refine kr_sipush (v := 32767) hX dX10_gets_23 (by decide) ?_
    refine kr_iand hX dX10_gets_26 ?_
    refine kr_iret hX hr dX10_gets_27 ⟨rfl, ?_⟩
    exact kq_rI h
  exact key (r, μ1) h
def x_testsOf (n : Nat) (m : Nat) (μ : kt_M) (a0 : Int32) : Option (Int32 × kt_M) := kq_b2 (x_runs n m μ a0) (fun r_2 μ_2 => some ((kt_i μ_2 m 24), μ_2))
set_option maxHeartbeats 4000000 in
set_option maxRecDepth 100000 in
theorem xs_testsOf {G : kt_G} {σ : kt_Y} {μ : kt_M} {m : Nat} (hm : kt_md σ m) {n : Nat} {a0 : Int32} {r : Int32} {μ1 : kt_M} (h : x_testsOf n m μ a0 = some (r, μ1)) : kt_F G yX10_testsOf cX10_testsOf 2 (some .int) 4 [.ref m, .int a0] σ μ (fun rv μ2 => rv = some (.int r) ∧ μ2 = μ1) := by
  have key : ∀ q : (Int32 × kt_M), x_testsOf n m μ a0 = some q → kt_F G yX10_testsOf cX10_testsOf 2 (some .int) 4 [.ref m, .int a0] σ μ (fun rv μ2 => rv = some (.int q.1) ∧ μ2 = q.2) := by
    intro q h
    unfold x_testsOf at h
    refine kt_F.of (by decide) (Nat.le_of_ble_eq_true rfl) (fun X hX hr => ?_)
    refine kr_aload_n (i := 0) hX dX10_testsOf_0 rfl rfl ?_
    refine kr_iload_n (i := 1) hX dX10_testsOf_1 rfl rfl ?_
    obtain ⟨r_2, μ_2, e_2, h⟩ := kq_b2_e h
    refine kr_dV (c1 := 10) [_] hX km_10_346 dX10_testsOf_2 (xs_runs hm e_2) rfl rfl ⟨_, _, rfl⟩ (by decide) (Nat.le_of_ble_eq_true rfl) (Nat.le_refl _) (Nat.le_refl _) (md_k hm) ?_
    refine kr_aload_n (i := 0) hX dX10_testsOf_5 rfl rfl ?_
    refine kr_geti (c0 := 10) (k := 24) hX ⟨_, kf_10_327⟩ dX10_testsOf_6 rfl (md_k hm) ?_
    refine kr_iret hX hr dX10_testsOf_9 ⟨rfl, ?_⟩
    exact kq_rI h
  exact key (r, μ1) h
def x_saved_B63 (n : Nat) (m : Nat) (K54 : Int32 → Int32 → Int32 → kt_M → Option (Int32 × kt_M)) (K63 : Int32 → Int32 → Int32 → Int32 → kt_M → Option (Int32 × kt_M)) (l2 : Int32) (l3 : Int32) (l4 : Int32) (l5 : Int32) (μ : kt_M) : Option (Int32 × kt_M) := (if (8 : Int32) ≤ l5 then kq_b2 (x_testsOf n m μ (0 : Int32)) (fun r_93 μ_93 => kq_b2 (x_testsOf n m μ_93 (1 : Int32)) (fun r_98 μ_98 => K54 l2 (l3 + (r_93 - r_98)) (l4 + 1) μ_98)) else kq_b2 (x_gets n m μ) (fun r_77 μ_77 => kq_ck (kq_in l5 8) (kq_lt (kt_si μ_77 (m + 3) (Int32.toNatClampNeg l5) (r_77 - r_77 / (52 : Int32) * (52 : Int32))) (fun μ_83 => K63 l2 l3 l4 (l5 + 1) μ_83))))
set_option maxHeartbeats 4000000 in
set_option maxRecDepth 100000 in
theorem xw_saved_B63 {G : kt_G} {σ : kt_Y} {X : kt_X} (hX : kt_ok G X RX10 cX10_saved 6 5 0 0) (hr : kt_rt X = (some .int)) {m : Nat} (hm : kt_md σ m) {n : Nat} {q : (Int32 × kt_M)} {K54 : Int32 → Int32 → Int32 → kt_M → Option (Int32 × kt_M)} (hK54 : ∀ (l2 : Int32) (l3 : Int32) (l4 : Int32) (μ : kt_M), K54 l2 l3 l4 μ = some q → kt_W G X 6 54 [(0, .ref m), (2, .int l2), (3, .int l3), (4, .int l4)] [] σ μ 0 0 (kt_Z G X (kt_q σ (fun rv μ2 => rv = some (.int q.1) ∧ μ2 = q.2)) 0 0)) {K63 : Int32 → Int32 → Int32 → Int32 → kt_M → Option (Int32 × kt_M)} (hK63 : ∀ (l2 : Int32) (l3 : Int32) (l4 : Int32) (l5 : Int32) (μ : kt_M), K63 l2 l3 l4 l5 μ = some q → kt_W G X 6 63 [(0, .ref m), (2, .int l2), (3, .int l3), (4, .int l4), (5, .int l5)] [] σ μ 0 0 (kt_Z G X (kt_q σ (fun rv μ2 => rv = some (.int q.1) ∧ μ2 = q.2)) 0 0)) {l2 : Int32} {l3 : Int32} {l4 : Int32} {l5 : Int32} {μ : kt_M} (h : x_saved_B63 n m K54 K63 l2 l3 l4 l5 μ = some q) : kt_W G X 6 63 [(0, .ref m), (2, .int l2), (3, .int l3), (4, .int l4), (5, .int l5)] [] σ μ 0 0 (kt_Z G X (kt_q σ (fun rv μ2 => rv = some (.int q.1) ∧ μ2 = q.2)) 0 0) := by
  unfold x_saved_B63 at h
  refine kr_iload hX dX10_saved_63 rfl ?_
  refine kr_bipush (v := 8) hX dX10_saved_65 (by decide) ?_
  refine kr_icmp_ge (tgt := 90) hX dX10_saved_67 (by decide) (fun c_67 => ?_) (fun c_67 => ?_)
  · replace h := kq_t c_67 h
    refine kr_iload_n (i := 3) hX dX10_saved_90 rfl rfl ?_
    refine kr_aload_n (i := 0) hX dX10_saved_91 rfl rfl ?_
    refine kr_iconst (v := 0) hX dX10_saved_92 (by decide) ?_
    obtain ⟨r_93, μ_93, e_93, h⟩ := kq_b2_e h
    refine kr_dV (c1 := 10) [_] hX km_10_358 dX10_saved_93 (xs_testsOf hm e_93) rfl rfl ⟨_, _, rfl⟩ (by decide) (Nat.le_of_ble_eq_true rfl) (Nat.le_refl _) (Nat.le_refl _) (md_k hm) ?_
    refine kr_aload_n (i := 0) hX dX10_saved_96 rfl rfl ?_
    refine kr_iconst (v := 1) hX dX10_saved_97 (by decide) ?_
    obtain ⟨r_98, μ_98, e_98, h⟩ := kq_b2_e h
    refine kr_dV (c1 := 10) [_] hX km_10_358 dX10_saved_98 (xs_testsOf hm e_98) rfl rfl ⟨_, _, rfl⟩ (by decide) (Nat.le_of_ble_eq_true rfl) (Nat.le_refl _) (Nat.le_refl _) (md_k hm) ?_
    refine kr_isub hX dX10_saved_101 ?_
    refine kr_iadd hX dX10_saved_102 ?_
    refine kr_istore_n (i := 3) hX dX10_saved_103 rfl (by decide) rfl rfl ?_
    refine kr_iinc (v := (l4 + 1)) hX dX10_saved_104 rfl rfl (by decide) rfl rfl ?_
    refine kr_goto (tgt := 54) hX dX10_saved_107 (by decide) ?_
    refine kr_keep (lv' := [(0, .ref m), (2, .int l2), (3, .int (l3 + (r_93 - r_98))), (4, .int (l4 + 1))]) [0, 1, 2, 3] rfl ?_
    exact hK54 _ _ _ _ h
  · replace h := kq_f c_67 h
    refine kr_aload_n (i := 0) hX dX10_saved_70 rfl rfl ?_
    refine kr_getr (c0 := 10) (k := 2) hX ⟨_, kf_10_16⟩ dX10_saved_71 rfl (md_k hm) (md_r2 hm) ?_
    refine kr_iload hX dX10_saved_74 rfl ?_
    refine kr_aload_n (i := 0) hX dX10_saved_76 rfl rfl ?_
    obtain ⟨r_77, μ_77, e_77, h⟩ := kq_b2_e h
    refine kr_dV (c1 := 10) [] hX km_10_355 dX10_saved_77 (xs_gets hm e_77) rfl rfl ⟨_, _, rfl⟩ (by decide) (Nat.le_of_ble_eq_true rfl) (Nat.le_refl _) (Nat.le_refl _) (md_k hm) ?_
    refine kr_bipush (v := 52) hX dX10_saved_80 (by decide) ?_
    refine kr_irem hX dX10_saved_82 (by decide) ?_
    obtain ⟨i_83, h⟩ := kq_ck_e h
    refine kr_iast hX dX10_saved_83 (md_a3 hm) (vp_in_iff.mpr i_83) ?_
    refine kr_ltM h (fun μ_83 h => ?_)
    refine kr_iinc (v := (l5 + 1)) hX dX10_saved_84 rfl rfl (by decide) rfl rfl ?_
    refine kr_goto (tgt := 63) hX dX10_saved_87 (by decide) ?_
    refine kr_keep (lv' := [(0, .ref m), (2, .int l2), (3, .int l3), (4, .int l4), (5, .int (l5 + 1))]) [0, 1, 2, 3, 4] rfl ?_
    exact hK63 _ _ _ _ _ h
def x_saved_L63 (n : Nat) (m : Nat) (K54 : Int32 → Int32 → Int32 → kt_M → Option (Int32 × kt_M)) : Nat → Int32 → Int32 → Int32 → Int32 → kt_M → Option (Int32 × kt_M)
  | 0, _, _, _, _, _ => none
  | k + 1, l2, l3, l4, l5, μ => x_saved_B63 n m K54 (x_saved_L63 n m K54 k) l2 l3 l4 l5 μ
set_option maxHeartbeats 4000000 in
set_option maxRecDepth 100000 in
theorem xw_saved_L63 {G : kt_G} {σ : kt_Y} {X : kt_X} (hX : kt_ok G X RX10 cX10_saved 6 5 0 0) (hr : kt_rt X = (some .int)) {m : Nat} (hm : kt_md σ m) {n : Nat} {q : (Int32 × kt_M)} {K54 : Int32 → Int32 → Int32 → kt_M → Option (Int32 × kt_M)} (hK54 : ∀ (l2 : Int32) (l3 : Int32) (l4 : Int32) (μ : kt_M), K54 l2 l3 l4 μ = some q → kt_W G X 6 54 [(0, .ref m), (2, .int l2), (3, .int l3), (4, .int l4)] [] σ μ 0 0 (kt_Z G X (kt_q σ (fun rv μ2 => rv = some (.int q.1) ∧ μ2 = q.2)) 0 0)) : ∀ (k : Nat) (l2 : Int32) (l3 : Int32) (l4 : Int32) (l5 : Int32) (μ : kt_M), x_saved_L63 n m K54 k l2 l3 l4 l5 μ = some q → kt_W G X 6 63 [(0, .ref m), (2, .int l2), (3, .int l3), (4, .int l4), (5, .int l5)] [] σ μ 0 0 (kt_Z G X (kt_q σ (fun rv μ2 => rv = some (.int q.1) ∧ μ2 = q.2)) 0 0) := by
  intro k
  induction k with
  | zero => intro l2 l3 l4 l5 μ h; cases h
  | succ k ih => intro l2 l3 l4 l5 μ h; exact xw_saved_B63 hX hr hm hK54 ih h
def x_saved_B113 (n : Nat) (m : Nat) (K113 : Int32 → Int32 → kt_M → Option (Int32 × kt_M)) (l3 : Int32) (l4 : Int32) (μ : kt_M) : Option (Int32 × kt_M) := (if (8 : Int32) ≤ l4 then some (l3, μ) else kq_ck (kq_in l4 8) (kq_ck (kq_in l4 8) (kq_lt (kt_si μ (m + 3) (Int32.toNatClampNeg l4) (kt_i μ (m + 15) (Int32.toNatClampNeg l4))) (fun μ_133 => K113 l3 (l4 + 1) μ_133))))
set_option maxHeartbeats 4000000 in
set_option maxRecDepth 100000 in
theorem xw_saved_B113 {G : kt_G} {σ : kt_Y} {X : kt_X} (hX : kt_ok G X RX10 cX10_saved 6 5 0 0) (hr : kt_rt X = (some .int)) {m : Nat} (hm : kt_md σ m) {n : Nat} {q : (Int32 × kt_M)} {K113 : Int32 → Int32 → kt_M → Option (Int32 × kt_M)} (hK113 : ∀ (l3 : Int32) (l4 : Int32) (μ : kt_M), K113 l3 l4 μ = some q → kt_W G X 6 113 [(0, .ref m), (3, .int l3), (4, .int l4)] [] σ μ 0 0 (kt_Z G X (kt_q σ (fun rv μ2 => rv = some (.int q.1) ∧ μ2 = q.2)) 0 0)) {l3 : Int32} {l4 : Int32} {μ : kt_M} (h : x_saved_B113 n m K113 l3 l4 μ = some q) : kt_W G X 6 113 [(0, .ref m), (3, .int l3), (4, .int l4)] [] σ μ 0 0 (kt_Z G X (kt_q σ (fun rv μ2 => rv = some (.int q.1) ∧ μ2 = q.2)) 0 0) := by
  unfold x_saved_B113 at h
  refine kr_iload hX dX10_saved_113 rfl ?_
  refine kr_bipush (v := 8) hX dX10_saved_115 (by decide) ?_
  refine kr_icmp_ge (tgt := 140) hX dX10_saved_117 (by decide) (fun c_117 => ?_) (fun c_117 => ?_)
  · replace h := kq_t c_117 h
    refine kr_iload_n (i := 3) hX dX10_saved_140 rfl rfl ?_
    refine kr_iret hX hr dX10_saved_141 ⟨rfl, ?_⟩
    exact kq_rI h
  · replace h := kq_f c_117 h
    refine kr_aload_n (i := 0) hX dX10_saved_120 rfl rfl ?_
    refine kr_getr (c0 := 10) (k := 2) hX ⟨_, kf_10_16⟩ dX10_saved_121 rfl (md_k hm) (md_r2 hm) ?_
    refine kr_iload hX dX10_saved_124 rfl ?_
    refine kr_aload_n (i := 0) hX dX10_saved_126 rfl rfl ?_
    refine kr_getr (c0 := 10) (k := 29) hX ⟨_, kf_10_58⟩ dX10_saved_127 rfl (md_k hm) (md_r29 hm) ?_
    refine kr_iload hX dX10_saved_130 rfl ?_
    obtain ⟨i_132, h⟩ := kq_ck_e h
    refine kr_iald hX dX10_saved_132 (md_a15 hm) (vp_in_iff.mpr i_132) ?_
    obtain ⟨i_133, h⟩ := kq_ck_e h
    refine kr_iast hX dX10_saved_133 (md_a3 hm) (vp_in_iff.mpr i_133) ?_
    refine kr_ltM h (fun μ_133 h => ?_)
    refine kr_iinc (v := (l4 + 1)) hX dX10_saved_134 rfl rfl (by decide) rfl rfl ?_
    refine kr_goto (tgt := 113) hX dX10_saved_137 (by decide) ?_
    refine kr_keep (lv' := [(0, .ref m), (3, .int l3), (4, .int (l4 + 1))]) [0, 1, 2] rfl ?_
    exact hK113 _ _ _ h
def x_saved_L113 (n : Nat) (m : Nat) : Nat → Int32 → Int32 → kt_M → Option (Int32 × kt_M)
  | 0, _, _, _ => none
  | k + 1, l3, l4, μ => x_saved_B113 n m (x_saved_L113 n m k) l3 l4 μ
set_option maxHeartbeats 4000000 in
set_option maxRecDepth 100000 in
theorem xw_saved_L113 {G : kt_G} {σ : kt_Y} {X : kt_X} (hX : kt_ok G X RX10 cX10_saved 6 5 0 0) (hr : kt_rt X = (some .int)) {m : Nat} (hm : kt_md σ m) {n : Nat} {q : (Int32 × kt_M)} : ∀ (k : Nat) (l3 : Int32) (l4 : Int32) (μ : kt_M), x_saved_L113 n m k l3 l4 μ = some q → kt_W G X 6 113 [(0, .ref m), (3, .int l3), (4, .int l4)] [] σ μ 0 0 (kt_Z G X (kt_q σ (fun rv μ2 => rv = some (.int q.1) ∧ μ2 = q.2)) 0 0) := by
  intro k
  induction k with
  | zero => intro l3 l4 μ h; cases h
  | succ k ih => intro l3 l4 μ h; exact xw_saved_B113 hX hr hm ih h
def x_saved_B54 (n : Nat) (m : Nat) (K54 : Int32 → Int32 → Int32 → kt_M → Option (Int32 × kt_M)) (l2 : Int32) (l3 : Int32) (l4 : Int32) (μ : kt_M) : Option (Int32 × kt_M) := (if l2 ≤ l4 then x_saved_L113 n m n l3 (0 : Int32) μ else x_saved_L63 n m K54 n l2 l3 l4 (0 : Int32) μ)
set_option maxHeartbeats 4000000 in
set_option maxRecDepth 100000 in
theorem xw_saved_B54 {G : kt_G} {σ : kt_Y} {X : kt_X} (hX : kt_ok G X RX10 cX10_saved 6 5 0 0) (hr : kt_rt X = (some .int)) {m : Nat} (hm : kt_md σ m) {n : Nat} {q : (Int32 × kt_M)} {K54 : Int32 → Int32 → Int32 → kt_M → Option (Int32 × kt_M)} (hK54 : ∀ (l2 : Int32) (l3 : Int32) (l4 : Int32) (μ : kt_M), K54 l2 l3 l4 μ = some q → kt_W G X 6 54 [(0, .ref m), (2, .int l2), (3, .int l3), (4, .int l4)] [] σ μ 0 0 (kt_Z G X (kt_q σ (fun rv μ2 => rv = some (.int q.1) ∧ μ2 = q.2)) 0 0)) {l2 : Int32} {l3 : Int32} {l4 : Int32} {μ : kt_M} (h : x_saved_B54 n m K54 l2 l3 l4 μ = some q) : kt_W G X 6 54 [(0, .ref m), (2, .int l2), (3, .int l3), (4, .int l4)] [] σ μ 0 0 (kt_Z G X (kt_q σ (fun rv μ2 => rv = some (.int q.1) ∧ μ2 = q.2)) 0 0) := by
  unfold x_saved_B54 at h
  refine kr_iload hX dX10_saved_54 rfl ?_
  refine kr_iload_n (i := 2) hX dX10_saved_56 rfl rfl ?_
  refine kr_icmp_ge (tgt := 110) hX dX10_saved_57 (by decide) (fun c_57 => ?_) (fun c_57 => ?_)
  · replace h := kq_t c_57 h
    refine kr_iconst (v := 0) hX dX10_saved_110 (by decide) ?_
    refine kr_istore hX dX10_saved_111 (by decide) rfl rfl ?_
    refine kr_keep (lv' := [(0, .ref m), (3, .int l3), (4, .int (0 : Int32))]) [0, 2, 3] rfl ?_
    exact xw_saved_L113 hX hr hm n _ _ _ h
  · replace h := kq_f c_57 h
    refine kr_iconst (v := 0) hX dX10_saved_60 (by decide) ?_
    refine kr_istore hX dX10_saved_61 (by decide) rfl rfl ?_
    refine kr_keep (lv' := [(0, .ref m), (2, .int l2), (3, .int l3), (4, .int l4), (5, .int (0 : Int32))]) [0, 1, 2, 3, 4] rfl ?_
    exact xw_saved_L63 hX hr hm hK54 n _ _ _ _ _ h
def x_saved_L54 (n : Nat) (m : Nat) : Nat → Int32 → Int32 → Int32 → kt_M → Option (Int32 × kt_M)
  | 0, _, _, _, _ => none
  | k + 1, l2, l3, l4, μ => x_saved_B54 n m (x_saved_L54 n m k) l2 l3 l4 μ
set_option maxHeartbeats 4000000 in
set_option maxRecDepth 100000 in
theorem xw_saved_L54 {G : kt_G} {σ : kt_Y} {X : kt_X} (hX : kt_ok G X RX10 cX10_saved 6 5 0 0) (hr : kt_rt X = (some .int)) {m : Nat} (hm : kt_md σ m) {n : Nat} {q : (Int32 × kt_M)} : ∀ (k : Nat) (l2 : Int32) (l3 : Int32) (l4 : Int32) (μ : kt_M), x_saved_L54 n m k l2 l3 l4 μ = some q → kt_W G X 6 54 [(0, .ref m), (2, .int l2), (3, .int l3), (4, .int l4)] [] σ μ 0 0 (kt_Z G X (kt_q σ (fun rv μ2 => rv = some (.int q.1) ∧ μ2 = q.2)) 0 0) := by
  intro k
  induction k with
  | zero => intro l2 l3 l4 μ h; cases h
  | succ k ih => intro l2 l3 l4 μ h; exact xw_saved_B54 hX hr hm ih h
def x_saved_B24 (n : Nat) (m : Nat) (K24 : Int32 → Int32 → Int32 → kt_M → Option (Int32 × kt_M)) (l2 : Int32) (l3 : Int32) (l4 : Int32) (μ : kt_M) : Option (Int32 × kt_M) := (if (8 : Int32) ≤ l4 then x_saved_L54 n m n l2 l3 (0 : Int32) μ else kq_ck (kq_in l4 8) (kq_ck (kq_in l4 8) (kq_lt (kt_si μ (m + 15) (Int32.toNatClampNeg l4) (kt_i μ (m + 3) (Int32.toNatClampNeg l4))) (fun μ_44 => K24 l2 l3 (l4 + 1) μ_44))))
set_option maxHeartbeats 4000000 in
set_option maxRecDepth 100000 in
theorem xw_saved_B24 {G : kt_G} {σ : kt_Y} {X : kt_X} (hX : kt_ok G X RX10 cX10_saved 6 5 0 0) (hr : kt_rt X = (some .int)) {m : Nat} (hm : kt_md σ m) {n : Nat} {q : (Int32 × kt_M)} {K24 : Int32 → Int32 → Int32 → kt_M → Option (Int32 × kt_M)} (hK24 : ∀ (l2 : Int32) (l3 : Int32) (l4 : Int32) (μ : kt_M), K24 l2 l3 l4 μ = some q → kt_W G X 6 24 [(0, .ref m), (2, .int l2), (3, .int l3), (4, .int l4)] [] σ μ 0 0 (kt_Z G X (kt_q σ (fun rv μ2 => rv = some (.int q.1) ∧ μ2 = q.2)) 0 0)) {l2 : Int32} {l3 : Int32} {l4 : Int32} {μ : kt_M} (h : x_saved_B24 n m K24 l2 l3 l4 μ = some q) : kt_W G X 6 24 [(0, .ref m), (2, .int l2), (3, .int l3), (4, .int l4)] [] σ μ 0 0 (kt_Z G X (kt_q σ (fun rv μ2 => rv = some (.int q.1) ∧ μ2 = q.2)) 0 0) := by
  unfold x_saved_B24 at h
  refine kr_iload hX dX10_saved_24 rfl ?_
  refine kr_bipush (v := 8) hX dX10_saved_26 (by decide) ?_
  refine kr_icmp_ge (tgt := 51) hX dX10_saved_28 (by decide) (fun c_28 => ?_) (fun c_28 => ?_)
  · replace h := kq_t c_28 h
    refine kr_iconst (v := 0) hX dX10_saved_51 (by decide) ?_
    refine kr_istore hX dX10_saved_52 (by decide) rfl rfl ?_
    refine kr_keep (lv' := [(0, .ref m), (2, .int l2), (3, .int l3), (4, .int (0 : Int32))]) [0, 1, 2, 3] rfl ?_
    exact xw_saved_L54 hX hr hm n _ _ _ _ h
  · replace h := kq_f c_28 h
    refine kr_aload_n (i := 0) hX dX10_saved_31 rfl rfl ?_
    refine kr_getr (c0 := 10) (k := 29) hX ⟨_, kf_10_58⟩ dX10_saved_32 rfl (md_k hm) (md_r29 hm) ?_
    refine kr_iload hX dX10_saved_35 rfl ?_
    refine kr_aload_n (i := 0) hX dX10_saved_37 rfl rfl ?_
    refine kr_getr (c0 := 10) (k := 2) hX ⟨_, kf_10_16⟩ dX10_saved_38 rfl (md_k hm) (md_r2 hm) ?_
    refine kr_iload hX dX10_saved_41 rfl ?_
    obtain ⟨i_43, h⟩ := kq_ck_e h
    refine kr_iald hX dX10_saved_43 (md_a3 hm) (vp_in_iff.mpr i_43) ?_
    obtain ⟨i_44, h⟩ := kq_ck_e h
    refine kr_iast hX dX10_saved_44 (md_a15 hm) (vp_in_iff.mpr i_44) ?_
    refine kr_ltM h (fun μ_44 h => ?_)
    refine kr_iinc (v := (l4 + 1)) hX dX10_saved_45 rfl rfl (by decide) rfl rfl ?_
    refine kr_goto (tgt := 24) hX dX10_saved_48 (by decide) ?_
    refine kr_keep (lv' := [(0, .ref m), (2, .int l2), (3, .int l3), (4, .int (l4 + 1))]) [0, 1, 2, 3] rfl ?_
    exact hK24 _ _ _ _ h
def x_saved_L24 (n : Nat) (m : Nat) : Nat → Int32 → Int32 → Int32 → kt_M → Option (Int32 × kt_M)
  | 0, _, _, _, _ => none
  | k + 1, l2, l3, l4, μ => x_saved_B24 n m (x_saved_L24 n m k) l2 l3 l4 μ
set_option maxHeartbeats 4000000 in
set_option maxRecDepth 100000 in
theorem xw_saved_L24 {G : kt_G} {σ : kt_Y} {X : kt_X} (hX : kt_ok G X RX10 cX10_saved 6 5 0 0) (hr : kt_rt X = (some .int)) {m : Nat} (hm : kt_md σ m) {n : Nat} {q : (Int32 × kt_M)} : ∀ (k : Nat) (l2 : Int32) (l3 : Int32) (l4 : Int32) (μ : kt_M), x_saved_L24 n m k l2 l3 l4 μ = some q → kt_W G X 6 24 [(0, .ref m), (2, .int l2), (3, .int l3), (4, .int l4)] [] σ μ 0 0 (kt_Z G X (kt_q σ (fun rv μ2 => rv = some (.int q.1) ∧ μ2 = q.2)) 0 0) := by
  intro k
  induction k with
  | zero => intro l2 l3 l4 μ h; cases h
  | succ k ih => intro l2 l3 l4 μ h; exact xw_saved_B24 hX hr hm ih h
def x_saved (n : Nat) (m : Nat) (μ : kt_M) (a0 : Int32) (a1 : Int32) : Option (Int32 × kt_M) := kq_b1 (x_in n (Int32.toInt64 a1) (1 : Int64) (10 : Int64)) (fun r_6 => (if r_6 = 0 then some (((-1) : Int32), μ) else kq_lt (kt_si μ m 28 a0) (fun μ_16 => x_saved_L24 n m n a1 (0 : Int32) (0 : Int32) μ_16)))
set_option maxHeartbeats 4000000 in
set_option maxRecDepth 100000 in
theorem xs_saved {G : kt_G} {σ : kt_Y} {μ : kt_M} {m : Nat} (hm : kt_md σ m) {n : Nat} {a0 : Int32} {a1 : Int32} {r : Int32} {μ1 : kt_M} (h : x_saved n m μ a0 a1 = some (r, μ1)) : kt_F G yX10_saved cX10_saved 6 (some .int) 5 [.ref m, .int a0, .int a1] σ μ (fun rv μ2 => rv = some (.int r) ∧ μ2 = μ1) := by
  have key : ∀ q : (Int32 × kt_M), x_saved n m μ a0 a1 = some q → kt_F G yX10_saved cX10_saved 6 (some .int) 5 [.ref m, .int a0, .int a1] σ μ (fun rv μ2 => rv = some (.int q.1) ∧ μ2 = q.2) := by
    intro q h
    unfold x_saved at h
    refine kt_F.of (by decide) (Nat.le_of_ble_eq_true rfl) (fun X hX hr => ?_)
    refine kr_iload_n (i := 2) hX dX10_saved_0 rfl rfl ?_
    refine kr_i2l hX dX10_saved_1 rfl ?_
    refine kr_lconst (v := 1) hX dX10_saved_2 (by decide) ?_
    refine kr_ldc2 (v := 10) hX kw_1462 dX10_saved_3 ?_
    obtain ⟨r_6, e_6, h⟩ := kq_b1_e h
    refine kr_dS [_, _, _] hX km_10_80 dX10_saved_6 (xs_in e_6) rfl rfl (by decide) (Nat.le_of_ble_eq_true rfl) (Nat.le_refl _) (Nat.le_refl _) ?_
    refine kr_if_ne (tgt := 14) hX dX10_saved_9 (by decide) (fun c_9 => ?_) (fun c_9 => ?_)
    · replace h := kq_f c_9 h
      refine kr_aload_n (i := 0) hX dX10_saved_14 rfl rfl ?_
      refine kr_iload_n (i := 1) hX dX10_saved_15 rfl rfl ?_
      refine kr_puti (c0 := 10) (k := 28) hX kf_10_349 dX10_saved_16 rfl rfl rfl (md_k hm) ?_
      refine kr_ltM h (fun μ_16 h => ?_)
      refine kr_iconst (v := 0) hX dX10_saved_19 (by decide) ?_
      refine kr_istore_n (i := 3) hX dX10_saved_20 rfl (by decide) rfl rfl ?_
      refine kr_iconst (v := 0) hX dX10_saved_21 (by decide) ?_
      refine kr_istore hX dX10_saved_22 (by decide) rfl rfl ?_
      refine kr_keep (lv' := [(0, .ref m), (2, .int a1), (3, .int (0 : Int32)), (4, .int (0 : Int32))]) [0, 2, 3, 4] rfl ?_
      exact xw_saved_L24 hX hr hm n _ _ _ _ h
    · replace h := kq_t c_9 h
      refine kr_iconst (v := (-1)) hX dX10_saved_12 (by decide) ?_
      refine kr_iret hX hr dX10_saved_13 ⟨rfl, ?_⟩
      exact kq_rI h
  exact key (r, μ1) h
def x_lead (n : Nat) (m : Nat) (μ : kt_M) (a0 : Int32) (a1 : Int32) (a2 : Int32) : Option (Int32 × kt_M) := kq_b2 (x_isEdge n m μ (0 : Int32) a0 a1) (fun r_4 μ_4 => (if r_4 = 0 then some (((-1) : Int32), μ_4) else kq_b2 (x_isBlock n m μ_4 (0 : Int32) a2) (fun r_13 μ_13 => (if r_13 = 0 then some (((-1) : Int32), μ_13) else kq_b1 (x_at n (0 : Int32) a0 ((14 : Int32) + a1)) (fun r_27 => kq_ck (kq_in r_27 1284) (kq_ck (kq_in r_27 1284) (kq_lt (kt_si μ_13 (m + 1) (Int32.toNatClampNeg r_27) a2) (fun μ_48 => kq_b2 (x_anew n m μ_48) (fun r_50 μ_50 => some ((kt_i μ_13 (m + 1) (Int32.toNatClampNeg r_27)), μ_50))))))))))
set_option maxHeartbeats 4000000 in
set_option maxRecDepth 100000 in
theorem xs_lead {G : kt_G} {σ : kt_Y} {μ : kt_M} {m : Nat} (hm : kt_md σ m) {n : Nat} {a0 : Int32} {a1 : Int32} {a2 : Int32} {r : Int32} {μ1 : kt_M} (h : x_lead n m μ a0 a1 a2 = some (r, μ1)) : kt_F G yX10_lead cX10_lead 6 (some .int) 4 [.ref m, .int a0, .int a1, .int a2] σ μ (fun rv μ2 => rv = some (.int r) ∧ μ2 = μ1) := by
  have key : ∀ q : (Int32 × kt_M), x_lead n m μ a0 a1 a2 = some q → kt_F G yX10_lead cX10_lead 6 (some .int) 4 [.ref m, .int a0, .int a1, .int a2] σ μ (fun rv μ2 => rv = some (.int q.1) ∧ μ2 = q.2) := by
    intro q h
    unfold x_lead at h
    refine kt_F.of (by decide) (Nat.le_of_ble_eq_true rfl) (fun X hX hr => ?_)
    refine kr_aload_n (i := 0) hX dX10_lead_0 rfl rfl ?_
    refine kr_iconst (v := 0) hX dX10_lead_1 (by decide) ?_
    refine kr_iload_n (i := 1) hX dX10_lead_2 rfl rfl ?_
    refine kr_iload_n (i := 2) hX dX10_lead_3 rfl rfl ?_
    obtain ⟨r_4, μ_4, e_4, h⟩ := kq_b2_e h
    refine kr_dV (c1 := 10) [_, _, _] hX km_10_277 dX10_lead_4 (xs_isEdge hm e_4) rfl rfl ⟨_, _, rfl⟩ (by decide) (Nat.le_of_ble_eq_true rfl) (Nat.le_refl _) (Nat.le_refl _) (md_k hm) ?_
    refine kr_if_eq (tgt := 19) hX dX10_lead_7 (by decide) (fun c_7 => ?_) (fun c_7 => ?_)
    · replace h := kq_t c_7 h
      refine kr_iconst (v := (-1)) hX dX10_lead_19 (by decide) ?_
      refine kr_iret hX hr dX10_lead_20 ⟨rfl, ?_⟩
      exact kq_rI h
    · replace h := kq_f c_7 h
      refine kr_aload_n (i := 0) hX dX10_lead_10 rfl rfl ?_
      refine kr_iconst (v := 0) hX dX10_lead_11 (by decide) ?_
      refine kr_iload_n (i := 3) hX dX10_lead_12 rfl rfl ?_
      obtain ⟨r_13, μ_13, e_13, h⟩ := kq_b2_e h
      refine kr_dV (c1 := 10) [_, _] hX km_10_178 dX10_lead_13 (xs_isBlock hm e_13) rfl rfl ⟨_, _, rfl⟩ (by decide) (Nat.le_of_ble_eq_true rfl) (Nat.le_refl _) (Nat.le_refl _) (md_k hm) ?_
      refine kr_if_ne (tgt := 21) hX dX10_lead_16 (by decide) (fun c_16 => ?_) (fun c_16 => ?_)
      · replace h := kq_f c_16 h
        refine kr_iconst (v := 0) hX dX10_lead_21 (by decide) ?_
        refine kr_iload_n (i := 1) hX dX10_lead_22 rfl rfl ?_
        refine kr_bipush (v := 14) hX dX10_lead_23 (by decide) ?_
        refine kr_iload_n (i := 2) hX dX10_lead_25 rfl rfl ?_
        refine kr_iadd hX dX10_lead_26 ?_
        obtain ⟨r_27, e_27, h⟩ := kq_b1_e h
        refine kr_dS [_, _, _] hX km_10_70 dX10_lead_27 (xs_at e_27) rfl rfl (by decide) (Nat.le_of_ble_eq_true rfl) (Nat.le_refl _) (Nat.le_refl _) ?_
        refine kr_istore hX dX10_lead_30 (by decide) rfl rfl ?_
        refine kr_aload_n (i := 0) hX dX10_lead_32 rfl rfl ?_
        refine kr_getr (c0 := 10) (k := 0) hX ⟨_, kf_10_9⟩ dX10_lead_33 rfl (md_k hm) (md_r0 hm) ?_
        refine kr_iload hX dX10_lead_36 rfl ?_
        obtain ⟨i_38, h⟩ := kq_ck_e h
        refine kr_iald hX dX10_lead_38 (md_a1 hm) (vp_in_iff.mpr i_38) ?_
        refine kr_istore hX dX10_lead_39 (by decide) rfl rfl ?_
        refine kr_aload_n (i := 0) hX dX10_lead_41 rfl rfl ?_
        refine kr_getr (c0 := 10) (k := 0) hX ⟨_, kf_10_9⟩ dX10_lead_42 rfl (md_k hm) (md_r0 hm) ?_
        refine kr_iload hX dX10_lead_45 rfl ?_
        refine kr_iload_n (i := 3) hX dX10_lead_47 rfl rfl ?_
        obtain ⟨i_48, h⟩ := kq_ck_e h
        refine kr_iast hX dX10_lead_48 (md_a1 hm) (vp_in_iff.mpr i_48) ?_
        refine kr_ltM h (fun μ_48 h => ?_)
        refine kr_aload_n (i := 0) hX dX10_lead_49 rfl rfl ?_
        obtain ⟨r_50, μ_50, e_50, h⟩ := kq_b2_e h
        refine kr_dV (c1 := 10) [] hX km_10_169 dX10_lead_50 (xs_anew hm e_50) rfl rfl ⟨_, _, rfl⟩ (by decide) (Nat.le_of_ble_eq_true rfl) (Nat.le_refl _) (Nat.le_refl _) (md_k hm) ?_
        refine kr_iload hX dX10_lead_53 rfl ?_
        refine kr_iret hX hr dX10_lead_55 ⟨rfl, ?_⟩
        exact kq_rI h
      · replace h := kq_t c_16 h
        refine kr_iconst (v := (-1)) hX dX10_lead_19 (by decide) ?_
        refine kr_iret hX hr dX10_lead_20 ⟨rfl, ?_⟩
        exact kq_rI h
  exact key (r, μ1) h
def x_drawsAct_J116 (n : Nat) (m : Nat) (s1 : Int32) (s2 : Int32) (μ : kt_M) : Option (Unit × kt_M) := kq_ck (kq_in s1 1284) (kq_lt (kt_si μ (m + 1) (Int32.toNatClampNeg s1) s2) (fun μ_116 => some ((), μ_116)))
set_option maxHeartbeats 4000000 in
set_option maxRecDepth 100000 in
theorem xw_drawsAct_J116 {G : kt_G} {σ : kt_Y} {X : kt_X} (hX : kt_ok G X RX10 cX10_drawsAct 3 1 0 0) (hr : kt_rt X = none) {m : Nat} (hm : kt_md σ m) {n : Nat} {q : (Unit × kt_M)} {s1 : Int32} {s2 : Int32} {μ : kt_M} (h : x_drawsAct_J116 n m s1 s2 μ = some q) : kt_W G X 3 116 [(0, .ref m)] [.int s2, .int s1, .ref (m + 1)] σ μ 0 0 (kt_Z G X (kt_q σ (fun rv μ2 => rv = none ∧ μ2 = q.2)) 0 0) := by
  unfold x_drawsAct_J116 at h
  obtain ⟨i_116, h⟩ := kq_ck_e h
  refine kr_iast hX dX10_drawsAct_116 (md_a1 hm) (vp_in_iff.mpr i_116) ?_
  refine kr_ltM h (fun μ_116 h => ?_)
  refine kr_vret hX hr dX10_drawsAct_117 ⟨rfl, ?_⟩
  exact kq_rV h
def x_drawsAct (n : Nat) (m : Nat) (μ : kt_M) (a0 : Int32) : Option (Unit × kt_M) := kq_ck (kq_in a0 1284) (kq_ck (kq_in a0 1284) (kq_ck (kq_in a0 1284) (kq_lt (kt_si μ (m + 1) (Int32.toNatClampNeg a0) ((kt_i μ (m + 1) (Int32.toNatClampNeg a0)) + (1 : Int32))) (fun μ_22 => kq_b2 (x_gets n m μ_22) (fun r_29 μ_29 => kq_ck (kq_in ((a0 + (1 : Int32)) + ((3 : Int32) * (kt_i μ (m + 1) (Int32.toNatClampNeg a0)))) 1284) (kq_lt (kt_si μ_29 (m + 1) (Int32.toNatClampNeg ((a0 + (1 : Int32)) + ((3 : Int32) * (kt_i μ (m + 1) (Int32.toNatClampNeg a0))))) (r_29 - r_29 / (6 : Int32) * (6 : Int32))) (fun μ_35 => kq_b2 (x_gets n m μ_35) (fun r_44 μ_44 => kq_ck (kq_in (((a0 + (1 : Int32)) + ((3 : Int32) * (kt_i μ (m + 1) (Int32.toNatClampNeg a0)))) + (1 : Int32)) 1284) (kq_lt (kt_si μ_44 (m + 1) (Int32.toNatClampNeg (((a0 + (1 : Int32)) + ((3 : Int32) * (kt_i μ (m + 1) (Int32.toNatClampNeg a0)))) + (1 : Int32))) (r_44 - r_44 / (4 : Int32) * (4 : Int32))) (fun μ_49 => kq_ck (kq_in ((a0 + (1 : Int32)) + ((3 : Int32) * (kt_i μ (m + 1) (Int32.toNatClampNeg a0)))) 1284) ((if (kt_i μ_49 (m + 1) (Int32.toNatClampNeg ((a0 + (1 : Int32)) + ((3 : Int32) * (kt_i μ (m + 1) (Int32.toNatClampNeg a0)))))) = 0 then kq_b2 (x_gets n m μ_49) (fun r_67 μ_67 => x_drawsAct_J116 n m (((a0 + (1 : Int32)) + ((3 : Int32) * (kt_i μ (m + 1) (Int32.toNatClampNeg a0)))) + (2 : Int32)) (r_67 - r_67 / (51 : Int32) * (51 : Int32)) μ_67) else kq_ck (kq_in ((a0 + (1 : Int32)) + ((3 : Int32) * (kt_i μ (m + 1) (Int32.toNatClampNeg a0)))) 1284) ((if (2 : Int32) < (kt_i μ_49 (m + 1) (Int32.toNatClampNeg ((a0 + (1 : Int32)) + ((3 : Int32) * (kt_i μ (m + 1) (Int32.toNatClampNeg a0)))))) then kq_ck (kq_in ((a0 + (1 : Int32)) + ((3 : Int32) * (kt_i μ (m + 1) (Int32.toNatClampNeg a0)))) 1284) ((if (kt_i μ_49 (m + 1) (Int32.toNatClampNeg ((a0 + (1 : Int32)) + ((3 : Int32) * (kt_i μ (m + 1) (Int32.toNatClampNeg a0)))))) = (3 : Int32) then kq_b2 (x_gets n m μ_49) (fun r_106 μ_106 => x_drawsAct_J116 n m (((a0 + (1 : Int32)) + ((3 : Int32) * (kt_i μ (m + 1) (Int32.toNatClampNeg a0)))) + (2 : Int32)) (r_106 - r_106 / (4 : Int32) * (4 : Int32)) μ_106) else x_drawsAct_J116 n m (((a0 + (1 : Int32)) + ((3 : Int32) * (kt_i μ (m + 1) (Int32.toNatClampNeg a0)))) + (2 : Int32)) ((-4) : Int32) μ_49)) else kq_b2 (x_gets n m μ_49) (fun r_87 μ_87 => x_drawsAct_J116 n m (((a0 + (1 : Int32)) + ((3 : Int32) * (kt_i μ (m + 1) (Int32.toNatClampNeg a0)))) + (2 : Int32)) (r_87 - r_87 / (5 : Int32) * (5 : Int32)) μ_87)))))))))))))))
set_option maxHeartbeats 4000000 in
set_option maxRecDepth 100000 in
theorem xs_drawsAct {G : kt_G} {σ : kt_Y} {μ : kt_M} {m : Nat} (hm : kt_md σ m) {n : Nat} {a0 : Int32} {r : Unit} {μ1 : kt_M} (h : x_drawsAct n m μ a0 = some (r, μ1)) : kt_F G yX10_drawsAct cX10_drawsAct 3 none 1 [.ref m, .int a0] σ μ (fun rv μ2 => rv = none ∧ μ2 = μ1) := by
  have key : ∀ q : (Unit × kt_M), x_drawsAct n m μ a0 = some q → kt_F G yX10_drawsAct cX10_drawsAct 3 none 1 [.ref m, .int a0] σ μ (fun rv μ2 => rv = none ∧ μ2 = q.2) := by
    intro q h
    unfold x_drawsAct at h
    refine kt_F.of (by decide) (Nat.le_of_ble_eq_true rfl) (fun X hX hr => ?_)
    refine kr_iload_n (i := 1) hX dX10_drawsAct_0 rfl rfl ?_
    refine kr_iconst (v := 1) hX dX10_drawsAct_1 (by decide) ?_
    refine kr_iadd hX dX10_drawsAct_2 ?_
    refine kr_iconst (v := 3) hX dX10_drawsAct_3 (by decide) ?_
    refine kr_aload_n (i := 0) hX dX10_drawsAct_4 rfl rfl ?_
    refine kr_getr (c0 := 10) (k := 0) hX ⟨_, kf_10_9⟩ dX10_drawsAct_5 rfl (md_k hm) (md_r0 hm) ?_
    refine kr_iload_n (i := 1) hX dX10_drawsAct_8 rfl rfl ?_
    obtain ⟨i_9, h⟩ := kq_ck_e h
    refine kr_iald hX dX10_drawsAct_9 (md_a1 hm) (vp_in_iff.mpr i_9) ?_
    refine kr_imul hX dX10_drawsAct_10 ?_
    refine kr_iadd hX dX10_drawsAct_11 ?_
    refine kr_istore_n (i := 2) hX dX10_drawsAct_12 rfl (by decide) rfl rfl ?_
    refine kr_aload_n (i := 0) hX dX10_drawsAct_13 rfl rfl ?_
    refine kr_getr (c0 := 10) (k := 0) hX ⟨_, kf_10_9⟩ dX10_drawsAct_14 rfl (md_k hm) (md_r0 hm) ?_
    refine kr_iload_n (i := 1) hX dX10_drawsAct_17 rfl rfl ?_
    refine kr_dup2_11 hX dX10_drawsAct_18 rfl rfl ?_
    obtain ⟨i_19, h⟩ := kq_ck_e h
    refine kr_iald hX dX10_drawsAct_19 (md_a1 hm) (vp_in_iff.mpr i_19) ?_
    refine kr_iconst (v := 1) hX dX10_drawsAct_20 (by decide) ?_
    refine kr_iadd hX dX10_drawsAct_21 ?_
    obtain ⟨i_22, h⟩ := kq_ck_e h
    refine kr_iast hX dX10_drawsAct_22 (md_a1 hm) (vp_in_iff.mpr i_22) ?_
    refine kr_ltM h (fun μ_22 h => ?_)
    refine kr_aload_n (i := 0) hX dX10_drawsAct_23 rfl rfl ?_
    refine kr_getr (c0 := 10) (k := 0) hX ⟨_, kf_10_9⟩ dX10_drawsAct_24 rfl (md_k hm) (md_r0 hm) ?_
    refine kr_iload_n (i := 2) hX dX10_drawsAct_27 rfl rfl ?_
    refine kr_aload_n (i := 0) hX dX10_drawsAct_28 rfl rfl ?_
    obtain ⟨r_29, μ_29, e_29, h⟩ := kq_b2_e h
    refine kr_dV (c1 := 10) [] hX km_10_355 dX10_drawsAct_29 (xs_gets hm e_29) rfl rfl ⟨_, _, rfl⟩ (by decide) (Nat.le_of_ble_eq_true rfl) (Nat.le_refl _) (Nat.le_refl _) (md_k hm) ?_
    refine kr_bipush (v := 6) hX dX10_drawsAct_32 (by decide) ?_
    refine kr_irem hX dX10_drawsAct_34 (by decide) ?_
    obtain ⟨i_35, h⟩ := kq_ck_e h
    refine kr_iast hX dX10_drawsAct_35 (md_a1 hm) (vp_in_iff.mpr i_35) ?_
    refine kr_ltM h (fun μ_35 h => ?_)
    refine kr_aload_n (i := 0) hX dX10_drawsAct_36 rfl rfl ?_
    refine kr_getr (c0 := 10) (k := 0) hX ⟨_, kf_10_9⟩ dX10_drawsAct_37 rfl (md_k hm) (md_r0 hm) ?_
    refine kr_iload_n (i := 2) hX dX10_drawsAct_40 rfl rfl ?_
    refine kr_iconst (v := 1) hX dX10_drawsAct_41 (by decide) ?_
    refine kr_iadd hX dX10_drawsAct_42 ?_
    refine kr_aload_n (i := 0) hX dX10_drawsAct_43 rfl rfl ?_
    obtain ⟨r_44, μ_44, e_44, h⟩ := kq_b2_e h
    refine kr_dV (c1 := 10) [] hX km_10_355 dX10_drawsAct_44 (xs_gets hm e_44) rfl rfl ⟨_, _, rfl⟩ (by decide) (Nat.le_of_ble_eq_true rfl) (Nat.le_refl _) (Nat.le_refl _) (md_k hm) ?_
    refine kr_iconst (v := 4) hX dX10_drawsAct_47 (by decide) ?_
    refine kr_irem hX dX10_drawsAct_48 (by decide) ?_
    obtain ⟨i_49, h⟩ := kq_ck_e h
    refine kr_iast hX dX10_drawsAct_49 (md_a1 hm) (vp_in_iff.mpr i_49) ?_
    refine kr_ltM h (fun μ_49 h => ?_)
    refine kr_aload_n (i := 0) hX dX10_drawsAct_50 rfl rfl ?_
    refine kr_getr (c0 := 10) (k := 0) hX ⟨_, kf_10_9⟩ dX10_drawsAct_51 rfl (md_k hm) (md_r0 hm) ?_
    refine kr_iload_n (i := 2) hX dX10_drawsAct_54 rfl rfl ?_
    refine kr_iconst (v := 2) hX dX10_drawsAct_55 (by decide) ?_
    refine kr_iadd hX dX10_drawsAct_56 ?_
    refine kr_aload_n (i := 0) hX dX10_drawsAct_57 rfl rfl ?_
    refine kr_getr (c0 := 10) (k := 0) hX ⟨_, kf_10_9⟩ dX10_drawsAct_58 rfl (md_k hm) (md_r0 hm) ?_
    refine kr_iload_n (i := 2) hX dX10_drawsAct_61 rfl rfl ?_
    obtain ⟨i_62, h⟩ := kq_ck_e h
    refine kr_iald hX dX10_drawsAct_62 (md_a1 hm) (vp_in_iff.mpr i_62) ?_
    refine kr_if_ne (tgt := 76) hX dX10_drawsAct_63 (by decide) (fun c_63 => ?_) (fun c_63 => ?_)
    · replace h := kq_f c_63 h
      refine kr_aload_n (i := 0) hX dX10_drawsAct_76 rfl rfl ?_
      refine kr_getr (c0 := 10) (k := 0) hX ⟨_, kf_10_9⟩ dX10_drawsAct_77 rfl (md_k hm) (md_r0 hm) ?_
      refine kr_iload_n (i := 2) hX dX10_drawsAct_80 rfl rfl ?_
      obtain ⟨i_81, h⟩ := kq_ck_e h
      refine kr_iald hX dX10_drawsAct_81 (md_a1 hm) (vp_in_iff.mpr i_81) ?_
      refine kr_iconst (v := 2) hX dX10_drawsAct_82 (by decide) ?_
      refine kr_icmp_gt (tgt := 95) hX dX10_drawsAct_83 (by decide) (fun c_83 => ?_) (fun c_83 => ?_)
      · replace h := kq_t c_83 h
        refine kr_aload_n (i := 0) hX dX10_drawsAct_95 rfl rfl ?_
        refine kr_getr (c0 := 10) (k := 0) hX ⟨_, kf_10_9⟩ dX10_drawsAct_96 rfl (md_k hm) (md_r0 hm) ?_
        refine kr_iload_n (i := 2) hX dX10_drawsAct_99 rfl rfl ?_
        obtain ⟨i_100, h⟩ := kq_ck_e h
        refine kr_iald hX dX10_drawsAct_100 (md_a1 hm) (vp_in_iff.mpr i_100) ?_
        refine kr_iconst (v := 3) hX dX10_drawsAct_101 (by decide) ?_
        refine kr_icmp_ne (tgt := 114) hX dX10_drawsAct_102 (by decide) (fun c_102 => ?_) (fun c_102 => ?_)
        · replace h := kq_f c_102 h
          refine kr_bipush (v := (-4)) hX dX10_drawsAct_114 (by decide) ?_
          refine kr_keep (lv' := [(0, .ref m)]) [0] rfl ?_
          exact xw_drawsAct_J116 hX hr hm h
        · replace h := kq_t c_102 h
          refine kr_aload_n (i := 0) hX dX10_drawsAct_105 rfl rfl ?_
          obtain ⟨r_106, μ_106, e_106, h⟩ := kq_b2_e h
          refine kr_dV (c1 := 10) [] hX km_10_355 dX10_drawsAct_106 (xs_gets hm e_106) rfl rfl ⟨_, _, rfl⟩ (by decide) (Nat.le_of_ble_eq_true rfl) (Nat.le_refl _) (Nat.le_refl _) (md_k hm) ?_
          refine kr_iconst (v := 4) hX dX10_drawsAct_109 (by decide) ?_
          refine kr_irem hX dX10_drawsAct_110 (by decide) ?_
          refine kr_goto (tgt := 116) hX dX10_drawsAct_111 (by decide) ?_
          refine kr_keep (lv' := [(0, .ref m)]) [0] rfl ?_
          exact xw_drawsAct_J116 hX hr hm h
      · replace h := kq_f c_83 h
        refine kr_aload_n (i := 0) hX dX10_drawsAct_86 rfl rfl ?_
        obtain ⟨r_87, μ_87, e_87, h⟩ := kq_b2_e h
        refine kr_dV (c1 := 10) [] hX km_10_355 dX10_drawsAct_87 (xs_gets hm e_87) rfl rfl ⟨_, _, rfl⟩ (by decide) (Nat.le_of_ble_eq_true rfl) (Nat.le_refl _) (Nat.le_refl _) (md_k hm) ?_
        refine kr_iconst (v := 5) hX dX10_drawsAct_90 (by decide) ?_
        refine kr_irem hX dX10_drawsAct_91 (by decide) ?_
        refine kr_goto (tgt := 116) hX dX10_drawsAct_92 (by decide) ?_
        refine kr_keep (lv' := [(0, .ref m)]) [0] rfl ?_
        exact xw_drawsAct_J116 hX hr hm h
    · replace h := kq_t c_63 h
      refine kr_aload_n (i := 0) hX dX10_drawsAct_66 rfl rfl ?_
      obtain ⟨r_67, μ_67, e_67, h⟩ := kq_b2_e h
      refine kr_dV (c1 := 10) [] hX km_10_355 dX10_drawsAct_67 (xs_gets hm e_67) rfl rfl ⟨_, _, rfl⟩ (by decide) (Nat.le_of_ble_eq_true rfl) (Nat.le_refl _) (Nat.le_refl _) (md_k hm) ?_
      refine kr_bipush (v := 51) hX dX10_drawsAct_70 (by decide) ?_
      refine kr_irem hX dX10_drawsAct_72 (by decide) ?_
      refine kr_goto (tgt := 116) hX dX10_drawsAct_73 (by decide) ?_
      refine kr_keep (lv' := [(0, .ref m)]) [0] rfl ?_
      exact xw_drawsAct_J116 hX hr hm h
  exact key (r, μ1) h
def x_drawsEnd_J125 (n : Nat) (m : Nat) (K105 : Int32 → Int32 → Int32 → Int32 → kt_M → Option (Unit × kt_M)) (l1 : Int32) (l2 : Int32) (l3 : Int32) (l4 : Int32) (s0 : Int32) (s1 : Int32) (μ : kt_M) : Option (Unit × kt_M) := (if s1 ≤ s0 then some ((), μ) else kq_b2 (x_gets n m μ) (fun r_140 μ_140 => kq_ck (¬ l2 = 0) (kq_ck (kq_in ((l1 + (14 : Int32)) + l4) 1284) (kq_lt (kt_si μ_140 (m + 1) (Int32.toNatClampNeg ((l1 + (14 : Int32)) + l4)) (r_140 - r_140 / l2 * l2)) (fun μ_145 => K105 l1 l2 l3 (l4 + 1) μ_145)))))
set_option maxHeartbeats 4000000 in
set_option maxRecDepth 100000 in
theorem xw_drawsEnd_J125 {G : kt_G} {σ : kt_Y} {X : kt_X} (hX : kt_ok G X RX10 cX10_drawsEnd 5 1 0 0) (hr : kt_rt X = none) {m : Nat} (hm : kt_md σ m) {n : Nat} {q : (Unit × kt_M)} {K105 : Int32 → Int32 → Int32 → Int32 → kt_M → Option (Unit × kt_M)} (hK105 : ∀ (l1 : Int32) (l2 : Int32) (l3 : Int32) (l4 : Int32) (μ : kt_M), K105 l1 l2 l3 l4 μ = some q → kt_W G X 5 105 [(0, .ref m), (1, .int l1), (2, .int l2), (3, .int l3), (4, .int l4)] [] σ μ 0 0 (kt_Z G X (kt_q σ (fun rv μ2 => rv = none ∧ μ2 = q.2)) 0 0)) {l1 : Int32} {l2 : Int32} {l3 : Int32} {l4 : Int32} {s0 : Int32} {s1 : Int32} {μ : kt_M} (h : x_drawsEnd_J125 n m K105 l1 l2 l3 l4 s0 s1 μ = some q) : kt_W G X 5 125 [(0, .ref m), (1, .int l1), (2, .int l2), (3, .int l3), (4, .int l4)] [.int s1, .int s0] σ μ 0 0 (kt_Z G X (kt_q σ (fun rv μ2 => rv = none ∧ μ2 = q.2)) 0 0) := by
  unfold x_drawsEnd_J125 at h
  refine kr_icmp_ge (tgt := 152) hX dX10_drawsEnd_125 (by decide) (fun c_125 => ?_) (fun c_125 => ?_)
  · replace h := kq_t c_125 h
    refine kr_vret hX hr dX10_drawsEnd_152 ⟨rfl, ?_⟩
    exact kq_rV h
  · replace h := kq_f c_125 h
    refine kr_aload_n (i := 0) hX dX10_drawsEnd_128 rfl rfl ?_
    refine kr_getr (c0 := 10) (k := 0) hX ⟨_, kf_10_9⟩ dX10_drawsEnd_129 rfl (md_k hm) (md_r0 hm) ?_
    refine kr_iload_n (i := 1) hX dX10_drawsEnd_132 rfl rfl ?_
    refine kr_bipush (v := 14) hX dX10_drawsEnd_133 (by decide) ?_
    refine kr_iadd hX dX10_drawsEnd_135 ?_
    refine kr_iload hX dX10_drawsEnd_136 rfl ?_
    refine kr_iadd hX dX10_drawsEnd_138 ?_
    refine kr_aload_n (i := 0) hX dX10_drawsEnd_139 rfl rfl ?_
    obtain ⟨r_140, μ_140, e_140, h⟩ := kq_b2_e h
    refine kr_dV (c1 := 10) [] hX km_10_355 dX10_drawsEnd_140 (xs_gets hm e_140) rfl rfl ⟨_, _, rfl⟩ (by decide) (Nat.le_of_ble_eq_true rfl) (Nat.le_refl _) (Nat.le_refl _) (md_k hm) ?_
    refine kr_iload_n (i := 2) hX dX10_drawsEnd_143 rfl rfl ?_
    obtain ⟨i_144, h⟩ := kq_ck_e h
    refine kr_irem hX dX10_drawsEnd_144 (i_144) ?_
    obtain ⟨i_145, h⟩ := kq_ck_e h
    refine kr_iast hX dX10_drawsEnd_145 (md_a1 hm) (vp_in_iff.mpr i_145) ?_
    refine kr_ltM h (fun μ_145 h => ?_)
    refine kr_iinc (v := (l4 + 1)) hX dX10_drawsEnd_146 rfl rfl (by decide) rfl rfl ?_
    refine kr_goto (tgt := 105) hX dX10_drawsEnd_149 (by decide) ?_
    refine kr_keep (lv' := [(0, .ref m), (1, .int l1), (2, .int l2), (3, .int l3), (4, .int (l4 + 1))]) [0, 1, 2, 3, 4] rfl ?_
    exact hK105 _ _ _ _ _ h
def x_drawsEnd_B105 (n : Nat) (m : Nat) (K105 : Int32 → Int32 → Int32 → Int32 → kt_M → Option (Unit × kt_M)) (l1 : Int32) (l2 : Int32) (l3 : Int32) (l4 : Int32) (μ : kt_M) : Option (Unit × kt_M) := (if l3 = 0 then x_drawsEnd_J125 n m K105 l1 l2 l3 l4 l4 (0 : Int32) μ else (if l3 = (1 : Int32) then x_drawsEnd_J125 n m K105 l1 l2 l3 l4 l4 (1 : Int32) μ else x_drawsEnd_J125 n m K105 l1 l2 l3 l4 l4 (2 : Int32) μ))
set_option maxHeartbeats 4000000 in
set_option maxRecDepth 100000 in
theorem xw_drawsEnd_B105 {G : kt_G} {σ : kt_Y} {X : kt_X} (hX : kt_ok G X RX10 cX10_drawsEnd 5 1 0 0) (hr : kt_rt X = none) {m : Nat} (hm : kt_md σ m) {n : Nat} {q : (Unit × kt_M)} {K105 : Int32 → Int32 → Int32 → Int32 → kt_M → Option (Unit × kt_M)} (hK105 : ∀ (l1 : Int32) (l2 : Int32) (l3 : Int32) (l4 : Int32) (μ : kt_M), K105 l1 l2 l3 l4 μ = some q → kt_W G X 5 105 [(0, .ref m), (1, .int l1), (2, .int l2), (3, .int l3), (4, .int l4)] [] σ μ 0 0 (kt_Z G X (kt_q σ (fun rv μ2 => rv = none ∧ μ2 = q.2)) 0 0)) {l1 : Int32} {l2 : Int32} {l3 : Int32} {l4 : Int32} {μ : kt_M} (h : x_drawsEnd_B105 n m K105 l1 l2 l3 l4 μ = some q) : kt_W G X 5 105 [(0, .ref m), (1, .int l1), (2, .int l2), (3, .int l3), (4, .int l4)] [] σ μ 0 0 (kt_Z G X (kt_q σ (fun rv μ2 => rv = none ∧ μ2 = q.2)) 0 0) := by
  unfold x_drawsEnd_B105 at h
  refine kr_iload hX dX10_drawsEnd_105 rfl ?_
  refine kr_iload_n (i := 3) hX dX10_drawsEnd_107 rfl rfl ?_
  refine kr_if_ne (tgt := 115) hX dX10_drawsEnd_108 (by decide) (fun c_108 => ?_) (fun c_108 => ?_)
  · replace h := kq_f c_108 h
    refine kr_iload_n (i := 3) hX dX10_drawsEnd_115 rfl rfl ?_
    refine kr_iconst (v := 1) hX dX10_drawsEnd_116 (by decide) ?_
    refine kr_icmp_ne (tgt := 124) hX dX10_drawsEnd_117 (by decide) (fun c_117 => ?_) (fun c_117 => ?_)
    · replace h := kq_f c_117 h
      refine kr_iconst (v := 2) hX dX10_drawsEnd_124 (by decide) ?_
      refine kr_keep (lv' := [(0, .ref m), (1, .int l1), (2, .int l2), (3, .int l3), (4, .int l4)]) [0, 1, 2, 3, 4] rfl ?_
      exact xw_drawsEnd_J125 hX hr hm hK105 h
    · replace h := kq_t c_117 h
      refine kr_iconst (v := 1) hX dX10_drawsEnd_120 (by decide) ?_
      refine kr_goto (tgt := 125) hX dX10_drawsEnd_121 (by decide) ?_
      refine kr_keep (lv' := [(0, .ref m), (1, .int l1), (2, .int l2), (3, .int l3), (4, .int l4)]) [0, 1, 2, 3, 4] rfl ?_
      exact xw_drawsEnd_J125 hX hr hm hK105 h
  · replace h := kq_t c_108 h
    refine kr_iconst (v := 0) hX dX10_drawsEnd_111 (by decide) ?_
    refine kr_goto (tgt := 125) hX dX10_drawsEnd_112 (by decide) ?_
    refine kr_keep (lv' := [(0, .ref m), (1, .int l1), (2, .int l2), (3, .int l3), (4, .int l4)]) [0, 1, 2, 3, 4] rfl ?_
    exact xw_drawsEnd_J125 hX hr hm hK105 h
def x_drawsEnd_L105 (n : Nat) (m : Nat) : Nat → Int32 → Int32 → Int32 → Int32 → kt_M → Option (Unit × kt_M)
  | 0, _, _, _, _, _ => none
  | k + 1, l1, l2, l3, l4, μ => x_drawsEnd_B105 n m (x_drawsEnd_L105 n m k) l1 l2 l3 l4 μ
set_option maxHeartbeats 4000000 in
set_option maxRecDepth 100000 in
theorem xw_drawsEnd_L105 {G : kt_G} {σ : kt_Y} {X : kt_X} (hX : kt_ok G X RX10 cX10_drawsEnd 5 1 0 0) (hr : kt_rt X = none) {m : Nat} (hm : kt_md σ m) {n : Nat} {q : (Unit × kt_M)} : ∀ (k : Nat) (l1 : Int32) (l2 : Int32) (l3 : Int32) (l4 : Int32) (μ : kt_M), x_drawsEnd_L105 n m k l1 l2 l3 l4 μ = some q → kt_W G X 5 105 [(0, .ref m), (1, .int l1), (2, .int l2), (3, .int l3), (4, .int l4)] [] σ μ 0 0 (kt_Z G X (kt_q σ (fun rv μ2 => rv = none ∧ μ2 = q.2)) 0 0) := by
  intro k
  induction k with
  | zero => intro l1 l2 l3 l4 μ h; cases h
  | succ k ih => intro l1 l2 l3 l4 μ h; exact xw_drawsEnd_B105 hX hr hm ih h
def x_drawsEnd_J100 (n : Nat) (m : Nat) (l1 : Int32) (l2 : Int32) (l3 : Int32) (s1 : Int32) (s2 : Int32) (s3 : Int32) (μ : kt_M) : Option (Unit × kt_M) := kq_ck (¬ s3 = 0) (kq_ck (kq_in s1 1284) (kq_lt (kt_si μ (m + 1) (Int32.toNatClampNeg s1) (s2 - s2 / s3 * s3)) (fun μ_101 => x_drawsEnd_L105 n m n l1 l2 l3 (0 : Int32) μ_101)))
set_option maxHeartbeats 4000000 in
set_option maxRecDepth 100000 in
theorem xw_drawsEnd_J100 {G : kt_G} {σ : kt_Y} {X : kt_X} (hX : kt_ok G X RX10 cX10_drawsEnd 5 1 0 0) (hr : kt_rt X = none) {m : Nat} (hm : kt_md σ m) {n : Nat} {q : (Unit × kt_M)} {l1 : Int32} {l2 : Int32} {l3 : Int32} {s1 : Int32} {s2 : Int32} {s3 : Int32} {μ : kt_M} (h : x_drawsEnd_J100 n m l1 l2 l3 s1 s2 s3 μ = some q) : kt_W G X 5 100 [(0, .ref m), (1, .int l1), (2, .int l2), (3, .int l3)] [.int s3, .int s2, .int s1, .ref (m + 1)] σ μ 0 0 (kt_Z G X (kt_q σ (fun rv μ2 => rv = none ∧ μ2 = q.2)) 0 0) := by
  unfold x_drawsEnd_J100 at h
  obtain ⟨i_100, h⟩ := kq_ck_e h
  refine kr_irem hX dX10_drawsEnd_100 (i_100) ?_
  obtain ⟨i_101, h⟩ := kq_ck_e h
  refine kr_iast hX dX10_drawsEnd_101 (md_a1 hm) (vp_in_iff.mpr i_101) ?_
  refine kr_ltM h (fun μ_101 h => ?_)
  refine kr_iconst (v := 0) hX dX10_drawsEnd_102 (by decide) ?_
  refine kr_istore hX dX10_drawsEnd_103 (by decide) rfl rfl ?_
  refine kr_keep (lv' := [(0, .ref m), (1, .int l1), (2, .int l2), (3, .int l3), (4, .int (0 : Int32))]) [0, 1, 2, 3, 4] rfl ?_
  exact xw_drawsEnd_L105 hX hr hm n _ _ _ _ _ h
def x_drawsEnd_J34 (n : Nat) (m : Nat) (l1 : Int32) (l2 : Int32) (l3 : Int32) (s1 : Int32) (s2 : Int32) (μ : kt_M) : Option (Unit × kt_M) := kq_ck (kq_in s1 1284) (kq_lt (kt_si μ (m + 1) (Int32.toNatClampNeg s1) s2) (fun μ_34 => (if l3 ≤ (1 : Int32) then x_drawsEnd_L105 n m n l1 l2 l3 (0 : Int32) μ_34 else kq_b2 (x_gets n m μ_34) (fun r_49 μ_49 => kq_ck (kq_in (l1 + (16 : Int32)) 1284) (kq_lt (kt_si μ_49 (m + 1) (Int32.toNatClampNeg (l1 + (16 : Int32))) (r_49 - r_49 / (4 : Int32) * (4 : Int32))) (fun μ_54 => kq_b2 (x_gets n m μ_54) (fun r_56 μ_56 => kq_ck (kq_in (l1 + (17 : Int32)) 1284) (kq_lt (kt_si μ_56 (m + 1) (Int32.toNatClampNeg (l1 + (17 : Int32))) (r_56 - r_56 / (2 : Int32) * (2 : Int32))) (fun μ_73 => (if (r_56 - r_56 / (2 : Int32) * (2 : Int32)) = 0 then x_drawsEnd_J100 n m l1 l2 l3 (l1 + (18 : Int32)) (r_56 / (8 : Int32)) (51 : Int32) μ_73 else x_drawsEnd_J100 n m l1 l2 l3 (l1 + (18 : Int32)) (r_56 / (8 : Int32)) (4 : Int32) μ_73))))))))))
set_option maxHeartbeats 4000000 in
set_option maxRecDepth 100000 in
theorem xw_drawsEnd_J34 {G : kt_G} {σ : kt_Y} {X : kt_X} (hX : kt_ok G X RX10 cX10_drawsEnd 5 1 0 0) (hr : kt_rt X = none) {m : Nat} (hm : kt_md σ m) {n : Nat} {q : (Unit × kt_M)} {l1 : Int32} {l2 : Int32} {l3 : Int32} {s1 : Int32} {s2 : Int32} {μ : kt_M} (h : x_drawsEnd_J34 n m l1 l2 l3 s1 s2 μ = some q) : kt_W G X 5 34 [(0, .ref m), (1, .int l1), (2, .int l2), (3, .int l3)] [.int s2, .int s1, .ref (m + 1)] σ μ 0 0 (kt_Z G X (kt_q σ (fun rv μ2 => rv = none ∧ μ2 = q.2)) 0 0) := by
  unfold x_drawsEnd_J34 at h
  obtain ⟨i_34, h⟩ := kq_ck_e h
  refine kr_iast hX dX10_drawsEnd_34 (md_a1 hm) (vp_in_iff.mpr i_34) ?_
  refine kr_ltM h (fun μ_34 h => ?_)
  refine kr_iload_n (i := 3) hX dX10_drawsEnd_35 rfl rfl ?_
  refine kr_iconst (v := 1) hX dX10_drawsEnd_36 (by decide) ?_
  refine kr_icmp_le (tgt := 102) hX dX10_drawsEnd_37 (by decide) (fun c_37 => ?_) (fun c_37 => ?_)
  · replace h := kq_t c_37 h
    refine kr_iconst (v := 0) hX dX10_drawsEnd_102 (by decide) ?_
    refine kr_istore hX dX10_drawsEnd_103 (by decide) rfl rfl ?_
    refine kr_keep (lv' := [(0, .ref m), (1, .int l1), (2, .int l2), (3, .int l3), (4, .int (0 : Int32))]) [0, 1, 2, 3, 4] rfl ?_
    exact xw_drawsEnd_L105 hX hr hm n _ _ _ _ _ h
  · replace h := kq_f c_37 h
    refine kr_aload_n (i := 0) hX dX10_drawsEnd_40 rfl rfl ?_
    refine kr_getr (c0 := 10) (k := 0) hX ⟨_, kf_10_9⟩ dX10_drawsEnd_41 rfl (md_k hm) (md_r0 hm) ?_
    refine kr_iload_n (i := 1) hX dX10_drawsEnd_44 rfl rfl ?_
    refine kr_bipush (v := 16) hX dX10_drawsEnd_45 (by decide) ?_
    refine kr_iadd hX dX10_drawsEnd_47 ?_
    refine kr_aload_n (i := 0) hX dX10_drawsEnd_48 rfl rfl ?_
    obtain ⟨r_49, μ_49, e_49, h⟩ := kq_b2_e h
    refine kr_dV (c1 := 10) [] hX km_10_355 dX10_drawsEnd_49 (xs_gets hm e_49) rfl rfl ⟨_, _, rfl⟩ (by decide) (Nat.le_of_ble_eq_true rfl) (Nat.le_refl _) (Nat.le_refl _) (md_k hm) ?_
    refine kr_iconst (v := 4) hX dX10_drawsEnd_52 (by decide) ?_
    refine kr_irem hX dX10_drawsEnd_53 (by decide) ?_
    obtain ⟨i_54, h⟩ := kq_ck_e h
    refine kr_iast hX dX10_drawsEnd_54 (md_a1 hm) (vp_in_iff.mpr i_54) ?_
    refine kr_ltM h (fun μ_54 h => ?_)
    refine kr_aload_n (i := 0) hX dX10_drawsEnd_55 rfl rfl ?_
    obtain ⟨r_56, μ_56, e_56, h⟩ := kq_b2_e h
    refine kr_dV (c1 := 10) [] hX km_10_355 dX10_drawsEnd_56 (xs_gets hm e_56) rfl rfl ⟨_, _, rfl⟩ (by decide) (Nat.le_of_ble_eq_true rfl) (Nat.le_refl _) (Nat.le_refl _) (md_k hm) ?_
    refine kr_istore hX dX10_drawsEnd_59 (by decide) rfl rfl ?_
    refine kr_aload_n (i := 0) hX dX10_drawsEnd_61 rfl rfl ?_
    refine kr_getr (c0 := 10) (k := 0) hX ⟨_, kf_10_9⟩ dX10_drawsEnd_62 rfl (md_k hm) (md_r0 hm) ?_
    refine kr_iload_n (i := 1) hX dX10_drawsEnd_65 rfl rfl ?_
    refine kr_bipush (v := 17) hX dX10_drawsEnd_66 (by decide) ?_
    refine kr_iadd hX dX10_drawsEnd_68 ?_
    refine kr_iload hX dX10_drawsEnd_69 rfl ?_
    refine kr_iconst (v := 2) hX dX10_drawsEnd_71 (by decide) ?_
    refine kr_irem hX dX10_drawsEnd_72 (by decide) ?_
    obtain ⟨i_73, h⟩ := kq_ck_e h
    refine kr_iast hX dX10_drawsEnd_73 (md_a1 hm) (vp_in_iff.mpr i_73) ?_
    refine kr_ltM h (fun μ_73 h => ?_)
    refine kr_aload_n (i := 0) hX dX10_drawsEnd_74 rfl rfl ?_
    refine kr_getr (c0 := 10) (k := 0) hX ⟨_, kf_10_9⟩ dX10_drawsEnd_75 rfl (md_k hm) (md_r0 hm) ?_
    refine kr_iload_n (i := 1) hX dX10_drawsEnd_78 rfl rfl ?_
    refine kr_bipush (v := 18) hX dX10_drawsEnd_79 (by decide) ?_
    refine kr_iadd hX dX10_drawsEnd_81 ?_
    refine kr_iload hX dX10_drawsEnd_82 rfl ?_
    refine kr_bipush (v := 8) hX dX10_drawsEnd_84 (by decide) ?_
    refine kr_idiv hX dX10_drawsEnd_86 (by decide) ?_
    refine kr_iload hX dX10_drawsEnd_87 rfl ?_
    refine kr_iconst (v := 2) hX dX10_drawsEnd_89 (by decide) ?_
    refine kr_irem hX dX10_drawsEnd_90 (by decide) ?_
    refine kr_if_ne (tgt := 99) hX dX10_drawsEnd_91 (by decide) (fun c_91 => ?_) (fun c_91 => ?_)
    · replace h := kq_f c_91 h
      refine kr_iconst (v := 4) hX dX10_drawsEnd_99 (by decide) ?_
      refine kr_keep (lv' := [(0, .ref m), (1, .int l1), (2, .int l2), (3, .int l3)]) [0, 1, 2, 3] rfl ?_
      exact xw_drawsEnd_J100 hX hr hm h
    · replace h := kq_t c_91 h
      refine kr_bipush (v := 51) hX dX10_drawsEnd_94 (by decide) ?_
      refine kr_goto (tgt := 100) hX dX10_drawsEnd_96 (by decide) ?_
      refine kr_keep (lv' := [(0, .ref m), (1, .int l1), (2, .int l2), (3, .int l3)]) [0, 1, 2, 3] rfl ?_
      exact xw_drawsEnd_J100 hX hr hm h
def x_drawsEnd (n : Nat) (m : Nat) (μ : kt_M) (a0 : Int32) (a1 : Int32) : Option (Unit × kt_M) := kq_b2 (x_gets n m μ) (fun r_1 μ_1 => kq_b2 (x_noTest n m μ_1 (m + 1) 1284 a0) (fun r_13 μ_13 => (if (r_1 - r_1 / (5 : Int32) * (5 : Int32)) = (4 : Int32) then x_drawsEnd_J34 n m a0 a1 (r_1 - r_1 / (5 : Int32) * (5 : Int32)) (a0 + (13 : Int32)) (2 : Int32) μ_13 else x_drawsEnd_J34 n m a0 a1 (r_1 - r_1 / (5 : Int32) * (5 : Int32)) (a0 + (13 : Int32)) (r_1 - r_1 / (5 : Int32) * (5 : Int32)) μ_13)))
set_option maxHeartbeats 4000000 in
set_option maxRecDepth 100000 in
theorem xs_drawsEnd {G : kt_G} {σ : kt_Y} {μ : kt_M} {m : Nat} (hm : kt_md σ m) {n : Nat} {a0 : Int32} {a1 : Int32} {r : Unit} {μ1 : kt_M} (h : x_drawsEnd n m μ a0 a1 = some (r, μ1)) : kt_F G yX10_drawsEnd cX10_drawsEnd 5 none 1 [.ref m, .int a0, .int a1] σ μ (fun rv μ2 => rv = none ∧ μ2 = μ1) := by
  have key : ∀ q : (Unit × kt_M), x_drawsEnd n m μ a0 a1 = some q → kt_F G yX10_drawsEnd cX10_drawsEnd 5 none 1 [.ref m, .int a0, .int a1] σ μ (fun rv μ2 => rv = none ∧ μ2 = q.2) := by
    intro q h
    unfold x_drawsEnd at h
    refine kt_F.of (by decide) (Nat.le_of_ble_eq_true rfl) (fun X hX hr => ?_)
    refine kr_aload_n (i := 0) hX dX10_drawsEnd_0 rfl rfl ?_
    obtain ⟨r_1, μ_1, e_1, h⟩ := kq_b2_e h
    refine kr_dV (c1 := 10) [] hX km_10_355 dX10_drawsEnd_1 (xs_gets hm e_1) rfl rfl ⟨_, _, rfl⟩ (by decide) (Nat.le_of_ble_eq_true rfl) (Nat.le_refl _) (Nat.le_refl _) (md_k hm) ?_
    refine kr_iconst (v := 5) hX dX10_drawsEnd_4 (by decide) ?_
    refine kr_irem hX dX10_drawsEnd_5 (by decide) ?_
    refine kr_istore_n (i := 3) hX dX10_drawsEnd_6 rfl (by decide) rfl rfl ?_
    refine kr_aload_n (i := 0) hX dX10_drawsEnd_7 rfl rfl ?_
    refine kr_aload_n (i := 0) hX dX10_drawsEnd_8 rfl rfl ?_
    refine kr_getr (c0 := 10) (k := 0) hX ⟨_, kf_10_9⟩ dX10_drawsEnd_9 rfl (md_k hm) (md_r0 hm) ?_
    refine kr_iload_n (i := 1) hX dX10_drawsEnd_12 rfl rfl ?_
    obtain ⟨r_13, μ_13, e_13, h⟩ := kq_b2_e h
    refine kr_dV (c1 := 10) [_, _] hX km_10_149 dX10_drawsEnd_13 (xs_noTest hm (md_a1 hm) e_13) rfl rfl ⟨_, _, rfl⟩ (by decide) (Nat.le_of_ble_eq_true rfl) (Nat.le_refl _) (Nat.le_refl _) (md_k hm) ?_
    refine kr_aload_n (i := 0) hX dX10_drawsEnd_16 rfl rfl ?_
    refine kr_getr (c0 := 10) (k := 0) hX ⟨_, kf_10_9⟩ dX10_drawsEnd_17 rfl (md_k hm) (md_r0 hm) ?_
    refine kr_iload_n (i := 1) hX dX10_drawsEnd_20 rfl rfl ?_
    refine kr_bipush (v := 13) hX dX10_drawsEnd_21 (by decide) ?_
    refine kr_iadd hX dX10_drawsEnd_23 ?_
    refine kr_iload_n (i := 3) hX dX10_drawsEnd_24 rfl rfl ?_
    refine kr_iconst (v := 4) hX dX10_drawsEnd_25 (by decide) ?_
    refine kr_icmp_ne (tgt := 33) hX dX10_drawsEnd_26 (by decide) (fun c_26 => ?_) (fun c_26 => ?_)
    · replace h := kq_f c_26 h
      refine kr_iload_n (i := 3) hX dX10_drawsEnd_33 rfl rfl ?_
      refine kr_keep (lv' := [(0, .ref m), (1, .int a0), (2, .int a1), (3, .int (r_1 - r_1 / (5 : Int32) * (5 : Int32)))]) [0, 1, 2, 3] rfl ?_
      exact xw_drawsEnd_J34 hX hr hm h
    · replace h := kq_t c_26 h
      refine kr_iconst (v := 2) hX dX10_drawsEnd_29 (by decide) ?_
      refine kr_goto (tgt := 34) hX dX10_drawsEnd_30 (by decide) ?_
      refine kr_keep (lv' := [(0, .ref m), (1, .int a0), (2, .int a1), (3, .int (r_1 - r_1 / (5 : Int32) * (5 : Int32)))]) [0, 1, 2, 3] rfl ?_
      exact xw_drawsEnd_J34 hX hr hm h
  exact key (r, μ1) h
def x_draw_B60 (n : Nat) (m : Nat) (K28 : Int32 → Int32 → kt_M → Option (Int32 × kt_M)) (K60 : Int32 → Int32 → Int32 → Int32 → Int32 → kt_M → Option (Int32 × kt_M)) (l2 : Int32) (l3 : Int32) (l4 : Int32) (l5 : Int32) (l6 : Int32) (μ : kt_M) : Option (Int32 × kt_M) := (if l5 ≤ l6 then kq_b2 (x_drawsEnd n m μ l4 l2) (fun r_83 μ_83 => kq_ck (kq_in (l4 + (19 : Int32)) 1284) (kq_lt (kt_si μ_83 (m + 1) (Int32.toNatClampNeg (l4 + (19 : Int32))) l3) (fun μ_96 => K28 l2 (l3 + 1) μ_96))) else kq_b2 (x_drawsAct n m μ l4) (fun r_70 μ_70 => K60 l2 l3 l4 l5 (l6 + 1) μ_70))
set_option maxHeartbeats 4000000 in
set_option maxRecDepth 100000 in
theorem xw_draw_B60 {G : kt_G} {σ : kt_Y} {X : kt_X} (hX : kt_ok G X RX10 cX10_draw 7 4 0 0) (hr : kt_rt X = (some .int)) {m : Nat} (hm : kt_md σ m) {n : Nat} {q : (Int32 × kt_M)} {K28 : Int32 → Int32 → kt_M → Option (Int32 × kt_M)} (hK28 : ∀ (l2 : Int32) (l3 : Int32) (μ : kt_M), K28 l2 l3 μ = some q → kt_W G X 7 28 [(0, .ref m), (2, .int l2), (3, .int l3)] [] σ μ 0 0 (kt_Z G X (kt_q σ (fun rv μ2 => rv = some (.int q.1) ∧ μ2 = q.2)) 0 0)) {K60 : Int32 → Int32 → Int32 → Int32 → Int32 → kt_M → Option (Int32 × kt_M)} (hK60 : ∀ (l2 : Int32) (l3 : Int32) (l4 : Int32) (l5 : Int32) (l6 : Int32) (μ : kt_M), K60 l2 l3 l4 l5 l6 μ = some q → kt_W G X 7 60 [(0, .ref m), (2, .int l2), (3, .int l3), (4, .int l4), (5, .int l5), (6, .int l6)] [] σ μ 0 0 (kt_Z G X (kt_q σ (fun rv μ2 => rv = some (.int q.1) ∧ μ2 = q.2)) 0 0)) {l2 : Int32} {l3 : Int32} {l4 : Int32} {l5 : Int32} {l6 : Int32} {μ : kt_M} (h : x_draw_B60 n m K28 K60 l2 l3 l4 l5 l6 μ = some q) : kt_W G X 7 60 [(0, .ref m), (2, .int l2), (3, .int l3), (4, .int l4), (5, .int l5), (6, .int l6)] [] σ μ 0 0 (kt_Z G X (kt_q σ (fun rv μ2 => rv = some (.int q.1) ∧ μ2 = q.2)) 0 0) := by
  unfold x_draw_B60 at h
  refine kr_iload hX dX10_draw_60 rfl ?_
  refine kr_iload hX dX10_draw_62 rfl ?_
  refine kr_icmp_ge (tgt := 79) hX dX10_draw_64 (by decide) (fun c_64 => ?_) (fun c_64 => ?_)
  · replace h := kq_t c_64 h
    refine kr_aload_n (i := 0) hX dX10_draw_79 rfl rfl ?_
    refine kr_iload hX dX10_draw_80 rfl ?_
    refine kr_iload_n (i := 2) hX dX10_draw_82 rfl rfl ?_
    obtain ⟨r_83, μ_83, e_83, h⟩ := kq_b2_e h
    refine kr_dV (c1 := 10) [_, _] hX km_10_364 dX10_draw_83 (xs_drawsEnd hm e_83) rfl rfl ⟨_, _, rfl⟩ (by decide) (Nat.le_of_ble_eq_true rfl) (Nat.le_refl _) (Nat.le_refl _) (md_k hm) ?_
    refine kr_aload_n (i := 0) hX dX10_draw_86 rfl rfl ?_
    refine kr_getr (c0 := 10) (k := 0) hX ⟨_, kf_10_9⟩ dX10_draw_87 rfl (md_k hm) (md_r0 hm) ?_
    refine kr_iload hX dX10_draw_90 rfl ?_
    refine kr_bipush (v := 19) hX dX10_draw_92 (by decide) ?_
    refine kr_iadd hX dX10_draw_94 ?_
    refine kr_iload_n (i := 3) hX dX10_draw_95 rfl rfl ?_
    obtain ⟨i_96, h⟩ := kq_ck_e h
    refine kr_iast hX dX10_draw_96 (md_a1 hm) (vp_in_iff.mpr i_96) ?_
    refine kr_ltM h (fun μ_96 h => ?_)
    refine kr_iinc (v := (l3 + 1)) hX dX10_draw_97 rfl rfl (by decide) rfl rfl ?_
    refine kr_goto (tgt := 28) hX dX10_draw_100 (by decide) ?_
    refine kr_keep (lv' := [(0, .ref m), (2, .int l2), (3, .int (l3 + 1))]) [0, 1, 2] rfl ?_
    exact hK28 _ _ _ h
  · replace h := kq_f c_64 h
    refine kr_aload_n (i := 0) hX dX10_draw_67 rfl rfl ?_
    refine kr_iload hX dX10_draw_68 rfl ?_
    obtain ⟨r_70, μ_70, e_70, h⟩ := kq_b2_e h
    refine kr_dV (c1 := 10) [_] hX km_10_361 dX10_draw_70 (xs_drawsAct hm e_70) rfl rfl ⟨_, _, rfl⟩ (by decide) (Nat.le_of_ble_eq_true rfl) (Nat.le_refl _) (Nat.le_refl _) (md_k hm) ?_
    refine kr_iinc (v := (l6 + 1)) hX dX10_draw_73 rfl rfl (by decide) rfl rfl ?_
    refine kr_goto (tgt := 60) hX dX10_draw_76 (by decide) ?_
    refine kr_keep (lv' := [(0, .ref m), (2, .int l2), (3, .int l3), (4, .int l4), (5, .int l5), (6, .int (l6 + 1))]) [0, 1, 2, 3, 4, 5] rfl ?_
    exact hK60 _ _ _ _ _ _ h
def x_draw_L60 (n : Nat) (m : Nat) (K28 : Int32 → Int32 → kt_M → Option (Int32 × kt_M)) : Nat → Int32 → Int32 → Int32 → Int32 → Int32 → kt_M → Option (Int32 × kt_M)
  | 0, _, _, _, _, _, _ => none
  | k + 1, l2, l3, l4, l5, l6, μ => x_draw_B60 n m K28 (x_draw_L60 n m K28 k) l2 l3 l4 l5 l6 μ
set_option maxHeartbeats 4000000 in
set_option maxRecDepth 100000 in
theorem xw_draw_L60 {G : kt_G} {σ : kt_Y} {X : kt_X} (hX : kt_ok G X RX10 cX10_draw 7 4 0 0) (hr : kt_rt X = (some .int)) {m : Nat} (hm : kt_md σ m) {n : Nat} {q : (Int32 × kt_M)} {K28 : Int32 → Int32 → kt_M → Option (Int32 × kt_M)} (hK28 : ∀ (l2 : Int32) (l3 : Int32) (μ : kt_M), K28 l2 l3 μ = some q → kt_W G X 7 28 [(0, .ref m), (2, .int l2), (3, .int l3)] [] σ μ 0 0 (kt_Z G X (kt_q σ (fun rv μ2 => rv = some (.int q.1) ∧ μ2 = q.2)) 0 0)) : ∀ (k : Nat) (l2 : Int32) (l3 : Int32) (l4 : Int32) (l5 : Int32) (l6 : Int32) (μ : kt_M), x_draw_L60 n m K28 k l2 l3 l4 l5 l6 μ = some q → kt_W G X 7 60 [(0, .ref m), (2, .int l2), (3, .int l3), (4, .int l4), (5, .int l5), (6, .int l6)] [] σ μ 0 0 (kt_Z G X (kt_q σ (fun rv μ2 => rv = some (.int q.1) ∧ μ2 = q.2)) 0 0) := by
  intro k
  induction k with
  | zero => intro l2 l3 l4 l5 l6 μ h; cases h
  | succ k ih => intro l2 l3 l4 l5 l6 μ h; exact xw_draw_B60 hX hr hm hK28 ih h
def x_draw_B28 (n : Nat) (m : Nat) (K28 : Int32 → Int32 → kt_M → Option (Int32 × kt_M)) (l2 : Int32) (l3 : Int32) (μ : kt_M) : Option (Int32 × kt_M) := (if l2 ≤ l3 then kq_b2 (x_anew n m μ) (fun r_104 μ_104 => kq_b2 (x_summed n m μ_104 (0 : Int32) (2 : Int32)) (fun r_110 μ_110 => some (r_110, μ_110))) else kq_b1 (x_at n (0 : Int32) l3 (0 : Int32)) (fun r_36 => kq_b2 (x_gets n m μ) (fun r_42 μ_42 => kq_ck (kq_in r_36 1284) (kq_lt (kt_si μ_42 (m + 1) (Int32.toNatClampNeg r_36) (0 : Int32)) (fun μ_56 => x_draw_L60 n m K28 n l2 l3 r_36 (r_42 - r_42 / (4 : Int32) * (4 : Int32)) (0 : Int32) μ_56)))))
set_option maxHeartbeats 4000000 in
set_option maxRecDepth 100000 in
theorem xw_draw_B28 {G : kt_G} {σ : kt_Y} {X : kt_X} (hX : kt_ok G X RX10 cX10_draw 7 4 0 0) (hr : kt_rt X = (some .int)) {m : Nat} (hm : kt_md σ m) {n : Nat} {q : (Int32 × kt_M)} {K28 : Int32 → Int32 → kt_M → Option (Int32 × kt_M)} (hK28 : ∀ (l2 : Int32) (l3 : Int32) (μ : kt_M), K28 l2 l3 μ = some q → kt_W G X 7 28 [(0, .ref m), (2, .int l2), (3, .int l3)] [] σ μ 0 0 (kt_Z G X (kt_q σ (fun rv μ2 => rv = some (.int q.1) ∧ μ2 = q.2)) 0 0)) {l2 : Int32} {l3 : Int32} {μ : kt_M} (h : x_draw_B28 n m K28 l2 l3 μ = some q) : kt_W G X 7 28 [(0, .ref m), (2, .int l2), (3, .int l3)] [] σ μ 0 0 (kt_Z G X (kt_q σ (fun rv μ2 => rv = some (.int q.1) ∧ μ2 = q.2)) 0 0) := by
  unfold x_draw_B28 at h
  refine kr_iload_n (i := 3) hX dX10_draw_28 rfl rfl ?_
  refine kr_iload_n (i := 2) hX dX10_draw_29 rfl rfl ?_
  refine kr_icmp_ge (tgt := 103) hX dX10_draw_30 (by decide) (fun c_30 => ?_) (fun c_30 => ?_)
  · replace h := kq_t c_30 h
    refine kr_aload_n (i := 0) hX dX10_draw_103 rfl rfl ?_
    obtain ⟨r_104, μ_104, e_104, h⟩ := kq_b2_e h
    refine kr_dV (c1 := 10) [] hX km_10_169 dX10_draw_104 (xs_anew hm e_104) rfl rfl ⟨_, _, rfl⟩ (by decide) (Nat.le_of_ble_eq_true rfl) (Nat.le_refl _) (Nat.le_refl _) (md_k hm) ?_
    refine kr_aload_n (i := 0) hX dX10_draw_107 rfl rfl ?_
    refine kr_iconst (v := 0) hX dX10_draw_108 (by decide) ?_
    refine kr_iconst (v := 2) hX dX10_draw_109 (by decide) ?_
    obtain ⟨r_110, μ_110, e_110, h⟩ := kq_b2_e h
    refine kr_dV (c1 := 10) [_, _] hX km_10_196 dX10_draw_110 (xs_summed hm e_110) rfl rfl ⟨_, _, rfl⟩ (by decide) (Nat.le_of_ble_eq_true rfl) (Nat.le_refl _) (Nat.le_refl _) (md_k hm) ?_
    refine kr_iret hX hr dX10_draw_113 ⟨rfl, ?_⟩
    exact kq_rI h
  · replace h := kq_f c_30 h
    refine kr_iconst (v := 0) hX dX10_draw_33 (by decide) ?_
    refine kr_iload_n (i := 3) hX dX10_draw_34 rfl rfl ?_
    refine kr_iconst (v := 0) hX dX10_draw_35 (by decide) ?_
    obtain ⟨r_36, e_36, h⟩ := kq_b1_e h
    refine kr_dS [_, _, _] hX km_10_70 dX10_draw_36 (xs_at e_36) rfl rfl (by decide) (Nat.le_of_ble_eq_true rfl) (Nat.le_refl _) (Nat.le_refl _) ?_
    refine kr_istore hX dX10_draw_39 (by decide) rfl rfl ?_
    refine kr_aload_n (i := 0) hX dX10_draw_41 rfl rfl ?_
    obtain ⟨r_42, μ_42, e_42, h⟩ := kq_b2_e h
    refine kr_dV (c1 := 10) [] hX km_10_355 dX10_draw_42 (xs_gets hm e_42) rfl rfl ⟨_, _, rfl⟩ (by decide) (Nat.le_of_ble_eq_true rfl) (Nat.le_refl _) (Nat.le_refl _) (md_k hm) ?_
    refine kr_iconst (v := 4) hX dX10_draw_45 (by decide) ?_
    refine kr_irem hX dX10_draw_46 (by decide) ?_
    refine kr_istore hX dX10_draw_47 (by decide) rfl rfl ?_
    refine kr_aload_n (i := 0) hX dX10_draw_49 rfl rfl ?_
    refine kr_getr (c0 := 10) (k := 0) hX ⟨_, kf_10_9⟩ dX10_draw_50 rfl (md_k hm) (md_r0 hm) ?_
    refine kr_iload hX dX10_draw_53 rfl ?_
    refine kr_iconst (v := 0) hX dX10_draw_55 (by decide) ?_
    obtain ⟨i_56, h⟩ := kq_ck_e h
    refine kr_iast hX dX10_draw_56 (md_a1 hm) (vp_in_iff.mpr i_56) ?_
    refine kr_ltM h (fun μ_56 h => ?_)
    refine kr_iconst (v := 0) hX dX10_draw_57 (by decide) ?_
    refine kr_istore hX dX10_draw_58 (by decide) rfl rfl ?_
    refine kr_keep (lv' := [(0, .ref m), (2, .int l2), (3, .int l3), (4, .int r_36), (5, .int (r_42 - r_42 / (4 : Int32) * (4 : Int32))), (6, .int (0 : Int32))]) [0, 1, 2, 3, 4, 5] rfl ?_
    exact xw_draw_L60 hX hr hm hK28 n _ _ _ _ _ _ h
def x_draw_L28 (n : Nat) (m : Nat) : Nat → Int32 → Int32 → kt_M → Option (Int32 × kt_M)
  | 0, _, _, _ => none
  | k + 1, l2, l3, μ => x_draw_B28 n m (x_draw_L28 n m k) l2 l3 μ
set_option maxHeartbeats 4000000 in
set_option maxRecDepth 100000 in
theorem xw_draw_L28 {G : kt_G} {σ : kt_Y} {X : kt_X} (hX : kt_ok G X RX10 cX10_draw 7 4 0 0) (hr : kt_rt X = (some .int)) {m : Nat} (hm : kt_md σ m) {n : Nat} {q : (Int32 × kt_M)} : ∀ (k : Nat) (l2 : Int32) (l3 : Int32) (μ : kt_M), x_draw_L28 n m k l2 l3 μ = some q → kt_W G X 7 28 [(0, .ref m), (2, .int l2), (3, .int l3)] [] σ μ 0 0 (kt_Z G X (kt_q σ (fun rv μ2 => rv = some (.int q.1) ∧ μ2 = q.2)) 0 0) := by
  intro k
  induction k with
  | zero => intro l2 l3 μ h; cases h
  | succ k ih => intro l2 l3 μ h; exact xw_draw_B28 hX hr hm ih h
def x_draw (n : Nat) (m : Nat) (μ : kt_M) (a0 : Int32) (a1 : Int32) : Option (Int32 × kt_M) := kq_b1 (x_in n (Int32.toInt64 a1) (1 : Int64) (8 : Int64)) (fun r_6 => (if r_6 = 0 then some (((-1) : Int32), μ) else kq_lt (kt_si μ m 28 a0) (fun μ_16 => kq_lt (kt_si μ_16 (m + 1) (Int32.toNatClampNeg (0 : Int32)) a1) (fun μ_25 => x_draw_L28 n m n a1 (0 : Int32) μ_25))))
set_option maxHeartbeats 4000000 in
set_option maxRecDepth 100000 in
theorem xs_draw {G : kt_G} {σ : kt_Y} {μ : kt_M} {m : Nat} (hm : kt_md σ m) {n : Nat} {a0 : Int32} {a1 : Int32} {r : Int32} {μ1 : kt_M} (h : x_draw n m μ a0 a1 = some (r, μ1)) : kt_F G yX10_draw cX10_draw 7 (some .int) 4 [.ref m, .int a0, .int a1] σ μ (fun rv μ2 => rv = some (.int r) ∧ μ2 = μ1) := by
  have key : ∀ q : (Int32 × kt_M), x_draw n m μ a0 a1 = some q → kt_F G yX10_draw cX10_draw 7 (some .int) 4 [.ref m, .int a0, .int a1] σ μ (fun rv μ2 => rv = some (.int q.1) ∧ μ2 = q.2) := by
    intro q h
    unfold x_draw at h
    refine kt_F.of (by decide) (Nat.le_of_ble_eq_true rfl) (fun X hX hr => ?_)
    refine kr_iload_n (i := 2) hX dX10_draw_0 rfl rfl ?_
    refine kr_i2l hX dX10_draw_1 rfl ?_
    refine kr_lconst (v := 1) hX dX10_draw_2 (by decide) ?_
    refine kr_ldc2 (v := 8) hX kw_1225 dX10_draw_3 ?_
    obtain ⟨r_6, e_6, h⟩ := kq_b1_e h
    refine kr_dS [_, _, _] hX km_10_80 dX10_draw_6 (xs_in e_6) rfl rfl (by decide) (Nat.le_of_ble_eq_true rfl) (Nat.le_refl _) (Nat.le_refl _) ?_
    refine kr_if_ne (tgt := 14) hX dX10_draw_9 (by decide) (fun c_9 => ?_) (fun c_9 => ?_)
    · replace h := kq_f c_9 h
      refine kr_aload_n (i := 0) hX dX10_draw_14 rfl rfl ?_
      refine kr_iload_n (i := 1) hX dX10_draw_15 rfl rfl ?_
      refine kr_puti (c0 := 10) (k := 28) hX kf_10_349 dX10_draw_16 rfl rfl rfl (md_k hm) ?_
      refine kr_ltM h (fun μ_16 h => ?_)
      refine kr_aload_n (i := 0) hX dX10_draw_19 rfl rfl ?_
      refine kr_getr (c0 := 10) (k := 0) hX ⟨_, kf_10_9⟩ dX10_draw_20 rfl (md_k hm) (md_r0 hm) ?_
      refine kr_iconst (v := 0) hX dX10_draw_23 (by decide) ?_
      refine kr_iload_n (i := 2) hX dX10_draw_24 rfl rfl ?_
      refine kr_iast hX dX10_draw_25 (md_a1 hm) (vp_in_iff.mpr (by decide)) ?_
      refine kr_ltM h (fun μ_25 h => ?_)
      refine kr_iconst (v := 0) hX dX10_draw_26 (by decide) ?_
      refine kr_istore_n (i := 3) hX dX10_draw_27 rfl (by decide) rfl rfl ?_
      refine kr_keep (lv' := [(0, .ref m), (2, .int a1), (3, .int (0 : Int32))]) [0, 2, 3] rfl ?_
      exact xw_draw_L28 hX hr hm n _ _ _ h
    · replace h := kq_t c_9 h
      refine kr_iconst (v := (-1)) hX dX10_draw_12 (by decide) ?_
      refine kr_iret hX hr dX10_draw_13 ⟨rfl, ?_⟩
      exact kq_rI h
  exact key (r, μ1) h
def x_keep (n : Nat) (m : Nat) (μ : kt_M) (a0 : Int32) : Option (Int32 × kt_M) := kq_b1 (x_in n (Int32.toInt64 a0) (0 : Int64) (1 : Int64)) (fun r_4 => (if r_4 = 0 then some (((-1) : Int32), μ) else kq_ck (kq_in a0 2) (kq_b1 (x_flag n (kt_i μ (m + 4) (Int32.toNatClampNeg a0))) (fun r_18 => kq_ck (kq_in a0 2) (kq_lt (kt_si μ (m + 4) (Int32.toNatClampNeg a0) (1 : Int32)) (fun μ_28 => kq_b2 (x_copies n m μ_28 (1 : Int32) ((2 : Int32) + a0)) (fun r_34 μ_34 => some (r_18, μ_34))))))))
set_option maxHeartbeats 4000000 in
set_option maxRecDepth 100000 in
theorem xs_keep {G : kt_G} {σ : kt_Y} {μ : kt_M} {m : Nat} (hm : kt_md σ m) {n : Nat} {a0 : Int32} {r : Int32} {μ1 : kt_M} (h : x_keep n m μ a0 = some (r, μ1)) : kt_F G yX10_keep cX10_keep 3 (some .int) 1 [.ref m, .int a0] σ μ (fun rv μ2 => rv = some (.int r) ∧ μ2 = μ1) := by
  have key : ∀ q : (Int32 × kt_M), x_keep n m μ a0 = some q → kt_F G yX10_keep cX10_keep 3 (some .int) 1 [.ref m, .int a0] σ μ (fun rv μ2 => rv = some (.int q.1) ∧ μ2 = q.2) := by
    intro q h
    unfold x_keep at h
    refine kt_F.of (by decide) (Nat.le_of_ble_eq_true rfl) (fun X hX hr => ?_)
    refine kr_iload_n (i := 1) hX dX10_keep_0 rfl rfl ?_
    refine kr_i2l hX dX10_keep_1 rfl ?_
    refine kr_lconst (v := 0) hX dX10_keep_2 (by decide) ?_
    refine kr_lconst (v := 1) hX dX10_keep_3 (by decide) ?_
    obtain ⟨r_4, e_4, h⟩ := kq_b1_e h
    refine kr_dS [_, _, _] hX km_10_80 dX10_keep_4 (xs_in e_4) rfl rfl (by decide) (Nat.le_of_ble_eq_true rfl) (Nat.le_refl _) (Nat.le_refl _) ?_
    refine kr_if_ne (tgt := 12) hX dX10_keep_7 (by decide) (fun c_7 => ?_) (fun c_7 => ?_)
    · replace h := kq_f c_7 h
      refine kr_aload_n (i := 0) hX dX10_keep_12 rfl rfl ?_
      refine kr_getr (c0 := 10) (k := 3) hX ⟨_, kf_10_19⟩ dX10_keep_13 rfl (md_k hm) (md_r3 hm) ?_
      refine kr_iload_n (i := 1) hX dX10_keep_16 rfl rfl ?_
      obtain ⟨i_17, h⟩ := kq_ck_e h
      refine kr_bald hX dX10_keep_17 (md_a4 hm) (vp_in_iff.mpr i_17) ?_
      obtain ⟨r_18, e_18, h⟩ := kq_b1_e h
      refine kr_dS [_] hX km_10_145 dX10_keep_18 (xs_flag e_18) rfl rfl (by decide) (Nat.le_of_ble_eq_true rfl) (Nat.le_refl _) (Nat.le_refl _) ?_
      refine kr_istore_n (i := 2) hX dX10_keep_21 rfl (by decide) rfl rfl ?_
      refine kr_aload_n (i := 0) hX dX10_keep_22 rfl rfl ?_
      refine kr_getr (c0 := 10) (k := 3) hX ⟨_, kf_10_19⟩ dX10_keep_23 rfl (md_k hm) (md_r3 hm) ?_
      refine kr_iload_n (i := 1) hX dX10_keep_26 rfl rfl ?_
      refine kr_iconst (v := 1) hX dX10_keep_27 (by decide) ?_
      obtain ⟨i_28, h⟩ := kq_ck_e h
      refine kr_bast hX dX10_keep_28 (by decide) (md_a4 hm) (vp_in_iff.mpr i_28) ?_
      refine kr_ltM h (fun μ_28 h => ?_)
      refine kr_aload_n (i := 0) hX dX10_keep_29 rfl rfl ?_
      refine kr_iconst (v := 1) hX dX10_keep_30 (by decide) ?_
      refine kr_iconst (v := 2) hX dX10_keep_31 (by decide) ?_
      refine kr_iload_n (i := 1) hX dX10_keep_32 rfl rfl ?_
      refine kr_iadd hX dX10_keep_33 ?_
      obtain ⟨r_34, μ_34, e_34, h⟩ := kq_b2_e h
      refine kr_dV (c1 := 10) [_, _] hX km_10_74 dX10_keep_34 (xs_copies hm e_34) rfl rfl ⟨_, _, rfl⟩ (by decide) (Nat.le_of_ble_eq_true rfl) (Nat.le_refl _) (Nat.le_refl _) (md_k hm) ?_
      refine kr_iload_n (i := 2) hX dX10_keep_37 rfl rfl ?_
      refine kr_iret hX hr dX10_keep_38 ⟨rfl, ?_⟩
      exact kq_rI h
    · replace h := kq_t c_7 h
      refine kr_iconst (v := (-1)) hX dX10_keep_10 (by decide) ?_
      refine kr_iret hX hr dX10_keep_11 ⟨rfl, ?_⟩
      exact kq_rI h
  exact key (r, μ1) h
def x_back (n : Nat) (m : Nat) (μ : kt_M) (a0 : Int32) : Option (Int32 × kt_M) := kq_b1 (x_in n (Int32.toInt64 a0) (0 : Int64) (1 : Int64)) (fun r_4 => (if r_4 = 0 then some (((-1) : Int32), μ) else kq_ck (kq_in a0 2) ((if (kt_i μ (m + 4) (Int32.toNatClampNeg a0)) = 0 then some (((-2) : Int32), μ) else kq_b2 (x_copies n m μ ((2 : Int32) + a0) (1 : Int32)) (fun r_29 μ_29 => kq_b2 (x_many n m μ_29 (1 : Int32)) (fun r_34 μ_34 => some (r_34, μ_34)))))))
set_option maxHeartbeats 4000000 in
set_option maxRecDepth 100000 in
theorem xs_back {G : kt_G} {σ : kt_Y} {μ : kt_M} {m : Nat} (hm : kt_md σ m) {n : Nat} {a0 : Int32} {r : Int32} {μ1 : kt_M} (h : x_back n m μ a0 = some (r, μ1)) : kt_F G yX10_back cX10_back 2 (some .int) 1 [.ref m, .int a0] σ μ (fun rv μ2 => rv = some (.int r) ∧ μ2 = μ1) := by
  have key : ∀ q : (Int32 × kt_M), x_back n m μ a0 = some q → kt_F G yX10_back cX10_back 2 (some .int) 1 [.ref m, .int a0] σ μ (fun rv μ2 => rv = some (.int q.1) ∧ μ2 = q.2) := by
    intro q h
    unfold x_back at h
    refine kt_F.of (by decide) (Nat.le_of_ble_eq_true rfl) (fun X hX hr => ?_)
    refine kr_iload_n (i := 1) hX dX10_back_0 rfl rfl ?_
    refine kr_i2l hX dX10_back_1 rfl ?_
    refine kr_lconst (v := 0) hX dX10_back_2 (by decide) ?_
    refine kr_lconst (v := 1) hX dX10_back_3 (by decide) ?_
    obtain ⟨r_4, e_4, h⟩ := kq_b1_e h
    refine kr_dS [_, _, _] hX km_10_80 dX10_back_4 (xs_in e_4) rfl rfl (by decide) (Nat.le_of_ble_eq_true rfl) (Nat.le_refl _) (Nat.le_refl _) ?_
    refine kr_if_ne (tgt := 12) hX dX10_back_7 (by decide) (fun c_7 => ?_) (fun c_7 => ?_)
    · replace h := kq_f c_7 h
      refine kr_aload_n (i := 0) hX dX10_back_12 rfl rfl ?_
      refine kr_getr (c0 := 10) (k := 3) hX ⟨_, kf_10_19⟩ dX10_back_13 rfl (md_k hm) (md_r3 hm) ?_
      refine kr_iload_n (i := 1) hX dX10_back_16 rfl rfl ?_
      obtain ⟨i_17, h⟩ := kq_ck_e h
      refine kr_bald hX dX10_back_17 (md_a4 hm) (vp_in_iff.mpr i_17) ?_
      refine kr_if_ne (tgt := 24) hX dX10_back_18 (by decide) (fun c_18 => ?_) (fun c_18 => ?_)
      · replace h := kq_f c_18 h
        refine kr_aload_n (i := 0) hX dX10_back_24 rfl rfl ?_
        refine kr_iconst (v := 2) hX dX10_back_25 (by decide) ?_
        refine kr_iload_n (i := 1) hX dX10_back_26 rfl rfl ?_
        refine kr_iadd hX dX10_back_27 ?_
        refine kr_iconst (v := 1) hX dX10_back_28 (by decide) ?_
        obtain ⟨r_29, μ_29, e_29, h⟩ := kq_b2_e h
        refine kr_dV (c1 := 10) [_, _] hX km_10_74 dX10_back_29 (xs_copies hm e_29) rfl rfl ⟨_, _, rfl⟩ (by decide) (Nat.le_of_ble_eq_true rfl) (Nat.le_refl _) (Nat.le_refl _) (md_k hm) ?_
        refine kr_aload_n (i := 0) hX dX10_back_32 rfl rfl ?_
        refine kr_iconst (v := 1) hX dX10_back_33 (by decide) ?_
        obtain ⟨r_34, μ_34, e_34, h⟩ := kq_b2_e h
        refine kr_dV (c1 := 10) [_] hX km_10_172 dX10_back_34 (xs_many hm e_34) rfl rfl ⟨_, _, rfl⟩ (by decide) (Nat.le_of_ble_eq_true rfl) (Nat.le_refl _) (Nat.le_refl _) (md_k hm) ?_
        refine kr_iret hX hr dX10_back_37 ⟨rfl, ?_⟩
        exact kq_rI h
      · replace h := kq_t c_18 h
        refine kr_bipush (v := (-2)) hX dX10_back_21 (by decide) ?_
        refine kr_iret hX hr dX10_back_23 ⟨rfl, ?_⟩
        exact kq_rI h
    · replace h := kq_t c_7 h
      refine kr_iconst (v := (-1)) hX dX10_back_10 (by decide) ?_
      refine kr_iret hX hr dX10_back_11 ⟨rfl, ?_⟩
      exact kq_rI h
  exact key (r, μ1) h

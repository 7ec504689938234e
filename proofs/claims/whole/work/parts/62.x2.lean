def x_hasAllBlocks_B4 (n : Nat) (m : Nat) (K4 : Int32 → Int32 → kt_M → Option (Int32 × kt_M)) (l1 : Int32) (l2 : Int32) (μ : kt_M) : Option (Int32 × kt_M) := (if (kt_i μ (m + 2) (Int32.toNatClampNeg (0 : Int32))) ≤ l2 then kq_ck (l1 = 0 ∨ l1 = 1) (some (l1, μ)) else (if l1 = 0 then K4 (0 : Int32) (l2 + 1) μ else kq_ck (kq_in (((1 : Int32) + ((20 : Int32) * l2)) + (14 : Int32)) 321) ((if (kt_i μ (m + 2) (Int32.toNatClampNeg (0 : Int32))) ≤ (kt_i μ (m + 2) (Int32.toNatClampNeg (((1 : Int32) + ((20 : Int32) * l2)) + (14 : Int32)))) then K4 (0 : Int32) (l2 + 1) μ else kq_ck (kq_in ((((1 : Int32) + ((20 : Int32) * l2)) + (14 : Int32)) + (1 : Int32)) 321) ((if (kt_i μ (m + 2) (Int32.toNatClampNeg (0 : Int32))) ≤ (kt_i μ (m + 2) (Int32.toNatClampNeg ((((1 : Int32) + ((20 : Int32) * l2)) + (14 : Int32)) + (1 : Int32)))) then K4 (0 : Int32) (l2 + 1) μ else K4 (1 : Int32) (l2 + 1) μ))))))
set_option maxHeartbeats 4000000 in
set_option maxRecDepth 100000 in
theorem xw_hasAllBlocks_B4 {G : kt_G} {σ : kt_Y} {X : kt_X} (hX : kt_ok G X RX10 cX10_hasAllBlocks 4 0 0 0) (hr : kt_rt X = (some .boolean)) {m : Nat} (hm : kt_md σ m) {n : Nat} {q : (Int32 × kt_M)} {K4 : Int32 → Int32 → kt_M → Option (Int32 × kt_M)} (hK4 : ∀ (l1 : Int32) (l2 : Int32) (μ : kt_M), K4 l1 l2 μ = some q → kt_W G X 4 4 [(0, .ref m), (1, .int l1), (2, .int l2)] [] σ μ 0 0 (kt_Z G X (kt_q σ (fun rv μ2 => rv = some (.int q.1) ∧ μ2 = q.2)) 0 0)) {l1 : Int32} {l2 : Int32} {μ : kt_M} (h : x_hasAllBlocks_B4 n m K4 l1 l2 μ = some q) : kt_W G X 4 4 [(0, .ref m), (1, .int l1), (2, .int l2)] [] σ μ 0 0 (kt_Z G X (kt_q σ (fun rv μ2 => rv = some (.int q.1) ∧ μ2 = q.2)) 0 0) := by
  unfold x_hasAllBlocks_B4 at h
  refine kr_iload_n (i := 2) hX dX10_hasAllBlocks_4 rfl rfl ?_
  refine kr_aload_n (i := 0) hX dX10_hasAllBlocks_5 rfl rfl ?_
  refine kr_getr (c0 := 10) (k := 1) hX ⟨_, kf_10_13⟩ dX10_hasAllBlocks_6 rfl (md_k hm) (md_r1 hm) ?_
  refine kr_iconst (v := 0) hX dX10_hasAllBlocks_9 (by decide) ?_
  refine kr_iald hX dX10_hasAllBlocks_10 (md_a2 hm) (vp_in_iff.mpr (by decide)) ?_
  refine kr_icmp_ge (tgt := 75) hX dX10_hasAllBlocks_11 (by decide) (fun c_11 => ?_) (fun c_11 => ?_)
  · replace h := kq_t c_11 h
    refine kr_iload_n (i := 1) hX dX10_hasAllBlocks_75 rfl rfl ?_
    obtain ⟨z_76, h⟩ := kq_ck_e h
    refine kr_zret hX hr z_76 dX10_hasAllBlocks_76 ⟨rfl, ?_⟩
    exact kq_rI h
  · replace h := kq_f c_11 h
    refine kr_iconst (v := 1) hX dX10_hasAllBlocks_14 (by decide) ?_
    refine kr_bipush (v := 20) hX dX10_hasAllBlocks_15 (by decide) ?_
    refine kr_iload_n (i := 2) hX dX10_hasAllBlocks_17 rfl rfl ?_
    refine kr_imul hX dX10_hasAllBlocks_18 ?_
    refine kr_iadd hX dX10_hasAllBlocks_19 ?_
    refine kr_istore_n (i := 3) hX dX10_hasAllBlocks_20 rfl (by decide) rfl rfl ?_
    refine kr_iload_n (i := 1) hX dX10_hasAllBlocks_21 rfl rfl ?_
    refine kr_if_eq (tgt := 67) hX dX10_hasAllBlocks_22 (by decide) (fun c_22 => ?_) (fun c_22 => ?_)
    · replace h := kq_t c_22 h
      refine kr_iconst (v := 0) hX dX10_hasAllBlocks_67 (by decide) ?_
      refine kr_istore_n (i := 1) hX dX10_hasAllBlocks_68 rfl (by decide) rfl rfl ?_
      refine kr_iinc (v := (l2 + 1)) hX dX10_hasAllBlocks_69 rfl rfl (by decide) rfl rfl ?_
      refine kr_goto (tgt := 4) hX dX10_hasAllBlocks_72 (by decide) ?_
      refine kr_keep (lv' := [(0, .ref m), (1, .int (0 : Int32)), (2, .int (l2 + 1))]) [0, 1, 2] rfl ?_
      exact hK4 _ _ _ h
    · replace h := kq_f c_22 h
      refine kr_aload_n (i := 0) hX dX10_hasAllBlocks_25 rfl rfl ?_
      refine kr_getr (c0 := 10) (k := 1) hX ⟨_, kf_10_13⟩ dX10_hasAllBlocks_26 rfl (md_k hm) (md_r1 hm) ?_
      refine kr_iload_n (i := 3) hX dX10_hasAllBlocks_29 rfl rfl ?_
      refine kr_bipush (v := 14) hX dX10_hasAllBlocks_30 (by decide) ?_
      refine kr_iadd hX dX10_hasAllBlocks_32 ?_
      obtain ⟨i_33, h⟩ := kq_ck_e h
      refine kr_iald hX dX10_hasAllBlocks_33 (md_a2 hm) (vp_in_iff.mpr i_33) ?_
      refine kr_aload_n (i := 0) hX dX10_hasAllBlocks_34 rfl rfl ?_
      refine kr_getr (c0 := 10) (k := 1) hX ⟨_, kf_10_13⟩ dX10_hasAllBlocks_35 rfl (md_k hm) (md_r1 hm) ?_
      refine kr_iconst (v := 0) hX dX10_hasAllBlocks_38 (by decide) ?_
      refine kr_iald hX dX10_hasAllBlocks_39 (md_a2 hm) (vp_in_iff.mpr (by decide)) ?_
      refine kr_icmp_ge (tgt := 67) hX dX10_hasAllBlocks_40 (by decide) (fun c_40 => ?_) (fun c_40 => ?_)
      · replace h := kq_t c_40 h
        refine kr_iconst (v := 0) hX dX10_hasAllBlocks_67 (by decide) ?_
        refine kr_istore_n (i := 1) hX dX10_hasAllBlocks_68 rfl (by decide) rfl rfl ?_
        refine kr_iinc (v := (l2 + 1)) hX dX10_hasAllBlocks_69 rfl rfl (by decide) rfl rfl ?_
        refine kr_goto (tgt := 4) hX dX10_hasAllBlocks_72 (by decide) ?_
        refine kr_keep (lv' := [(0, .ref m), (1, .int (0 : Int32)), (2, .int (l2 + 1))]) [0, 1, 2] rfl ?_
        exact hK4 _ _ _ h
      · replace h := kq_f c_40 h
        refine kr_aload_n (i := 0) hX dX10_hasAllBlocks_43 rfl rfl ?_
        refine kr_getr (c0 := 10) (k := 1) hX ⟨_, kf_10_13⟩ dX10_hasAllBlocks_44 rfl (md_k hm) (md_r1 hm) ?_
        refine kr_iload_n (i := 3) hX dX10_hasAllBlocks_47 rfl rfl ?_
        refine kr_bipush (v := 14) hX dX10_hasAllBlocks_48 (by decide) ?_
        refine kr_iadd hX dX10_hasAllBlocks_50 ?_
        refine kr_iconst (v := 1) hX dX10_hasAllBlocks_51 (by decide) ?_
        refine kr_iadd hX dX10_hasAllBlocks_52 ?_
        obtain ⟨i_53, h⟩ := kq_ck_e h
        refine kr_iald hX dX10_hasAllBlocks_53 (md_a2 hm) (vp_in_iff.mpr i_53) ?_
        refine kr_aload_n (i := 0) hX dX10_hasAllBlocks_54 rfl rfl ?_
        refine kr_getr (c0 := 10) (k := 1) hX ⟨_, kf_10_13⟩ dX10_hasAllBlocks_55 rfl (md_k hm) (md_r1 hm) ?_
        refine kr_iconst (v := 0) hX dX10_hasAllBlocks_58 (by decide) ?_
        refine kr_iald hX dX10_hasAllBlocks_59 (md_a2 hm) (vp_in_iff.mpr (by decide)) ?_
        refine kr_icmp_ge (tgt := 67) hX dX10_hasAllBlocks_60 (by decide) (fun c_60 => ?_) (fun c_60 => ?_)
        · replace h := kq_t c_60 h
          refine kr_iconst (v := 0) hX dX10_hasAllBlocks_67 (by decide) ?_
          refine kr_istore_n (i := 1) hX dX10_hasAllBlocks_68 rfl (by decide) rfl rfl ?_
          refine kr_iinc (v := (l2 + 1)) hX dX10_hasAllBlocks_69 rfl rfl (by decide) rfl rfl ?_
          refine kr_goto (tgt := 4) hX dX10_hasAllBlocks_72 (by decide) ?_
          refine kr_keep (lv' := [(0, .ref m), (1, .int (0 : Int32)), (2, .int (l2 + 1))]) [0, 1, 2] rfl ?_
          exact hK4 _ _ _ h
        · replace h := kq_f c_60 h
          refine kr_iconst (v := 1) hX dX10_hasAllBlocks_63 (by decide) ?_
          refine kr_goto (tgt := 68) hX dX10_hasAllBlocks_64 (by decide) ?_
          refine kr_istore_n (i := 1) hX dX10_hasAllBlocks_68 rfl (by decide) rfl rfl ?_
          refine kr_iinc (v := (l2 + 1)) hX dX10_hasAllBlocks_69 rfl rfl (by decide) rfl rfl ?_
          refine kr_goto (tgt := 4) hX dX10_hasAllBlocks_72 (by decide) ?_
          refine kr_keep (lv' := [(0, .ref m), (1, .int (1 : Int32)), (2, .int (l2 + 1))]) [0, 1, 2] rfl ?_
          exact hK4 _ _ _ h
def x_hasAllBlocks_L4 (n : Nat) (m : Nat) : Nat → Int32 → Int32 → kt_M → Option (Int32 × kt_M)
  | 0, _, _, _ => none
  | k + 1, l1, l2, μ => x_hasAllBlocks_B4 n m (x_hasAllBlocks_L4 n m k) l1 l2 μ
set_option maxHeartbeats 4000000 in
set_option maxRecDepth 100000 in
theorem xw_hasAllBlocks_L4 {G : kt_G} {σ : kt_Y} {X : kt_X} (hX : kt_ok G X RX10 cX10_hasAllBlocks 4 0 0 0) (hr : kt_rt X = (some .boolean)) {m : Nat} (hm : kt_md σ m) {n : Nat} {q : (Int32 × kt_M)} : ∀ (k : Nat) (l1 : Int32) (l2 : Int32) (μ : kt_M), x_hasAllBlocks_L4 n m k l1 l2 μ = some q → kt_W G X 4 4 [(0, .ref m), (1, .int l1), (2, .int l2)] [] σ μ 0 0 (kt_Z G X (kt_q σ (fun rv μ2 => rv = some (.int q.1) ∧ μ2 = q.2)) 0 0) := by
  intro k
  induction k with
  | zero => intro l1 l2 μ h; cases h
  | succ k ih => intro l1 l2 μ h; exact xw_hasAllBlocks_B4 hX hr hm ih h
def x_hasAllBlocks (n : Nat) (m : Nat) (μ : kt_M) : Option (Int32 × kt_M) := x_hasAllBlocks_L4 n m n (1 : Int32) (0 : Int32) μ
set_option maxHeartbeats 4000000 in
set_option maxRecDepth 100000 in
theorem xs_hasAllBlocks {G : kt_G} {σ : kt_Y} {μ : kt_M} {m : Nat} (hm : kt_md σ m) {n : Nat} {r : Int32} {μ1 : kt_M} (h : x_hasAllBlocks n m μ = some (r, μ1)) : kt_F G yX10_hasAllBlocks cX10_hasAllBlocks 4 (some .boolean) 0 [.ref m] σ μ (fun rv μ2 => rv = some (.int r) ∧ μ2 = μ1) := by
  have key : ∀ q : (Int32 × kt_M), x_hasAllBlocks n m μ = some q → kt_F G yX10_hasAllBlocks cX10_hasAllBlocks 4 (some .boolean) 0 [.ref m] σ μ (fun rv μ2 => rv = some (.int q.1) ∧ μ2 = q.2) := by
    intro q h
    unfold x_hasAllBlocks at h
    refine kt_F.of (by decide) (Nat.le_of_ble_eq_true rfl) (fun X hX hr => ?_)
    refine kr_iconst (v := 1) hX dX10_hasAllBlocks_0 (by decide) ?_
    refine kr_istore_n (i := 1) hX dX10_hasAllBlocks_1 rfl (by decide) rfl rfl ?_
    refine kr_iconst (v := 0) hX dX10_hasAllBlocks_2 (by decide) ?_
    refine kr_istore_n (i := 2) hX dX10_hasAllBlocks_3 rfl (by decide) rfl rfl ?_
    refine kr_keep (lv' := [(0, .ref m), (1, .int (1 : Int32)), (2, .int (0 : Int32))]) [0, 1, 2] rfl ?_
    exact xw_hasAllBlocks_L4 hX hr hm n _ _ _ h
  exact key (r, μ1) h
def x_text_B96 (n : Nat) (m : Nat) (K96 : Int32 → kt_M → Option (Int32 × kt_M)) (l1 : Int32) (μ : kt_M) : Option (Int32 × kt_M) := (if (321 : Int32) ≤ l1 then kq_b2 (x_anew n m μ) (fun r_122 μ_122 => kq_b2 (x_many n m μ_122 (0 : Int32)) (fun r_127 μ_127 => some (r_127, μ_127))) else kq_ck (kq_in l1 321) (kq_ck (kq_in l1 1284) (kq_lt (kt_si μ (m + 1) (Int32.toNatClampNeg l1) (kt_i μ (m + 2) (Int32.toNatClampNeg l1))) (fun μ_114 => K96 (l1 + 1) μ_114))))
set_option maxHeartbeats 4000000 in
set_option maxRecDepth 100000 in
theorem xw_text_B96 {G : kt_G} {σ : kt_Y} {X : kt_X} (hX : kt_ok G X RX10 cX10_text 2 5 0 0) (hr : kt_rt X = (some .int)) {m : Nat} (hm : kt_md σ m) {n : Nat} {q : (Int32 × kt_M)} {K96 : Int32 → kt_M → Option (Int32 × kt_M)} (hK96 : ∀ (l1 : Int32) (μ : kt_M), K96 l1 μ = some q → kt_W G X 2 96 [(0, .ref m), (1, .int l1)] [] σ μ 0 0 (kt_Z G X (kt_q σ (fun rv μ2 => rv = some (.int q.1) ∧ μ2 = q.2)) 0 0)) {l1 : Int32} {μ : kt_M} (h : x_text_B96 n m K96 l1 μ = some q) : kt_W G X 2 96 [(0, .ref m), (1, .int l1)] [] σ μ 0 0 (kt_Z G X (kt_q σ (fun rv μ2 => rv = some (.int q.1) ∧ μ2 = q.2)) 0 0) := by
  unfold x_text_B96 at h
  refine kr_iload_n (i := 1) hX dX10_text_96 rfl rfl ?_
  refine kr_sipush (v := 321) hX dX10_text_97 (by decide) ?_
  refine kr_icmp_ge (tgt := 121) hX dX10_text_100 (by decide) (fun c_100 => ?_) (fun c_100 => ?_)
  · replace h := kq_t c_100 h
    refine kr_aload_n (i := 0) hX dX10_text_121 rfl rfl ?_
    obtain ⟨r_122, μ_122, e_122, h⟩ := kq_b2_e h
    refine kr_dV (c1 := 10) [] hX km_10_169 dX10_text_122 (xs_anew hm e_122) rfl rfl ⟨_, _, rfl⟩ (by decide) (Nat.le_of_ble_eq_true rfl) (Nat.le_refl _) (Nat.le_refl _) (md_k hm) ?_
    refine kr_aload_n (i := 0) hX dX10_text_125 rfl rfl ?_
    refine kr_iconst (v := 0) hX dX10_text_126 (by decide) ?_
    obtain ⟨r_127, μ_127, e_127, h⟩ := kq_b2_e h
    refine kr_dV (c1 := 10) [_] hX km_10_172 dX10_text_127 (xs_many hm e_127) rfl rfl ⟨_, _, rfl⟩ (by decide) (Nat.le_of_ble_eq_true rfl) (Nat.le_refl _) (Nat.le_refl _) (md_k hm) ?_
    refine kr_iret hX hr dX10_text_130 ⟨rfl, ?_⟩
    exact kq_rI h
  · replace h := kq_f c_100 h
    refine kr_aload_n (i := 0) hX dX10_text_103 rfl rfl ?_
    refine kr_getr (c0 := 10) (k := 0) hX ⟨_, kf_10_9⟩ dX10_text_104 rfl (md_k hm) (md_r0 hm) ?_
    refine kr_iload_n (i := 1) hX dX10_text_107 rfl rfl ?_
    refine kr_aload_n (i := 0) hX dX10_text_108 rfl rfl ?_
    refine kr_getr (c0 := 10) (k := 1) hX ⟨_, kf_10_13⟩ dX10_text_109 rfl (md_k hm) (md_r1 hm) ?_
    refine kr_iload_n (i := 1) hX dX10_text_112 rfl rfl ?_
    obtain ⟨i_113, h⟩ := kq_ck_e h
    refine kr_iald hX dX10_text_113 (md_a2 hm) (vp_in_iff.mpr i_113) ?_
    obtain ⟨i_114, h⟩ := kq_ck_e h
    refine kr_iast hX dX10_text_114 (md_a1 hm) (vp_in_iff.mpr i_114) ?_
    refine kr_ltM h (fun μ_114 h => ?_)
    refine kr_iinc (v := (l1 + 1)) hX dX10_text_115 rfl rfl (by decide) rfl rfl ?_
    refine kr_goto (tgt := 96) hX dX10_text_118 (by decide) ?_
    refine kr_keep (lv' := [(0, .ref m), (1, .int (l1 + 1))]) [0, 1] rfl ?_
    exact hK96 _ _ h
def x_text_L96 (n : Nat) (m : Nat) : Nat → Int32 → kt_M → Option (Int32 × kt_M)
  | 0, _, _ => none
  | k + 1, l1, μ => x_text_B96 n m (x_text_L96 n m k) l1 μ
set_option maxHeartbeats 4000000 in
set_option maxRecDepth 100000 in
theorem xw_text_L96 {G : kt_G} {σ : kt_Y} {X : kt_X} (hX : kt_ok G X RX10 cX10_text 2 5 0 0) (hr : kt_rt X = (some .int)) {m : Nat} (hm : kt_md σ m) {n : Nat} {q : (Int32 × kt_M)} : ∀ (k : Nat) (l1 : Int32) (μ : kt_M), x_text_L96 n m k l1 μ = some q → kt_W G X 2 96 [(0, .ref m), (1, .int l1)] [] σ μ 0 0 (kt_Z G X (kt_q σ (fun rv μ2 => rv = some (.int q.1) ∧ μ2 = q.2)) 0 0) := by
  intro k
  induction k with
  | zero => intro l1 μ h; cases h
  | succ k ih => intro l1 μ h; exact xw_text_B96 hX hr hm ih h
def x_text_J74 (n : Nat) (m : Nat) (μ : kt_M) : Option (Int32 × kt_M) := kq_lt (kt_si μ m 6 (0 : Int32)) (fun μ_76 => (if (kt_i μ_76 m 11) ≤ 0 then x_text_L96 n m n (0 : Int32) μ_76 else some ((((-10) : Int32) - (kt_i μ_76 m 12)), μ_76)))
set_option maxHeartbeats 4000000 in
set_option maxRecDepth 100000 in
theorem xw_text_J74 {G : kt_G} {σ : kt_Y} {X : kt_X} (hX : kt_ok G X RX10 cX10_text 2 5 0 0) (hr : kt_rt X = (some .int)) {m : Nat} (hm : kt_md σ m) {n : Nat} {q : (Int32 × kt_M)} {μ : kt_M} (h : x_text_J74 n m μ = some q) : kt_W G X 2 74 [(0, .ref m)] [] σ μ 0 0 (kt_Z G X (kt_q σ (fun rv μ2 => rv = some (.int q.1) ∧ μ2 = q.2)) 0 0) := by
  unfold x_text_J74 at h
  refine kr_aload_n (i := 0) hX dX10_text_74 rfl rfl ?_
  refine kr_iconst (v := 0) hX dX10_text_75 (by decide) ?_
  refine kr_puti (c0 := 10) (k := 6) hX kf_10_84 dX10_text_76 rfl rfl rfl (md_k hm) ?_
  refine kr_ltM h (fun μ_76 h => ?_)
  refine kr_aload_n (i := 0) hX dX10_text_79 rfl rfl ?_
  refine kr_geti (c0 := 10) (k := 11) hX ⟨_, kf_10_87⟩ dX10_text_80 rfl (md_k hm) ?_
  refine kr_if_le (tgt := 94) hX dX10_text_83 (by decide) (fun c_83 => ?_) (fun c_83 => ?_)
  · replace h := kq_t c_83 h
    refine kr_iconst (v := 0) hX dX10_text_94 (by decide) ?_
    refine kr_istore_n (i := 1) hX dX10_text_95 rfl (by decide) rfl rfl ?_
    refine kr_keep (lv' := [(0, .ref m), (1, .int (0 : Int32))]) [0, 1] rfl ?_
    exact xw_text_L96 hX hr hm n _ _ h
  · replace h := kq_f c_83 h
    refine kr_bipush (v := (-10)) hX dX10_text_86 (by decide) ?_
    refine kr_aload_n (i := 0) hX dX10_text_88 rfl rfl ?_
    refine kr_geti (c0 := 10) (k := 12) hX ⟨_, kf_10_93⟩ dX10_text_89 rfl (md_k hm) ?_
    refine kr_isub hX dX10_text_92 ?_
    refine kr_iret hX hr dX10_text_93 ⟨rfl, ?_⟩
    exact kq_rI h
def x_text_J57 (n : Nat) (m : Nat) (μ : kt_M) : Option (Int32 × kt_M) := (if (kt_i μ m 11) = 0 then kq_b2 (x_hasAllBlocks n m μ) (fun r_66 μ_66 => kq_b2 (x_requires n m μ_66 r_66 (6 : Int32)) (fun r_71 μ_71 => x_text_J74 n m μ_71)) else x_text_J74 n m μ)
set_option maxHeartbeats 4000000 in
set_option maxRecDepth 100000 in
theorem xw_text_J57 {G : kt_G} {σ : kt_Y} {X : kt_X} (hX : kt_ok G X RX10 cX10_text 2 5 0 0) (hr : kt_rt X = (some .int)) {m : Nat} (hm : kt_md σ m) {n : Nat} {q : (Int32 × kt_M)} {μ : kt_M} (h : x_text_J57 n m μ = some q) : kt_W G X 2 57 [(0, .ref m)] [] σ μ 0 0 (kt_Z G X (kt_q σ (fun rv μ2 => rv = some (.int q.1) ∧ μ2 = q.2)) 0 0) := by
  unfold x_text_J57 at h
  refine kr_aload_n (i := 0) hX dX10_text_57 rfl rfl ?_
  refine kr_geti (c0 := 10) (k := 11) hX ⟨_, kf_10_87⟩ dX10_text_58 rfl (md_k hm) ?_
  refine kr_if_ne (tgt := 74) hX dX10_text_61 (by decide) (fun c_61 => ?_) (fun c_61 => ?_)
  · replace h := kq_f c_61 h
    refine kr_keep (lv' := [(0, .ref m)]) [0] rfl ?_
    exact xw_text_J74 hX hr hm h
  · replace h := kq_t c_61 h
    refine kr_aload_n (i := 0) hX dX10_text_64 rfl rfl ?_
    refine kr_aload_n (i := 0) hX dX10_text_65 rfl rfl ?_
    obtain ⟨r_66, μ_66, e_66, h⟩ := kq_b2_e h
    refine kr_dV (c1 := 10) [] hX km_10_166 dX10_text_66 (xs_hasAllBlocks hm e_66) rfl rfl ⟨_, _, rfl⟩ (by decide) (Nat.le_of_ble_eq_true rfl) (Nat.le_refl _) (Nat.le_refl _) (md_k hm) ?_
    refine kr_bipush (v := 6) hX dX10_text_69 (by decide) ?_
    obtain ⟨r_71, μ_71, e_71, h⟩ := kq_b2_e h
    refine kr_dV (c1 := 10) [_, _] hX km_10_121 dX10_text_71 (xs_requires hm e_71) rfl rfl ⟨_, _, rfl⟩ (by decide) (Nat.le_of_ble_eq_true rfl) (Nat.le_refl _) (Nat.le_refl _) (md_k hm) ?_
    refine kr_keep (lv' := [(0, .ref m)]) [0] rfl ?_
    exact xw_text_J74 hX hr hm h
def x_text_B36 (n : Nat) (m : Nat) (K36 : kt_M → Option (Int32 × kt_M)) (μ : kt_M) : Option (Int32 × kt_M) := (if (kt_i μ m 11) = 0 then (if (kt_i μ m 9) = 0 then x_text_J57 n m μ else kq_b2 (x_readBlock n m μ) (fun r_51 μ_51 => K36 μ_51)) else x_text_J57 n m μ)
set_option maxHeartbeats 4000000 in
set_option maxRecDepth 100000 in
theorem xw_text_B36 {G : kt_G} {σ : kt_Y} {X : kt_X} (hX : kt_ok G X RX10 cX10_text 2 5 0 0) (hr : kt_rt X = (some .int)) {m : Nat} (hm : kt_md σ m) {n : Nat} {q : (Int32 × kt_M)} {K36 : kt_M → Option (Int32 × kt_M)} (hK36 : ∀ (μ : kt_M), K36 μ = some q → kt_W G X 2 36 [(0, .ref m)] [] σ μ 0 0 (kt_Z G X (kt_q σ (fun rv μ2 => rv = some (.int q.1) ∧ μ2 = q.2)) 0 0)) {μ : kt_M} (h : x_text_B36 n m K36 μ = some q) : kt_W G X 2 36 [(0, .ref m)] [] σ μ 0 0 (kt_Z G X (kt_q σ (fun rv μ2 => rv = some (.int q.1) ∧ μ2 = q.2)) 0 0) := by
  unfold x_text_B36 at h
  refine kr_aload_n (i := 0) hX dX10_text_36 rfl rfl ?_
  refine kr_geti (c0 := 10) (k := 11) hX ⟨_, kf_10_87⟩ dX10_text_37 rfl (md_k hm) ?_
  refine kr_if_ne (tgt := 57) hX dX10_text_40 (by decide) (fun c_40 => ?_) (fun c_40 => ?_)
  · replace h := kq_f c_40 h
    refine kr_keep (lv' := [(0, .ref m)]) [0] rfl ?_
    exact xw_text_J57 hX hr hm h
  · replace h := kq_t c_40 h
    refine kr_aload_n (i := 0) hX dX10_text_43 rfl rfl ?_
    refine kr_geti (c0 := 10) (k := 9) hX ⟨_, kf_10_96⟩ dX10_text_44 rfl (md_k hm) ?_
    refine kr_if_eq (tgt := 57) hX dX10_text_47 (by decide) (fun c_47 => ?_) (fun c_47 => ?_)
    · replace h := kq_t c_47 h
      refine kr_keep (lv' := [(0, .ref m)]) [0] rfl ?_
      exact xw_text_J57 hX hr hm h
    · replace h := kq_f c_47 h
      refine kr_aload_n (i := 0) hX dX10_text_50 rfl rfl ?_
      obtain ⟨r_51, μ_51, e_51, h⟩ := kq_b2_e h
      refine kr_dV (c1 := 10) [] hX km_10_163 dX10_text_51 (xs_readBlock hm e_51) rfl rfl ⟨_, _, rfl⟩ (by decide) (Nat.le_of_ble_eq_true rfl) (Nat.le_refl _) (Nat.le_refl _) (md_k hm) ?_
      refine kr_goto (tgt := 36) hX dX10_text_54 (by decide) ?_
      refine kr_keep (lv' := [(0, .ref m)]) [0] rfl ?_
      exact hK36 _ h
def x_text_L36 (n : Nat) (m : Nat) : Nat → kt_M → Option (Int32 × kt_M)
  | 0, _ => none
  | k + 1, μ => x_text_B36 n m (x_text_L36 n m k) μ
set_option maxHeartbeats 4000000 in
set_option maxRecDepth 100000 in
theorem xw_text_L36 {G : kt_G} {σ : kt_Y} {X : kt_X} (hX : kt_ok G X RX10 cX10_text 2 5 0 0) (hr : kt_rt X = (some .int)) {m : Nat} (hm : kt_md σ m) {n : Nat} {q : (Int32 × kt_M)} : ∀ (k : Nat) (μ : kt_M), x_text_L36 n m k μ = some q → kt_W G X 2 36 [(0, .ref m)] [] σ μ 0 0 (kt_Z G X (kt_q σ (fun rv μ2 => rv = some (.int q.1) ∧ μ2 = q.2)) 0 0) := by
  intro k
  induction k with
  | zero => intro μ h; cases h
  | succ k ih => intro μ h; exact xw_text_B36 hX hr hm ih h
def x_text_B12 (n : Nat) (m : Nat) (K12 : Int32 → kt_M → Option (Int32 × kt_M)) (l1 : Int32) (μ : kt_M) : Option (Int32 × kt_M) := (if (321 : Int32) ≤ l1 then kq_b2 (x_reads n m μ) (fun r_33 μ_33 => x_text_L36 n m n μ_33) else kq_ck (kq_in l1 321) (kq_lt (kt_si μ (m + 2) (Int32.toNatClampNeg l1) (0 : Int32)) (fun μ_25 => K12 (l1 + 1) μ_25)))
set_option maxHeartbeats 4000000 in
set_option maxRecDepth 100000 in
theorem xw_text_B12 {G : kt_G} {σ : kt_Y} {X : kt_X} (hX : kt_ok G X RX10 cX10_text 2 5 0 0) (hr : kt_rt X = (some .int)) {m : Nat} (hm : kt_md σ m) {n : Nat} {q : (Int32 × kt_M)} {K12 : Int32 → kt_M → Option (Int32 × kt_M)} (hK12 : ∀ (l1 : Int32) (μ : kt_M), K12 l1 μ = some q → kt_W G X 2 12 [(0, .ref m), (1, .int l1)] [] σ μ 0 0 (kt_Z G X (kt_q σ (fun rv μ2 => rv = some (.int q.1) ∧ μ2 = q.2)) 0 0)) {l1 : Int32} {μ : kt_M} (h : x_text_B12 n m K12 l1 μ = some q) : kt_W G X 2 12 [(0, .ref m), (1, .int l1)] [] σ μ 0 0 (kt_Z G X (kt_q σ (fun rv μ2 => rv = some (.int q.1) ∧ μ2 = q.2)) 0 0) := by
  unfold x_text_B12 at h
  refine kr_iload_n (i := 1) hX dX10_text_12 rfl rfl ?_
  refine kr_sipush (v := 321) hX dX10_text_13 (by decide) ?_
  refine kr_icmp_ge (tgt := 32) hX dX10_text_16 (by decide) (fun c_16 => ?_) (fun c_16 => ?_)
  · replace h := kq_t c_16 h
    refine kr_aload_n (i := 0) hX dX10_text_32 rfl rfl ?_
    obtain ⟨r_33, μ_33, e_33, h⟩ := kq_b2_e h
    refine kr_dV (c1 := 10) [] hX km_10_125 dX10_text_33 (xs_reads hm e_33) rfl rfl ⟨_, _, rfl⟩ (by decide) (Nat.le_of_ble_eq_true rfl) (Nat.le_refl _) (Nat.le_refl _) (md_k hm) ?_
    refine kr_keep (lv' := [(0, .ref m)]) [0] rfl ?_
    exact xw_text_L36 hX hr hm n _ h
  · replace h := kq_f c_16 h
    refine kr_aload_n (i := 0) hX dX10_text_19 rfl rfl ?_
    refine kr_getr (c0 := 10) (k := 1) hX ⟨_, kf_10_13⟩ dX10_text_20 rfl (md_k hm) (md_r1 hm) ?_
    refine kr_iload_n (i := 1) hX dX10_text_23 rfl rfl ?_
    refine kr_iconst (v := 0) hX dX10_text_24 (by decide) ?_
    obtain ⟨i_25, h⟩ := kq_ck_e h
    refine kr_iast hX dX10_text_25 (md_a2 hm) (vp_in_iff.mpr i_25) ?_
    refine kr_ltM h (fun μ_25 h => ?_)
    refine kr_iinc (v := (l1 + 1)) hX dX10_text_26 rfl rfl (by decide) rfl rfl ?_
    refine kr_goto (tgt := 12) hX dX10_text_29 (by decide) ?_
    refine kr_keep (lv' := [(0, .ref m), (1, .int (l1 + 1))]) [0, 1] rfl ?_
    exact hK12 _ _ h
def x_text_L12 (n : Nat) (m : Nat) : Nat → Int32 → kt_M → Option (Int32 × kt_M)
  | 0, _, _ => none
  | k + 1, l1, μ => x_text_B12 n m (x_text_L12 n m k) l1 μ
set_option maxHeartbeats 4000000 in
set_option maxRecDepth 100000 in
theorem xw_text_L12 {G : kt_G} {σ : kt_Y} {X : kt_X} (hX : kt_ok G X RX10 cX10_text 2 5 0 0) (hr : kt_rt X = (some .int)) {m : Nat} (hm : kt_md σ m) {n : Nat} {q : (Int32 × kt_M)} : ∀ (k : Nat) (l1 : Int32) (μ : kt_M), x_text_L12 n m k l1 μ = some q → kt_W G X 2 12 [(0, .ref m), (1, .int l1)] [] σ μ 0 0 (kt_Z G X (kt_q σ (fun rv μ2 => rv = some (.int q.1) ∧ μ2 = q.2)) 0 0) := by
  intro k
  induction k with
  | zero => intro l1 μ h; cases h
  | succ k ih => intro l1 μ h; exact xw_text_B12 hX hr hm ih h
def x_text (n : Nat) (m : Nat) (μ : kt_M) : Option (Int32 × kt_M) := kq_lt (kt_si μ m 11 (0 : Int32)) (fun μ_2 => kq_lt (kt_si μ_2 m 7 (0 : Int32)) (fun μ_7 => x_text_L12 n m n (0 : Int32) μ_7))
set_option maxHeartbeats 4000000 in
set_option maxRecDepth 100000 in
theorem xs_text {G : kt_G} {σ : kt_Y} {μ : kt_M} {m : Nat} (hm : kt_md σ m) {n : Nat} {r : Int32} {μ1 : kt_M} (h : x_text n m μ = some (r, μ1)) : kt_F G yX10_text cX10_text 2 (some .int) 5 [.ref m] σ μ (fun rv μ2 => rv = some (.int r) ∧ μ2 = μ1) := by
  have key : ∀ q : (Int32 × kt_M), x_text n m μ = some q → kt_F G yX10_text cX10_text 2 (some .int) 5 [.ref m] σ μ (fun rv μ2 => rv = some (.int q.1) ∧ μ2 = q.2) := by
    intro q h
    unfold x_text at h
    refine kt_F.of (by decide) (Nat.le_of_ble_eq_true rfl) (fun X hX hr => ?_)
    refine kr_aload_n (i := 0) hX dX10_text_0 rfl rfl ?_
    refine kr_iconst (v := 0) hX dX10_text_1 (by decide) ?_
    refine kr_puti (c0 := 10) (k := 11) hX kf_10_87 dX10_text_2 rfl rfl rfl (md_k hm) ?_
    refine kr_ltM h (fun μ_2 h => ?_)
    refine kr_aload_n (i := 0) hX dX10_text_5 rfl rfl ?_
    refine kr_iconst (v := 0) hX dX10_text_6 (by decide) ?_
    refine kr_puti (c0 := 10) (k := 7) hX kf_10_99 dX10_text_7 rfl rfl rfl (md_k hm) ?_
    refine kr_ltM h (fun μ_7 h => ?_)
    refine kr_iconst (v := 0) hX dX10_text_10 (by decide) ?_
    refine kr_istore_n (i := 1) hX dX10_text_11 rfl (by decide) rfl rfl ?_
    refine kr_keep (lv' := [(0, .ref m), (1, .int (0 : Int32))]) [0, 1] rfl ?_
    exact xw_text_L12 hX hr hm n _ _ h
  exact key (r, μ1) h
def x_fault (n : Nat) (m : Nat) (μ : kt_M) : Option (Int32 × kt_M) := some ((kt_i μ m 11), μ)
set_option maxHeartbeats 4000000 in
set_option maxRecDepth 100000 in
theorem xs_fault {G : kt_G} {σ : kt_Y} {μ : kt_M} {m : Nat} (hm : kt_md σ m) {n : Nat} {r : Int32} {μ1 : kt_M} (h : x_fault n m μ = some (r, μ1)) : kt_F G yX10_fault cX10_fault 1 (some .int) 0 [.ref m] σ μ (fun rv μ2 => rv = some (.int r) ∧ μ2 = μ1) := by
  have key : ∀ q : (Int32 × kt_M), x_fault n m μ = some q → kt_F G yX10_fault cX10_fault 1 (some .int) 0 [.ref m] σ μ (fun rv μ2 => rv = some (.int q.1) ∧ μ2 = q.2) := by
    intro q h
    unfold x_fault at h
    refine kt_F.of (by decide) (Nat.le_of_ble_eq_true rfl) (fun X hX hr => ?_)
    refine kr_aload_n (i := 0) hX dX10_fault_0 rfl rfl ?_
    refine kr_geti (c0 := 10) (k := 11) hX ⟨_, kf_10_87⟩ dX10_fault_1 rfl (md_k hm) ?_
    refine kr_iret hX hr dX10_fault_4 ⟨rfl, ?_⟩
    exact kq_rI h
  exact key (r, μ1) h
def x_isProgram (n : Nat) (m : Nat) (μ : kt_M) (a0 : Int32) : Option (Int32 × kt_M) := kq_b1 (x_in n (Int32.toInt64 a0) (0 : Int64) (1 : Int64)) (fun r_4 => kq_ck (r_4 = 0 ∨ r_4 = 1) (some (r_4, μ)))
set_option maxHeartbeats 4000000 in
set_option maxRecDepth 100000 in
theorem xs_isProgram {G : kt_G} {σ : kt_Y} {μ : kt_M} {m : Nat} (hm : kt_md σ m) {n : Nat} {a0 : Int32} {r : Int32} {μ1 : kt_M} (h : x_isProgram n m μ a0 = some (r, μ1)) : kt_F G yX10_isProgram cX10_isProgram 2 (some .boolean) 1 [.ref m, .int a0] σ μ (fun rv μ2 => rv = some (.int r) ∧ μ2 = μ1) := by
  have key : ∀ q : (Int32 × kt_M), x_isProgram n m μ a0 = some q → kt_F G yX10_isProgram cX10_isProgram 2 (some .boolean) 1 [.ref m, .int a0] σ μ (fun rv μ2 => rv = some (.int q.1) ∧ μ2 = q.2) := by
    intro q h
    unfold x_isProgram at h
    refine kt_F.of (by decide) (Nat.le_of_ble_eq_true rfl) (fun X hX hr => ?_)
    refine kr_iload_n (i := 1) hX dX10_isProgram_0 rfl rfl ?_
    refine kr_i2l hX dX10_isProgram_1 rfl ?_
    refine kr_lconst (v := 0) hX dX10_isProgram_2 (by decide) ?_
    refine kr_lconst (v := 1) hX dX10_isProgram_3 (by decide) ?_
    obtain ⟨r_4, e_4, h⟩ := kq_b1_e h
    refine kr_dS [_, _, _] hX km_10_80 dX10_isProgram_4 (xs_in e_4) rfl rfl (by decide) (Nat.le_of_ble_eq_true rfl) (Nat.le_refl _) (Nat.le_refl _) ?_
    obtain ⟨z_7, h⟩ := kq_ck_e h
    refine kr_zret hX hr z_7 dX10_isProgram_7 ⟨rfl, ?_⟩
    exact kq_rI h
  exact key (r, μ1) h
def x_isBlock (n : Nat) (m : Nat) (μ : kt_M) (a0 : Int32) (a1 : Int32) : Option (Int32 × kt_M) := kq_b2 (x_many n m μ a0) (fun r_5 μ_5 => kq_b1 (x_in n (Int32.toInt64 a1) (0 : Int64) (Int32.toInt64 (r_5 - (1 : Int32)))) (fun r_11 => kq_ck (r_11 = 0 ∨ r_11 = 1) (some (r_11, μ_5))))
set_option maxHeartbeats 4000000 in
set_option maxRecDepth 100000 in
theorem xs_isBlock {G : kt_G} {σ : kt_Y} {μ : kt_M} {m : Nat} (hm : kt_md σ m) {n : Nat} {a0 : Int32} {a1 : Int32} {r : Int32} {μ1 : kt_M} (h : x_isBlock n m μ a0 a1 = some (r, μ1)) : kt_F G yX10_isBlock cX10_isBlock 3 (some .boolean) 1 [.ref m, .int a0, .int a1] σ μ (fun rv μ2 => rv = some (.int r) ∧ μ2 = μ1) := by
  have key : ∀ q : (Int32 × kt_M), x_isBlock n m μ a0 a1 = some q → kt_F G yX10_isBlock cX10_isBlock 3 (some .boolean) 1 [.ref m, .int a0, .int a1] σ μ (fun rv μ2 => rv = some (.int q.1) ∧ μ2 = q.2) := by
    intro q h
    unfold x_isBlock at h
    refine kt_F.of (by decide) (Nat.le_of_ble_eq_true rfl) (fun X hX hr => ?_)
    refine kr_iload_n (i := 2) hX dX10_isBlock_0 rfl rfl ?_
    refine kr_i2l hX dX10_isBlock_1 rfl ?_
    refine kr_lconst (v := 0) hX dX10_isBlock_2 (by decide) ?_
    refine kr_aload_n (i := 0) hX dX10_isBlock_3 rfl rfl ?_
    refine kr_iload_n (i := 1) hX dX10_isBlock_4 rfl rfl ?_
    obtain ⟨r_5, μ_5, e_5, h⟩ := kq_b2_e h
    refine kr_dV (c1 := 10) [_] hX km_10_172 dX10_isBlock_5 (xs_many hm e_5) rfl rfl ⟨_, _, rfl⟩ (by decide) (Nat.le_of_ble_eq_true rfl) (Nat.le_refl _) (Nat.le_refl _) (md_k hm) ?_
    refine kr_iconst (v := 1) hX dX10_isBlock_8 (by decide) ?_
    refine kr_isub hX dX10_isBlock_9 ?_
    refine kr_i2l hX dX10_isBlock_10 rfl ?_
    obtain ⟨r_11, e_11, h⟩ := kq_b1_e h
    refine kr_dS [_, _, _] hX km_10_80 dX10_isBlock_11 (xs_in e_11) rfl rfl (by decide) (Nat.le_of_ble_eq_true rfl) (Nat.le_refl _) (Nat.le_refl _) ?_
    obtain ⟨z_14, h⟩ := kq_ck_e h
    refine kr_zret hX hr z_14 dX10_isBlock_14 ⟨rfl, ?_⟩
    exact kq_rI h
  exact key (r, μ1) h
def x_edgesOf (n : Nat) (m : Nat) (μ : kt_M) (a0 : Int32) (a1 : Int32) : Option (Int32 × kt_M) := kq_b2 (x_of n m μ a0 a1 (13 : Int32)) (fun r_5 μ_5 => (if r_5 = 0 then some ((0 : Int32), μ_5) else (if r_5 = (1 : Int32) then some ((1 : Int32), μ_5) else some ((2 : Int32), μ_5))))
set_option maxHeartbeats 4000000 in
set_option maxRecDepth 100000 in
theorem xs_edgesOf {G : kt_G} {σ : kt_Y} {μ : kt_M} {m : Nat} (hm : kt_md σ m) {n : Nat} {a0 : Int32} {a1 : Int32} {r : Int32} {μ1 : kt_M} (h : x_edgesOf n m μ a0 a1 = some (r, μ1)) : kt_F G yX10_edgesOf cX10_edgesOf 4 (some .int) 2 [.ref m, .int a0, .int a1] σ μ (fun rv μ2 => rv = some (.int r) ∧ μ2 = μ1) := by
  have key : ∀ q : (Int32 × kt_M), x_edgesOf n m μ a0 a1 = some q → kt_F G yX10_edgesOf cX10_edgesOf 4 (some .int) 2 [.ref m, .int a0, .int a1] σ μ (fun rv μ2 => rv = some (.int q.1) ∧ μ2 = q.2) := by
    intro q h
    unfold x_edgesOf at h
    refine kt_F.of (by decide) (Nat.le_of_ble_eq_true rfl) (fun X hX hr => ?_)
    refine kr_aload_n (i := 0) hX dX10_edgesOf_0 rfl rfl ?_
    refine kr_iload_n (i := 1) hX dX10_edgesOf_1 rfl rfl ?_
    refine kr_iload_n (i := 2) hX dX10_edgesOf_2 rfl rfl ?_
    refine kr_bipush (v := 13) hX dX10_edgesOf_3 (by decide) ?_
    obtain ⟨r_5, μ_5, e_5, h⟩ := kq_b2_e h
    refine kr_dV (c1 := 10) [_, _, _] hX km_10_175 dX10_edgesOf_5 (xs_of hm e_5) rfl rfl ⟨_, _, rfl⟩ (by decide) (Nat.le_of_ble_eq_true rfl) (Nat.le_refl _) (Nat.le_refl _) (md_k hm) ?_
    refine kr_istore_n (i := 3) hX dX10_edgesOf_8 rfl (by decide) rfl rfl ?_
    refine kr_iload_n (i := 3) hX dX10_edgesOf_9 rfl rfl ?_
    refine kr_if_ne (tgt := 17) hX dX10_edgesOf_10 (by decide) (fun c_10 => ?_) (fun c_10 => ?_)
    · replace h := kq_f c_10 h
      refine kr_iload_n (i := 3) hX dX10_edgesOf_17 rfl rfl ?_
      refine kr_iconst (v := 1) hX dX10_edgesOf_18 (by decide) ?_
      refine kr_icmp_ne (tgt := 26) hX dX10_edgesOf_19 (by decide) (fun c_19 => ?_) (fun c_19 => ?_)
      · replace h := kq_f c_19 h
        refine kr_iconst (v := 2) hX dX10_edgesOf_26 (by decide) ?_
        refine kr_iret hX hr dX10_edgesOf_27 ⟨rfl, ?_⟩
        exact kq_rI h
      · replace h := kq_t c_19 h
        refine kr_iconst (v := 1) hX dX10_edgesOf_22 (by decide) ?_
        refine kr_goto (tgt := 27) hX dX10_edgesOf_23 (by decide) ?_
        refine kr_iret hX hr dX10_edgesOf_27 ⟨rfl, ?_⟩
        exact kq_rI h
    · replace h := kq_t c_10 h
      refine kr_iconst (v := 0) hX dX10_edgesOf_13 (by decide) ?_
      refine kr_goto (tgt := 27) hX dX10_edgesOf_14 (by decide) ?_
      refine kr_iret hX hr dX10_edgesOf_27 ⟨rfl, ?_⟩
      exact kq_rI h
  exact key (r, μ1) h
def x_isEdge (n : Nat) (m : Nat) (μ : kt_M) (a0 : Int32) (a1 : Int32) (a2 : Int32) : Option (Int32 × kt_M) := kq_b2 (x_isBlock n m μ a0 a1) (fun r_3 μ_3 => (if r_3 = 0 then some ((0 : Int32), μ_3) else kq_b2 (x_edgesOf n m μ_3 a0 a1) (fun r_15 μ_15 => kq_b1 (x_in n (Int32.toInt64 a2) (0 : Int64) (Int32.toInt64 (r_15 - (1 : Int32)))) (fun r_21 => (if r_21 = 0 then some ((0 : Int32), μ_15) else some ((1 : Int32), μ_15))))))
set_option maxHeartbeats 4000000 in
set_option maxRecDepth 100000 in
theorem xs_isEdge {G : kt_G} {σ : kt_Y} {μ : kt_M} {m : Nat} (hm : kt_md σ m) {n : Nat} {a0 : Int32} {a1 : Int32} {a2 : Int32} {r : Int32} {μ1 : kt_M} (h : x_isEdge n m μ a0 a1 a2 = some (r, μ1)) : kt_F G yX10_isEdge cX10_isEdge 4 (some .boolean) 3 [.ref m, .int a0, .int a1, .int a2] σ μ (fun rv μ2 => rv = some (.int r) ∧ μ2 = μ1) := by
  have key : ∀ q : (Int32 × kt_M), x_isEdge n m μ a0 a1 a2 = some q → kt_F G yX10_isEdge cX10_isEdge 4 (some .boolean) 3 [.ref m, .int a0, .int a1, .int a2] σ μ (fun rv μ2 => rv = some (.int q.1) ∧ μ2 = q.2) := by
    intro q h
    unfold x_isEdge at h
    refine kt_F.of (by decide) (Nat.le_of_ble_eq_true rfl) (fun X hX hr => ?_)
    refine kr_aload_n (i := 0) hX dX10_isEdge_0 rfl rfl ?_
    refine kr_iload_n (i := 1) hX dX10_isEdge_1 rfl rfl ?_
    refine kr_iload_n (i := 2) hX dX10_isEdge_2 rfl rfl ?_
    obtain ⟨r_3, μ_3, e_3, h⟩ := kq_b2_e h
    refine kr_dV (c1 := 10) [_, _] hX km_10_178 dX10_isEdge_3 (xs_isBlock hm e_3) rfl rfl ⟨_, _, rfl⟩ (by decide) (Nat.le_of_ble_eq_true rfl) (Nat.le_refl _) (Nat.le_refl _) (md_k hm) ?_
    refine kr_if_eq (tgt := 31) hX dX10_isEdge_6 (by decide) (fun c_6 => ?_) (fun c_6 => ?_)
    · replace h := kq_t c_6 h
      refine kr_iconst (v := 0) hX dX10_isEdge_31 (by decide) ?_
      refine kr_zret hX hr (by decide) dX10_isEdge_32 ⟨rfl, ?_⟩
      exact kq_rI h
    · replace h := kq_f c_6 h
      refine kr_iload_n (i := 3) hX dX10_isEdge_9 rfl rfl ?_
      refine kr_i2l hX dX10_isEdge_10 rfl ?_
      refine kr_lconst (v := 0) hX dX10_isEdge_11 (by decide) ?_
      refine kr_aload_n (i := 0) hX dX10_isEdge_12 rfl rfl ?_
      refine kr_iload_n (i := 1) hX dX10_isEdge_13 rfl rfl ?_
      refine kr_iload_n (i := 2) hX dX10_isEdge_14 rfl rfl ?_
      obtain ⟨r_15, μ_15, e_15, h⟩ := kq_b2_e h
      refine kr_dV (c1 := 10) [_, _] hX km_10_182 dX10_isEdge_15 (xs_edgesOf hm e_15) rfl rfl ⟨_, _, rfl⟩ (by decide) (Nat.le_of_ble_eq_true rfl) (Nat.le_refl _) (Nat.le_refl _) (md_k hm) ?_
      refine kr_iconst (v := 1) hX dX10_isEdge_18 (by decide) ?_
      refine kr_isub hX dX10_isEdge_19 ?_
      refine kr_i2l hX dX10_isEdge_20 rfl ?_
      obtain ⟨r_21, e_21, h⟩ := kq_b1_e h
      refine kr_dS [_, _, _] hX km_10_80 dX10_isEdge_21 (xs_in e_21) rfl rfl (by decide) (Nat.le_of_ble_eq_true rfl) (Nat.le_refl _) (Nat.le_refl _) ?_
      refine kr_if_eq (tgt := 31) hX dX10_isEdge_24 (by decide) (fun c_24 => ?_) (fun c_24 => ?_)
      · replace h := kq_t c_24 h
        refine kr_iconst (v := 0) hX dX10_isEdge_31 (by decide) ?_
        refine kr_zret hX hr (by decide) dX10_isEdge_32 ⟨rfl, ?_⟩
        exact kq_rI h
      · replace h := kq_f c_24 h
        refine kr_iconst (v := 1) hX dX10_isEdge_27 (by decide) ?_
        refine kr_goto (tgt := 32) hX dX10_isEdge_28 (by decide) ?_
        refine kr_zret hX hr (by decide) dX10_isEdge_32 ⟨rfl, ?_⟩
        exact kq_rI h
  exact key (r, μ1) h
def x_isVariable (n : Nat) (a0 : Int32) : Option Int32 := kq_b1 (x_in n (Int32.toInt64 a0) (0 : Int64) (3 : Int64)) (fun r_6 => kq_ck (r_6 = 0 ∨ r_6 = 1) (some r_6))
set_option maxHeartbeats 4000000 in
set_option maxRecDepth 100000 in
theorem xs_isVariable {G : kt_G} {σ : kt_Y} {μ : kt_M} {n : Nat} {a0 : Int32} {q : Int32} (h : x_isVariable n a0 = some q) : kt_F G yX10_isVariable cX10_isVariable 1 (some .boolean) 1 [.int a0] σ μ (fun rv μ2 => rv = some (.int q) ∧ μ2 = μ) := by
  unfold x_isVariable at h
  refine kt_F.of (by decide) (Nat.le_of_ble_eq_true rfl) (fun X hX hr => ?_)
  refine kr_iload_n (i := 0) hX dX10_isVariable_0 rfl rfl ?_
  refine kr_i2l hX dX10_isVariable_1 rfl ?_
  refine kr_lconst (v := 0) hX dX10_isVariable_2 (by decide) ?_
  refine kr_ldc2 (v := 3) hX kw_1357 dX10_isVariable_3 ?_
  obtain ⟨r_6, e_6, h⟩ := kq_b1_e h
  refine kr_dS [_, _, _] hX km_10_80 dX10_isVariable_6 (xs_in e_6) rfl rfl (by decide) (Nat.le_of_ble_eq_true rfl) (Nat.le_refl _) (Nat.le_refl _) ?_
  obtain ⟨z_9, h⟩ := kq_ck_e h
  refine kr_zret hX hr z_9 dX10_isVariable_9 ⟨rfl, ?_⟩
  exact kq_rIs h
def x_summed_B5 (n : Nat) (m : Nat) (K5 : Int32 → Int32 → Int32 → Int32 → kt_M → Option (Int32 × kt_M)) (l1 : Int32) (l2 : Int32) (l3 : Int32) (l4 : Int32) (μ : kt_M) : Option (Int32 × kt_M) := kq_b2 (x_many n m μ l1) (fun r_9 μ_9 => (if r_9 ≤ l4 then some (l3, μ_9) else (if l2 = (1 : Int32) then kq_b2 (x_of n m μ_9 l1 l4 (0 : Int32)) (fun r_26 μ_26 => K5 l1 l2 (l3 + r_26) (l4 + 1) μ_26) else (if l2 = (2 : Int32) then kq_b2 (x_of n m μ_9 l1 l4 (13 : Int32)) (fun r_43 μ_43 => kq_b1 (x_isTest n r_43) (fun r_46 => kq_b1 (x_flag n r_46) (fun r_49 => K5 l1 l2 (l3 + r_49) (l4 + 1) μ_43))) else kq_b2 (x_edgesOf n m μ_9 l1 l4) (fun r_59 μ_59 => K5 l1 l2 (l3 + r_59) (l4 + 1) μ_59)))))
set_option maxHeartbeats 4000000 in
set_option maxRecDepth 100000 in
theorem xw_summed_B5 {G : kt_G} {σ : kt_Y} {X : kt_X} (hX : kt_ok G X RX10 cX10_summed 5 3 0 0) (hr : kt_rt X = (some .int)) {m : Nat} (hm : kt_md σ m) {n : Nat} {q : (Int32 × kt_M)} {K5 : Int32 → Int32 → Int32 → Int32 → kt_M → Option (Int32 × kt_M)} (hK5 : ∀ (l1 : Int32) (l2 : Int32) (l3 : Int32) (l4 : Int32) (μ : kt_M), K5 l1 l2 l3 l4 μ = some q → kt_W G X 5 5 [(0, .ref m), (1, .int l1), (2, .int l2), (3, .int l3), (4, .int l4)] [] σ μ 0 0 (kt_Z G X (kt_q σ (fun rv μ2 => rv = some (.int q.1) ∧ μ2 = q.2)) 0 0)) {l1 : Int32} {l2 : Int32} {l3 : Int32} {l4 : Int32} {μ : kt_M} (h : x_summed_B5 n m K5 l1 l2 l3 l4 μ = some q) : kt_W G X 5 5 [(0, .ref m), (1, .int l1), (2, .int l2), (3, .int l3), (4, .int l4)] [] σ μ 0 0 (kt_Z G X (kt_q σ (fun rv μ2 => rv = some (.int q.1) ∧ μ2 = q.2)) 0 0) := by
  unfold x_summed_B5 at h
  refine kr_iload hX dX10_summed_5 rfl ?_
  refine kr_aload_n (i := 0) hX dX10_summed_7 rfl rfl ?_
  refine kr_iload_n (i := 1) hX dX10_summed_8 rfl rfl ?_
  obtain ⟨r_9, μ_9, e_9, h⟩ := kq_b2_e h
  refine kr_dV (c1 := 10) [_] hX km_10_172 dX10_summed_9 (xs_many hm e_9) rfl rfl ⟨_, _, rfl⟩ (by decide) (Nat.le_of_ble_eq_true rfl) (Nat.le_refl _) (Nat.le_refl _) (md_k hm) ?_
  refine kr_icmp_ge (tgt := 70) hX dX10_summed_12 (by decide) (fun c_12 => ?_) (fun c_12 => ?_)
  · replace h := kq_t c_12 h
    refine kr_iload_n (i := 3) hX dX10_summed_70 rfl rfl ?_
    refine kr_iret hX hr dX10_summed_71 ⟨rfl, ?_⟩
    exact kq_rI h
  · replace h := kq_f c_12 h
    refine kr_iload_n (i := 3) hX dX10_summed_15 rfl rfl ?_
    refine kr_iload_n (i := 2) hX dX10_summed_16 rfl rfl ?_
    refine kr_iconst (v := 1) hX dX10_summed_17 (by decide) ?_
    refine kr_icmp_ne (tgt := 32) hX dX10_summed_18 (by decide) (fun c_18 => ?_) (fun c_18 => ?_)
    · replace h := kq_f c_18 h
      refine kr_iload_n (i := 2) hX dX10_summed_32 rfl rfl ?_
      refine kr_iconst (v := 2) hX dX10_summed_33 (by decide) ?_
      refine kr_icmp_ne (tgt := 55) hX dX10_summed_34 (by decide) (fun c_34 => ?_) (fun c_34 => ?_)
      · replace h := kq_f c_34 h
        refine kr_aload_n (i := 0) hX dX10_summed_55 rfl rfl ?_
        refine kr_iload_n (i := 1) hX dX10_summed_56 rfl rfl ?_
        refine kr_iload hX dX10_summed_57 rfl ?_
        obtain ⟨r_59, μ_59, e_59, h⟩ := kq_b2_e h
        refine kr_dV (c1 := 10) [_, _] hX km_10_182 dX10_summed_59 (xs_edgesOf hm e_59) rfl rfl ⟨_, _, rfl⟩ (by decide) (Nat.le_of_ble_eq_true rfl) (Nat.le_refl _) (Nat.le_refl _) (md_k hm) ?_
        refine kr_iadd hX dX10_summed_62 ?_
        refine kr_istore_n (i := 3) hX dX10_summed_63 rfl (by decide) rfl rfl ?_
        refine kr_iinc (v := (l4 + 1)) hX dX10_summed_64 rfl rfl (by decide) rfl rfl ?_
        refine kr_goto (tgt := 5) hX dX10_summed_67 (by decide) ?_
        refine kr_keep (lv' := [(0, .ref m), (1, .int l1), (2, .int l2), (3, .int (l3 + r_59)), (4, .int (l4 + 1))]) [0, 1, 2, 3, 4] rfl ?_
        exact hK5 _ _ _ _ _ h
      · replace h := kq_t c_34 h
        refine kr_aload_n (i := 0) hX dX10_summed_37 rfl rfl ?_
        refine kr_iload_n (i := 1) hX dX10_summed_38 rfl rfl ?_
        refine kr_iload hX dX10_summed_39 rfl ?_
        refine kr_bipush (v := 13) hX dX10_summed_41 (by decide) ?_
        obtain ⟨r_43, μ_43, e_43, h⟩ := kq_b2_e h
        refine kr_dV (c1 := 10) [_, _, _] hX km_10_175 dX10_summed_43 (xs_of hm e_43) rfl rfl ⟨_, _, rfl⟩ (by decide) (Nat.le_of_ble_eq_true rfl) (Nat.le_refl _) (Nat.le_refl _) (md_k hm) ?_
        obtain ⟨r_46, e_46, h⟩ := kq_b1_e h
        refine kr_dS [_] hX km_10_188 dX10_summed_46 (xs_isTest e_46) rfl rfl (by decide) (Nat.le_of_ble_eq_true rfl) (Nat.le_refl _) (Nat.le_refl _) ?_
        obtain ⟨r_49, e_49, h⟩ := kq_b1_e h
        refine kr_dS [_] hX km_10_145 dX10_summed_49 (xs_flag e_49) rfl rfl (by decide) (Nat.le_of_ble_eq_true rfl) (Nat.le_refl _) (Nat.le_refl _) ?_
        refine kr_goto (tgt := 62) hX dX10_summed_52 (by decide) ?_
        refine kr_iadd hX dX10_summed_62 ?_
        refine kr_istore_n (i := 3) hX dX10_summed_63 rfl (by decide) rfl rfl ?_
        refine kr_iinc (v := (l4 + 1)) hX dX10_summed_64 rfl rfl (by decide) rfl rfl ?_
        refine kr_goto (tgt := 5) hX dX10_summed_67 (by decide) ?_
        refine kr_keep (lv' := [(0, .ref m), (1, .int l1), (2, .int l2), (3, .int (l3 + r_49)), (4, .int (l4 + 1))]) [0, 1, 2, 3, 4] rfl ?_
        exact hK5 _ _ _ _ _ h
    · replace h := kq_t c_18 h
      refine kr_aload_n (i := 0) hX dX10_summed_21 rfl rfl ?_
      refine kr_iload_n (i := 1) hX dX10_summed_22 rfl rfl ?_
      refine kr_iload hX dX10_summed_23 rfl ?_
      refine kr_iconst (v := 0) hX dX10_summed_25 (by decide) ?_
      obtain ⟨r_26, μ_26, e_26, h⟩ := kq_b2_e h
      refine kr_dV (c1 := 10) [_, _, _] hX km_10_175 dX10_summed_26 (xs_of hm e_26) rfl rfl ⟨_, _, rfl⟩ (by decide) (Nat.le_of_ble_eq_true rfl) (Nat.le_refl _) (Nat.le_refl _) (md_k hm) ?_
      refine kr_goto (tgt := 62) hX dX10_summed_29 (by decide) ?_
      refine kr_iadd hX dX10_summed_62 ?_
      refine kr_istore_n (i := 3) hX dX10_summed_63 rfl (by decide) rfl rfl ?_
      refine kr_iinc (v := (l4 + 1)) hX dX10_summed_64 rfl rfl (by decide) rfl rfl ?_
      refine kr_goto (tgt := 5) hX dX10_summed_67 (by decide) ?_
      refine kr_keep (lv' := [(0, .ref m), (1, .int l1), (2, .int l2), (3, .int (l3 + r_26)), (4, .int (l4 + 1))]) [0, 1, 2, 3, 4] rfl ?_
      exact hK5 _ _ _ _ _ h
def x_summed_L5 (n : Nat) (m : Nat) : Nat → Int32 → Int32 → Int32 → Int32 → kt_M → Option (Int32 × kt_M)
  | 0, _, _, _, _, _ => none
  | k + 1, l1, l2, l3, l4, μ => x_summed_B5 n m (x_summed_L5 n m k) l1 l2 l3 l4 μ
set_option maxHeartbeats 4000000 in
set_option maxRecDepth 100000 in
theorem xw_summed_L5 {G : kt_G} {σ : kt_Y} {X : kt_X} (hX : kt_ok G X RX10 cX10_summed 5 3 0 0) (hr : kt_rt X = (some .int)) {m : Nat} (hm : kt_md σ m) {n : Nat} {q : (Int32 × kt_M)} : ∀ (k : Nat) (l1 : Int32) (l2 : Int32) (l3 : Int32) (l4 : Int32) (μ : kt_M), x_summed_L5 n m k l1 l2 l3 l4 μ = some q → kt_W G X 5 5 [(0, .ref m), (1, .int l1), (2, .int l2), (3, .int l3), (4, .int l4)] [] σ μ 0 0 (kt_Z G X (kt_q σ (fun rv μ2 => rv = some (.int q.1) ∧ μ2 = q.2)) 0 0) := by
  intro k
  induction k with
  | zero => intro l1 l2 l3 l4 μ h; cases h
  | succ k ih => intro l1 l2 l3 l4 μ h; exact xw_summed_B5 hX hr hm ih h
def x_summed (n : Nat) (m : Nat) (μ : kt_M) (a0 : Int32) (a1 : Int32) : Option (Int32 × kt_M) := x_summed_L5 n m n a0 a1 (0 : Int32) (0 : Int32) μ
set_option maxHeartbeats 4000000 in
set_option maxRecDepth 100000 in
theorem xs_summed {G : kt_G} {σ : kt_Y} {μ : kt_M} {m : Nat} (hm : kt_md σ m) {n : Nat} {a0 : Int32} {a1 : Int32} {r : Int32} {μ1 : kt_M} (h : x_summed n m μ a0 a1 = some (r, μ1)) : kt_F G yX10_summed cX10_summed 5 (some .int) 3 [.ref m, .int a0, .int a1] σ μ (fun rv μ2 => rv = some (.int r) ∧ μ2 = μ1) := by
  have key : ∀ q : (Int32 × kt_M), x_summed n m μ a0 a1 = some q → kt_F G yX10_summed cX10_summed 5 (some .int) 3 [.ref m, .int a0, .int a1] σ μ (fun rv μ2 => rv = some (.int q.1) ∧ μ2 = q.2) := by
    intro q h
    unfold x_summed at h
    refine kt_F.of (by decide) (Nat.le_of_ble_eq_true rfl) (fun X hX hr => ?_)
    refine kr_iconst (v := 0) hX dX10_summed_0 (by decide) ?_
    refine kr_istore_n (i := 3) hX dX10_summed_1 rfl (by decide) rfl rfl ?_
    refine kr_iconst (v := 0) hX dX10_summed_2 (by decide) ?_
    refine kr_istore hX dX10_summed_3 (by decide) rfl rfl ?_
    refine kr_keep (lv' := [(0, .ref m), (1, .int a0), (2, .int a1), (3, .int (0 : Int32)), (4, .int (0 : Int32))]) [0, 1, 2, 3, 4] rfl ?_
    exact xw_summed_L5 hX hr hm n _ _ _ _ _ h
  exact key (r, μ1) h
def x_meets_J34 (n : Nat) (m : Nat) (K2 : Int32 → Int32 → kt_M → Option (Unit × kt_M)) (l1 : Int32) (l2 : Int32) (s1 : Int32) (s2 : Int32) (μ : kt_M) : Option (Unit × kt_M) := kq_ck (kq_in s1 16) (kq_ck (s2 = 0 ∨ s2 = 1) (kq_lt (kt_si μ (m + 9) (Int32.toNatClampNeg s1) s2) (fun μ_34 => K2 l1 (l2 + 1) μ_34)))
set_option maxHeartbeats 4000000 in
set_option maxRecDepth 100000 in
theorem xw_meets_J34 {G : kt_G} {σ : kt_Y} {X : kt_X} (hX : kt_ok G X RX10 cX10_meets 6 3 0 0) (hr : kt_rt X = none) {m : Nat} (hm : kt_md σ m) {n : Nat} {q : (Unit × kt_M)} {K2 : Int32 → Int32 → kt_M → Option (Unit × kt_M)} (hK2 : ∀ (l1 : Int32) (l2 : Int32) (μ : kt_M), K2 l1 l2 μ = some q → kt_W G X 6 2 [(0, .ref m), (1, .int l1), (2, .int l2)] [] σ μ 0 0 (kt_Z G X (kt_q σ (fun rv μ2 => rv = none ∧ μ2 = q.2)) 0 0)) {l1 : Int32} {l2 : Int32} {s1 : Int32} {s2 : Int32} {μ : kt_M} (h : x_meets_J34 n m K2 l1 l2 s1 s2 μ = some q) : kt_W G X 6 34 [(0, .ref m), (1, .int l1), (2, .int l2)] [.int s2, .int s1, .ref (m + 9)] σ μ 0 0 (kt_Z G X (kt_q σ (fun rv μ2 => rv = none ∧ μ2 = q.2)) 0 0) := by
  unfold x_meets_J34 at h
  obtain ⟨i_34, h⟩ := kq_ck_e h
  obtain ⟨z_34, h⟩ := kq_ck_e h
  refine kr_bast hX dX10_meets_34 z_34 (md_a9 hm) (vp_in_iff.mpr i_34) ?_
  refine kr_ltM h (fun μ_34 h => ?_)
  refine kr_iinc (v := (l2 + 1)) hX dX10_meets_35 rfl rfl (by decide) rfl rfl ?_
  refine kr_goto (tgt := 2) hX dX10_meets_38 (by decide) ?_
  refine kr_keep (lv' := [(0, .ref m), (1, .int l1), (2, .int (l2 + 1))]) [0, 1, 2] rfl ?_
  exact hK2 _ _ _ h
def x_meets_J149 (n : Nat) (m : Nat) (K43 : Int32 → Int32 → kt_M → Option (Unit × kt_M)) (K51 : Int32 → Int32 → Int32 → kt_M → Option (Unit × kt_M)) (K63 : Int32 → Int32 → Int32 → Int32 → kt_M → Option (Unit × kt_M)) (l1 : Int32) (l2 : Int32) (l3 : Int32) (l4 : Int32) (s1 : Int32) (s2 : Int32) (μ : kt_M) : Option (Unit × kt_M) := kq_ck (kq_in s1 16) (kq_ck (s2 = 0 ∨ s2 = 1) (kq_lt (kt_si μ (m + 9) (Int32.toNatClampNeg s1) s2) (fun μ_149 => K63 l1 l2 l3 (l4 + 1) μ_149)))
set_option maxHeartbeats 4000000 in
set_option maxRecDepth 100000 in
theorem xw_meets_J149 {G : kt_G} {σ : kt_Y} {X : kt_X} (hX : kt_ok G X RX10 cX10_meets 6 3 0 0) (hr : kt_rt X = none) {m : Nat} (hm : kt_md σ m) {n : Nat} {q : (Unit × kt_M)} {K43 : Int32 → Int32 → kt_M → Option (Unit × kt_M)} (hK43 : ∀ (l1 : Int32) (l2 : Int32) (μ : kt_M), K43 l1 l2 μ = some q → kt_W G X 6 43 [(0, .ref m), (1, .int l1), (2, .int l2)] [] σ μ 0 0 (kt_Z G X (kt_q σ (fun rv μ2 => rv = none ∧ μ2 = q.2)) 0 0)) {K51 : Int32 → Int32 → Int32 → kt_M → Option (Unit × kt_M)} (hK51 : ∀ (l1 : Int32) (l2 : Int32) (l3 : Int32) (μ : kt_M), K51 l1 l2 l3 μ = some q → kt_W G X 6 51 [(0, .ref m), (1, .int l1), (2, .int l2), (3, .int l3)] [] σ μ 0 0 (kt_Z G X (kt_q σ (fun rv μ2 => rv = none ∧ μ2 = q.2)) 0 0)) {K63 : Int32 → Int32 → Int32 → Int32 → kt_M → Option (Unit × kt_M)} (hK63 : ∀ (l1 : Int32) (l2 : Int32) (l3 : Int32) (l4 : Int32) (μ : kt_M), K63 l1 l2 l3 l4 μ = some q → kt_W G X 6 63 [(0, .ref m), (1, .int l1), (2, .int l2), (3, .int l3), (4, .int l4)] [] σ μ 0 0 (kt_Z G X (kt_q σ (fun rv μ2 => rv = none ∧ μ2 = q.2)) 0 0)) {l1 : Int32} {l2 : Int32} {l3 : Int32} {l4 : Int32} {s1 : Int32} {s2 : Int32} {μ : kt_M} (h : x_meets_J149 n m K43 K51 K63 l1 l2 l3 l4 s1 s2 μ = some q) : kt_W G X 6 149 [(0, .ref m), (1, .int l1), (2, .int l2), (3, .int l3), (4, .int l4)] [.int s2, .int s1, .ref (m + 9)] σ μ 0 0 (kt_Z G X (kt_q σ (fun rv μ2 => rv = none ∧ μ2 = q.2)) 0 0) := by
  unfold x_meets_J149 at h
  obtain ⟨i_149, h⟩ := kq_ck_e h
  obtain ⟨z_149, h⟩ := kq_ck_e h
  refine kr_bast hX dX10_meets_149 z_149 (md_a9 hm) (vp_in_iff.mpr i_149) ?_
  refine kr_ltM h (fun μ_149 h => ?_)
  refine kr_iinc (v := (l4 + 1)) hX dX10_meets_150 rfl rfl (by decide) rfl rfl ?_
  refine kr_goto (tgt := 63) hX dX10_meets_153 (by decide) ?_
  refine kr_keep (lv' := [(0, .ref m), (1, .int l1), (2, .int l2), (3, .int l3), (4, .int (l4 + 1))]) [0, 1, 2, 3, 4] rfl ?_
  exact hK63 _ _ _ _ _ h
def x_meets_J121 (n : Nat) (m : Nat) (K43 : Int32 → Int32 → kt_M → Option (Unit × kt_M)) (K51 : Int32 → Int32 → Int32 → kt_M → Option (Unit × kt_M)) (K63 : Int32 → Int32 → Int32 → Int32 → kt_M → Option (Unit × kt_M)) (l1 : Int32) (l3 : Int32) (l4 : Int32) (l5 : Int32) (s0 : Int32) (μ : kt_M) : Option (Unit × kt_M) := kq_ck (kq_in l5 16) ((if (kt_i μ (m + 9) (Int32.toNatClampNeg l5)) = 0 then (if l5 = l1 then x_meets_J149 n m K43 K51 K63 l1 s0 l3 l4 l5 (0 : Int32) μ else x_meets_J149 n m K43 K51 K63 l1 s0 l3 l4 l5 (1 : Int32) μ) else x_meets_J149 n m K43 K51 K63 l1 s0 l3 l4 l5 (1 : Int32) μ))
set_option maxHeartbeats 4000000 in
set_option maxRecDepth 100000 in
theorem xw_meets_J121 {G : kt_G} {σ : kt_Y} {X : kt_X} (hX : kt_ok G X RX10 cX10_meets 6 3 0 0) (hr : kt_rt X = none) {m : Nat} (hm : kt_md σ m) {n : Nat} {q : (Unit × kt_M)} {K43 : Int32 → Int32 → kt_M → Option (Unit × kt_M)} (hK43 : ∀ (l1 : Int32) (l2 : Int32) (μ : kt_M), K43 l1 l2 μ = some q → kt_W G X 6 43 [(0, .ref m), (1, .int l1), (2, .int l2)] [] σ μ 0 0 (kt_Z G X (kt_q σ (fun rv μ2 => rv = none ∧ μ2 = q.2)) 0 0)) {K51 : Int32 → Int32 → Int32 → kt_M → Option (Unit × kt_M)} (hK51 : ∀ (l1 : Int32) (l2 : Int32) (l3 : Int32) (μ : kt_M), K51 l1 l2 l3 μ = some q → kt_W G X 6 51 [(0, .ref m), (1, .int l1), (2, .int l2), (3, .int l3)] [] σ μ 0 0 (kt_Z G X (kt_q σ (fun rv μ2 => rv = none ∧ μ2 = q.2)) 0 0)) {K63 : Int32 → Int32 → Int32 → Int32 → kt_M → Option (Unit × kt_M)} (hK63 : ∀ (l1 : Int32) (l2 : Int32) (l3 : Int32) (l4 : Int32) (μ : kt_M), K63 l1 l2 l3 l4 μ = some q → kt_W G X 6 63 [(0, .ref m), (1, .int l1), (2, .int l2), (3, .int l3), (4, .int l4)] [] σ μ 0 0 (kt_Z G X (kt_q σ (fun rv μ2 => rv = none ∧ μ2 = q.2)) 0 0)) {l1 : Int32} {l3 : Int32} {l4 : Int32} {l5 : Int32} {s0 : Int32} {μ : kt_M} (h : x_meets_J121 n m K43 K51 K63 l1 l3 l4 l5 s0 μ = some q) : kt_W G X 6 121 [(0, .ref m), (1, .int l1), (3, .int l3), (4, .int l4), (5, .int l5)] [.int s0] σ μ 0 0 (kt_Z G X (kt_q σ (fun rv μ2 => rv = none ∧ μ2 = q.2)) 0 0) := by
  unfold x_meets_J121 at h
  refine kr_istore_n (i := 2) hX dX10_meets_121 rfl (by decide) rfl rfl ?_
  refine kr_aload_n (i := 0) hX dX10_meets_122 rfl rfl ?_
  refine kr_getr (c0 := 10) (k := 16) hX ⟨_, kf_10_40⟩ dX10_meets_123 rfl (md_k hm) (md_r16 hm) ?_
  refine kr_iload hX dX10_meets_126 rfl ?_
  refine kr_aload_n (i := 0) hX dX10_meets_128 rfl rfl ?_
  refine kr_getr (c0 := 10) (k := 16) hX ⟨_, kf_10_40⟩ dX10_meets_129 rfl (md_k hm) (md_r16 hm) ?_
  refine kr_iload hX dX10_meets_132 rfl ?_
  obtain ⟨i_134, h⟩ := kq_ck_e h
  refine kr_bald hX dX10_meets_134 (md_a9 hm) (vp_in_iff.mpr i_134) ?_
  refine kr_if_ne (tgt := 144) hX dX10_meets_135 (by decide) (fun c_135 => ?_) (fun c_135 => ?_)
  · replace h := kq_f c_135 h
    refine kr_iconst (v := 1) hX dX10_meets_144 (by decide) ?_
    refine kr_goto (tgt := 149) hX dX10_meets_145 (by decide) ?_
    refine kr_keep (lv' := [(0, .ref m), (1, .int l1), (2, .int s0), (3, .int l3), (4, .int l4)]) [0, 1, 5, 2, 3] rfl ?_
    exact xw_meets_J149 hX hr hm hK43 hK51 hK63 h
  · replace h := kq_t c_135 h
    refine kr_iload hX dX10_meets_138 rfl ?_
    refine kr_iload_n (i := 1) hX dX10_meets_140 rfl rfl ?_
    refine kr_icmp_eq (tgt := 148) hX dX10_meets_141 (by decide) (fun c_141 => ?_) (fun c_141 => ?_)
    · replace h := kq_t c_141 h
      refine kr_iconst (v := 0) hX dX10_meets_148 (by decide) ?_
      refine kr_keep (lv' := [(0, .ref m), (1, .int l1), (2, .int s0), (3, .int l3), (4, .int l4)]) [0, 1, 5, 2, 3] rfl ?_
      exact xw_meets_J149 hX hr hm hK43 hK51 hK63 h
    · replace h := kq_f c_141 h
      refine kr_iconst (v := 1) hX dX10_meets_144 (by decide) ?_
      refine kr_goto (tgt := 149) hX dX10_meets_145 (by decide) ?_
      refine kr_keep (lv' := [(0, .ref m), (1, .int l1), (2, .int s0), (3, .int l3), (4, .int l4)]) [0, 1, 5, 2, 3] rfl ?_
      exact xw_meets_J149 hX hr hm hK43 hK51 hK63 h
def x_meets_B63 (n : Nat) (m : Nat) (K43 : Int32 → Int32 → kt_M → Option (Unit × kt_M)) (K51 : Int32 → Int32 → Int32 → kt_M → Option (Unit × kt_M)) (K63 : Int32 → Int32 → Int32 → Int32 → kt_M → Option (Unit × kt_M)) (l1 : Int32) (l2 : Int32) (l3 : Int32) (l4 : Int32) (μ : kt_M) : Option (Unit × kt_M) := kq_b2 (x_edgesOf n m μ (1 : Int32) l3) (fun r_68 μ_68 => (if r_68 ≤ l4 then K51 l1 l2 (l3 + 1) μ_68 else kq_ck (kq_in l3 16) ((if (kt_i μ_68 (m + 9) (Int32.toNatClampNeg l3)) = 0 then K51 l1 l2 (l3 + 1) μ_68 else kq_b2 (x_of n m μ_68 (1 : Int32) l3 ((14 : Int32) + l4)) (fun r_91 μ_91 => (if l2 = 0 then (if r_91 = l1 then x_meets_J121 n m K43 K51 K63 l1 l3 l4 r_91 (0 : Int32) μ_91 else kq_ck (kq_in r_91 16) ((if (kt_i μ_91 (m + 9) (Int32.toNatClampNeg r_91)) = 0 then x_meets_J121 n m K43 K51 K63 l1 l3 l4 r_91 (1 : Int32) μ_91 else x_meets_J121 n m K43 K51 K63 l1 l3 l4 r_91 (0 : Int32) μ_91))) else x_meets_J121 n m K43 K51 K63 l1 l3 l4 r_91 (1 : Int32) μ_91))))))
set_option maxHeartbeats 4000000 in
set_option maxRecDepth 100000 in
theorem xw_meets_B63 {G : kt_G} {σ : kt_Y} {X : kt_X} (hX : kt_ok G X RX10 cX10_meets 6 3 0 0) (hr : kt_rt X = none) {m : Nat} (hm : kt_md σ m) {n : Nat} {q : (Unit × kt_M)} {K43 : Int32 → Int32 → kt_M → Option (Unit × kt_M)} (hK43 : ∀ (l1 : Int32) (l2 : Int32) (μ : kt_M), K43 l1 l2 μ = some q → kt_W G X 6 43 [(0, .ref m), (1, .int l1), (2, .int l2)] [] σ μ 0 0 (kt_Z G X (kt_q σ (fun rv μ2 => rv = none ∧ μ2 = q.2)) 0 0)) {K51 : Int32 → Int32 → Int32 → kt_M → Option (Unit × kt_M)} (hK51 : ∀ (l1 : Int32) (l2 : Int32) (l3 : Int32) (μ : kt_M), K51 l1 l2 l3 μ = some q → kt_W G X 6 51 [(0, .ref m), (1, .int l1), (2, .int l2), (3, .int l3)] [] σ μ 0 0 (kt_Z G X (kt_q σ (fun rv μ2 => rv = none ∧ μ2 = q.2)) 0 0)) {K63 : Int32 → Int32 → Int32 → Int32 → kt_M → Option (Unit × kt_M)} (hK63 : ∀ (l1 : Int32) (l2 : Int32) (l3 : Int32) (l4 : Int32) (μ : kt_M), K63 l1 l2 l3 l4 μ = some q → kt_W G X 6 63 [(0, .ref m), (1, .int l1), (2, .int l2), (3, .int l3), (4, .int l4)] [] σ μ 0 0 (kt_Z G X (kt_q σ (fun rv μ2 => rv = none ∧ μ2 = q.2)) 0 0)) {l1 : Int32} {l2 : Int32} {l3 : Int32} {l4 : Int32} {μ : kt_M} (h : x_meets_B63 n m K43 K51 K63 l1 l2 l3 l4 μ = some q) : kt_W G X 6 63 [(0, .ref m), (1, .int l1), (2, .int l2), (3, .int l3), (4, .int l4)] [] σ μ 0 0 (kt_Z G X (kt_q σ (fun rv μ2 => rv = none ∧ μ2 = q.2)) 0 0) := by
  unfold x_meets_B63 at h
  refine kr_iload hX dX10_meets_63 rfl ?_
  refine kr_aload_n (i := 0) hX dX10_meets_65 rfl rfl ?_
  refine kr_iconst (v := 1) hX dX10_meets_66 (by decide) ?_
  refine kr_iload_n (i := 3) hX dX10_meets_67 rfl rfl ?_
  obtain ⟨r_68, μ_68, e_68, h⟩ := kq_b2_e h
  refine kr_dV (c1 := 10) [_, _] hX km_10_182 dX10_meets_68 (xs_edgesOf hm e_68) rfl rfl ⟨_, _, rfl⟩ (by decide) (Nat.le_of_ble_eq_true rfl) (Nat.le_refl _) (Nat.le_refl _) (md_k hm) ?_
  refine kr_icmp_ge (tgt := 156) hX dX10_meets_71 (by decide) (fun c_71 => ?_) (fun c_71 => ?_)
  · replace h := kq_t c_71 h
    refine kr_iinc (v := (l3 + 1)) hX dX10_meets_156 rfl rfl (by decide) rfl rfl ?_
    refine kr_goto (tgt := 51) hX dX10_meets_159 (by decide) ?_
    refine kr_keep (lv' := [(0, .ref m), (1, .int l1), (2, .int l2), (3, .int (l3 + 1))]) [0, 1, 2, 3] rfl ?_
    exact hK51 _ _ _ _ h
  · replace h := kq_f c_71 h
    refine kr_aload_n (i := 0) hX dX10_meets_74 rfl rfl ?_
    refine kr_getr (c0 := 10) (k := 16) hX ⟨_, kf_10_40⟩ dX10_meets_75 rfl (md_k hm) (md_r16 hm) ?_
    refine kr_iload_n (i := 3) hX dX10_meets_78 rfl rfl ?_
    obtain ⟨i_79, h⟩ := kq_ck_e h
    refine kr_bald hX dX10_meets_79 (md_a9 hm) (vp_in_iff.mpr i_79) ?_
    refine kr_if_eq (tgt := 156) hX dX10_meets_80 (by decide) (fun c_80 => ?_) (fun c_80 => ?_)
    · replace h := kq_t c_80 h
      refine kr_iinc (v := (l3 + 1)) hX dX10_meets_156 rfl rfl (by decide) rfl rfl ?_
      refine kr_goto (tgt := 51) hX dX10_meets_159 (by decide) ?_
      refine kr_keep (lv' := [(0, .ref m), (1, .int l1), (2, .int l2), (3, .int (l3 + 1))]) [0, 1, 2, 3] rfl ?_
      exact hK51 _ _ _ _ h
    · replace h := kq_f c_80 h
      refine kr_aload_n (i := 0) hX dX10_meets_83 rfl rfl ?_
      refine kr_iconst (v := 1) hX dX10_meets_84 (by decide) ?_
      refine kr_iload_n (i := 3) hX dX10_meets_85 rfl rfl ?_
      refine kr_bipush (v := 14) hX dX10_meets_86 (by decide) ?_
      refine kr_iload hX dX10_meets_88 rfl ?_
      refine kr_iadd hX dX10_meets_90 ?_
      obtain ⟨r_91, μ_91, e_91, h⟩ := kq_b2_e h
      refine kr_dV (c1 := 10) [_, _, _] hX km_10_175 dX10_meets_91 (xs_of hm e_91) rfl rfl ⟨_, _, rfl⟩ (by decide) (Nat.le_of_ble_eq_true rfl) (Nat.le_refl _) (Nat.le_refl _) (md_k hm) ?_
      refine kr_istore hX dX10_meets_94 (by decide) rfl rfl ?_
      refine kr_iload_n (i := 2) hX dX10_meets_96 rfl rfl ?_
      refine kr_if_ne (tgt := 116) hX dX10_meets_97 (by decide) (fun c_97 => ?_) (fun c_97 => ?_)
      · replace h := kq_f c_97 h
        refine kr_iconst (v := 1) hX dX10_meets_116 (by decide) ?_
        refine kr_goto (tgt := 121) hX dX10_meets_117 (by decide) ?_
        refine kr_keep (lv' := [(0, .ref m), (1, .int l1), (3, .int l3), (4, .int l4), (5, .int r_91)]) [0, 1, 3, 4, 5] rfl ?_
        exact xw_meets_J121 hX hr hm hK43 hK51 hK63 h
      · replace h := kq_t c_97 h
        refine kr_iload hX dX10_meets_100 rfl ?_
        refine kr_iload_n (i := 1) hX dX10_meets_102 rfl rfl ?_
        refine kr_icmp_eq (tgt := 120) hX dX10_meets_103 (by decide) (fun c_103 => ?_) (fun c_103 => ?_)
        · replace h := kq_t c_103 h
          refine kr_iconst (v := 0) hX dX10_meets_120 (by decide) ?_
          refine kr_keep (lv' := [(0, .ref m), (1, .int l1), (3, .int l3), (4, .int l4), (5, .int r_91)]) [0, 1, 3, 4, 5] rfl ?_
          exact xw_meets_J121 hX hr hm hK43 hK51 hK63 h
        · replace h := kq_f c_103 h
          refine kr_aload_n (i := 0) hX dX10_meets_106 rfl rfl ?_
          refine kr_getr (c0 := 10) (k := 16) hX ⟨_, kf_10_40⟩ dX10_meets_107 rfl (md_k hm) (md_r16 hm) ?_
          refine kr_iload hX dX10_meets_110 rfl ?_
          obtain ⟨i_112, h⟩ := kq_ck_e h
          refine kr_bald hX dX10_meets_112 (md_a9 hm) (vp_in_iff.mpr i_112) ?_
          refine kr_if_ne (tgt := 120) hX dX10_meets_113 (by decide) (fun c_113 => ?_) (fun c_113 => ?_)
          · replace h := kq_f c_113 h
            refine kr_iconst (v := 0) hX dX10_meets_120 (by decide) ?_
            refine kr_keep (lv' := [(0, .ref m), (1, .int l1), (3, .int l3), (4, .int l4), (5, .int r_91)]) [0, 1, 3, 4, 5] rfl ?_
            exact xw_meets_J121 hX hr hm hK43 hK51 hK63 h
          · replace h := kq_t c_113 h
            refine kr_iconst (v := 1) hX dX10_meets_116 (by decide) ?_
            refine kr_goto (tgt := 121) hX dX10_meets_117 (by decide) ?_
            refine kr_keep (lv' := [(0, .ref m), (1, .int l1), (3, .int l3), (4, .int l4), (5, .int r_91)]) [0, 1, 3, 4, 5] rfl ?_
            exact xw_meets_J121 hX hr hm hK43 hK51 hK63 h
def x_meets_L63 (n : Nat) (m : Nat) (K43 : Int32 → Int32 → kt_M → Option (Unit × kt_M)) (K51 : Int32 → Int32 → Int32 → kt_M → Option (Unit × kt_M)) : Nat → Int32 → Int32 → Int32 → Int32 → kt_M → Option (Unit × kt_M)
  | 0, _, _, _, _, _ => none
  | k + 1, l1, l2, l3, l4, μ => x_meets_B63 n m K43 K51 (x_meets_L63 n m K43 K51 k) l1 l2 l3 l4 μ
set_option maxHeartbeats 4000000 in
set_option maxRecDepth 100000 in
theorem xw_meets_L63 {G : kt_G} {σ : kt_Y} {X : kt_X} (hX : kt_ok G X RX10 cX10_meets 6 3 0 0) (hr : kt_rt X = none) {m : Nat} (hm : kt_md σ m) {n : Nat} {q : (Unit × kt_M)} {K43 : Int32 → Int32 → kt_M → Option (Unit × kt_M)} (hK43 : ∀ (l1 : Int32) (l2 : Int32) (μ : kt_M), K43 l1 l2 μ = some q → kt_W G X 6 43 [(0, .ref m), (1, .int l1), (2, .int l2)] [] σ μ 0 0 (kt_Z G X (kt_q σ (fun rv μ2 => rv = none ∧ μ2 = q.2)) 0 0)) {K51 : Int32 → Int32 → Int32 → kt_M → Option (Unit × kt_M)} (hK51 : ∀ (l1 : Int32) (l2 : Int32) (l3 : Int32) (μ : kt_M), K51 l1 l2 l3 μ = some q → kt_W G X 6 51 [(0, .ref m), (1, .int l1), (2, .int l2), (3, .int l3)] [] σ μ 0 0 (kt_Z G X (kt_q σ (fun rv μ2 => rv = none ∧ μ2 = q.2)) 0 0)) : ∀ (k : Nat) (l1 : Int32) (l2 : Int32) (l3 : Int32) (l4 : Int32) (μ : kt_M), x_meets_L63 n m K43 K51 k l1 l2 l3 l4 μ = some q → kt_W G X 6 63 [(0, .ref m), (1, .int l1), (2, .int l2), (3, .int l3), (4, .int l4)] [] σ μ 0 0 (kt_Z G X (kt_q σ (fun rv μ2 => rv = none ∧ μ2 = q.2)) 0 0) := by
  intro k
  induction k with
  | zero => intro l1 l2 l3 l4 μ h; cases h
  | succ k ih => intro l1 l2 l3 l4 μ h; exact xw_meets_B63 hX hr hm hK43 hK51 ih h
def x_meets_B51 (n : Nat) (m : Nat) (K43 : Int32 → Int32 → kt_M → Option (Unit × kt_M)) (K51 : Int32 → Int32 → Int32 → kt_M → Option (Unit × kt_M)) (l1 : Int32) (l2 : Int32) (l3 : Int32) (μ : kt_M) : Option (Unit × kt_M) := kq_b2 (x_many n m μ (1 : Int32)) (fun r_54 μ_54 => (if r_54 ≤ l3 then K43 l1 l2 μ_54 else x_meets_L63 n m K43 K51 n l1 l2 l3 (0 : Int32) μ_54))
set_option maxHeartbeats 4000000 in
set_option maxRecDepth 100000 in
theorem xw_meets_B51 {G : kt_G} {σ : kt_Y} {X : kt_X} (hX : kt_ok G X RX10 cX10_meets 6 3 0 0) (hr : kt_rt X = none) {m : Nat} (hm : kt_md σ m) {n : Nat} {q : (Unit × kt_M)} {K43 : Int32 → Int32 → kt_M → Option (Unit × kt_M)} (hK43 : ∀ (l1 : Int32) (l2 : Int32) (μ : kt_M), K43 l1 l2 μ = some q → kt_W G X 6 43 [(0, .ref m), (1, .int l1), (2, .int l2)] [] σ μ 0 0 (kt_Z G X (kt_q σ (fun rv μ2 => rv = none ∧ μ2 = q.2)) 0 0)) {K51 : Int32 → Int32 → Int32 → kt_M → Option (Unit × kt_M)} (hK51 : ∀ (l1 : Int32) (l2 : Int32) (l3 : Int32) (μ : kt_M), K51 l1 l2 l3 μ = some q → kt_W G X 6 51 [(0, .ref m), (1, .int l1), (2, .int l2), (3, .int l3)] [] σ μ 0 0 (kt_Z G X (kt_q σ (fun rv μ2 => rv = none ∧ μ2 = q.2)) 0 0)) {l1 : Int32} {l2 : Int32} {l3 : Int32} {μ : kt_M} (h : x_meets_B51 n m K43 K51 l1 l2 l3 μ = some q) : kt_W G X 6 51 [(0, .ref m), (1, .int l1), (2, .int l2), (3, .int l3)] [] σ μ 0 0 (kt_Z G X (kt_q σ (fun rv μ2 => rv = none ∧ μ2 = q.2)) 0 0) := by
  unfold x_meets_B51 at h
  refine kr_iload_n (i := 3) hX dX10_meets_51 rfl rfl ?_
  refine kr_aload_n (i := 0) hX dX10_meets_52 rfl rfl ?_
  refine kr_iconst (v := 1) hX dX10_meets_53 (by decide) ?_
  obtain ⟨r_54, μ_54, e_54, h⟩ := kq_b2_e h
  refine kr_dV (c1 := 10) [_] hX km_10_172 dX10_meets_54 (xs_many hm e_54) rfl rfl ⟨_, _, rfl⟩ (by decide) (Nat.le_of_ble_eq_true rfl) (Nat.le_refl _) (Nat.le_refl _) (md_k hm) ?_
  refine kr_icmp_ge (tgt := 162) hX dX10_meets_57 (by decide) (fun c_57 => ?_) (fun c_57 => ?_)
  · replace h := kq_t c_57 h
    refine kr_goto (tgt := 43) hX dX10_meets_162 (by decide) ?_
    refine kr_keep (lv' := [(0, .ref m), (1, .int l1), (2, .int l2)]) [0, 1, 2] rfl ?_
    exact hK43 _ _ _ h
  · replace h := kq_f c_57 h
    refine kr_iconst (v := 0) hX dX10_meets_60 (by decide) ?_
    refine kr_istore hX dX10_meets_61 (by decide) rfl rfl ?_
    refine kr_keep (lv' := [(0, .ref m), (1, .int l1), (2, .int l2), (3, .int l3), (4, .int (0 : Int32))]) [0, 1, 2, 3, 4] rfl ?_
    exact xw_meets_L63 hX hr hm hK43 hK51 n _ _ _ _ _ h
def x_meets_L51 (n : Nat) (m : Nat) (K43 : Int32 → Int32 → kt_M → Option (Unit × kt_M)) : Nat → Int32 → Int32 → Int32 → kt_M → Option (Unit × kt_M)
  | 0, _, _, _, _ => none
  | k + 1, l1, l2, l3, μ => x_meets_B51 n m K43 (x_meets_L51 n m K43 k) l1 l2 l3 μ
set_option maxHeartbeats 4000000 in
set_option maxRecDepth 100000 in
theorem xw_meets_L51 {G : kt_G} {σ : kt_Y} {X : kt_X} (hX : kt_ok G X RX10 cX10_meets 6 3 0 0) (hr : kt_rt X = none) {m : Nat} (hm : kt_md σ m) {n : Nat} {q : (Unit × kt_M)} {K43 : Int32 → Int32 → kt_M → Option (Unit × kt_M)} (hK43 : ∀ (l1 : Int32) (l2 : Int32) (μ : kt_M), K43 l1 l2 μ = some q → kt_W G X 6 43 [(0, .ref m), (1, .int l1), (2, .int l2)] [] σ μ 0 0 (kt_Z G X (kt_q σ (fun rv μ2 => rv = none ∧ μ2 = q.2)) 0 0)) : ∀ (k : Nat) (l1 : Int32) (l2 : Int32) (l3 : Int32) (μ : kt_M), x_meets_L51 n m K43 k l1 l2 l3 μ = some q → kt_W G X 6 51 [(0, .ref m), (1, .int l1), (2, .int l2), (3, .int l3)] [] σ μ 0 0 (kt_Z G X (kt_q σ (fun rv μ2 => rv = none ∧ μ2 = q.2)) 0 0) := by
  intro k
  induction k with
  | zero => intro l1 l2 l3 μ h; cases h
  | succ k ih => intro l1 l2 l3 μ h; exact xw_meets_B51 hX hr hm hK43 ih h
def x_meets_B43 (n : Nat) (m : Nat) (K43 : Int32 → Int32 → kt_M → Option (Unit × kt_M)) (l1 : Int32) (l2 : Int32) (μ : kt_M) : Option (Unit × kt_M) := (if l2 = 0 then some ((), μ) else x_meets_L51 n m K43 n l1 (0 : Int32) (0 : Int32) μ)
set_option maxHeartbeats 4000000 in
set_option maxRecDepth 100000 in
theorem xw_meets_B43 {G : kt_G} {σ : kt_Y} {X : kt_X} (hX : kt_ok G X RX10 cX10_meets 6 3 0 0) (hr : kt_rt X = none) {m : Nat} (hm : kt_md σ m) {n : Nat} {q : (Unit × kt_M)} {K43 : Int32 → Int32 → kt_M → Option (Unit × kt_M)} (hK43 : ∀ (l1 : Int32) (l2 : Int32) (μ : kt_M), K43 l1 l2 μ = some q → kt_W G X 6 43 [(0, .ref m), (1, .int l1), (2, .int l2)] [] σ μ 0 0 (kt_Z G X (kt_q σ (fun rv μ2 => rv = none ∧ μ2 = q.2)) 0 0)) {l1 : Int32} {l2 : Int32} {μ : kt_M} (h : x_meets_B43 n m K43 l1 l2 μ = some q) : kt_W G X 6 43 [(0, .ref m), (1, .int l1), (2, .int l2)] [] σ μ 0 0 (kt_Z G X (kt_q σ (fun rv μ2 => rv = none ∧ μ2 = q.2)) 0 0) := by
  unfold x_meets_B43 at h
  refine kr_iload_n (i := 2) hX dX10_meets_43 rfl rfl ?_
  refine kr_if_eq (tgt := 165) hX dX10_meets_44 (by decide) (fun c_44 => ?_) (fun c_44 => ?_)
  · replace h := kq_t c_44 h
    refine kr_vret hX hr dX10_meets_165 ⟨rfl, ?_⟩
    exact kq_rV h
  · replace h := kq_f c_44 h
    refine kr_iconst (v := 0) hX dX10_meets_47 (by decide) ?_
    refine kr_istore_n (i := 2) hX dX10_meets_48 rfl (by decide) rfl rfl ?_
    refine kr_iconst (v := 0) hX dX10_meets_49 (by decide) ?_
    refine kr_istore_n (i := 3) hX dX10_meets_50 rfl (by decide) rfl rfl ?_
    refine kr_keep (lv' := [(0, .ref m), (1, .int l1), (2, .int (0 : Int32)), (3, .int (0 : Int32))]) [0, 1, 2, 3] rfl ?_
    exact xw_meets_L51 hX hr hm hK43 n _ _ _ _ h
def x_meets_L43 (n : Nat) (m : Nat) : Nat → Int32 → Int32 → kt_M → Option (Unit × kt_M)
  | 0, _, _, _ => none
  | k + 1, l1, l2, μ => x_meets_B43 n m (x_meets_L43 n m k) l1 l2 μ
set_option maxHeartbeats 4000000 in
set_option maxRecDepth 100000 in
theorem xw_meets_L43 {G : kt_G} {σ : kt_Y} {X : kt_X} (hX : kt_ok G X RX10 cX10_meets 6 3 0 0) (hr : kt_rt X = none) {m : Nat} (hm : kt_md σ m) {n : Nat} {q : (Unit × kt_M)} : ∀ (k : Nat) (l1 : Int32) (l2 : Int32) (μ : kt_M), x_meets_L43 n m k l1 l2 μ = some q → kt_W G X 6 43 [(0, .ref m), (1, .int l1), (2, .int l2)] [] σ μ 0 0 (kt_Z G X (kt_q σ (fun rv μ2 => rv = none ∧ μ2 = q.2)) 0 0) := by
  intro k
  induction k with
  | zero => intro l1 l2 μ h; cases h
  | succ k ih => intro l1 l2 μ h; exact xw_meets_B43 hX hr hm ih h
def x_meets_B2 (n : Nat) (m : Nat) (K2 : Int32 → Int32 → kt_M → Option (Unit × kt_M)) (l1 : Int32) (l2 : Int32) (μ : kt_M) : Option (Unit × kt_M) := (if (16 : Int32) ≤ l2 then x_meets_L43 n m n l1 (1 : Int32) μ else (if l2 = 0 then kq_b2 (x_many n m μ (1 : Int32)) (fun r_19 μ_19 => (if r_19 ≤ 0 then x_meets_J34 n m K2 l1 l2 l2 (0 : Int32) μ_19 else (if l1 = 0 then x_meets_J34 n m K2 l1 l2 l2 (0 : Int32) μ_19 else x_meets_J34 n m K2 l1 l2 l2 (1 : Int32) μ_19))) else x_meets_J34 n m K2 l1 l2 l2 (0 : Int32) μ))
set_option maxHeartbeats 4000000 in
set_option maxRecDepth 100000 in
theorem xw_meets_B2 {G : kt_G} {σ : kt_Y} {X : kt_X} (hX : kt_ok G X RX10 cX10_meets 6 3 0 0) (hr : kt_rt X = none) {m : Nat} (hm : kt_md σ m) {n : Nat} {q : (Unit × kt_M)} {K2 : Int32 → Int32 → kt_M → Option (Unit × kt_M)} (hK2 : ∀ (l1 : Int32) (l2 : Int32) (μ : kt_M), K2 l1 l2 μ = some q → kt_W G X 6 2 [(0, .ref m), (1, .int l1), (2, .int l2)] [] σ μ 0 0 (kt_Z G X (kt_q σ (fun rv μ2 => rv = none ∧ μ2 = q.2)) 0 0)) {l1 : Int32} {l2 : Int32} {μ : kt_M} (h : x_meets_B2 n m K2 l1 l2 μ = some q) : kt_W G X 6 2 [(0, .ref m), (1, .int l1), (2, .int l2)] [] σ μ 0 0 (kt_Z G X (kt_q σ (fun rv μ2 => rv = none ∧ μ2 = q.2)) 0 0) := by
  unfold x_meets_B2 at h
  refine kr_iload_n (i := 2) hX dX10_meets_2 rfl rfl ?_
  refine kr_bipush (v := 16) hX dX10_meets_3 (by decide) ?_
  refine kr_icmp_ge (tgt := 41) hX dX10_meets_5 (by decide) (fun c_5 => ?_) (fun c_5 => ?_)
  · replace h := kq_t c_5 h
    refine kr_iconst (v := 1) hX dX10_meets_41 (by decide) ?_
    refine kr_istore_n (i := 2) hX dX10_meets_42 rfl (by decide) rfl rfl ?_
    refine kr_keep (lv' := [(0, .ref m), (1, .int l1), (2, .int (1 : Int32))]) [0, 1, 2] rfl ?_
    exact xw_meets_L43 hX hr hm n _ _ _ h
  · replace h := kq_f c_5 h
    refine kr_aload_n (i := 0) hX dX10_meets_8 rfl rfl ?_
    refine kr_getr (c0 := 10) (k := 16) hX ⟨_, kf_10_40⟩ dX10_meets_9 rfl (md_k hm) (md_r16 hm) ?_
    refine kr_iload_n (i := 2) hX dX10_meets_12 rfl rfl ?_
    refine kr_iload_n (i := 2) hX dX10_meets_13 rfl rfl ?_
    refine kr_if_ne (tgt := 33) hX dX10_meets_14 (by decide) (fun c_14 => ?_) (fun c_14 => ?_)
    · replace h := kq_f c_14 h
      refine kr_iconst (v := 0) hX dX10_meets_33 (by decide) ?_
      refine kr_keep (lv' := [(0, .ref m), (1, .int l1), (2, .int l2)]) [0, 1, 2] rfl ?_
      exact xw_meets_J34 hX hr hm hK2 h
    · replace h := kq_t c_14 h
      refine kr_aload_n (i := 0) hX dX10_meets_17 rfl rfl ?_
      refine kr_iconst (v := 1) hX dX10_meets_18 (by decide) ?_
      obtain ⟨r_19, μ_19, e_19, h⟩ := kq_b2_e h
      refine kr_dV (c1 := 10) [_] hX km_10_172 dX10_meets_19 (xs_many hm e_19) rfl rfl ⟨_, _, rfl⟩ (by decide) (Nat.le_of_ble_eq_true rfl) (Nat.le_refl _) (Nat.le_refl _) (md_k hm) ?_
      refine kr_if_le (tgt := 33) hX dX10_meets_22 (by decide) (fun c_22 => ?_) (fun c_22 => ?_)
      · replace h := kq_t c_22 h
        refine kr_iconst (v := 0) hX dX10_meets_33 (by decide) ?_
        refine kr_keep (lv' := [(0, .ref m), (1, .int l1), (2, .int l2)]) [0, 1, 2] rfl ?_
        exact xw_meets_J34 hX hr hm hK2 h
      · replace h := kq_f c_22 h
        refine kr_iload_n (i := 1) hX dX10_meets_25 rfl rfl ?_
        refine kr_if_eq (tgt := 33) hX dX10_meets_26 (by decide) (fun c_26 => ?_) (fun c_26 => ?_)
        · replace h := kq_t c_26 h
          refine kr_iconst (v := 0) hX dX10_meets_33 (by decide) ?_
          refine kr_keep (lv' := [(0, .ref m), (1, .int l1), (2, .int l2)]) [0, 1, 2] rfl ?_
          exact xw_meets_J34 hX hr hm hK2 h
        · replace h := kq_f c_26 h
          refine kr_iconst (v := 1) hX dX10_meets_29 (by decide) ?_
          refine kr_goto (tgt := 34) hX dX10_meets_30 (by decide) ?_
          refine kr_keep (lv' := [(0, .ref m), (1, .int l1), (2, .int l2)]) [0, 1, 2] rfl ?_
          exact xw_meets_J34 hX hr hm hK2 h
def x_meets_L2 (n : Nat) (m : Nat) : Nat → Int32 → Int32 → kt_M → Option (Unit × kt_M)
  | 0, _, _, _ => none
  | k + 1, l1, l2, μ => x_meets_B2 n m (x_meets_L2 n m k) l1 l2 μ
set_option maxHeartbeats 4000000 in
set_option maxRecDepth 100000 in
theorem xw_meets_L2 {G : kt_G} {σ : kt_Y} {X : kt_X} (hX : kt_ok G X RX10 cX10_meets 6 3 0 0) (hr : kt_rt X = none) {m : Nat} (hm : kt_md σ m) {n : Nat} {q : (Unit × kt_M)} : ∀ (k : Nat) (l1 : Int32) (l2 : Int32) (μ : kt_M), x_meets_L2 n m k l1 l2 μ = some q → kt_W G X 6 2 [(0, .ref m), (1, .int l1), (2, .int l2)] [] σ μ 0 0 (kt_Z G X (kt_q σ (fun rv μ2 => rv = none ∧ μ2 = q.2)) 0 0) := by
  intro k
  induction k with
  | zero => intro l1 l2 μ h; cases h
  | succ k ih => intro l1 l2 μ h; exact xw_meets_B2 hX hr hm ih h
def x_meets (n : Nat) (m : Nat) (μ : kt_M) (a0 : Int32) : Option (Unit × kt_M) := x_meets_L2 n m n a0 (0 : Int32) μ
set_option maxHeartbeats 4000000 in
set_option maxRecDepth 100000 in
theorem xs_meets {G : kt_G} {σ : kt_Y} {μ : kt_M} {m : Nat} (hm : kt_md σ m) {n : Nat} {a0 : Int32} {r : Unit} {μ1 : kt_M} (h : x_meets n m μ a0 = some (r, μ1)) : kt_F G yX10_meets cX10_meets 6 none 3 [.ref m, .int a0] σ μ (fun rv μ2 => rv = none ∧ μ2 = μ1) := by
  have key : ∀ q : (Unit × kt_M), x_meets n m μ a0 = some q → kt_F G yX10_meets cX10_meets 6 none 3 [.ref m, .int a0] σ μ (fun rv μ2 => rv = none ∧ μ2 = q.2) := by
    intro q h
    unfold x_meets at h
    refine kt_F.of (by decide) (Nat.le_of_ble_eq_true rfl) (fun X hX hr => ?_)
    refine kr_iconst (v := 0) hX dX10_meets_0 (by decide) ?_
    refine kr_istore_n (i := 2) hX dX10_meets_1 rfl (by decide) rfl rfl ?_
    refine kr_keep (lv' := [(0, .ref m), (1, .int a0), (2, .int (0 : Int32))]) [0, 1, 2] rfl ?_
    exact xw_meets_L2 hX hr hm n _ _ _ h
  exact key (r, μ1) h
def x_doesDominate (n : Nat) (m : Nat) (μ : kt_M) (a0 : Int32) (a1 : Int32) : Option (Int32 × kt_M) := kq_b2 (x_meets n m μ ((-4) : Int32)) (fun r_3 μ_3 => kq_ck (kq_in a0 16) ((if (kt_i μ_3 (m + 9) (Int32.toNatClampNeg a0)) = 0 then some ((0 : Int32), μ_3) else kq_ck (kq_in a1 16) ((if (kt_i μ_3 (m + 9) (Int32.toNatClampNeg a1)) = 0 then some ((0 : Int32), μ_3) else kq_b2 (x_meets n m μ_3 a0) (fun r_28 μ_28 => (if a0 = a1 then some ((1 : Int32), μ_28) else kq_ck (kq_in a1 16) ((if (kt_i μ_28 (m + 9) (Int32.toNatClampNeg a1)) = 0 then some ((1 : Int32), μ_28) else some ((0 : Int32), μ_28))))))))))
set_option maxHeartbeats 4000000 in
set_option maxRecDepth 100000 in
theorem xs_doesDominate {G : kt_G} {σ : kt_Y} {μ : kt_M} {m : Nat} (hm : kt_md σ m) {n : Nat} {a0 : Int32} {a1 : Int32} {r : Int32} {μ1 : kt_M} (h : x_doesDominate n m μ a0 a1 = some (r, μ1)) : kt_F G yX10_doesDominate cX10_doesDominate 3 (some .boolean) 4 [.ref m, .int a0, .int a1] σ μ (fun rv μ2 => rv = some (.int r) ∧ μ2 = μ1) := by
  have key : ∀ q : (Int32 × kt_M), x_doesDominate n m μ a0 a1 = some q → kt_F G yX10_doesDominate cX10_doesDominate 3 (some .boolean) 4 [.ref m, .int a0, .int a1] σ μ (fun rv μ2 => rv = some (.int q.1) ∧ μ2 = q.2) := by
    intro q h
    unfold x_doesDominate at h
    refine kt_F.of (by decide) (Nat.le_of_ble_eq_true rfl) (fun X hX hr => ?_)
    refine kr_aload_n (i := 0) hX dX10_doesDominate_0 rfl rfl ?_
    refine kr_bipush (v := (-4)) hX dX10_doesDominate_1 (by decide) ?_
    obtain ⟨r_3, μ_3, e_3, h⟩ := kq_b2_e h
    refine kr_dV (c1 := 10) [_] hX km_10_287 dX10_doesDominate_3 (xs_meets hm e_3) rfl rfl ⟨_, _, rfl⟩ (by decide) (Nat.le_of_ble_eq_true rfl) (Nat.le_refl _) (Nat.le_refl _) (md_k hm) ?_
    refine kr_aload_n (i := 0) hX dX10_doesDominate_6 rfl rfl ?_
    refine kr_getr (c0 := 10) (k := 16) hX ⟨_, kf_10_40⟩ dX10_doesDominate_7 rfl (md_k hm) (md_r16 hm) ?_
    refine kr_iload_n (i := 1) hX dX10_doesDominate_10 rfl rfl ?_
    obtain ⟨i_11, h⟩ := kq_ck_e h
    refine kr_bald hX dX10_doesDominate_11 (md_a9 hm) (vp_in_iff.mpr i_11) ?_
    refine kr_if_eq (tgt := 24) hX dX10_doesDominate_12 (by decide) (fun c_12 => ?_) (fun c_12 => ?_)
    · replace h := kq_t c_12 h
      refine kr_iconst (v := 0) hX dX10_doesDominate_24 (by decide) ?_
      refine kr_zret hX hr (by decide) dX10_doesDominate_25 ⟨rfl, ?_⟩
      exact kq_rI h
    · replace h := kq_f c_12 h
      refine kr_aload_n (i := 0) hX dX10_doesDominate_15 rfl rfl ?_
      refine kr_getr (c0 := 10) (k := 16) hX ⟨_, kf_10_40⟩ dX10_doesDominate_16 rfl (md_k hm) (md_r16 hm) ?_
      refine kr_iload_n (i := 2) hX dX10_doesDominate_19 rfl rfl ?_
      obtain ⟨i_20, h⟩ := kq_ck_e h
      refine kr_bald hX dX10_doesDominate_20 (md_a9 hm) (vp_in_iff.mpr i_20) ?_
      refine kr_if_ne (tgt := 26) hX dX10_doesDominate_21 (by decide) (fun c_21 => ?_) (fun c_21 => ?_)
      · replace h := kq_f c_21 h
        refine kr_aload_n (i := 0) hX dX10_doesDominate_26 rfl rfl ?_
        refine kr_iload_n (i := 1) hX dX10_doesDominate_27 rfl rfl ?_
        obtain ⟨r_28, μ_28, e_28, h⟩ := kq_b2_e h
        refine kr_dV (c1 := 10) [_] hX km_10_287 dX10_doesDominate_28 (xs_meets hm e_28) rfl rfl ⟨_, _, rfl⟩ (by decide) (Nat.le_of_ble_eq_true rfl) (Nat.le_refl _) (Nat.le_refl _) (md_k hm) ?_
        refine kr_iload_n (i := 1) hX dX10_doesDominate_31 rfl rfl ?_
        refine kr_iload_n (i := 2) hX dX10_doesDominate_32 rfl rfl ?_
        refine kr_icmp_eq (tgt := 45) hX dX10_doesDominate_33 (by decide) (fun c_33 => ?_) (fun c_33 => ?_)
        · replace h := kq_t c_33 h
          refine kr_iconst (v := 1) hX dX10_doesDominate_45 (by decide) ?_
          refine kr_goto (tgt := 50) hX dX10_doesDominate_46 (by decide) ?_
          refine kr_zret hX hr (by decide) dX10_doesDominate_50 ⟨rfl, ?_⟩
          exact kq_rI h
        · replace h := kq_f c_33 h
          refine kr_aload_n (i := 0) hX dX10_doesDominate_36 rfl rfl ?_
          refine kr_getr (c0 := 10) (k := 16) hX ⟨_, kf_10_40⟩ dX10_doesDominate_37 rfl (md_k hm) (md_r16 hm) ?_
          refine kr_iload_n (i := 2) hX dX10_doesDominate_40 rfl rfl ?_
          obtain ⟨i_41, h⟩ := kq_ck_e h
          refine kr_bald hX dX10_doesDominate_41 (md_a9 hm) (vp_in_iff.mpr i_41) ?_
          refine kr_if_ne (tgt := 49) hX dX10_doesDominate_42 (by decide) (fun c_42 => ?_) (fun c_42 => ?_)
          · replace h := kq_f c_42 h
            refine kr_iconst (v := 0) hX dX10_doesDominate_49 (by decide) ?_
            refine kr_zret hX hr (by decide) dX10_doesDominate_50 ⟨rfl, ?_⟩
            exact kq_rI h
          · replace h := kq_t c_42 h
            refine kr_iconst (v := 1) hX dX10_doesDominate_45 (by decide) ?_
            refine kr_goto (tgt := 50) hX dX10_doesDominate_46 (by decide) ?_
            refine kr_zret hX hr (by decide) dX10_doesDominate_50 ⟨rfl, ?_⟩
            exact kq_rI h
      · replace h := kq_t c_21 h
        refine kr_iconst (v := 0) hX dX10_doesDominate_24 (by decide) ?_
        refine kr_zret hX hr (by decide) dX10_doesDominate_25 ⟨rfl, ?_⟩
        exact kq_rI h
  exact key (r, μ1) h
def x_isHead_B13 (n : Nat) (m : Nat) (K2 : Int32 → Int32 → kt_M → Option (Int32 × kt_M)) (K13 : Int32 → Int32 → Int32 → kt_M → Option (Int32 × kt_M)) (l1 : Int32) (l2 : Int32) (l3 : Int32) (μ : kt_M) : Option (Int32 × kt_M) := kq_b2 (x_edgesOf n m μ (1 : Int32) l2) (fun r_17 μ_17 => (if r_17 ≤ l3 then K2 l1 (l2 + 1) μ_17 else kq_b2 (x_of n m μ_17 (1 : Int32) l2 ((14 : Int32) + l3)) (fun r_30 μ_30 => (if r_30 = l1 then kq_b2 (x_doesDominate n m μ_30 l1 l2) (fun r_40 μ_40 => (if r_40 = 0 then K13 l1 l2 (l3 + 1) μ_40 else some ((1 : Int32), μ_40))) else K13 l1 l2 (l3 + 1) μ_30))))
set_option maxHeartbeats 4000000 in
set_option maxRecDepth 100000 in
theorem xw_isHead_B13 {G : kt_G} {σ : kt_Y} {X : kt_X} (hX : kt_ok G X RX10 cX10_isHead 4 5 0 0) (hr : kt_rt X = (some .boolean)) {m : Nat} (hm : kt_md σ m) {n : Nat} {q : (Int32 × kt_M)} {K2 : Int32 → Int32 → kt_M → Option (Int32 × kt_M)} (hK2 : ∀ (l1 : Int32) (l2 : Int32) (μ : kt_M), K2 l1 l2 μ = some q → kt_W G X 4 2 [(0, .ref m), (1, .int l1), (2, .int l2)] [] σ μ 0 0 (kt_Z G X (kt_q σ (fun rv μ2 => rv = some (.int q.1) ∧ μ2 = q.2)) 0 0)) {K13 : Int32 → Int32 → Int32 → kt_M → Option (Int32 × kt_M)} (hK13 : ∀ (l1 : Int32) (l2 : Int32) (l3 : Int32) (μ : kt_M), K13 l1 l2 l3 μ = some q → kt_W G X 4 13 [(0, .ref m), (1, .int l1), (2, .int l2), (3, .int l3)] [] σ μ 0 0 (kt_Z G X (kt_q σ (fun rv μ2 => rv = some (.int q.1) ∧ μ2 = q.2)) 0 0)) {l1 : Int32} {l2 : Int32} {l3 : Int32} {μ : kt_M} (h : x_isHead_B13 n m K2 K13 l1 l2 l3 μ = some q) : kt_W G X 4 13 [(0, .ref m), (1, .int l1), (2, .int l2), (3, .int l3)] [] σ μ 0 0 (kt_Z G X (kt_q σ (fun rv μ2 => rv = some (.int q.1) ∧ μ2 = q.2)) 0 0) := by
  unfold x_isHead_B13 at h
  refine kr_iload_n (i := 3) hX dX10_isHead_13 rfl rfl ?_
  refine kr_aload_n (i := 0) hX dX10_isHead_14 rfl rfl ?_
  refine kr_iconst (v := 1) hX dX10_isHead_15 (by decide) ?_
  refine kr_iload_n (i := 2) hX dX10_isHead_16 rfl rfl ?_
  obtain ⟨r_17, μ_17, e_17, h⟩ := kq_b2_e h
  refine kr_dV (c1 := 10) [_, _] hX km_10_182 dX10_isHead_17 (xs_edgesOf hm e_17) rfl rfl ⟨_, _, rfl⟩ (by decide) (Nat.le_of_ble_eq_true rfl) (Nat.le_refl _) (Nat.le_refl _) (md_k hm) ?_
  refine kr_icmp_ge (tgt := 54) hX dX10_isHead_20 (by decide) (fun c_20 => ?_) (fun c_20 => ?_)
  · replace h := kq_t c_20 h
    refine kr_iinc (v := (l2 + 1)) hX dX10_isHead_54 rfl rfl (by decide) rfl rfl ?_
    refine kr_goto (tgt := 2) hX dX10_isHead_57 (by decide) ?_
    refine kr_keep (lv' := [(0, .ref m), (1, .int l1), (2, .int (l2 + 1))]) [0, 1, 2] rfl ?_
    exact hK2 _ _ _ h
  · replace h := kq_f c_20 h
    refine kr_aload_n (i := 0) hX dX10_isHead_23 rfl rfl ?_
    refine kr_iconst (v := 1) hX dX10_isHead_24 (by decide) ?_
    refine kr_iload_n (i := 2) hX dX10_isHead_25 rfl rfl ?_
    refine kr_bipush (v := 14) hX dX10_isHead_26 (by decide) ?_
    refine kr_iload_n (i := 3) hX dX10_isHead_28 rfl rfl ?_
    refine kr_iadd hX dX10_isHead_29 ?_
    obtain ⟨r_30, μ_30, e_30, h⟩ := kq_b2_e h
    refine kr_dV (c1 := 10) [_, _, _] hX km_10_175 dX10_isHead_30 (xs_of hm e_30) rfl rfl ⟨_, _, rfl⟩ (by decide) (Nat.le_of_ble_eq_true rfl) (Nat.le_refl _) (Nat.le_refl _) (md_k hm) ?_
    refine kr_iload_n (i := 1) hX dX10_isHead_33 rfl rfl ?_
    refine kr_icmp_ne (tgt := 48) hX dX10_isHead_34 (by decide) (fun c_34 => ?_) (fun c_34 => ?_)
    · replace h := kq_f c_34 h
      refine kr_iinc (v := (l3 + 1)) hX dX10_isHead_48 rfl rfl (by decide) rfl rfl ?_
      refine kr_goto (tgt := 13) hX dX10_isHead_51 (by decide) ?_
      refine kr_keep (lv' := [(0, .ref m), (1, .int l1), (2, .int l2), (3, .int (l3 + 1))]) [0, 1, 2, 3] rfl ?_
      exact hK13 _ _ _ _ h
    · replace h := kq_t c_34 h
      refine kr_aload_n (i := 0) hX dX10_isHead_37 rfl rfl ?_
      refine kr_iload_n (i := 1) hX dX10_isHead_38 rfl rfl ?_
      refine kr_iload_n (i := 2) hX dX10_isHead_39 rfl rfl ?_
      obtain ⟨r_40, μ_40, e_40, h⟩ := kq_b2_e h
      refine kr_dV (c1 := 10) [_, _] hX km_10_290 dX10_isHead_40 (xs_doesDominate hm e_40) rfl rfl ⟨_, _, rfl⟩ (by decide) (Nat.le_of_ble_eq_true rfl) (Nat.le_refl _) (Nat.le_refl _) (md_k hm) ?_
      refine kr_if_eq (tgt := 48) hX dX10_isHead_43 (by decide) (fun c_43 => ?_) (fun c_43 => ?_)
      · replace h := kq_t c_43 h
        refine kr_iinc (v := (l3 + 1)) hX dX10_isHead_48 rfl rfl (by decide) rfl rfl ?_
        refine kr_goto (tgt := 13) hX dX10_isHead_51 (by decide) ?_
        refine kr_keep (lv' := [(0, .ref m), (1, .int l1), (2, .int l2), (3, .int (l3 + 1))]) [0, 1, 2, 3] rfl ?_
        exact hK13 _ _ _ _ h
      · replace h := kq_f c_43 h
        refine kr_iconst (v := 1) hX dX10_isHead_46 (by decide) ?_
        refine kr_zret hX hr (by decide) dX10_isHead_47 ⟨rfl, ?_⟩
        exact kq_rI h
def x_isHead_L13 (n : Nat) (m : Nat) (K2 : Int32 → Int32 → kt_M → Option (Int32 × kt_M)) : Nat → Int32 → Int32 → Int32 → kt_M → Option (Int32 × kt_M)
  | 0, _, _, _, _ => none
  | k + 1, l1, l2, l3, μ => x_isHead_B13 n m K2 (x_isHead_L13 n m K2 k) l1 l2 l3 μ
set_option maxHeartbeats 4000000 in
set_option maxRecDepth 100000 in
theorem xw_isHead_L13 {G : kt_G} {σ : kt_Y} {X : kt_X} (hX : kt_ok G X RX10 cX10_isHead 4 5 0 0) (hr : kt_rt X = (some .boolean)) {m : Nat} (hm : kt_md σ m) {n : Nat} {q : (Int32 × kt_M)} {K2 : Int32 → Int32 → kt_M → Option (Int32 × kt_M)} (hK2 : ∀ (l1 : Int32) (l2 : Int32) (μ : kt_M), K2 l1 l2 μ = some q → kt_W G X 4 2 [(0, .ref m), (1, .int l1), (2, .int l2)] [] σ μ 0 0 (kt_Z G X (kt_q σ (fun rv μ2 => rv = some (.int q.1) ∧ μ2 = q.2)) 0 0)) : ∀ (k : Nat) (l1 : Int32) (l2 : Int32) (l3 : Int32) (μ : kt_M), x_isHead_L13 n m K2 k l1 l2 l3 μ = some q → kt_W G X 4 13 [(0, .ref m), (1, .int l1), (2, .int l2), (3, .int l3)] [] σ μ 0 0 (kt_Z G X (kt_q σ (fun rv μ2 => rv = some (.int q.1) ∧ μ2 = q.2)) 0 0) := by
  intro k
  induction k with
  | zero => intro l1 l2 l3 μ h; cases h
  | succ k ih => intro l1 l2 l3 μ h; exact xw_isHead_B13 hX hr hm hK2 ih h
def x_isHead_B2 (n : Nat) (m : Nat) (K2 : Int32 → Int32 → kt_M → Option (Int32 × kt_M)) (l1 : Int32) (l2 : Int32) (μ : kt_M) : Option (Int32 × kt_M) := kq_b2 (x_many n m μ (1 : Int32)) (fun r_5 μ_5 => (if r_5 ≤ l2 then some ((0 : Int32), μ_5) else x_isHead_L13 n m K2 n l1 l2 (0 : Int32) μ_5))
set_option maxHeartbeats 4000000 in
set_option maxRecDepth 100000 in
theorem xw_isHead_B2 {G : kt_G} {σ : kt_Y} {X : kt_X} (hX : kt_ok G X RX10 cX10_isHead 4 5 0 0) (hr : kt_rt X = (some .boolean)) {m : Nat} (hm : kt_md σ m) {n : Nat} {q : (Int32 × kt_M)} {K2 : Int32 → Int32 → kt_M → Option (Int32 × kt_M)} (hK2 : ∀ (l1 : Int32) (l2 : Int32) (μ : kt_M), K2 l1 l2 μ = some q → kt_W G X 4 2 [(0, .ref m), (1, .int l1), (2, .int l2)] [] σ μ 0 0 (kt_Z G X (kt_q σ (fun rv μ2 => rv = some (.int q.1) ∧ μ2 = q.2)) 0 0)) {l1 : Int32} {l2 : Int32} {μ : kt_M} (h : x_isHead_B2 n m K2 l1 l2 μ = some q) : kt_W G X 4 2 [(0, .ref m), (1, .int l1), (2, .int l2)] [] σ μ 0 0 (kt_Z G X (kt_q σ (fun rv μ2 => rv = some (.int q.1) ∧ μ2 = q.2)) 0 0) := by
  unfold x_isHead_B2 at h
  refine kr_iload_n (i := 2) hX dX10_isHead_2 rfl rfl ?_
  refine kr_aload_n (i := 0) hX dX10_isHead_3 rfl rfl ?_
  refine kr_iconst (v := 1) hX dX10_isHead_4 (by decide) ?_
  obtain ⟨r_5, μ_5, e_5, h⟩ := kq_b2_e h
  refine kr_dV (c1 := 10) [_] hX km_10_172 dX10_isHead_5 (xs_many hm e_5) rfl rfl ⟨_, _, rfl⟩ (by decide) (Nat.le_of_ble_eq_true rfl) (Nat.le_refl _) (Nat.le_refl _) (md_k hm) ?_
  refine kr_icmp_ge (tgt := 60) hX dX10_isHead_8 (by decide) (fun c_8 => ?_) (fun c_8 => ?_)
  · replace h := kq_t c_8 h
    refine kr_iconst (v := 0) hX dX10_isHead_60 (by decide) ?_
    refine kr_zret hX hr (by decide) dX10_isHead_61 ⟨rfl, ?_⟩
    exact kq_rI h
  · replace h := kq_f c_8 h
    refine kr_iconst (v := 0) hX dX10_isHead_11 (by decide) ?_
    refine kr_istore_n (i := 3) hX dX10_isHead_12 rfl (by decide) rfl rfl ?_
    refine kr_keep (lv' := [(0, .ref m), (1, .int l1), (2, .int l2), (3, .int (0 : Int32))]) [0, 1, 2, 3] rfl ?_
    exact xw_isHead_L13 hX hr hm hK2 n _ _ _ _ h
def x_isHead_L2 (n : Nat) (m : Nat) : Nat → Int32 → Int32 → kt_M → Option (Int32 × kt_M)
  | 0, _, _, _ => none
  | k + 1, l1, l2, μ => x_isHead_B2 n m (x_isHead_L2 n m k) l1 l2 μ
set_option maxHeartbeats 4000000 in
set_option maxRecDepth 100000 in
theorem xw_isHead_L2 {G : kt_G} {σ : kt_Y} {X : kt_X} (hX : kt_ok G X RX10 cX10_isHead 4 5 0 0) (hr : kt_rt X = (some .boolean)) {m : Nat} (hm : kt_md σ m) {n : Nat} {q : (Int32 × kt_M)} : ∀ (k : Nat) (l1 : Int32) (l2 : Int32) (μ : kt_M), x_isHead_L2 n m k l1 l2 μ = some q → kt_W G X 4 2 [(0, .ref m), (1, .int l1), (2, .int l2)] [] σ μ 0 0 (kt_Z G X (kt_q σ (fun rv μ2 => rv = some (.int q.1) ∧ μ2 = q.2)) 0 0) := by
  intro k
  induction k with
  | zero => intro l1 l2 μ h; cases h
  | succ k ih => intro l1 l2 μ h; exact xw_isHead_B2 hX hr hm ih h
def x_isHead (n : Nat) (m : Nat) (μ : kt_M) (a0 : Int32) : Option (Int32 × kt_M) := x_isHead_L2 n m n a0 (0 : Int32) μ
set_option maxHeartbeats 4000000 in
set_option maxRecDepth 100000 in
theorem xs_isHead {G : kt_G} {σ : kt_Y} {μ : kt_M} {m : Nat} (hm : kt_md σ m) {n : Nat} {a0 : Int32} {r : Int32} {μ1 : kt_M} (h : x_isHead n m μ a0 = some (r, μ1)) : kt_F G yX10_isHead cX10_isHead 4 (some .boolean) 5 [.ref m, .int a0] σ μ (fun rv μ2 => rv = some (.int r) ∧ μ2 = μ1) := by
  have key : ∀ q : (Int32 × kt_M), x_isHead n m μ a0 = some q → kt_F G yX10_isHead cX10_isHead 4 (some .boolean) 5 [.ref m, .int a0] σ μ (fun rv μ2 => rv = some (.int q.1) ∧ μ2 = q.2) := by
    intro q h
    unfold x_isHead at h
    refine kt_F.of (by decide) (Nat.le_of_ble_eq_true rfl) (fun X hX hr => ?_)
    refine kr_iconst (v := 0) hX dX10_isHead_0 (by decide) ?_
    refine kr_istore_n (i := 2) hX dX10_isHead_1 rfl (by decide) rfl rfl ?_
    refine kr_keep (lv' := [(0, .ref m), (1, .int a0), (2, .int (0 : Int32))]) [0, 1, 2] rfl ?_
    exact xw_isHead_L2 hX hr hm n _ _ _ h
  exact key (r, μ1) h
def x_bounded (n : Nat) (a0 : Int32) : Option Int32 := (if 0 ≤ a0 then (if a0 ≤ (50 : Int32) then some a0 else some (50 : Int32)) else some (0 : Int32))
set_option maxHeartbeats 4000000 in
set_option maxRecDepth 100000 in
theorem xs_bounded {G : kt_G} {σ : kt_Y} {μ : kt_M} {n : Nat} {a0 : Int32} {q : Int32} (h : x_bounded n a0 = some q) : kt_F G yX10_bounded cX10_bounded 1 (some .int) 0 [.int a0] σ μ (fun rv μ2 => rv = some (.int q) ∧ μ2 = μ) := by
  unfold x_bounded at h
  refine kt_F.of (by decide) (Nat.le_of_ble_eq_true rfl) (fun X hX hr => ?_)
  refine kr_iload_n (i := 0) hX dX10_bounded_0 rfl rfl ?_
  refine kr_if_ge (tgt := 8) hX dX10_bounded_1 (by decide) (fun c_1 => ?_) (fun c_1 => ?_)
  · replace h := kq_t c_1 h
    refine kr_iload_n (i := 0) hX dX10_bounded_8 rfl rfl ?_
    refine kr_bipush (v := 50) hX dX10_bounded_9 (by decide) ?_
    refine kr_icmp_le (tgt := 19) hX dX10_bounded_11 (by decide) (fun c_11 => ?_) (fun c_11 => ?_)
    · replace h := kq_t c_11 h
      refine kr_iload_n (i := 0) hX dX10_bounded_19 rfl rfl ?_
      refine kr_iret hX hr dX10_bounded_20 ⟨rfl, ?_⟩
      exact kq_rIs h
    · replace h := kq_f c_11 h
      refine kr_bipush (v := 50) hX dX10_bounded_14 (by decide) ?_
      refine kr_goto (tgt := 20) hX dX10_bounded_16 (by decide) ?_
      refine kr_iret hX hr dX10_bounded_20 ⟨rfl, ?_⟩
      exact kq_rIs h
  · replace h := kq_f c_1 h
    refine kr_iconst (v := 0) hX dX10_bounded_4 (by decide) ?_
    refine kr_goto (tgt := 20) hX dX10_bounded_5 (by decide) ?_
    refine kr_iret hX hr dX10_bounded_20 ⟨rfl, ?_⟩
    exact kq_rIs h
def x_from_B13 (n : Nat) (K13 : Int32 → Int64 → Int32 → Option Int64) (l1 : Int32) (l2 : Int64) (l4 : Int32) : Option Int64 := (if l1 < l4 then some l2 else (if (50 : Int32) < l4 then some l2 else K13 l1 (l2 ||| ((1 : Int64) <<< ((l4).toInt64 &&& 63))) (l4 + 1)))
set_option maxHeartbeats 4000000 in
set_option maxRecDepth 100000 in
theorem xw_from_B13 {G : kt_G} {σ : kt_Y} {μ : kt_M} {X : kt_X} (hX : kt_ok G X RX10 cX10_from 5 0 0 0) (hr : kt_rt X = (some .long)) {n : Nat} {q : Int64} {K13 : Int32 → Int64 → Int32 → Option Int64} (hK13 : ∀ (l1 : Int32) (l2 : Int64) (l4 : Int32), K13 l1 l2 l4 = some q → kt_W G X 5 13 [(1, .int l1), (2, .long l2), (4, .int l4)] [] σ μ 0 0 (kt_Z G X (kt_q σ (fun rv μ2 => rv = some (.long q) ∧ μ2 = μ)) 0 0)) {l1 : Int32} {l2 : Int64} {l4 : Int32} (h : x_from_B13 n K13 l1 l2 l4 = some q) : kt_W G X 5 13 [(1, .int l1), (2, .long l2), (4, .int l4)] [] σ μ 0 0 (kt_Z G X (kt_q σ (fun rv μ2 => rv = some (.long q) ∧ μ2 = μ)) 0 0) := by
  unfold x_from_B13 at h
  refine kr_iload hX dX10_from_13 rfl ?_
  refine kr_iload_n (i := 1) hX dX10_from_15 rfl rfl ?_
  refine kr_icmp_gt (tgt := 39) hX dX10_from_16 (by decide) (fun c_16 => ?_) (fun c_16 => ?_)
  · replace h := kq_t c_16 h
    refine kr_lload_n (i := 2) hX dX10_from_39 rfl rfl ?_
    refine kr_lret hX hr dX10_from_40 ⟨rfl, ?_⟩
    exact kq_rJs h
  · replace h := kq_f c_16 h
    refine kr_iload hX dX10_from_19 rfl ?_
    refine kr_bipush (v := 50) hX dX10_from_21 (by decide) ?_
    refine kr_icmp_gt (tgt := 39) hX dX10_from_23 (by decide) (fun c_23 => ?_) (fun c_23 => ?_)
    · replace h := kq_t c_23 h
      refine kr_lload_n (i := 2) hX dX10_from_39 rfl rfl ?_
      refine kr_lret hX hr dX10_from_40 ⟨rfl, ?_⟩
      exact kq_rJs h
    · replace h := kq_f c_23 h
      refine kr_lload_n (i := 2) hX dX10_from_26 rfl rfl ?_
      refine kr_lconst (v := 1) hX dX10_from_27 (by decide) ?_
      refine kr_iload hX dX10_from_28 rfl ?_
      refine kr_lshl hX dX10_from_30 rfl ?_
      refine kr_lor hX dX10_from_31 ?_
      refine kr_lstore_n (i := 2) hX dX10_from_32 rfl (by decide) rfl rfl ?_
      refine kr_iinc (v := (l4 + 1)) hX dX10_from_33 rfl rfl (by decide) rfl rfl ?_
      refine kr_goto (tgt := 13) hX dX10_from_36 (by decide) ?_
      refine kr_keep (lv' := [(1, .int l1), (2, .long (l2 ||| ((1 : Int64) <<< ((l4).toInt64 &&& 63)))), (4, .int (l4 + 1))]) [0, 1, 2] rfl ?_
      exact hK13 _ _ _ h
def x_from_L13 (n : Nat) : Nat → Int32 → Int64 → Int32 → Option Int64
  | 0, _, _, _ => none
  | k + 1, l1, l2, l4 => x_from_B13 n (x_from_L13 n k) l1 l2 l4
set_option maxHeartbeats 4000000 in
set_option maxRecDepth 100000 in
theorem xw_from_L13 {G : kt_G} {σ : kt_Y} {μ : kt_M} {X : kt_X} (hX : kt_ok G X RX10 cX10_from 5 0 0 0) (hr : kt_rt X = (some .long)) {n : Nat} {q : Int64} : ∀ (k : Nat) (l1 : Int32) (l2 : Int64) (l4 : Int32), x_from_L13 n k l1 l2 l4 = some q → kt_W G X 5 13 [(1, .int l1), (2, .long l2), (4, .int l4)] [] σ μ 0 0 (kt_Z G X (kt_q σ (fun rv μ2 => rv = some (.long q) ∧ μ2 = μ)) 0 0) := by
  intro k
  induction k with
  | zero => intro l1 l2 l4 h; cases h
  | succ k ih => intro l1 l2 l4 h; exact xw_from_B13 hX hr ih h
def x_from (n : Nat) (a0 : Int32) (a1 : Int32) : Option Int64 := (if 0 ≤ a0 then x_from_L13 n n a1 (0 : Int64) a0 else x_from_L13 n n a1 (0 : Int64) (0 : Int32))
set_option maxHeartbeats 4000000 in
set_option maxRecDepth 100000 in
theorem xs_from {G : kt_G} {σ : kt_Y} {μ : kt_M} {n : Nat} {a0 : Int32} {a1 : Int32} {q : Int64} (h : x_from n a0 a1 = some q) : kt_F G yX10_from cX10_from 5 (some .long) 0 [.int a0, .int a1] σ μ (fun rv μ2 => rv = some (.long q) ∧ μ2 = μ) := by
  unfold x_from at h
  refine kt_F.of (by decide) (Nat.le_of_ble_eq_true rfl) (fun X hX hr => ?_)
  refine kr_lconst (v := 0) hX dX10_from_0 (by decide) ?_
  refine kr_lstore_n (i := 2) hX dX10_from_1 rfl (by decide) rfl rfl ?_
  refine kr_iload_n (i := 0) hX dX10_from_2 rfl rfl ?_
  refine kr_if_ge (tgt := 10) hX dX10_from_3 (by decide) (fun c_3 => ?_) (fun c_3 => ?_)
  · replace h := kq_t c_3 h
    refine kr_iload_n (i := 0) hX dX10_from_10 rfl rfl ?_
    refine kr_istore hX dX10_from_11 (by decide) rfl rfl ?_
    refine kr_keep (lv' := [(1, .int a1), (2, .long (0 : Int64)), (4, .int a0)]) [1, 2, 3] rfl ?_
    exact xw_from_L13 hX hr n _ _ _ h
  · replace h := kq_f c_3 h
    refine kr_iconst (v := 0) hX dX10_from_6 (by decide) ?_
    refine kr_goto (tgt := 11) hX dX10_from_7 (by decide) ?_
    refine kr_istore hX dX10_from_11 (by decide) rfl rfl ?_
    refine kr_keep (lv' := [(1, .int a1), (2, .long (0 : Int64)), (4, .int (0 : Int32))]) [1, 2, 3] rfl ?_
    exact xw_from_L13 hX hr n _ _ _ h
def x_highOf_J23 (n : Nat) (l2 : Int32) : Option Int32 := (if 0 ≤ l2 then some l2 else some ((-4) : Int32))
set_option maxHeartbeats 4000000 in
set_option maxRecDepth 100000 in
theorem xw_highOf_J23 {G : kt_G} {σ : kt_Y} {μ : kt_M} {X : kt_X} (hX : kt_ok G X RX10 cX10_highOf 3 0 0 0) (hr : kt_rt X = (some .int)) {n : Nat} {q : Int32} {l2 : Int32} (h : x_highOf_J23 n l2 = some q) : kt_W G X 3 23 [(2, .int l2)] [] σ μ 0 0 (kt_Z G X (kt_q σ (fun rv μ2 => rv = some (.int q) ∧ μ2 = μ)) 0 0) := by
  unfold x_highOf_J23 at h
  refine kr_iload_n (i := 2) hX dX10_highOf_23 rfl rfl ?_
  refine kr_if_ge (tgt := 32) hX dX10_highOf_24 (by decide) (fun c_24 => ?_) (fun c_24 => ?_)
  · replace h := kq_t c_24 h
    refine kr_iload_n (i := 2) hX dX10_highOf_32 rfl rfl ?_
    refine kr_iret hX hr dX10_highOf_33 ⟨rfl, ?_⟩
    exact kq_rIs h
  · replace h := kq_f c_24 h
    refine kr_bipush (v := (-4)) hX dX10_highOf_27 (by decide) ?_
    refine kr_goto (tgt := 33) hX dX10_highOf_29 (by decide) ?_
    refine kr_iret hX hr dX10_highOf_33 ⟨rfl, ?_⟩
    exact kq_rIs h
def x_highOf_B3 (n : Nat) (K3 : Int64 → Int32 → Option Int32) (l0 : Int64) (l2 : Int32) : Option Int32 := (if l2 < 0 then x_highOf_J23 n l2 else (if (lg_cmp ((l0 >>> ((l2).toInt64 &&& 63)) &&& (1 : Int64)) (0 : Int64)) = 0 then K3 l0 (l2 + Int32.ofInt (-1)) else x_highOf_J23 n l2))
set_option maxHeartbeats 4000000 in
set_option maxRecDepth 100000 in
theorem xw_highOf_B3 {G : kt_G} {σ : kt_Y} {μ : kt_M} {X : kt_X} (hX : kt_ok G X RX10 cX10_highOf 3 0 0 0) (hr : kt_rt X = (some .int)) {n : Nat} {q : Int32} {K3 : Int64 → Int32 → Option Int32} (hK3 : ∀ (l0 : Int64) (l2 : Int32), K3 l0 l2 = some q → kt_W G X 3 3 [(0, .long l0), (2, .int l2)] [] σ μ 0 0 (kt_Z G X (kt_q σ (fun rv μ2 => rv = some (.int q) ∧ μ2 = μ)) 0 0)) {l0 : Int64} {l2 : Int32} (h : x_highOf_B3 n K3 l0 l2 = some q) : kt_W G X 3 3 [(0, .long l0), (2, .int l2)] [] σ μ 0 0 (kt_Z G X (kt_q σ (fun rv μ2 => rv = some (.int q) ∧ μ2 = μ)) 0 0) := by
  unfold x_highOf_B3 at h
  refine kr_iload_n (i := 2) hX dX10_highOf_3 rfl rfl ?_
  refine kr_if_lt (tgt := 23) hX dX10_highOf_4 (by decide) (fun c_4 => ?_) (fun c_4 => ?_)
  · replace h := kq_t c_4 h
    refine kr_keep (lv' := [(2, .int l2)]) [1] rfl ?_
    exact xw_highOf_J23 hX hr h
  · replace h := kq_f c_4 h
    refine kr_lload_n (i := 0) hX dX10_highOf_7 rfl rfl ?_
    refine kr_iload_n (i := 2) hX dX10_highOf_8 rfl rfl ?_
    refine kr_lshr hX dX10_highOf_9 rfl ?_
    refine kr_lconst (v := 1) hX dX10_highOf_10 (by decide) ?_
    refine kr_land hX dX10_highOf_11 ?_
    refine kr_lconst (v := 0) hX dX10_highOf_12 (by decide) ?_
    refine kr_lcmp hX dX10_highOf_13 ?_
    refine kr_if_ne (tgt := 23) hX dX10_highOf_14 (by decide) (fun c_14 => ?_) (fun c_14 => ?_)
    · replace h := kq_f c_14 h
      refine kr_keep (lv' := [(2, .int l2)]) [1] rfl ?_
      exact xw_highOf_J23 hX hr h
    · replace h := kq_t c_14 h
      refine kr_iinc (v := (l2 + Int32.ofInt (-1))) hX dX10_highOf_17 rfl rfl (by decide) rfl rfl ?_
      refine kr_goto (tgt := 3) hX dX10_highOf_20 (by decide) ?_
      refine kr_keep (lv' := [(0, .long l0), (2, .int (l2 + Int32.ofInt (-1)))]) [0, 1] rfl ?_
      exact hK3 _ _ h
def x_highOf_L3 (n : Nat) : Nat → Int64 → Int32 → Option Int32
  | 0, _, _ => none
  | k + 1, l0, l2 => x_highOf_B3 n (x_highOf_L3 n k) l0 l2
set_option maxHeartbeats 4000000 in
set_option maxRecDepth 100000 in
theorem xw_highOf_L3 {G : kt_G} {σ : kt_Y} {μ : kt_M} {X : kt_X} (hX : kt_ok G X RX10 cX10_highOf 3 0 0 0) (hr : kt_rt X = (some .int)) {n : Nat} {q : Int32} : ∀ (k : Nat) (l0 : Int64) (l2 : Int32), x_highOf_L3 n k l0 l2 = some q → kt_W G X 3 3 [(0, .long l0), (2, .int l2)] [] σ μ 0 0 (kt_Z G X (kt_q σ (fun rv μ2 => rv = some (.int q) ∧ μ2 = μ)) 0 0) := by
  intro k
  induction k with
  | zero => intro l0 l2 h; cases h
  | succ k ih => intro l0 l2 h; exact xw_highOf_B3 hX hr ih h
def x_highOf (n : Nat) (a0 : Int64) : Option Int32 := x_highOf_L3 n n a0 (50 : Int32)
set_option maxHeartbeats 4000000 in
set_option maxRecDepth 100000 in
theorem xs_highOf {G : kt_G} {σ : kt_Y} {μ : kt_M} {n : Nat} {a0 : Int64} {q : Int32} (h : x_highOf n a0 = some q) : kt_F G yX10_highOf cX10_highOf 3 (some .int) 0 [.long a0] σ μ (fun rv μ2 => rv = some (.int q) ∧ μ2 = μ) := by
  unfold x_highOf at h
  refine kt_F.of (by decide) (Nat.le_of_ble_eq_true rfl) (fun X hX hr => ?_)
  refine kr_bipush (v := 50) hX dX10_highOf_0 (by decide) ?_
  refine kr_istore_n (i := 2) hX dX10_highOf_2 rfl (by decide) rfl rfl ?_
  refine kr_keep (lv' := [(0, .long a0), (2, .int (50 : Int32))]) [0, 1] rfl ?_
  exact xw_highOf_L3 hX hr n _ _ h
def x_lowOf_J24 (n : Nat) (l2 : Int32) : Option Int32 := (if l2 ≤ (50 : Int32) then some l2 else some ((-4) : Int32))
set_option maxHeartbeats 4000000 in
set_option maxRecDepth 100000 in
theorem xw_lowOf_J24 {G : kt_G} {σ : kt_Y} {μ : kt_M} {X : kt_X} (hX : kt_ok G X RX10 cX10_lowOf 3 0 0 0) (hr : kt_rt X = (some .int)) {n : Nat} {q : Int32} {l2 : Int32} (h : x_lowOf_J24 n l2 = some q) : kt_W G X 3 24 [(2, .int l2)] [] σ μ 0 0 (kt_Z G X (kt_q σ (fun rv μ2 => rv = some (.int q) ∧ μ2 = μ)) 0 0) := by
  unfold x_lowOf_J24 at h
  refine kr_iload_n (i := 2) hX dX10_lowOf_24 rfl rfl ?_
  refine kr_bipush (v := 50) hX dX10_lowOf_25 (by decide) ?_
  refine kr_icmp_le (tgt := 35) hX dX10_lowOf_27 (by decide) (fun c_27 => ?_) (fun c_27 => ?_)
  · replace h := kq_t c_27 h
    refine kr_iload_n (i := 2) hX dX10_lowOf_35 rfl rfl ?_
    refine kr_iret hX hr dX10_lowOf_36 ⟨rfl, ?_⟩
    exact kq_rIs h
  · replace h := kq_f c_27 h
    refine kr_bipush (v := (-4)) hX dX10_lowOf_30 (by decide) ?_
    refine kr_goto (tgt := 36) hX dX10_lowOf_32 (by decide) ?_
    refine kr_iret hX hr dX10_lowOf_36 ⟨rfl, ?_⟩
    exact kq_rIs h
def x_lowOf_B2 (n : Nat) (K2 : Int64 → Int32 → Option Int32) (l0 : Int64) (l2 : Int32) : Option Int32 := (if (50 : Int32) < l2 then x_lowOf_J24 n l2 else (if (lg_cmp ((l0 >>> ((l2).toInt64 &&& 63)) &&& (1 : Int64)) (0 : Int64)) = 0 then K2 l0 (l2 + 1) else x_lowOf_J24 n l2))
set_option maxHeartbeats 4000000 in
set_option maxRecDepth 100000 in
theorem xw_lowOf_B2 {G : kt_G} {σ : kt_Y} {μ : kt_M} {X : kt_X} (hX : kt_ok G X RX10 cX10_lowOf 3 0 0 0) (hr : kt_rt X = (some .int)) {n : Nat} {q : Int32} {K2 : Int64 → Int32 → Option Int32} (hK2 : ∀ (l0 : Int64) (l2 : Int32), K2 l0 l2 = some q → kt_W G X 3 2 [(0, .long l0), (2, .int l2)] [] σ μ 0 0 (kt_Z G X (kt_q σ (fun rv μ2 => rv = some (.int q) ∧ μ2 = μ)) 0 0)) {l0 : Int64} {l2 : Int32} (h : x_lowOf_B2 n K2 l0 l2 = some q) : kt_W G X 3 2 [(0, .long l0), (2, .int l2)] [] σ μ 0 0 (kt_Z G X (kt_q σ (fun rv μ2 => rv = some (.int q) ∧ μ2 = μ)) 0 0) := by
  unfold x_lowOf_B2 at h
  refine kr_iload_n (i := 2) hX dX10_lowOf_2 rfl rfl ?_
  refine kr_bipush (v := 50) hX dX10_lowOf_3 (by decide) ?_
  refine kr_icmp_gt (tgt := 24) hX dX10_lowOf_5 (by decide) (fun c_5 => ?_) (fun c_5 => ?_)
  · replace h := kq_t c_5 h
    refine kr_keep (lv' := [(2, .int l2)]) [1] rfl ?_
    exact xw_lowOf_J24 hX hr h
  · replace h := kq_f c_5 h
    refine kr_lload_n (i := 0) hX dX10_lowOf_8 rfl rfl ?_
    refine kr_iload_n (i := 2) hX dX10_lowOf_9 rfl rfl ?_
    refine kr_lshr hX dX10_lowOf_10 rfl ?_
    refine kr_lconst (v := 1) hX dX10_lowOf_11 (by decide) ?_
    refine kr_land hX dX10_lowOf_12 ?_
    refine kr_lconst (v := 0) hX dX10_lowOf_13 (by decide) ?_
    refine kr_lcmp hX dX10_lowOf_14 ?_
    refine kr_if_ne (tgt := 24) hX dX10_lowOf_15 (by decide) (fun c_15 => ?_) (fun c_15 => ?_)
    · replace h := kq_f c_15 h
      refine kr_keep (lv' := [(2, .int l2)]) [1] rfl ?_
      exact xw_lowOf_J24 hX hr h
    · replace h := kq_t c_15 h
      refine kr_iinc (v := (l2 + 1)) hX dX10_lowOf_18 rfl rfl (by decide) rfl rfl ?_
      refine kr_goto (tgt := 2) hX dX10_lowOf_21 (by decide) ?_
      refine kr_keep (lv' := [(0, .long l0), (2, .int (l2 + 1))]) [0, 1] rfl ?_
      exact hK2 _ _ h
def x_lowOf_L2 (n : Nat) : Nat → Int64 → Int32 → Option Int32
  | 0, _, _ => none
  | k + 1, l0, l2 => x_lowOf_B2 n (x_lowOf_L2 n k) l0 l2
set_option maxHeartbeats 4000000 in
set_option maxRecDepth 100000 in
theorem xw_lowOf_L2 {G : kt_G} {σ : kt_Y} {μ : kt_M} {X : kt_X} (hX : kt_ok G X RX10 cX10_lowOf 3 0 0 0) (hr : kt_rt X = (some .int)) {n : Nat} {q : Int32} : ∀ (k : Nat) (l0 : Int64) (l2 : Int32), x_lowOf_L2 n k l0 l2 = some q → kt_W G X 3 2 [(0, .long l0), (2, .int l2)] [] σ μ 0 0 (kt_Z G X (kt_q σ (fun rv μ2 => rv = some (.int q) ∧ μ2 = μ)) 0 0) := by
  intro k
  induction k with
  | zero => intro l0 l2 h; cases h
  | succ k ih => intro l0 l2 h; exact xw_lowOf_B2 hX hr ih h
def x_lowOf (n : Nat) (a0 : Int64) : Option Int32 := x_lowOf_L2 n n a0 (0 : Int32)
set_option maxHeartbeats 4000000 in
set_option maxRecDepth 100000 in
theorem xs_lowOf {G : kt_G} {σ : kt_Y} {μ : kt_M} {n : Nat} {a0 : Int64} {q : Int32} (h : x_lowOf n a0 = some q) : kt_F G yX10_lowOf cX10_lowOf 3 (some .int) 0 [.long a0] σ μ (fun rv μ2 => rv = some (.int q) ∧ μ2 = μ) := by
  unfold x_lowOf at h
  refine kt_F.of (by decide) (Nat.le_of_ble_eq_true rfl) (fun X hX hr => ?_)
  refine kr_iconst (v := 0) hX dX10_lowOf_0 (by decide) ?_
  refine kr_istore_n (i := 2) hX dX10_lowOf_1 rfl (by decide) rfl rfl ?_
  refine kr_keep (lv' := [(0, .long a0), (2, .int (0 : Int32))]) [0, 1] rfl ?_
  exact xw_lowOf_L2 hX hr n _ _ h

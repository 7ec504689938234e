def x_isSign (n : Nat) (m : Nat) (μ : kt_M) (a0 : Int32) : Option (Int32 × kt_M) := (if (kt_i μ m 9) = (3 : Int32) then kq_b2 (x_byteAt n m μ (kt_i μ m 8)) (fun r_13 μ_13 => (if r_13 = a0 then some ((1 : Int32), μ_13) else some ((0 : Int32), μ_13))) else some ((0 : Int32), μ))
set_option maxHeartbeats 4000000 in
set_option maxRecDepth 100000 in
theorem xs_isSign {G : kt_G} {σ : kt_Y} {μ : kt_M} {m : Nat} (hm : kt_md σ m) {n : Nat} {a0 : Int32} {r : Int32} {μ1 : kt_M} (h : x_isSign n m μ a0 = some (r, μ1)) : kt_F G yX10_isSign cX10_isSign 2 (some .boolean) 1 [.ref m, .int a0] σ μ (fun rv μ2 => rv = some (.int r) ∧ μ2 = μ1) := by
  have key : ∀ q : (Int32 × kt_M), x_isSign n m μ a0 = some q → kt_F G yX10_isSign cX10_isSign 2 (some .boolean) 1 [.ref m, .int a0] σ μ (fun rv μ2 => rv = some (.int q.1) ∧ μ2 = q.2) := by
    intro q h
    unfold x_isSign at h
    refine kt_F.of (by decide) (Nat.le_of_ble_eq_true rfl) (fun X hX hr => ?_)
    refine kr_aload_n (i := 0) hX dX10_isSign_0 rfl rfl ?_
    refine kr_geti (c0 := 10) (k := 9) hX ⟨_, kf_10_96⟩ dX10_isSign_1 rfl (md_k hm) ?_
    refine kr_iconst (v := 3) hX dX10_isSign_4 (by decide) ?_
    refine kr_icmp_ne (tgt := 24) hX dX10_isSign_5 (by decide) (fun c_5 => ?_) (fun c_5 => ?_)
    · replace h := kq_f c_5 h
      refine kr_iconst (v := 0) hX dX10_isSign_24 (by decide) ?_
      refine kr_zret hX hr (by decide) dX10_isSign_25 ⟨rfl, ?_⟩
      exact kq_rI h
    · replace h := kq_t c_5 h
      refine kr_aload_n (i := 0) hX dX10_isSign_8 rfl rfl ?_
      refine kr_aload_n (i := 0) hX dX10_isSign_9 rfl rfl ?_
      refine kr_geti (c0 := 10) (k := 8) hX ⟨_, kf_10_90⟩ dX10_isSign_10 rfl (md_k hm) ?_
      obtain ⟨r_13, μ_13, e_13, h⟩ := kq_b2_e h
      refine kr_dV (c1 := 10) [_] hX km_10_102 dX10_isSign_13 (xs_byteAt hm e_13) rfl rfl ⟨_, _, rfl⟩ (by decide) (Nat.le_of_ble_eq_true rfl) (Nat.le_refl _) (Nat.le_refl _) (md_k hm) ?_
      refine kr_iload_n (i := 1) hX dX10_isSign_16 rfl rfl ?_
      refine kr_icmp_ne (tgt := 24) hX dX10_isSign_17 (by decide) (fun c_17 => ?_) (fun c_17 => ?_)
      · replace h := kq_f c_17 h
        refine kr_iconst (v := 0) hX dX10_isSign_24 (by decide) ?_
        refine kr_zret hX hr (by decide) dX10_isSign_25 ⟨rfl, ?_⟩
        exact kq_rI h
      · replace h := kq_t c_17 h
        refine kr_iconst (v := 1) hX dX10_isSign_20 (by decide) ?_
        refine kr_goto (tgt := 25) hX dX10_isSign_21 (by decide) ?_
        refine kr_zret hX hr (by decide) dX10_isSign_25 ⟨rfl, ?_⟩
        exact kq_rI h
  exact key (r, μ1) h
def x_readNumber_J65 (n : Nat) (m : Nat) (s0 : Int32) (μ : kt_M) : Option (Int32 × kt_M) := kq_b2 (x_reads n m μ) (fun r_67 μ_67 => some (s0, μ_67))
set_option maxHeartbeats 4000000 in
set_option maxRecDepth 100000 in
theorem xw_readNumber_J65 {G : kt_G} {σ : kt_Y} {X : kt_X} (hX : kt_ok G X RX10 cX10_readNumber 3 2 0 0) (hr : kt_rt X = (some .int)) {m : Nat} (hm : kt_md σ m) {n : Nat} {q : (Int32 × kt_M)} {s0 : Int32} {μ : kt_M} (h : x_readNumber_J65 n m s0 μ = some q) : kt_W G X 3 65 [(0, .ref m)] [.int s0] σ μ 0 0 (kt_Z G X (kt_q σ (fun rv μ2 => rv = some (.int q.1) ∧ μ2 = q.2)) 0 0) := by
  unfold x_readNumber_J65 at h
  refine kr_istore_n (i := 2) hX dX10_readNumber_65 rfl (by decide) rfl rfl ?_
  refine kr_aload_n (i := 0) hX dX10_readNumber_66 rfl rfl ?_
  obtain ⟨r_67, μ_67, e_67, h⟩ := kq_b2_e h
  refine kr_dV (c1 := 10) [] hX km_10_125 dX10_readNumber_67 (xs_reads hm e_67) rfl rfl ⟨_, _, rfl⟩ (by decide) (Nat.le_of_ble_eq_true rfl) (Nat.le_refl _) (Nat.le_refl _) (md_k hm) ?_
  refine kr_iload_n (i := 2) hX dX10_readNumber_70 rfl rfl ?_
  refine kr_iret hX hr dX10_readNumber_71 ⟨rfl, ?_⟩
  exact kq_rI h
def x_readNumber_J50 (n : Nat) (m : Nat) (μ : kt_M) : Option (Int32 × kt_M) := (if (kt_i μ m 11) = 0 then x_readNumber_J65 n m (kt_i μ m 10) μ else x_readNumber_J65 n m (0 : Int32) μ)
set_option maxHeartbeats 4000000 in
set_option maxRecDepth 100000 in
theorem xw_readNumber_J50 {G : kt_G} {σ : kt_Y} {X : kt_X} (hX : kt_ok G X RX10 cX10_readNumber 3 2 0 0) (hr : kt_rt X = (some .int)) {m : Nat} (hm : kt_md σ m) {n : Nat} {q : (Int32 × kt_M)} {μ : kt_M} (h : x_readNumber_J50 n m μ = some q) : kt_W G X 3 50 [(0, .ref m)] [] σ μ 0 0 (kt_Z G X (kt_q σ (fun rv μ2 => rv = some (.int q.1) ∧ μ2 = q.2)) 0 0) := by
  unfold x_readNumber_J50 at h
  refine kr_aload_n (i := 0) hX dX10_readNumber_50 rfl rfl ?_
  refine kr_geti (c0 := 10) (k := 11) hX ⟨_, kf_10_87⟩ dX10_readNumber_51 rfl (md_k hm) ?_
  refine kr_if_ne (tgt := 64) hX dX10_readNumber_54 (by decide) (fun c_54 => ?_) (fun c_54 => ?_)
  · replace h := kq_f c_54 h
    refine kr_iconst (v := 0) hX dX10_readNumber_64 (by decide) ?_
    refine kr_keep (lv' := [(0, .ref m)]) [0] rfl ?_
    exact xw_readNumber_J65 hX hr hm h
  · replace h := kq_t c_54 h
    refine kr_aload_n (i := 0) hX dX10_readNumber_57 rfl rfl ?_
    refine kr_geti (c0 := 10) (k := 10) hX ⟨_, kf_10_118⟩ dX10_readNumber_58 rfl (md_k hm) ?_
    refine kr_goto (tgt := 65) hX dX10_readNumber_61 (by decide) ?_
    refine kr_keep (lv' := [(0, .ref m)]) [0] rfl ?_
    exact xw_readNumber_J65 hX hr hm h
def x_readNumber_J46 (n : Nat) (m : Nat) (s1 : Int32) (μ : kt_M) : Option (Int32 × kt_M) := kq_b2 (x_requires n m μ s1 (3 : Int32)) (fun r_47 μ_47 => x_readNumber_J50 n m μ_47)
set_option maxHeartbeats 4000000 in
set_option maxRecDepth 100000 in
theorem xw_readNumber_J46 {G : kt_G} {σ : kt_Y} {X : kt_X} (hX : kt_ok G X RX10 cX10_readNumber 3 2 0 0) (hr : kt_rt X = (some .int)) {m : Nat} (hm : kt_md σ m) {n : Nat} {q : (Int32 × kt_M)} {s1 : Int32} {μ : kt_M} (h : x_readNumber_J46 n m s1 μ = some q) : kt_W G X 3 46 [(0, .ref m)] [.int s1, .ref m] σ μ 0 0 (kt_Z G X (kt_q σ (fun rv μ2 => rv = some (.int q.1) ∧ μ2 = q.2)) 0 0) := by
  unfold x_readNumber_J46 at h
  refine kr_iconst (v := 3) hX dX10_readNumber_46 (by decide) ?_
  obtain ⟨r_47, μ_47, e_47, h⟩ := kq_b2_e h
  refine kr_dV (c1 := 10) [_, _] hX km_10_121 dX10_readNumber_47 (xs_requires hm e_47) rfl rfl ⟨_, _, rfl⟩ (by decide) (Nat.le_of_ble_eq_true rfl) (Nat.le_refl _) (Nat.le_refl _) (md_k hm) ?_
  refine kr_keep (lv' := [(0, .ref m)]) [0] rfl ?_
  exact xw_readNumber_J50 hX hr hm h
def x_readNumber_J25 (n : Nat) (m : Nat) (l1 : Int32) (μ : kt_M) : Option (Int32 × kt_M) := (if (kt_i μ m 11) = 0 then (if l1 < (kt_i μ m 10) then x_readNumber_J46 n m (0 : Int32) μ else x_readNumber_J46 n m (1 : Int32) μ) else x_readNumber_J50 n m μ)
set_option maxHeartbeats 4000000 in
set_option maxRecDepth 100000 in
theorem xw_readNumber_J25 {G : kt_G} {σ : kt_Y} {X : kt_X} (hX : kt_ok G X RX10 cX10_readNumber 3 2 0 0) (hr : kt_rt X = (some .int)) {m : Nat} (hm : kt_md σ m) {n : Nat} {q : (Int32 × kt_M)} {l1 : Int32} {μ : kt_M} (h : x_readNumber_J25 n m l1 μ = some q) : kt_W G X 3 25 [(0, .ref m), (1, .int l1)] [] σ μ 0 0 (kt_Z G X (kt_q σ (fun rv μ2 => rv = some (.int q.1) ∧ μ2 = q.2)) 0 0) := by
  unfold x_readNumber_J25 at h
  refine kr_aload_n (i := 0) hX dX10_readNumber_25 rfl rfl ?_
  refine kr_geti (c0 := 10) (k := 11) hX ⟨_, kf_10_87⟩ dX10_readNumber_26 rfl (md_k hm) ?_
  refine kr_if_ne (tgt := 50) hX dX10_readNumber_29 (by decide) (fun c_29 => ?_) (fun c_29 => ?_)
  · replace h := kq_f c_29 h
    refine kr_keep (lv' := [(0, .ref m)]) [0] rfl ?_
    exact xw_readNumber_J50 hX hr hm h
  · replace h := kq_t c_29 h
    refine kr_aload_n (i := 0) hX dX10_readNumber_32 rfl rfl ?_
    refine kr_aload_n (i := 0) hX dX10_readNumber_33 rfl rfl ?_
    refine kr_geti (c0 := 10) (k := 10) hX ⟨_, kf_10_118⟩ dX10_readNumber_34 rfl (md_k hm) ?_
    refine kr_iload_n (i := 1) hX dX10_readNumber_37 rfl rfl ?_
    refine kr_icmp_gt (tgt := 45) hX dX10_readNumber_38 (by decide) (fun c_38 => ?_) (fun c_38 => ?_)
    · replace h := kq_t c_38 h
      refine kr_iconst (v := 0) hX dX10_readNumber_45 (by decide) ?_
      refine kr_keep (lv' := [(0, .ref m)]) [0] rfl ?_
      exact xw_readNumber_J46 hX hr hm h
    · replace h := kq_f c_38 h
      refine kr_iconst (v := 1) hX dX10_readNumber_41 (by decide) ?_
      refine kr_goto (tgt := 46) hX dX10_readNumber_42 (by decide) ?_
      refine kr_keep (lv' := [(0, .ref m)]) [0] rfl ?_
      exact xw_readNumber_J46 hX hr hm h
def x_readNumber_J21 (n : Nat) (m : Nat) (l1 : Int32) (s1 : Int32) (μ : kt_M) : Option (Int32 × kt_M) := kq_b2 (x_requires n m μ s1 (2 : Int32)) (fun r_22 μ_22 => x_readNumber_J25 n m l1 μ_22)
set_option maxHeartbeats 4000000 in
set_option maxRecDepth 100000 in
theorem xw_readNumber_J21 {G : kt_G} {σ : kt_Y} {X : kt_X} (hX : kt_ok G X RX10 cX10_readNumber 3 2 0 0) (hr : kt_rt X = (some .int)) {m : Nat} (hm : kt_md σ m) {n : Nat} {q : (Int32 × kt_M)} {l1 : Int32} {s1 : Int32} {μ : kt_M} (h : x_readNumber_J21 n m l1 s1 μ = some q) : kt_W G X 3 21 [(0, .ref m), (1, .int l1)] [.int s1, .ref m] σ μ 0 0 (kt_Z G X (kt_q σ (fun rv μ2 => rv = some (.int q.1) ∧ μ2 = q.2)) 0 0) := by
  unfold x_readNumber_J21 at h
  refine kr_iconst (v := 2) hX dX10_readNumber_21 (by decide) ?_
  obtain ⟨r_22, μ_22, e_22, h⟩ := kq_b2_e h
  refine kr_dV (c1 := 10) [_, _] hX km_10_121 dX10_readNumber_22 (xs_requires hm e_22) rfl rfl ⟨_, _, rfl⟩ (by decide) (Nat.le_of_ble_eq_true rfl) (Nat.le_refl _) (Nat.le_refl _) (md_k hm) ?_
  refine kr_keep (lv' := [(0, .ref m), (1, .int l1)]) [0, 1] rfl ?_
  exact xw_readNumber_J25 hX hr hm h
def x_readNumber (n : Nat) (m : Nat) (μ : kt_M) (a0 : Int32) : Option (Int32 × kt_M) := (if (kt_i μ m 11) = 0 then (if (kt_i μ m 9) = (2 : Int32) then x_readNumber_J21 n m a0 (1 : Int32) μ else x_readNumber_J21 n m a0 (0 : Int32) μ) else x_readNumber_J25 n m a0 μ)
set_option maxHeartbeats 4000000 in
set_option maxRecDepth 100000 in
theorem xs_readNumber {G : kt_G} {σ : kt_Y} {μ : kt_M} {m : Nat} (hm : kt_md σ m) {n : Nat} {a0 : Int32} {r : Int32} {μ1 : kt_M} (h : x_readNumber n m μ a0 = some (r, μ1)) : kt_F G yX10_readNumber cX10_readNumber 3 (some .int) 2 [.ref m, .int a0] σ μ (fun rv μ2 => rv = some (.int r) ∧ μ2 = μ1) := by
  have key : ∀ q : (Int32 × kt_M), x_readNumber n m μ a0 = some q → kt_F G yX10_readNumber cX10_readNumber 3 (some .int) 2 [.ref m, .int a0] σ μ (fun rv μ2 => rv = some (.int q.1) ∧ μ2 = q.2) := by
    intro q h
    unfold x_readNumber at h
    refine kt_F.of (by decide) (Nat.le_of_ble_eq_true rfl) (fun X hX hr => ?_)
    refine kr_aload_n (i := 0) hX dX10_readNumber_0 rfl rfl ?_
    refine kr_geti (c0 := 10) (k := 11) hX ⟨_, kf_10_87⟩ dX10_readNumber_1 rfl (md_k hm) ?_
    refine kr_if_ne (tgt := 25) hX dX10_readNumber_4 (by decide) (fun c_4 => ?_) (fun c_4 => ?_)
    · replace h := kq_f c_4 h
      refine kr_keep (lv' := [(0, .ref m), (1, .int a0)]) [0, 1] rfl ?_
      exact xw_readNumber_J25 hX hr hm h
    · replace h := kq_t c_4 h
      refine kr_aload_n (i := 0) hX dX10_readNumber_7 rfl rfl ?_
      refine kr_aload_n (i := 0) hX dX10_readNumber_8 rfl rfl ?_
      refine kr_geti (c0 := 10) (k := 9) hX ⟨_, kf_10_96⟩ dX10_readNumber_9 rfl (md_k hm) ?_
      refine kr_iconst (v := 2) hX dX10_readNumber_12 (by decide) ?_
      refine kr_icmp_ne (tgt := 20) hX dX10_readNumber_13 (by decide) (fun c_13 => ?_) (fun c_13 => ?_)
      · replace h := kq_f c_13 h
        refine kr_iconst (v := 0) hX dX10_readNumber_20 (by decide) ?_
        refine kr_keep (lv' := [(0, .ref m), (1, .int a0)]) [0, 1] rfl ?_
        exact xw_readNumber_J21 hX hr hm h
      · replace h := kq_t c_13 h
        refine kr_iconst (v := 1) hX dX10_readNumber_16 (by decide) ?_
        refine kr_goto (tgt := 21) hX dX10_readNumber_17 (by decide) ?_
        refine kr_keep (lv' := [(0, .ref m), (1, .int a0)]) [0, 1] rfl ?_
        exact xw_readNumber_J21 hX hr hm h
  exact key (r, μ1) h
def x_isVariableNow (n : Nat) (m : Nat) (μ : kt_M) : Option (Int32 × kt_M) := (if (kt_i μ m 9) = (1 : Int32) then (if ((kt_i μ m 7) - (kt_i μ m 8)) = (1 : Int32) then kq_b2 (x_byteAt n m μ (kt_i μ m 8)) (fun r_26 μ_26 => kq_b1 (x_in n (Int32.toInt64 r_26) (97 : Int64) (100 : Int64)) (fun r_36 => (if r_36 = 0 then some ((0 : Int32), μ_26) else some ((1 : Int32), μ_26)))) else some ((0 : Int32), μ)) else some ((0 : Int32), μ))
set_option maxHeartbeats 4000000 in
set_option maxRecDepth 100000 in
theorem xs_isVariableNow {G : kt_G} {σ : kt_Y} {μ : kt_M} {m : Nat} (hm : kt_md σ m) {n : Nat} {r : Int32} {μ1 : kt_M} (h : x_isVariableNow n m μ = some (r, μ1)) : kt_F G yX10_isVariableNow cX10_isVariableNow 1 (some .boolean) 1 [.ref m] σ μ (fun rv μ2 => rv = some (.int r) ∧ μ2 = μ1) := by
  have key : ∀ q : (Int32 × kt_M), x_isVariableNow n m μ = some q → kt_F G yX10_isVariableNow cX10_isVariableNow 1 (some .boolean) 1 [.ref m] σ μ (fun rv μ2 => rv = some (.int q.1) ∧ μ2 = q.2) := by
    intro q h
    unfold x_isVariableNow at h
    refine kt_F.of (by decide) (Nat.le_of_ble_eq_true rfl) (fun X hX hr => ?_)
    refine kr_aload_n (i := 0) hX dX10_isVariableNow_0 rfl rfl ?_
    refine kr_geti (c0 := 10) (k := 9) hX ⟨_, kf_10_96⟩ dX10_isVariableNow_1 rfl (md_k hm) ?_
    refine kr_iconst (v := 1) hX dX10_isVariableNow_4 (by decide) ?_
    refine kr_icmp_ne (tgt := 46) hX dX10_isVariableNow_5 (by decide) (fun c_5 => ?_) (fun c_5 => ?_)
    · replace h := kq_f c_5 h
      refine kr_iconst (v := 0) hX dX10_isVariableNow_46 (by decide) ?_
      refine kr_zret hX hr (by decide) dX10_isVariableNow_47 ⟨rfl, ?_⟩
      exact kq_rI h
    · replace h := kq_t c_5 h
      refine kr_aload_n (i := 0) hX dX10_isVariableNow_8 rfl rfl ?_
      refine kr_geti (c0 := 10) (k := 7) hX ⟨_, kf_10_99⟩ dX10_isVariableNow_9 rfl (md_k hm) ?_
      refine kr_aload_n (i := 0) hX dX10_isVariableNow_12 rfl rfl ?_
      refine kr_geti (c0 := 10) (k := 8) hX ⟨_, kf_10_90⟩ dX10_isVariableNow_13 rfl (md_k hm) ?_
      refine kr_isub hX dX10_isVariableNow_16 ?_
      refine kr_iconst (v := 1) hX dX10_isVariableNow_17 (by decide) ?_
      refine kr_icmp_ne (tgt := 46) hX dX10_isVariableNow_18 (by decide) (fun c_18 => ?_) (fun c_18 => ?_)
      · replace h := kq_f c_18 h
        refine kr_iconst (v := 0) hX dX10_isVariableNow_46 (by decide) ?_
        refine kr_zret hX hr (by decide) dX10_isVariableNow_47 ⟨rfl, ?_⟩
        exact kq_rI h
      · replace h := kq_t c_18 h
        refine kr_aload_n (i := 0) hX dX10_isVariableNow_21 rfl rfl ?_
        refine kr_aload_n (i := 0) hX dX10_isVariableNow_22 rfl rfl ?_
        refine kr_geti (c0 := 10) (k := 8) hX ⟨_, kf_10_90⟩ dX10_isVariableNow_23 rfl (md_k hm) ?_
        obtain ⟨r_26, μ_26, e_26, h⟩ := kq_b2_e h
        refine kr_dV (c1 := 10) [_] hX km_10_102 dX10_isVariableNow_26 (xs_byteAt hm e_26) rfl rfl ⟨_, _, rfl⟩ (by decide) (Nat.le_of_ble_eq_true rfl) (Nat.le_refl _) (Nat.le_refl _) (md_k hm) ?_
        refine kr_i2l hX dX10_isVariableNow_29 rfl ?_
        refine kr_ldc2 (v := 97) hX kw_1145 dX10_isVariableNow_30 ?_
        refine kr_ldc2 (v := 100) hX kw_1181 dX10_isVariableNow_33 ?_
        obtain ⟨r_36, e_36, h⟩ := kq_b1_e h
        refine kr_dS [_, _, _] hX km_10_80 dX10_isVariableNow_36 (xs_in e_36) rfl rfl (by decide) (Nat.le_of_ble_eq_true rfl) (Nat.le_refl _) (Nat.le_refl _) ?_
        refine kr_if_eq (tgt := 46) hX dX10_isVariableNow_39 (by decide) (fun c_39 => ?_) (fun c_39 => ?_)
        · replace h := kq_t c_39 h
          refine kr_iconst (v := 0) hX dX10_isVariableNow_46 (by decide) ?_
          refine kr_zret hX hr (by decide) dX10_isVariableNow_47 ⟨rfl, ?_⟩
          exact kq_rI h
        · replace h := kq_f c_39 h
          refine kr_iconst (v := 1) hX dX10_isVariableNow_42 (by decide) ?_
          refine kr_goto (tgt := 47) hX dX10_isVariableNow_43 (by decide) ?_
          refine kr_zret hX hr (by decide) dX10_isVariableNow_47 ⟨rfl, ?_⟩
          exact kq_rI h
  exact key (r, μ1) h
def x_readVariable_J38 (n : Nat) (m : Nat) (s0 : Int32) (μ : kt_M) : Option (Int32 × kt_M) := kq_b2 (x_reads n m μ) (fun r_40 μ_40 => some (s0, μ_40))
set_option maxHeartbeats 4000000 in
set_option maxRecDepth 100000 in
theorem xw_readVariable_J38 {G : kt_G} {σ : kt_Y} {X : kt_X} (hX : kt_ok G X RX10 cX10_readVariable 2 2 0 0) (hr : kt_rt X = (some .int)) {m : Nat} (hm : kt_md σ m) {n : Nat} {q : (Int32 × kt_M)} {s0 : Int32} {μ : kt_M} (h : x_readVariable_J38 n m s0 μ = some q) : kt_W G X 2 38 [(0, .ref m)] [.int s0] σ μ 0 0 (kt_Z G X (kt_q σ (fun rv μ2 => rv = some (.int q.1) ∧ μ2 = q.2)) 0 0) := by
  unfold x_readVariable_J38 at h
  refine kr_istore_n (i := 1) hX dX10_readVariable_38 rfl (by decide) rfl rfl ?_
  refine kr_aload_n (i := 0) hX dX10_readVariable_39 rfl rfl ?_
  obtain ⟨r_40, μ_40, e_40, h⟩ := kq_b2_e h
  refine kr_dV (c1 := 10) [] hX km_10_125 dX10_readVariable_40 (xs_reads hm e_40) rfl rfl ⟨_, _, rfl⟩ (by decide) (Nat.le_of_ble_eq_true rfl) (Nat.le_refl _) (Nat.le_refl _) (md_k hm) ?_
  refine kr_iload_n (i := 1) hX dX10_readVariable_43 rfl rfl ?_
  refine kr_iret hX hr dX10_readVariable_44 ⟨rfl, ?_⟩
  exact kq_rI h
def x_readVariable_J16 (n : Nat) (m : Nat) (μ : kt_M) : Option (Int32 × kt_M) := (if (kt_i μ m 11) = 0 then kq_b2 (x_byteAt n m μ (kt_i μ m 8)) (fun r_28 μ_28 => x_readVariable_J38 n m (r_28 - (97 : Int32)) μ_28) else x_readVariable_J38 n m (0 : Int32) μ)
set_option maxHeartbeats 4000000 in
set_option maxRecDepth 100000 in
theorem xw_readVariable_J16 {G : kt_G} {σ : kt_Y} {X : kt_X} (hX : kt_ok G X RX10 cX10_readVariable 2 2 0 0) (hr : kt_rt X = (some .int)) {m : Nat} (hm : kt_md σ m) {n : Nat} {q : (Int32 × kt_M)} {μ : kt_M} (h : x_readVariable_J16 n m μ = some q) : kt_W G X 2 16 [(0, .ref m)] [] σ μ 0 0 (kt_Z G X (kt_q σ (fun rv μ2 => rv = some (.int q.1) ∧ μ2 = q.2)) 0 0) := by
  unfold x_readVariable_J16 at h
  refine kr_aload_n (i := 0) hX dX10_readVariable_16 rfl rfl ?_
  refine kr_geti (c0 := 10) (k := 11) hX ⟨_, kf_10_87⟩ dX10_readVariable_17 rfl (md_k hm) ?_
  refine kr_if_ne (tgt := 37) hX dX10_readVariable_20 (by decide) (fun c_20 => ?_) (fun c_20 => ?_)
  · replace h := kq_f c_20 h
    refine kr_iconst (v := 0) hX dX10_readVariable_37 (by decide) ?_
    refine kr_keep (lv' := [(0, .ref m)]) [0] rfl ?_
    exact xw_readVariable_J38 hX hr hm h
  · replace h := kq_t c_20 h
    refine kr_aload_n (i := 0) hX dX10_readVariable_23 rfl rfl ?_
    refine kr_aload_n (i := 0) hX dX10_readVariable_24 rfl rfl ?_
    refine kr_geti (c0 := 10) (k := 8) hX ⟨_, kf_10_90⟩ dX10_readVariable_25 rfl (md_k hm) ?_
    obtain ⟨r_28, μ_28, e_28, h⟩ := kq_b2_e h
    refine kr_dV (c1 := 10) [_] hX km_10_102 dX10_readVariable_28 (xs_byteAt hm e_28) rfl rfl ⟨_, _, rfl⟩ (by decide) (Nat.le_of_ble_eq_true rfl) (Nat.le_refl _) (Nat.le_refl _) (md_k hm) ?_
    refine kr_bipush (v := 97) hX dX10_readVariable_31 (by decide) ?_
    refine kr_isub hX dX10_readVariable_33 ?_
    refine kr_goto (tgt := 38) hX dX10_readVariable_34 (by decide) ?_
    refine kr_keep (lv' := [(0, .ref m)]) [0] rfl ?_
    exact xw_readVariable_J38 hX hr hm h
def x_readVariable (n : Nat) (m : Nat) (μ : kt_M) : Option (Int32 × kt_M) := (if (kt_i μ m 11) = 0 then kq_b2 (x_isVariableNow n m μ) (fun r_9 μ_9 => kq_b2 (x_requires n m μ_9 r_9 (2 : Int32)) (fun r_13 μ_13 => x_readVariable_J16 n m μ_13)) else x_readVariable_J16 n m μ)
set_option maxHeartbeats 4000000 in
set_option maxRecDepth 100000 in
theorem xs_readVariable {G : kt_G} {σ : kt_Y} {μ : kt_M} {m : Nat} (hm : kt_md σ m) {n : Nat} {r : Int32} {μ1 : kt_M} (h : x_readVariable n m μ = some (r, μ1)) : kt_F G yX10_readVariable cX10_readVariable 2 (some .int) 2 [.ref m] σ μ (fun rv μ2 => rv = some (.int r) ∧ μ2 = μ1) := by
  have key : ∀ q : (Int32 × kt_M), x_readVariable n m μ = some q → kt_F G yX10_readVariable cX10_readVariable 2 (some .int) 2 [.ref m] σ μ (fun rv μ2 => rv = some (.int q.1) ∧ μ2 = q.2) := by
    intro q h
    unfold x_readVariable at h
    refine kt_F.of (by decide) (Nat.le_of_ble_eq_true rfl) (fun X hX hr => ?_)
    refine kr_aload_n (i := 0) hX dX10_readVariable_0 rfl rfl ?_
    refine kr_geti (c0 := 10) (k := 11) hX ⟨_, kf_10_87⟩ dX10_readVariable_1 rfl (md_k hm) ?_
    refine kr_if_ne (tgt := 16) hX dX10_readVariable_4 (by decide) (fun c_4 => ?_) (fun c_4 => ?_)
    · replace h := kq_f c_4 h
      refine kr_keep (lv' := [(0, .ref m)]) [0] rfl ?_
      exact xw_readVariable_J16 hX hr hm h
    · replace h := kq_t c_4 h
      refine kr_aload_n (i := 0) hX dX10_readVariable_7 rfl rfl ?_
      refine kr_aload_n (i := 0) hX dX10_readVariable_8 rfl rfl ?_
      obtain ⟨r_9, μ_9, e_9, h⟩ := kq_b2_e h
      refine kr_dV (c1 := 10) [] hX km_10_130 dX10_readVariable_9 (xs_isVariableNow hm e_9) rfl rfl ⟨_, _, rfl⟩ (by decide) (Nat.le_of_ble_eq_true rfl) (Nat.le_refl _) (Nat.le_refl _) (md_k hm) ?_
      refine kr_iconst (v := 2) hX dX10_readVariable_12 (by decide) ?_
      obtain ⟨r_13, μ_13, e_13, h⟩ := kq_b2_e h
      refine kr_dV (c1 := 10) [_, _] hX km_10_121 dX10_readVariable_13 (xs_requires hm e_13) rfl rfl ⟨_, _, rfl⟩ (by decide) (Nat.le_of_ble_eq_true rfl) (Nat.le_refl _) (Nat.le_refl _) (md_k hm) ?_
      refine kr_keep (lv' := [(0, .ref m)]) [0] rfl ?_
      exact xw_readVariable_J16 hX hr hm h
  exact key (r, μ1) h
def x_readAct_J77 (n : Nat) (m : Nat) (s1 : Int32) (s2 : Int32) (μ : kt_M) : Option (Unit × kt_M) := kq_ck (kq_in s1 321) (kq_lt (kt_si μ (m + 2) (Int32.toNatClampNeg s1) s2) (fun μ_77 => some ((), μ_77)))
set_option maxHeartbeats 4000000 in
set_option maxRecDepth 100000 in
theorem xw_readAct_J77 {G : kt_G} {σ : kt_Y} {X : kt_X} (hX : kt_ok G X RX10 cX10_readAct 4 3 0 0) (hr : kt_rt X = none) {m : Nat} (hm : kt_md σ m) {n : Nat} {q : (Unit × kt_M)} {s1 : Int32} {s2 : Int32} {μ : kt_M} (h : x_readAct_J77 n m s1 s2 μ = some q) : kt_W G X 4 77 [(0, .ref m)] [.int s2, .int s1, .ref (m + 2)] σ μ 0 0 (kt_Z G X (kt_q σ (fun rv μ2 => rv = none ∧ μ2 = q.2)) 0 0) := by
  unfold x_readAct_J77 at h
  obtain ⟨i_77, h⟩ := kq_ck_e h
  refine kr_iast hX dX10_readAct_77 (md_a2 hm) (vp_in_iff.mpr i_77) ?_
  refine kr_ltM h (fun μ_77 h => ?_)
  refine kr_vret hX hr dX10_readAct_78 ⟨rfl, ?_⟩
  exact kq_rV h
def x_readAct (n : Nat) (m : Nat) (μ : kt_M) (a0 : Int32) (a1 : Int32) : Option (Unit × kt_M) := kq_ck (kq_in a1 321) (kq_ck (kq_in a1 321) (kq_ck (kq_in a1 321) (kq_lt (kt_si μ (m + 2) (Int32.toNatClampNeg a1) ((kt_i μ (m + 2) (Int32.toNatClampNeg a1)) + (1 : Int32))) (fun μ_22 => kq_ck (kq_in ((a1 + (1 : Int32)) + ((3 : Int32) * (kt_i μ (m + 2) (Int32.toNatClampNeg a1)))) 321) (kq_lt (kt_si μ_22 (m + 2) (Int32.toNatClampNeg ((a1 + (1 : Int32)) + ((3 : Int32) * (kt_i μ (m + 2) (Int32.toNatClampNeg a1))))) a0) (fun μ_29 => kq_b2 (x_readVariable n m μ_29) (fun r_38 μ_38 => kq_ck (kq_in (((a1 + (1 : Int32)) + ((3 : Int32) * (kt_i μ (m + 2) (Int32.toNatClampNeg a1)))) + (1 : Int32)) 321) (kq_lt (kt_si μ_38 (m + 2) (Int32.toNatClampNeg (((a1 + (1 : Int32)) + ((3 : Int32) * (kt_i μ (m + 2) (Int32.toNatClampNeg a1)))) + (1 : Int32))) r_38) (fun μ_41 => (if (2 : Int32) < a0 then (if a0 = (3 : Int32) then kq_b2 (x_readVariable n m μ_41) (fun r_69 μ_69 => x_readAct_J77 n m (((a1 + (1 : Int32)) + ((3 : Int32) * (kt_i μ (m + 2) (Int32.toNatClampNeg a1)))) + (2 : Int32)) r_69 μ_69) else x_readAct_J77 n m (((a1 + (1 : Int32)) + ((3 : Int32) * (kt_i μ (m + 2) (Int32.toNatClampNeg a1)))) + (2 : Int32)) ((-4) : Int32) μ_41) else kq_b2 (x_readNumber n m μ_41 (50 : Int32)) (fun r_57 μ_57 => x_readAct_J77 n m (((a1 + (1 : Int32)) + ((3 : Int32) * (kt_i μ (m + 2) (Int32.toNatClampNeg a1)))) + (2 : Int32)) r_57 μ_57)))))))))))
set_option maxHeartbeats 4000000 in
set_option maxRecDepth 100000 in
theorem xs_readAct {G : kt_G} {σ : kt_Y} {μ : kt_M} {m : Nat} (hm : kt_md σ m) {n : Nat} {a0 : Int32} {a1 : Int32} {r : Unit} {μ1 : kt_M} (h : x_readAct n m μ a0 a1 = some (r, μ1)) : kt_F G yX10_readAct cX10_readAct 4 none 3 [.ref m, .int a0, .int a1] σ μ (fun rv μ2 => rv = none ∧ μ2 = μ1) := by
  have key : ∀ q : (Unit × kt_M), x_readAct n m μ a0 a1 = some q → kt_F G yX10_readAct cX10_readAct 4 none 3 [.ref m, .int a0, .int a1] σ μ (fun rv μ2 => rv = none ∧ μ2 = q.2) := by
    intro q h
    unfold x_readAct at h
    refine kt_F.of (by decide) (Nat.le_of_ble_eq_true rfl) (fun X hX hr => ?_)
    refine kr_iload_n (i := 2) hX dX10_readAct_0 rfl rfl ?_
    refine kr_iconst (v := 1) hX dX10_readAct_1 (by decide) ?_
    refine kr_iadd hX dX10_readAct_2 ?_
    refine kr_iconst (v := 3) hX dX10_readAct_3 (by decide) ?_
    refine kr_aload_n (i := 0) hX dX10_readAct_4 rfl rfl ?_
    refine kr_getr (c0 := 10) (k := 1) hX ⟨_, kf_10_13⟩ dX10_readAct_5 rfl (md_k hm) (md_r1 hm) ?_
    refine kr_iload_n (i := 2) hX dX10_readAct_8 rfl rfl ?_
    obtain ⟨i_9, h⟩ := kq_ck_e h
    refine kr_iald hX dX10_readAct_9 (md_a2 hm) (vp_in_iff.mpr i_9) ?_
    refine kr_imul hX dX10_readAct_10 ?_
    refine kr_iadd hX dX10_readAct_11 ?_
    refine kr_istore_n (i := 3) hX dX10_readAct_12 rfl (by decide) rfl rfl ?_
    refine kr_aload_n (i := 0) hX dX10_readAct_13 rfl rfl ?_
    refine kr_getr (c0 := 10) (k := 1) hX ⟨_, kf_10_13⟩ dX10_readAct_14 rfl (md_k hm) (md_r1 hm) ?_
    refine kr_iload_n (i := 2) hX dX10_readAct_17 rfl rfl ?_
    refine kr_dup2_11 hX dX10_readAct_18 rfl rfl ?_
    obtain ⟨i_19, h⟩ := kq_ck_e h
    refine kr_iald hX dX10_readAct_19 (md_a2 hm) (vp_in_iff.mpr i_19) ?_
    refine kr_iconst (v := 1) hX dX10_readAct_20 (by decide) ?_
    refine kr_iadd hX dX10_readAct_21 ?_
    obtain ⟨i_22, h⟩ := kq_ck_e h
    refine kr_iast hX dX10_readAct_22 (md_a2 hm) (vp_in_iff.mpr i_22) ?_
    refine kr_ltM h (fun μ_22 h => ?_)
    refine kr_aload_n (i := 0) hX dX10_readAct_23 rfl rfl ?_
    refine kr_getr (c0 := 10) (k := 1) hX ⟨_, kf_10_13⟩ dX10_readAct_24 rfl (md_k hm) (md_r1 hm) ?_
    refine kr_iload_n (i := 3) hX dX10_readAct_27 rfl rfl ?_
    refine kr_iload_n (i := 1) hX dX10_readAct_28 rfl rfl ?_
    obtain ⟨i_29, h⟩ := kq_ck_e h
    refine kr_iast hX dX10_readAct_29 (md_a2 hm) (vp_in_iff.mpr i_29) ?_
    refine kr_ltM h (fun μ_29 h => ?_)
    refine kr_aload_n (i := 0) hX dX10_readAct_30 rfl rfl ?_
    refine kr_getr (c0 := 10) (k := 1) hX ⟨_, kf_10_13⟩ dX10_readAct_31 rfl (md_k hm) (md_r1 hm) ?_
    refine kr_iload_n (i := 3) hX dX10_readAct_34 rfl rfl ?_
    refine kr_iconst (v := 1) hX dX10_readAct_35 (by decide) ?_
    refine kr_iadd hX dX10_readAct_36 ?_
    refine kr_aload_n (i := 0) hX dX10_readAct_37 rfl rfl ?_
    obtain ⟨r_38, μ_38, e_38, h⟩ := kq_b2_e h
    refine kr_dV (c1 := 10) [] hX km_10_134 dX10_readAct_38 (xs_readVariable hm e_38) rfl rfl ⟨_, _, rfl⟩ (by decide) (Nat.le_of_ble_eq_true rfl) (Nat.le_refl _) (Nat.le_refl _) (md_k hm) ?_
    obtain ⟨i_41, h⟩ := kq_ck_e h
    refine kr_iast hX dX10_readAct_41 (md_a2 hm) (vp_in_iff.mpr i_41) ?_
    refine kr_ltM h (fun μ_41 h => ?_)
    refine kr_aload_n (i := 0) hX dX10_readAct_42 rfl rfl ?_
    refine kr_getr (c0 := 10) (k := 1) hX ⟨_, kf_10_13⟩ dX10_readAct_43 rfl (md_k hm) (md_r1 hm) ?_
    refine kr_iload_n (i := 3) hX dX10_readAct_46 rfl rfl ?_
    refine kr_iconst (v := 2) hX dX10_readAct_47 (by decide) ?_
    refine kr_iadd hX dX10_readAct_48 ?_
    refine kr_iload_n (i := 1) hX dX10_readAct_49 rfl rfl ?_
    refine kr_iconst (v := 2) hX dX10_readAct_50 (by decide) ?_
    refine kr_icmp_gt (tgt := 63) hX dX10_readAct_51 (by decide) (fun c_51 => ?_) (fun c_51 => ?_)
    · replace h := kq_t c_51 h
      refine kr_iload_n (i := 1) hX dX10_readAct_63 rfl rfl ?_
      refine kr_iconst (v := 3) hX dX10_readAct_64 (by decide) ?_
      refine kr_icmp_ne (tgt := 75) hX dX10_readAct_65 (by decide) (fun c_65 => ?_) (fun c_65 => ?_)
      · replace h := kq_f c_65 h
        refine kr_bipush (v := (-4)) hX dX10_readAct_75 (by decide) ?_
        refine kr_keep (lv' := [(0, .ref m)]) [0] rfl ?_
        exact xw_readAct_J77 hX hr hm h
      · replace h := kq_t c_65 h
        refine kr_aload_n (i := 0) hX dX10_readAct_68 rfl rfl ?_
        obtain ⟨r_69, μ_69, e_69, h⟩ := kq_b2_e h
        refine kr_dV (c1 := 10) [] hX km_10_134 dX10_readAct_69 (xs_readVariable hm e_69) rfl rfl ⟨_, _, rfl⟩ (by decide) (Nat.le_of_ble_eq_true rfl) (Nat.le_refl _) (Nat.le_refl _) (md_k hm) ?_
        refine kr_goto (tgt := 77) hX dX10_readAct_72 (by decide) ?_
        refine kr_keep (lv' := [(0, .ref m)]) [0] rfl ?_
        exact xw_readAct_J77 hX hr hm h
    · replace h := kq_f c_51 h
      refine kr_aload_n (i := 0) hX dX10_readAct_54 rfl rfl ?_
      refine kr_bipush (v := 50) hX dX10_readAct_55 (by decide) ?_
      obtain ⟨r_57, μ_57, e_57, h⟩ := kq_b2_e h
      refine kr_dV (c1 := 10) [_] hX km_10_138 dX10_readAct_57 (xs_readNumber hm e_57) rfl rfl ⟨_, _, rfl⟩ (by decide) (Nat.le_of_ble_eq_true rfl) (Nat.le_refl _) (Nat.le_refl _) (md_k hm) ?_
      refine kr_goto (tgt := 77) hX dX10_readAct_60 (by decide) ?_
      refine kr_keep (lv' := [(0, .ref m)]) [0] rfl ?_
      exact xw_readAct_J77 hX hr hm h
  exact key (r, μ1) h
def x_readTest_J141 (n : Nat) (m : Nat) (l1 : Int32) (s1 : Int32) (s2 : Int32) (μ : kt_M) : Option (Unit × kt_M) := kq_ck (kq_in s1 321) (kq_lt (kt_si μ (m + 2) (Int32.toNatClampNeg s1) s2) (fun μ_141 => kq_b2 (x_readNumber n m μ_141 (7 : Int32)) (fun r_153 μ_153 => kq_ck (kq_in (l1 + (14 : Int32)) 321) (kq_lt (kt_si μ_153 (m + 2) (Int32.toNatClampNeg (l1 + (14 : Int32))) r_153) (fun μ_156 => kq_b2 (x_readNumber n m μ_156 (7 : Int32)) (fun r_170 μ_170 => kq_ck (kq_in ((l1 + (14 : Int32)) + (1 : Int32)) 321) (kq_lt (kt_si μ_170 (m + 2) (Int32.toNatClampNeg ((l1 + (14 : Int32)) + (1 : Int32))) r_170) (fun μ_173 => some ((), μ_173)))))))))
set_option maxHeartbeats 4000000 in
set_option maxRecDepth 100000 in
theorem xw_readTest_J141 {G : kt_G} {σ : kt_Y} {X : kt_X} (hX : kt_ok G X RX10 cX10_readTest 3 3 0 0) (hr : kt_rt X = none) {m : Nat} (hm : kt_md σ m) {n : Nat} {q : (Unit × kt_M)} {l1 : Int32} {s1 : Int32} {s2 : Int32} {μ : kt_M} (h : x_readTest_J141 n m l1 s1 s2 μ = some q) : kt_W G X 3 141 [(0, .ref m), (1, .int l1)] [.int s2, .int s1, .ref (m + 2)] σ μ 0 0 (kt_Z G X (kt_q σ (fun rv μ2 => rv = none ∧ μ2 = q.2)) 0 0) := by
  unfold x_readTest_J141 at h
  obtain ⟨i_141, h⟩ := kq_ck_e h
  refine kr_iast hX dX10_readTest_141 (md_a2 hm) (vp_in_iff.mpr i_141) ?_
  refine kr_ltM h (fun μ_141 h => ?_)
  refine kr_aload_n (i := 0) hX dX10_readTest_142 rfl rfl ?_
  refine kr_getr (c0 := 10) (k := 1) hX ⟨_, kf_10_13⟩ dX10_readTest_143 rfl (md_k hm) (md_r1 hm) ?_
  refine kr_iload_n (i := 1) hX dX10_readTest_146 rfl rfl ?_
  refine kr_bipush (v := 14) hX dX10_readTest_147 (by decide) ?_
  refine kr_iadd hX dX10_readTest_149 ?_
  refine kr_aload_n (i := 0) hX dX10_readTest_150 rfl rfl ?_
  refine kr_bipush (v := 7) hX dX10_readTest_151 (by decide) ?_
  obtain ⟨r_153, μ_153, e_153, h⟩ := kq_b2_e h
  refine kr_dV (c1 := 10) [_] hX km_10_138 dX10_readTest_153 (xs_readNumber hm e_153) rfl rfl ⟨_, _, rfl⟩ (by decide) (Nat.le_of_ble_eq_true rfl) (Nat.le_refl _) (Nat.le_refl _) (md_k hm) ?_
  obtain ⟨i_156, h⟩ := kq_ck_e h
  refine kr_iast hX dX10_readTest_156 (md_a2 hm) (vp_in_iff.mpr i_156) ?_
  refine kr_ltM h (fun μ_156 h => ?_)
  refine kr_aload_n (i := 0) hX dX10_readTest_157 rfl rfl ?_
  refine kr_getr (c0 := 10) (k := 1) hX ⟨_, kf_10_13⟩ dX10_readTest_158 rfl (md_k hm) (md_r1 hm) ?_
  refine kr_iload_n (i := 1) hX dX10_readTest_161 rfl rfl ?_
  refine kr_bipush (v := 14) hX dX10_readTest_162 (by decide) ?_
  refine kr_iadd hX dX10_readTest_164 ?_
  refine kr_iconst (v := 1) hX dX10_readTest_165 (by decide) ?_
  refine kr_iadd hX dX10_readTest_166 ?_
  refine kr_aload_n (i := 0) hX dX10_readTest_167 rfl rfl ?_
  refine kr_bipush (v := 7) hX dX10_readTest_168 (by decide) ?_
  obtain ⟨r_170, μ_170, e_170, h⟩ := kq_b2_e h
  refine kr_dV (c1 := 10) [_] hX km_10_138 dX10_readTest_170 (xs_readNumber hm e_170) rfl rfl ⟨_, _, rfl⟩ (by decide) (Nat.le_of_ble_eq_true rfl) (Nat.le_refl _) (Nat.le_refl _) (md_k hm) ?_
  obtain ⟨i_173, h⟩ := kq_ck_e h
  refine kr_iast hX dX10_readTest_173 (md_a2 hm) (vp_in_iff.mpr i_173) ?_
  refine kr_ltM h (fun μ_173 h => ?_)
  refine kr_vret hX hr dX10_readTest_174 ⟨rfl, ?_⟩
  exact kq_rV h
def x_readTest_J102 (n : Nat) (m : Nat) (l1 : Int32) (s0 : Int32) (μ : kt_M) : Option (Unit × kt_M) := kq_b1 (x_flag n s0) (fun r_112 => kq_ck (kq_in (l1 + (17 : Int32)) 321) (kq_lt (kt_si μ (m + 2) (Int32.toNatClampNeg (l1 + (17 : Int32))) r_112) (fun μ_115 => (if s0 = 0 then kq_b2 (x_readNumber n m μ_115 (50 : Int32)) (fun r_138 μ_138 => x_readTest_J141 n m l1 (l1 + (18 : Int32)) r_138 μ_138) else kq_b2 (x_readVariable n m μ_115) (fun r_129 μ_129 => x_readTest_J141 n m l1 (l1 + (18 : Int32)) r_129 μ_129)))))
set_option maxHeartbeats 4000000 in
set_option maxRecDepth 100000 in
theorem xw_readTest_J102 {G : kt_G} {σ : kt_Y} {X : kt_X} (hX : kt_ok G X RX10 cX10_readTest 3 3 0 0) (hr : kt_rt X = none) {m : Nat} (hm : kt_md σ m) {n : Nat} {q : (Unit × kt_M)} {l1 : Int32} {s0 : Int32} {μ : kt_M} (h : x_readTest_J102 n m l1 s0 μ = some q) : kt_W G X 3 102 [(0, .ref m), (1, .int l1)] [.int s0] σ μ 0 0 (kt_Z G X (kt_q σ (fun rv μ2 => rv = none ∧ μ2 = q.2)) 0 0) := by
  unfold x_readTest_J102 at h
  refine kr_istore_n (i := 2) hX dX10_readTest_102 rfl (by decide) rfl rfl ?_
  refine kr_aload_n (i := 0) hX dX10_readTest_103 rfl rfl ?_
  refine kr_getr (c0 := 10) (k := 1) hX ⟨_, kf_10_13⟩ dX10_readTest_104 rfl (md_k hm) (md_r1 hm) ?_
  refine kr_iload_n (i := 1) hX dX10_readTest_107 rfl rfl ?_
  refine kr_bipush (v := 17) hX dX10_readTest_108 (by decide) ?_
  refine kr_iadd hX dX10_readTest_110 ?_
  refine kr_iload_n (i := 2) hX dX10_readTest_111 rfl rfl ?_
  obtain ⟨r_112, e_112, h⟩ := kq_b1_e h
  refine kr_dS [_] hX km_10_145 dX10_readTest_112 (xs_flag e_112) rfl rfl (by decide) (Nat.le_of_ble_eq_true rfl) (Nat.le_refl _) (Nat.le_refl _) ?_
  obtain ⟨i_115, h⟩ := kq_ck_e h
  refine kr_iast hX dX10_readTest_115 (md_a2 hm) (vp_in_iff.mpr i_115) ?_
  refine kr_ltM h (fun μ_115 h => ?_)
  refine kr_aload_n (i := 0) hX dX10_readTest_116 rfl rfl ?_
  refine kr_getr (c0 := 10) (k := 1) hX ⟨_, kf_10_13⟩ dX10_readTest_117 rfl (md_k hm) (md_r1 hm) ?_
  refine kr_iload_n (i := 1) hX dX10_readTest_120 rfl rfl ?_
  refine kr_bipush (v := 18) hX dX10_readTest_121 (by decide) ?_
  refine kr_iadd hX dX10_readTest_123 ?_
  refine kr_iload_n (i := 2) hX dX10_readTest_124 rfl rfl ?_
  refine kr_if_eq (tgt := 135) hX dX10_readTest_125 (by decide) (fun c_125 => ?_) (fun c_125 => ?_)
  · replace h := kq_t c_125 h
    refine kr_aload_n (i := 0) hX dX10_readTest_135 rfl rfl ?_
    refine kr_bipush (v := 50) hX dX10_readTest_136 (by decide) ?_
    obtain ⟨r_138, μ_138, e_138, h⟩ := kq_b2_e h
    refine kr_dV (c1 := 10) [_] hX km_10_138 dX10_readTest_138 (xs_readNumber hm e_138) rfl rfl ⟨_, _, rfl⟩ (by decide) (Nat.le_of_ble_eq_true rfl) (Nat.le_refl _) (Nat.le_refl _) (md_k hm) ?_
    refine kr_keep (lv' := [(0, .ref m), (1, .int l1)]) [0, 1] rfl ?_
    exact xw_readTest_J141 hX hr hm h
  · replace h := kq_f c_125 h
    refine kr_aload_n (i := 0) hX dX10_readTest_128 rfl rfl ?_
    obtain ⟨r_129, μ_129, e_129, h⟩ := kq_b2_e h
    refine kr_dV (c1 := 10) [] hX km_10_134 dX10_readTest_129 (xs_readVariable hm e_129) rfl rfl ⟨_, _, rfl⟩ (by decide) (Nat.le_of_ble_eq_true rfl) (Nat.le_refl _) (Nat.le_refl _) (md_k hm) ?_
    refine kr_goto (tgt := 141) hX dX10_readTest_132 (by decide) ?_
    refine kr_keep (lv' := [(0, .ref m), (1, .int l1)]) [0, 1] rfl ?_
    exact xw_readTest_J141 hX hr hm h
def x_readTest_J77 (n : Nat) (m : Nat) (l1 : Int32) (s1 : Int32) (s2 : Int32) (μ : kt_M) : Option (Unit × kt_M) := kq_ck (kq_in s1 321) (kq_lt (kt_si μ (m + 2) (Int32.toNatClampNeg s1) s2) (fun μ_77 => kq_b2 (x_reads n m μ_77) (fun r_79 μ_79 => (if (kt_i μ_79 m 11) = 0 then (if (kt_i μ_79 m 9) = (1 : Int32) then x_readTest_J102 n m l1 (1 : Int32) μ_79 else x_readTest_J102 n m l1 (0 : Int32) μ_79) else x_readTest_J102 n m l1 (0 : Int32) μ_79))))
set_option maxHeartbeats 4000000 in
set_option maxRecDepth 100000 in
theorem xw_readTest_J77 {G : kt_G} {σ : kt_Y} {X : kt_X} (hX : kt_ok G X RX10 cX10_readTest 3 3 0 0) (hr : kt_rt X = none) {m : Nat} (hm : kt_md σ m) {n : Nat} {q : (Unit × kt_M)} {l1 : Int32} {s1 : Int32} {s2 : Int32} {μ : kt_M} (h : x_readTest_J77 n m l1 s1 s2 μ = some q) : kt_W G X 3 77 [(0, .ref m), (1, .int l1)] [.int s2, .int s1, .ref (m + 2)] σ μ 0 0 (kt_Z G X (kt_q σ (fun rv μ2 => rv = none ∧ μ2 = q.2)) 0 0) := by
  unfold x_readTest_J77 at h
  obtain ⟨i_77, h⟩ := kq_ck_e h
  refine kr_iast hX dX10_readTest_77 (md_a2 hm) (vp_in_iff.mpr i_77) ?_
  refine kr_ltM h (fun μ_77 h => ?_)
  refine kr_aload_n (i := 0) hX dX10_readTest_78 rfl rfl ?_
  obtain ⟨r_79, μ_79, e_79, h⟩ := kq_b2_e h
  refine kr_dV (c1 := 10) [] hX km_10_125 dX10_readTest_79 (xs_reads hm e_79) rfl rfl ⟨_, _, rfl⟩ (by decide) (Nat.le_of_ble_eq_true rfl) (Nat.le_refl _) (Nat.le_refl _) (md_k hm) ?_
  refine kr_aload_n (i := 0) hX dX10_readTest_82 rfl rfl ?_
  refine kr_geti (c0 := 10) (k := 11) hX ⟨_, kf_10_87⟩ dX10_readTest_83 rfl (md_k hm) ?_
  refine kr_if_ne (tgt := 101) hX dX10_readTest_86 (by decide) (fun c_86 => ?_) (fun c_86 => ?_)
  · replace h := kq_f c_86 h
    refine kr_iconst (v := 0) hX dX10_readTest_101 (by decide) ?_
    refine kr_keep (lv' := [(0, .ref m), (1, .int l1)]) [0, 1] rfl ?_
    exact xw_readTest_J102 hX hr hm h
  · replace h := kq_t c_86 h
    refine kr_aload_n (i := 0) hX dX10_readTest_89 rfl rfl ?_
    refine kr_geti (c0 := 10) (k := 9) hX ⟨_, kf_10_96⟩ dX10_readTest_90 rfl (md_k hm) ?_
    refine kr_iconst (v := 1) hX dX10_readTest_93 (by decide) ?_
    refine kr_icmp_ne (tgt := 101) hX dX10_readTest_94 (by decide) (fun c_94 => ?_) (fun c_94 => ?_)
    · replace h := kq_f c_94 h
      refine kr_iconst (v := 0) hX dX10_readTest_101 (by decide) ?_
      refine kr_keep (lv' := [(0, .ref m), (1, .int l1)]) [0, 1] rfl ?_
      exact xw_readTest_J102 hX hr hm h
    · replace h := kq_t c_94 h
      refine kr_iconst (v := 1) hX dX10_readTest_97 (by decide) ?_
      refine kr_goto (tgt := 102) hX dX10_readTest_98 (by decide) ?_
      refine kr_keep (lv' := [(0, .ref m), (1, .int l1)]) [0, 1] rfl ?_
      exact xw_readTest_J102 hX hr hm h
def x_readTest_J48 (n : Nat) (m : Nat) (l1 : Int32) (μ : kt_M) : Option (Unit × kt_M) := (if (kt_i μ m 11) = 0 then kq_b2 (x_isSign n m μ (60 : Int32)) (fun r_66 μ_66 => (if r_66 = 0 then x_readTest_J77 n m l1 (l1 + (13 : Int32)) (3 : Int32) μ_66 else x_readTest_J77 n m l1 (l1 + (13 : Int32)) (2 : Int32) μ_66)) else x_readTest_J77 n m l1 (l1 + (13 : Int32)) (3 : Int32) μ)
set_option maxHeartbeats 4000000 in
set_option maxRecDepth 100000 in
theorem xw_readTest_J48 {G : kt_G} {σ : kt_Y} {X : kt_X} (hX : kt_ok G X RX10 cX10_readTest 3 3 0 0) (hr : kt_rt X = none) {m : Nat} (hm : kt_md σ m) {n : Nat} {q : (Unit × kt_M)} {l1 : Int32} {μ : kt_M} (h : x_readTest_J48 n m l1 μ = some q) : kt_W G X 3 48 [(0, .ref m), (1, .int l1)] [] σ μ 0 0 (kt_Z G X (kt_q σ (fun rv μ2 => rv = none ∧ μ2 = q.2)) 0 0) := by
  unfold x_readTest_J48 at h
  refine kr_aload_n (i := 0) hX dX10_readTest_48 rfl rfl ?_
  refine kr_getr (c0 := 10) (k := 1) hX ⟨_, kf_10_13⟩ dX10_readTest_49 rfl (md_k hm) (md_r1 hm) ?_
  refine kr_iload_n (i := 1) hX dX10_readTest_52 rfl rfl ?_
  refine kr_bipush (v := 13) hX dX10_readTest_53 (by decide) ?_
  refine kr_iadd hX dX10_readTest_55 ?_
  refine kr_aload_n (i := 0) hX dX10_readTest_56 rfl rfl ?_
  refine kr_geti (c0 := 10) (k := 11) hX ⟨_, kf_10_87⟩ dX10_readTest_57 rfl (md_k hm) ?_
  refine kr_if_ne (tgt := 76) hX dX10_readTest_60 (by decide) (fun c_60 => ?_) (fun c_60 => ?_)
  · replace h := kq_f c_60 h
    refine kr_iconst (v := 3) hX dX10_readTest_76 (by decide) ?_
    refine kr_keep (lv' := [(0, .ref m), (1, .int l1)]) [0, 1] rfl ?_
    exact xw_readTest_J77 hX hr hm h
  · replace h := kq_t c_60 h
    refine kr_aload_n (i := 0) hX dX10_readTest_63 rfl rfl ?_
    refine kr_bipush (v := 60) hX dX10_readTest_64 (by decide) ?_
    obtain ⟨r_66, μ_66, e_66, h⟩ := kq_b2_e h
    refine kr_dV (c1 := 10) [_] hX km_10_141 dX10_readTest_66 (xs_isSign hm e_66) rfl rfl ⟨_, _, rfl⟩ (by decide) (Nat.le_of_ble_eq_true rfl) (Nat.le_refl _) (Nat.le_refl _) (md_k hm) ?_
    refine kr_if_eq (tgt := 76) hX dX10_readTest_69 (by decide) (fun c_69 => ?_) (fun c_69 => ?_)
    · replace h := kq_t c_69 h
      refine kr_iconst (v := 3) hX dX10_readTest_76 (by decide) ?_
      refine kr_keep (lv' := [(0, .ref m), (1, .int l1)]) [0, 1] rfl ?_
      exact xw_readTest_J77 hX hr hm h
    · replace h := kq_f c_69 h
      refine kr_iconst (v := 2) hX dX10_readTest_72 (by decide) ?_
      refine kr_goto (tgt := 77) hX dX10_readTest_73 (by decide) ?_
      refine kr_keep (lv' := [(0, .ref m), (1, .int l1)]) [0, 1] rfl ?_
      exact xw_readTest_J77 hX hr hm h
def x_readTest_J44 (n : Nat) (m : Nat) (l1 : Int32) (s1 : Int32) (μ : kt_M) : Option (Unit × kt_M) := kq_b2 (x_requires n m μ s1 (2 : Int32)) (fun r_45 μ_45 => x_readTest_J48 n m l1 μ_45)
set_option maxHeartbeats 4000000 in
set_option maxRecDepth 100000 in
theorem xw_readTest_J44 {G : kt_G} {σ : kt_Y} {X : kt_X} (hX : kt_ok G X RX10 cX10_readTest 3 3 0 0) (hr : kt_rt X = none) {m : Nat} (hm : kt_md σ m) {n : Nat} {q : (Unit × kt_M)} {l1 : Int32} {s1 : Int32} {μ : kt_M} (h : x_readTest_J44 n m l1 s1 μ = some q) : kt_W G X 3 44 [(0, .ref m), (1, .int l1)] [.int s1, .ref m] σ μ 0 0 (kt_Z G X (kt_q σ (fun rv μ2 => rv = none ∧ μ2 = q.2)) 0 0) := by
  unfold x_readTest_J44 at h
  refine kr_iconst (v := 2) hX dX10_readTest_44 (by decide) ?_
  obtain ⟨r_45, μ_45, e_45, h⟩ := kq_b2_e h
  refine kr_dV (c1 := 10) [_, _] hX km_10_121 dX10_readTest_45 (xs_requires hm e_45) rfl rfl ⟨_, _, rfl⟩ (by decide) (Nat.le_of_ble_eq_true rfl) (Nat.le_refl _) (Nat.le_refl _) (md_k hm) ?_
  refine kr_keep (lv' := [(0, .ref m), (1, .int l1)]) [0, 1] rfl ?_
  exact xw_readTest_J48 hX hr hm h
def x_readTest (n : Nat) (m : Nat) (μ : kt_M) (a0 : Int32) : Option (Unit × kt_M) := kq_b2 (x_readVariable n m μ) (fun r_9 μ_9 => kq_ck (kq_in (a0 + (16 : Int32)) 321) (kq_lt (kt_si μ_9 (m + 2) (Int32.toNatClampNeg (a0 + (16 : Int32))) r_9) (fun μ_12 => (if (kt_i μ_12 m 11) = 0 then kq_b2 (x_isSign n m μ_12 (60 : Int32)) (fun r_24 μ_24 => (if r_24 = 0 then kq_b2 (x_isSign n m μ_24 (61 : Int32)) (fun r_33 μ_33 => (if r_33 = 0 then x_readTest_J44 n m a0 (0 : Int32) μ_33 else x_readTest_J44 n m a0 (1 : Int32) μ_33)) else x_readTest_J44 n m a0 (1 : Int32) μ_24)) else x_readTest_J48 n m a0 μ_12))))
set_option maxHeartbeats 4000000 in
set_option maxRecDepth 100000 in
theorem xs_readTest {G : kt_G} {σ : kt_Y} {μ : kt_M} {m : Nat} (hm : kt_md σ m) {n : Nat} {a0 : Int32} {r : Unit} {μ1 : kt_M} (h : x_readTest n m μ a0 = some (r, μ1)) : kt_F G yX10_readTest cX10_readTest 3 none 3 [.ref m, .int a0] σ μ (fun rv μ2 => rv = none ∧ μ2 = μ1) := by
  have key : ∀ q : (Unit × kt_M), x_readTest n m μ a0 = some q → kt_F G yX10_readTest cX10_readTest 3 none 3 [.ref m, .int a0] σ μ (fun rv μ2 => rv = none ∧ μ2 = q.2) := by
    intro q h
    unfold x_readTest at h
    refine kt_F.of (by decide) (Nat.le_of_ble_eq_true rfl) (fun X hX hr => ?_)
    refine kr_aload_n (i := 0) hX dX10_readTest_0 rfl rfl ?_
    refine kr_getr (c0 := 10) (k := 1) hX ⟨_, kf_10_13⟩ dX10_readTest_1 rfl (md_k hm) (md_r1 hm) ?_
    refine kr_iload_n (i := 1) hX dX10_readTest_4 rfl rfl ?_
    refine kr_bipush (v := 16) hX dX10_readTest_5 (by decide) ?_
    refine kr_iadd hX dX10_readTest_7 ?_
    refine kr_aload_n (i := 0) hX dX10_readTest_8 rfl rfl ?_
    obtain ⟨r_9, μ_9, e_9, h⟩ := kq_b2_e h
    refine kr_dV (c1 := 10) [] hX km_10_134 dX10_readTest_9 (xs_readVariable hm e_9) rfl rfl ⟨_, _, rfl⟩ (by decide) (Nat.le_of_ble_eq_true rfl) (Nat.le_refl _) (Nat.le_refl _) (md_k hm) ?_
    obtain ⟨i_12, h⟩ := kq_ck_e h
    refine kr_iast hX dX10_readTest_12 (md_a2 hm) (vp_in_iff.mpr i_12) ?_
    refine kr_ltM h (fun μ_12 h => ?_)
    refine kr_aload_n (i := 0) hX dX10_readTest_13 rfl rfl ?_
    refine kr_geti (c0 := 10) (k := 11) hX ⟨_, kf_10_87⟩ dX10_readTest_14 rfl (md_k hm) ?_
    refine kr_if_ne (tgt := 48) hX dX10_readTest_17 (by decide) (fun c_17 => ?_) (fun c_17 => ?_)
    · replace h := kq_f c_17 h
      refine kr_keep (lv' := [(0, .ref m), (1, .int a0)]) [0, 1] rfl ?_
      exact xw_readTest_J48 hX hr hm h
    · replace h := kq_t c_17 h
      refine kr_aload_n (i := 0) hX dX10_readTest_20 rfl rfl ?_
      refine kr_aload_n (i := 0) hX dX10_readTest_21 rfl rfl ?_
      refine kr_bipush (v := 60) hX dX10_readTest_22 (by decide) ?_
      obtain ⟨r_24, μ_24, e_24, h⟩ := kq_b2_e h
      refine kr_dV (c1 := 10) [_] hX km_10_141 dX10_readTest_24 (xs_isSign hm e_24) rfl rfl ⟨_, _, rfl⟩ (by decide) (Nat.le_of_ble_eq_true rfl) (Nat.le_refl _) (Nat.le_refl _) (md_k hm) ?_
      refine kr_if_ne (tgt := 39) hX dX10_readTest_27 (by decide) (fun c_27 => ?_) (fun c_27 => ?_)
      · replace h := kq_f c_27 h
        refine kr_iconst (v := 1) hX dX10_readTest_39 (by decide) ?_
        refine kr_goto (tgt := 44) hX dX10_readTest_40 (by decide) ?_
        refine kr_keep (lv' := [(0, .ref m), (1, .int a0)]) [0, 1] rfl ?_
        exact xw_readTest_J44 hX hr hm h
      · replace h := kq_t c_27 h
        refine kr_aload_n (i := 0) hX dX10_readTest_30 rfl rfl ?_
        refine kr_bipush (v := 61) hX dX10_readTest_31 (by decide) ?_
        obtain ⟨r_33, μ_33, e_33, h⟩ := kq_b2_e h
        refine kr_dV (c1 := 10) [_] hX km_10_141 dX10_readTest_33 (xs_isSign hm e_33) rfl rfl ⟨_, _, rfl⟩ (by decide) (Nat.le_of_ble_eq_true rfl) (Nat.le_refl _) (Nat.le_refl _) (md_k hm) ?_
        refine kr_if_eq (tgt := 43) hX dX10_readTest_36 (by decide) (fun c_36 => ?_) (fun c_36 => ?_)
        · replace h := kq_t c_36 h
          refine kr_iconst (v := 0) hX dX10_readTest_43 (by decide) ?_
          refine kr_keep (lv' := [(0, .ref m), (1, .int a0)]) [0, 1] rfl ?_
          exact xw_readTest_J44 hX hr hm h
        · replace h := kq_f c_36 h
          refine kr_iconst (v := 1) hX dX10_readTest_39 (by decide) ?_
          refine kr_goto (tgt := 44) hX dX10_readTest_40 (by decide) ?_
          refine kr_keep (lv' := [(0, .ref m), (1, .int a0)]) [0, 1] rfl ?_
          exact xw_readTest_J44 hX hr hm h
  exact key (r, μ1) h
def x_noTest (n : Nat) (m : Nat) (μ : kt_M) (a0 : Nat) (n0 : Nat) (a1 : Int32) : Option (Unit × kt_M) := kq_ck (kq_in (a1 + (14 : Int32)) n0) (kq_lt (kt_si μ a0 (Int32.toNatClampNeg (a1 + (14 : Int32))) ((-4) : Int32)) (fun μ_7 => kq_ck (kq_in ((a1 + (14 : Int32)) + (1 : Int32)) n0) (kq_lt (kt_si μ_7 a0 (Int32.toNatClampNeg ((a1 + (14 : Int32)) + (1 : Int32))) ((-4) : Int32)) (fun μ_17 => kq_ck (kq_in (a1 + (16 : Int32)) n0) (kq_lt (kt_si μ_17 a0 (Int32.toNatClampNeg (a1 + (16 : Int32))) ((-4) : Int32)) (fun μ_25 => kq_ck (kq_in (a1 + (17 : Int32)) n0) (kq_lt (kt_si μ_25 a0 (Int32.toNatClampNeg (a1 + (17 : Int32))) ((-4) : Int32)) (fun μ_33 => kq_ck (kq_in (a1 + (18 : Int32)) n0) (kq_lt (kt_si μ_33 a0 (Int32.toNatClampNeg (a1 + (18 : Int32))) ((-4) : Int32)) (fun μ_41 => some ((), μ_41)))))))))))
set_option maxHeartbeats 4000000 in
set_option maxRecDepth 100000 in
theorem xs_noTest {G : kt_G} {σ : kt_Y} {μ : kt_M} {m : Nat} (hm : kt_md σ m) {n : Nat} {a0 : Nat} {n0 : Nat} {a1 : Int32} (hk0 : kt_k σ a0 = some (1, n0)) {r : Unit} {μ1 : kt_M} (h : x_noTest n m μ a0 n0 a1 = some (r, μ1)) : kt_F G yX10_noTest cX10_noTest 3 none 0 [.ref m, .ref a0, .int a1] σ μ (fun rv μ2 => rv = none ∧ μ2 = μ1) := by
  have key : ∀ q : (Unit × kt_M), x_noTest n m μ a0 n0 a1 = some q → kt_F G yX10_noTest cX10_noTest 3 none 0 [.ref m, .ref a0, .int a1] σ μ (fun rv μ2 => rv = none ∧ μ2 = q.2) := by
    intro q h
    unfold x_noTest at h
    refine kt_F.of (by decide) (Nat.le_of_ble_eq_true rfl) (fun X hX hr => ?_)
    refine kr_aload_n (i := 1) hX dX10_noTest_0 rfl rfl ?_
    refine kr_iload_n (i := 2) hX dX10_noTest_1 rfl rfl ?_
    refine kr_bipush (v := 14) hX dX10_noTest_2 (by decide) ?_
    refine kr_iadd hX dX10_noTest_4 ?_
    refine kr_bipush (v := (-4)) hX dX10_noTest_5 (by decide) ?_
    obtain ⟨i_7, h⟩ := kq_ck_e h
    refine kr_iast hX dX10_noTest_7 hk0 (vp_in_iff.mpr i_7) ?_
    refine kr_ltM h (fun μ_7 h => ?_)
    refine kr_aload_n (i := 1) hX dX10_noTest_8 rfl rfl ?_
    refine kr_iload_n (i := 2) hX dX10_noTest_9 rfl rfl ?_
    refine kr_bipush (v := 14) hX dX10_noTest_10 (by decide) ?_
    refine kr_iadd hX dX10_noTest_12 ?_
    refine kr_iconst (v := 1) hX dX10_noTest_13 (by decide) ?_
    refine kr_iadd hX dX10_noTest_14 ?_
    refine kr_bipush (v := (-4)) hX dX10_noTest_15 (by decide) ?_
    obtain ⟨i_17, h⟩ := kq_ck_e h
    refine kr_iast hX dX10_noTest_17 hk0 (vp_in_iff.mpr i_17) ?_
    refine kr_ltM h (fun μ_17 h => ?_)
    refine kr_aload_n (i := 1) hX dX10_noTest_18 rfl rfl ?_
    refine kr_iload_n (i := 2) hX dX10_noTest_19 rfl rfl ?_
    refine kr_bipush (v := 16) hX dX10_noTest_20 (by decide) ?_
    refine kr_iadd hX dX10_noTest_22 ?_
    refine kr_bipush (v := (-4)) hX dX10_noTest_23 (by decide) ?_
    obtain ⟨i_25, h⟩ := kq_ck_e h
    refine kr_iast hX dX10_noTest_25 hk0 (vp_in_iff.mpr i_25) ?_
    refine kr_ltM h (fun μ_25 h => ?_)
    refine kr_aload_n (i := 1) hX dX10_noTest_26 rfl rfl ?_
    refine kr_iload_n (i := 2) hX dX10_noTest_27 rfl rfl ?_
    refine kr_bipush (v := 17) hX dX10_noTest_28 (by decide) ?_
    refine kr_iadd hX dX10_noTest_30 ?_
    refine kr_bipush (v := (-4)) hX dX10_noTest_31 (by decide) ?_
    obtain ⟨i_33, h⟩ := kq_ck_e h
    refine kr_iast hX dX10_noTest_33 hk0 (vp_in_iff.mpr i_33) ?_
    refine kr_ltM h (fun μ_33 h => ?_)
    refine kr_aload_n (i := 1) hX dX10_noTest_34 rfl rfl ?_
    refine kr_iload_n (i := 2) hX dX10_noTest_35 rfl rfl ?_
    refine kr_bipush (v := 18) hX dX10_noTest_36 (by decide) ?_
    refine kr_iadd hX dX10_noTest_38 ?_
    refine kr_bipush (v := (-4)) hX dX10_noTest_39 (by decide) ?_
    obtain ⟨i_41, h⟩ := kq_ck_e h
    refine kr_iast hX dX10_noTest_41 hk0 (vp_in_iff.mpr i_41) ?_
    refine kr_ltM h (fun μ_41 h => ?_)
    refine kr_vret hX hr dX10_noTest_42 ⟨rfl, ?_⟩
    exact kq_rV h
  exact key (r, μ1) h
def x_readBlock_J152 (n : Nat) (m : Nat) (K97 : Int32 → Int32 → kt_M → Option (Unit × kt_M)) (l2 : Int32) (μ : kt_M) : Option (Unit × kt_M) := (if (kt_i μ m 11) = 0 then kq_b2 (x_nameNow n m μ) (fun r_160 μ_160 => K97 l2 r_160 μ_160) else K97 l2 ((-4) : Int32) μ)
set_option maxHeartbeats 4000000 in
set_option maxRecDepth 100000 in
theorem xw_readBlock_J152 {G : kt_G} {σ : kt_Y} {X : kt_X} (hX : kt_ok G X RX10 cX10_readBlock 4 4 0 0) (hr : kt_rt X = none) {m : Nat} (hm : kt_md σ m) {n : Nat} {q : (Unit × kt_M)} {K97 : Int32 → Int32 → kt_M → Option (Unit × kt_M)} (hK97 : ∀ (l2 : Int32) (l3 : Int32) (μ : kt_M), K97 l2 l3 μ = some q → kt_W G X 4 97 [(0, .ref m), (2, .int l2), (3, .int l3)] [] σ μ 0 0 (kt_Z G X (kt_q σ (fun rv μ2 => rv = none ∧ μ2 = q.2)) 0 0)) {l2 : Int32} {μ : kt_M} (h : x_readBlock_J152 n m K97 l2 μ = some q) : kt_W G X 4 152 [(0, .ref m), (2, .int l2)] [] σ μ 0 0 (kt_Z G X (kt_q σ (fun rv μ2 => rv = none ∧ μ2 = q.2)) 0 0) := by
  unfold x_readBlock_J152 at h
  refine kr_aload_n (i := 0) hX dX10_readBlock_152 rfl rfl ?_
  refine kr_geti (c0 := 10) (k := 11) hX ⟨_, kf_10_87⟩ dX10_readBlock_153 rfl (md_k hm) ?_
  refine kr_if_ne (tgt := 166) hX dX10_readBlock_156 (by decide) (fun c_156 => ?_) (fun c_156 => ?_)
  · replace h := kq_f c_156 h
    refine kr_bipush (v := (-4)) hX dX10_readBlock_166 (by decide) ?_
    refine kr_istore_n (i := 3) hX dX10_readBlock_168 rfl (by decide) rfl rfl ?_
    refine kr_goto (tgt := 97) hX dX10_readBlock_169 (by decide) ?_
    refine kr_keep (lv' := [(0, .ref m), (2, .int l2), (3, .int ((-4) : Int32))]) [0, 1, 2] rfl ?_
    exact hK97 _ _ _ h
  · replace h := kq_t c_156 h
    refine kr_aload_n (i := 0) hX dX10_readBlock_159 rfl rfl ?_
    obtain ⟨r_160, μ_160, e_160, h⟩ := kq_b2_e h
    refine kr_dV (c1 := 10) [] hX km_10_153 dX10_readBlock_160 (xs_nameNow hm e_160) rfl rfl ⟨_, _, rfl⟩ (by decide) (Nat.le_of_ble_eq_true rfl) (Nat.le_refl _) (Nat.le_refl _) (md_k hm) ?_
    refine kr_goto (tgt := 168) hX dX10_readBlock_163 (by decide) ?_
    refine kr_istore_n (i := 3) hX dX10_readBlock_168 rfl (by decide) rfl rfl ?_
    refine kr_goto (tgt := 97) hX dX10_readBlock_169 (by decide) ?_
    refine kr_keep (lv' := [(0, .ref m), (2, .int l2), (3, .int r_160)]) [0, 1, 2] rfl ?_
    exact hK97 _ _ _ h
def x_readBlock_J131 (n : Nat) (m : Nat) (K97 : Int32 → Int32 → kt_M → Option (Unit × kt_M)) (l2 : Int32) (l3 : Int32) (s1 : Int32) (μ : kt_M) : Option (Unit × kt_M) := kq_b2 (x_requires n m μ s1 (5 : Int32)) (fun r_132 μ_132 => kq_b2 (x_reads n m μ_132) (fun r_136 μ_136 => (if (kt_i μ_136 m 11) = 0 then kq_b2 (x_readAct n m μ_136 l3 l2) (fun r_149 μ_149 => x_readBlock_J152 n m K97 l2 μ_149) else x_readBlock_J152 n m K97 l2 μ_136)))
set_option maxHeartbeats 4000000 in
set_option maxRecDepth 100000 in
theorem xw_readBlock_J131 {G : kt_G} {σ : kt_Y} {X : kt_X} (hX : kt_ok G X RX10 cX10_readBlock 4 4 0 0) (hr : kt_rt X = none) {m : Nat} (hm : kt_md σ m) {n : Nat} {q : (Unit × kt_M)} {K97 : Int32 → Int32 → kt_M → Option (Unit × kt_M)} (hK97 : ∀ (l2 : Int32) (l3 : Int32) (μ : kt_M), K97 l2 l3 μ = some q → kt_W G X 4 97 [(0, .ref m), (2, .int l2), (3, .int l3)] [] σ μ 0 0 (kt_Z G X (kt_q σ (fun rv μ2 => rv = none ∧ μ2 = q.2)) 0 0)) {l2 : Int32} {l3 : Int32} {s1 : Int32} {μ : kt_M} (h : x_readBlock_J131 n m K97 l2 l3 s1 μ = some q) : kt_W G X 4 131 [(0, .ref m), (2, .int l2), (3, .int l3)] [.int s1, .ref m] σ μ 0 0 (kt_Z G X (kt_q σ (fun rv μ2 => rv = none ∧ μ2 = q.2)) 0 0) := by
  unfold x_readBlock_J131 at h
  refine kr_iconst (v := 5) hX dX10_readBlock_131 (by decide) ?_
  obtain ⟨r_132, μ_132, e_132, h⟩ := kq_b2_e h
  refine kr_dV (c1 := 10) [_, _] hX km_10_121 dX10_readBlock_132 (xs_requires hm e_132) rfl rfl ⟨_, _, rfl⟩ (by decide) (Nat.le_of_ble_eq_true rfl) (Nat.le_refl _) (Nat.le_refl _) (md_k hm) ?_
  refine kr_aload_n (i := 0) hX dX10_readBlock_135 rfl rfl ?_
  obtain ⟨r_136, μ_136, e_136, h⟩ := kq_b2_e h
  refine kr_dV (c1 := 10) [] hX km_10_125 dX10_readBlock_136 (xs_reads hm e_136) rfl rfl ⟨_, _, rfl⟩ (by decide) (Nat.le_of_ble_eq_true rfl) (Nat.le_refl _) (Nat.le_refl _) (md_k hm) ?_
  refine kr_aload_n (i := 0) hX dX10_readBlock_139 rfl rfl ?_
  refine kr_geti (c0 := 10) (k := 11) hX ⟨_, kf_10_87⟩ dX10_readBlock_140 rfl (md_k hm) ?_
  refine kr_if_ne (tgt := 152) hX dX10_readBlock_143 (by decide) (fun c_143 => ?_) (fun c_143 => ?_)
  · replace h := kq_f c_143 h
    refine kr_keep (lv' := [(0, .ref m), (2, .int l2)]) [0, 1] rfl ?_
    exact xw_readBlock_J152 hX hr hm hK97 h
  · replace h := kq_t c_143 h
    refine kr_aload_n (i := 0) hX dX10_readBlock_146 rfl rfl ?_
    refine kr_iload_n (i := 3) hX dX10_readBlock_147 rfl rfl ?_
    refine kr_iload_n (i := 2) hX dX10_readBlock_148 rfl rfl ?_
    obtain ⟨r_149, μ_149, e_149, h⟩ := kq_b2_e h
    refine kr_dV (c1 := 10) [_, _] hX km_10_156 dX10_readBlock_149 (xs_readAct hm e_149) rfl rfl ⟨_, _, rfl⟩ (by decide) (Nat.le_of_ble_eq_true rfl) (Nat.le_refl _) (Nat.le_refl _) (md_k hm) ?_
    refine kr_keep (lv' := [(0, .ref m), (2, .int l2)]) [0, 1] rfl ?_
    exact xw_readBlock_J152 hX hr hm hK97 h
def x_readBlock_J285 (n : Nat) (m : Nat) (μ : kt_M) : Option (Unit × kt_M) := kq_b2 (x_reads n m μ) (fun r_286 μ_286 => kq_lt (kt_si μ_286 (m + 2) (Int32.toNatClampNeg (0 : Int32)) ((kt_i μ_286 (m + 2) (Int32.toNatClampNeg (0 : Int32))) + (1 : Int32))) (fun μ_298 => some ((), μ_298)))
set_option maxHeartbeats 4000000 in
set_option maxRecDepth 100000 in
theorem xw_readBlock_J285 {G : kt_G} {σ : kt_Y} {X : kt_X} (hX : kt_ok G X RX10 cX10_readBlock 4 4 0 0) (hr : kt_rt X = none) {m : Nat} (hm : kt_md σ m) {n : Nat} {q : (Unit × kt_M)} {μ : kt_M} (h : x_readBlock_J285 n m μ = some q) : kt_W G X 4 285 [(0, .ref m)] [] σ μ 0 0 (kt_Z G X (kt_q σ (fun rv μ2 => rv = none ∧ μ2 = q.2)) 0 0) := by
  unfold x_readBlock_J285 at h
  refine kr_aload_n (i := 0) hX dX10_readBlock_285 rfl rfl ?_
  obtain ⟨r_286, μ_286, e_286, h⟩ := kq_b2_e h
  refine kr_dV (c1 := 10) [] hX km_10_125 dX10_readBlock_286 (xs_reads hm e_286) rfl rfl ⟨_, _, rfl⟩ (by decide) (Nat.le_of_ble_eq_true rfl) (Nat.le_refl _) (Nat.le_refl _) (md_k hm) ?_
  refine kr_aload_n (i := 0) hX dX10_readBlock_289 rfl rfl ?_
  refine kr_getr (c0 := 10) (k := 1) hX ⟨_, kf_10_13⟩ dX10_readBlock_290 rfl (md_k hm) (md_r1 hm) ?_
  refine kr_iconst (v := 0) hX dX10_readBlock_293 (by decide) ?_
  refine kr_dup2_11 hX dX10_readBlock_294 rfl rfl ?_
  refine kr_iald hX dX10_readBlock_295 (md_a2 hm) (vp_in_iff.mpr (by decide)) ?_
  refine kr_iconst (v := 1) hX dX10_readBlock_296 (by decide) ?_
  refine kr_iadd hX dX10_readBlock_297 ?_
  refine kr_iast hX dX10_readBlock_298 (md_a2 hm) (vp_in_iff.mpr (by decide)) ?_
  refine kr_ltM h (fun μ_298 h => ?_)
  refine kr_vret hX hr dX10_readBlock_299 ⟨rfl, ?_⟩
  exact kq_rV h
def x_readBlock_J267 (n : Nat) (m : Nat) (μ : kt_M) : Option (Unit × kt_M) := (if (kt_i μ m 11) = 0 then kq_b2 (x_isSign n m μ (59 : Int32)) (fun r_278 μ_278 => kq_b2 (x_requires n m μ_278 r_278 (2 : Int32)) (fun r_282 μ_282 => x_readBlock_J285 n m μ_282)) else x_readBlock_J285 n m μ)
set_option maxHeartbeats 4000000 in
set_option maxRecDepth 100000 in
theorem xw_readBlock_J267 {G : kt_G} {σ : kt_Y} {X : kt_X} (hX : kt_ok G X RX10 cX10_readBlock 4 4 0 0) (hr : kt_rt X = none) {m : Nat} (hm : kt_md σ m) {n : Nat} {q : (Unit × kt_M)} {μ : kt_M} (h : x_readBlock_J267 n m μ = some q) : kt_W G X 4 267 [(0, .ref m)] [] σ μ 0 0 (kt_Z G X (kt_q σ (fun rv μ2 => rv = none ∧ μ2 = q.2)) 0 0) := by
  unfold x_readBlock_J267 at h
  refine kr_aload_n (i := 0) hX dX10_readBlock_267 rfl rfl ?_
  refine kr_geti (c0 := 10) (k := 11) hX ⟨_, kf_10_87⟩ dX10_readBlock_268 rfl (md_k hm) ?_
  refine kr_if_ne (tgt := 285) hX dX10_readBlock_271 (by decide) (fun c_271 => ?_) (fun c_271 => ?_)
  · replace h := kq_f c_271 h
    refine kr_keep (lv' := [(0, .ref m)]) [0] rfl ?_
    exact xw_readBlock_J285 hX hr hm h
  · replace h := kq_t c_271 h
    refine kr_aload_n (i := 0) hX dX10_readBlock_274 rfl rfl ?_
    refine kr_aload_n (i := 0) hX dX10_readBlock_275 rfl rfl ?_
    refine kr_bipush (v := 59) hX dX10_readBlock_276 (by decide) ?_
    obtain ⟨r_278, μ_278, e_278, h⟩ := kq_b2_e h
    refine kr_dV (c1 := 10) [_] hX km_10_141 dX10_readBlock_278 (xs_isSign hm e_278) rfl rfl ⟨_, _, rfl⟩ (by decide) (Nat.le_of_ble_eq_true rfl) (Nat.le_refl _) (Nat.le_refl _) (md_k hm) ?_
    refine kr_iconst (v := 2) hX dX10_readBlock_281 (by decide) ?_
    obtain ⟨r_282, μ_282, e_282, h⟩ := kq_b2_e h
    refine kr_dV (c1 := 10) [_, _] hX km_10_121 dX10_readBlock_282 (xs_requires hm e_282) rfl rfl ⟨_, _, rfl⟩ (by decide) (Nat.le_of_ble_eq_true rfl) (Nat.le_refl _) (Nat.le_refl _) (md_k hm) ?_
    refine kr_keep (lv' := [(0, .ref m)]) [0] rfl ?_
    exact xw_readBlock_J285 hX hr hm h
def x_readBlock_J266 (n : Nat) (m : Nat) (s1 : Int32) (s2 : Int32) (μ : kt_M) : Option (Unit × kt_M) := kq_ck (kq_in s1 321) (kq_lt (kt_si μ (m + 2) (Int32.toNatClampNeg s1) s2) (fun μ_266 => x_readBlock_J267 n m μ_266))
set_option maxHeartbeats 4000000 in
set_option maxRecDepth 100000 in
theorem xw_readBlock_J266 {G : kt_G} {σ : kt_Y} {X : kt_X} (hX : kt_ok G X RX10 cX10_readBlock 4 4 0 0) (hr : kt_rt X = none) {m : Nat} (hm : kt_md σ m) {n : Nat} {q : (Unit × kt_M)} {s1 : Int32} {s2 : Int32} {μ : kt_M} (h : x_readBlock_J266 n m s1 s2 μ = some q) : kt_W G X 4 266 [(0, .ref m)] [.int s2, .int s1, .ref (m + 2)] σ μ 0 0 (kt_Z G X (kt_q σ (fun rv μ2 => rv = none ∧ μ2 = q.2)) 0 0) := by
  unfold x_readBlock_J266 at h
  obtain ⟨i_266, h⟩ := kq_ck_e h
  refine kr_iast hX dX10_readBlock_266 (md_a2 hm) (vp_in_iff.mpr i_266) ?_
  refine kr_ltM h (fun μ_266 h => ?_)
  refine kr_keep (lv' := [(0, .ref m)]) [0] rfl ?_
  exact xw_readBlock_J267 hX hr hm h
def x_readBlock_J240 (n : Nat) (m : Nat) (l2 : Int32) (l3 : Int32) (s1 : Int32) (s2 : Int32) (μ : kt_M) : Option (Unit × kt_M) := kq_ck (kq_in s1 321) (kq_lt (kt_si μ (m + 2) (Int32.toNatClampNeg s1) s2) (fun μ_240 => (if l3 = (7 : Int32) then kq_b2 (x_readNumber n m μ_240 (7 : Int32)) (fun r_258 μ_258 => x_readBlock_J266 n m (l2 + (14 : Int32)) r_258 μ_258) else x_readBlock_J266 n m (l2 + (14 : Int32)) ((-4) : Int32) μ_240)))
set_option maxHeartbeats 4000000 in
set_option maxRecDepth 100000 in
theorem xw_readBlock_J240 {G : kt_G} {σ : kt_Y} {X : kt_X} (hX : kt_ok G X RX10 cX10_readBlock 4 4 0 0) (hr : kt_rt X = none) {m : Nat} (hm : kt_md σ m) {n : Nat} {q : (Unit × kt_M)} {l2 : Int32} {l3 : Int32} {s1 : Int32} {s2 : Int32} {μ : kt_M} (h : x_readBlock_J240 n m l2 l3 s1 s2 μ = some q) : kt_W G X 4 240 [(0, .ref m), (2, .int l2), (3, .int l3)] [.int s2, .int s1, .ref (m + 2)] σ μ 0 0 (kt_Z G X (kt_q σ (fun rv μ2 => rv = none ∧ μ2 = q.2)) 0 0) := by
  unfold x_readBlock_J240 at h
  obtain ⟨i_240, h⟩ := kq_ck_e h
  refine kr_iast hX dX10_readBlock_240 (md_a2 hm) (vp_in_iff.mpr i_240) ?_
  refine kr_ltM h (fun μ_240 h => ?_)
  refine kr_aload_n (i := 0) hX dX10_readBlock_241 rfl rfl ?_
  refine kr_getr (c0 := 10) (k := 1) hX ⟨_, kf_10_13⟩ dX10_readBlock_242 rfl (md_k hm) (md_r1 hm) ?_
  refine kr_iload_n (i := 2) hX dX10_readBlock_245 rfl rfl ?_
  refine kr_bipush (v := 14) hX dX10_readBlock_246 (by decide) ?_
  refine kr_iadd hX dX10_readBlock_248 ?_
  refine kr_iload_n (i := 3) hX dX10_readBlock_249 rfl rfl ?_
  refine kr_bipush (v := 7) hX dX10_readBlock_250 (by decide) ?_
  refine kr_icmp_ne (tgt := 264) hX dX10_readBlock_252 (by decide) (fun c_252 => ?_) (fun c_252 => ?_)
  · replace h := kq_f c_252 h
    refine kr_bipush (v := (-4)) hX dX10_readBlock_264 (by decide) ?_
    refine kr_keep (lv' := [(0, .ref m)]) [0] rfl ?_
    exact xw_readBlock_J266 hX hr hm h
  · replace h := kq_t c_252 h
    refine kr_aload_n (i := 0) hX dX10_readBlock_255 rfl rfl ?_
    refine kr_bipush (v := 7) hX dX10_readBlock_256 (by decide) ?_
    obtain ⟨r_258, μ_258, e_258, h⟩ := kq_b2_e h
    refine kr_dV (c1 := 10) [_] hX km_10_138 dX10_readBlock_258 (xs_readNumber hm e_258) rfl rfl ⟨_, _, rfl⟩ (by decide) (Nat.le_of_ble_eq_true rfl) (Nat.le_refl _) (Nat.le_refl _) (md_k hm) ?_
    refine kr_goto (tgt := 266) hX dX10_readBlock_261 (by decide) ?_
    refine kr_keep (lv' := [(0, .ref m)]) [0] rfl ?_
    exact xw_readBlock_J266 hX hr hm h
def x_readBlock_J195 (n : Nat) (m : Nat) (l2 : Int32) (l3 : Int32) (μ : kt_M) : Option (Unit × kt_M) := kq_b2 (x_reads n m μ) (fun r_196 μ_196 => (if (kt_i μ_196 m 11) ≤ 0 then (if l3 = (8 : Int32) then kq_b2 (x_readTest n m μ_196 l2) (fun r_215 μ_215 => x_readBlock_J267 n m μ_215) else (if l3 = (7 : Int32) then x_readBlock_J240 n m l2 l3 (l2 + (13 : Int32)) (1 : Int32) μ_196 else x_readBlock_J240 n m l2 l3 (l2 + (13 : Int32)) (0 : Int32) μ_196)) else some ((), μ_196)))
set_option maxHeartbeats 4000000 in
set_option maxRecDepth 100000 in
theorem xw_readBlock_J195 {G : kt_G} {σ : kt_Y} {X : kt_X} (hX : kt_ok G X RX10 cX10_readBlock 4 4 0 0) (hr : kt_rt X = none) {m : Nat} (hm : kt_md σ m) {n : Nat} {q : (Unit × kt_M)} {l2 : Int32} {l3 : Int32} {μ : kt_M} (h : x_readBlock_J195 n m l2 l3 μ = some q) : kt_W G X 4 195 [(0, .ref m), (2, .int l2), (3, .int l3)] [] σ μ 0 0 (kt_Z G X (kt_q σ (fun rv μ2 => rv = none ∧ μ2 = q.2)) 0 0) := by
  unfold x_readBlock_J195 at h
  refine kr_aload_n (i := 0) hX dX10_readBlock_195 rfl rfl ?_
  obtain ⟨r_196, μ_196, e_196, h⟩ := kq_b2_e h
  refine kr_dV (c1 := 10) [] hX km_10_125 dX10_readBlock_196 (xs_reads hm e_196) rfl rfl ⟨_, _, rfl⟩ (by decide) (Nat.le_of_ble_eq_true rfl) (Nat.le_refl _) (Nat.le_refl _) (md_k hm) ?_
  refine kr_aload_n (i := 0) hX dX10_readBlock_199 rfl rfl ?_
  refine kr_geti (c0 := 10) (k := 11) hX ⟨_, kf_10_87⟩ dX10_readBlock_200 rfl (md_k hm) ?_
  refine kr_if_le (tgt := 207) hX dX10_readBlock_203 (by decide) (fun c_203 => ?_) (fun c_203 => ?_)
  · replace h := kq_t c_203 h
    refine kr_iload_n (i := 3) hX dX10_readBlock_207 rfl rfl ?_
    refine kr_bipush (v := 8) hX dX10_readBlock_208 (by decide) ?_
    refine kr_icmp_ne (tgt := 221) hX dX10_readBlock_210 (by decide) (fun c_210 => ?_) (fun c_210 => ?_)
    · replace h := kq_f c_210 h
      refine kr_aload_n (i := 0) hX dX10_readBlock_221 rfl rfl ?_
      refine kr_getr (c0 := 10) (k := 1) hX ⟨_, kf_10_13⟩ dX10_readBlock_222 rfl (md_k hm) (md_r1 hm) ?_
      refine kr_iload_n (i := 2) hX dX10_readBlock_225 rfl rfl ?_
      refine kr_bipush (v := 13) hX dX10_readBlock_226 (by decide) ?_
      refine kr_iadd hX dX10_readBlock_228 ?_
      refine kr_iload_n (i := 3) hX dX10_readBlock_229 rfl rfl ?_
      refine kr_bipush (v := 7) hX dX10_readBlock_230 (by decide) ?_
      refine kr_icmp_ne (tgt := 239) hX dX10_readBlock_232 (by decide) (fun c_232 => ?_) (fun c_232 => ?_)
      · replace h := kq_f c_232 h
        refine kr_iconst (v := 0) hX dX10_readBlock_239 (by decide) ?_
        refine kr_keep (lv' := [(0, .ref m), (2, .int l2), (3, .int l3)]) [0, 1, 2] rfl ?_
        exact xw_readBlock_J240 hX hr hm h
      · replace h := kq_t c_232 h
        refine kr_iconst (v := 1) hX dX10_readBlock_235 (by decide) ?_
        refine kr_goto (tgt := 240) hX dX10_readBlock_236 (by decide) ?_
        refine kr_keep (lv' := [(0, .ref m), (2, .int l2), (3, .int l3)]) [0, 1, 2] rfl ?_
        exact xw_readBlock_J240 hX hr hm h
    · replace h := kq_t c_210 h
      refine kr_aload_n (i := 0) hX dX10_readBlock_213 rfl rfl ?_
      refine kr_iload_n (i := 2) hX dX10_readBlock_214 rfl rfl ?_
      obtain ⟨r_215, μ_215, e_215, h⟩ := kq_b2_e h
      refine kr_dV (c1 := 10) [_] hX km_10_159 dX10_readBlock_215 (xs_readTest hm e_215) rfl rfl ⟨_, _, rfl⟩ (by decide) (Nat.le_of_ble_eq_true rfl) (Nat.le_refl _) (Nat.le_refl _) (md_k hm) ?_
      refine kr_goto (tgt := 267) hX dX10_readBlock_218 (by decide) ?_
      refine kr_keep (lv' := [(0, .ref m)]) [0] rfl ?_
      exact xw_readBlock_J267 hX hr hm h
  · replace h := kq_f c_203 h
    refine kr_vret hX hr dX10_readBlock_206 ⟨rfl, ?_⟩
    exact kq_rV h
def x_readBlock_J191 (n : Nat) (m : Nat) (l2 : Int32) (l3 : Int32) (s1 : Int32) (μ : kt_M) : Option (Unit × kt_M) := kq_b2 (x_requires n m μ s1 (2 : Int32)) (fun r_192 μ_192 => x_readBlock_J195 n m l2 l3 μ_192)
set_option maxHeartbeats 4000000 in
set_option maxRecDepth 100000 in
theorem xw_readBlock_J191 {G : kt_G} {σ : kt_Y} {X : kt_X} (hX : kt_ok G X RX10 cX10_readBlock 4 4 0 0) (hr : kt_rt X = none) {m : Nat} (hm : kt_md σ m) {n : Nat} {q : (Unit × kt_M)} {l2 : Int32} {l3 : Int32} {s1 : Int32} {μ : kt_M} (h : x_readBlock_J191 n m l2 l3 s1 μ = some q) : kt_W G X 4 191 [(0, .ref m), (2, .int l2), (3, .int l3)] [.int s1, .ref m] σ μ 0 0 (kt_Z G X (kt_q σ (fun rv μ2 => rv = none ∧ μ2 = q.2)) 0 0) := by
  unfold x_readBlock_J191 at h
  refine kr_iconst (v := 2) hX dX10_readBlock_191 (by decide) ?_
  obtain ⟨r_192, μ_192, e_192, h⟩ := kq_b2_e h
  refine kr_dV (c1 := 10) [_, _] hX km_10_121 dX10_readBlock_192 (xs_requires hm e_192) rfl rfl ⟨_, _, rfl⟩ (by decide) (Nat.le_of_ble_eq_true rfl) (Nat.le_refl _) (Nat.le_refl _) (md_k hm) ?_
  refine kr_keep (lv' := [(0, .ref m), (2, .int l2), (3, .int l3)]) [0, 1, 2] rfl ?_
  exact xw_readBlock_J195 hX hr hm h
def x_readBlock_J172 (n : Nat) (m : Nat) (l2 : Int32) (l3 : Int32) (μ : kt_M) : Option (Unit × kt_M) := (if (kt_i μ m 11) = 0 then (if l3 = ((-4) : Int32) then x_readBlock_J191 n m l2 l3 (0 : Int32) μ else x_readBlock_J191 n m l2 l3 (1 : Int32) μ) else x_readBlock_J195 n m l2 l3 μ)
set_option maxHeartbeats 4000000 in
set_option maxRecDepth 100000 in
theorem xw_readBlock_J172 {G : kt_G} {σ : kt_Y} {X : kt_X} (hX : kt_ok G X RX10 cX10_readBlock 4 4 0 0) (hr : kt_rt X = none) {m : Nat} (hm : kt_md σ m) {n : Nat} {q : (Unit × kt_M)} {l2 : Int32} {l3 : Int32} {μ : kt_M} (h : x_readBlock_J172 n m l2 l3 μ = some q) : kt_W G X 4 172 [(0, .ref m), (2, .int l2), (3, .int l3)] [] σ μ 0 0 (kt_Z G X (kt_q σ (fun rv μ2 => rv = none ∧ μ2 = q.2)) 0 0) := by
  unfold x_readBlock_J172 at h
  refine kr_aload_n (i := 0) hX dX10_readBlock_172 rfl rfl ?_
  refine kr_geti (c0 := 10) (k := 11) hX ⟨_, kf_10_87⟩ dX10_readBlock_173 rfl (md_k hm) ?_
  refine kr_if_ne (tgt := 195) hX dX10_readBlock_176 (by decide) (fun c_176 => ?_) (fun c_176 => ?_)
  · replace h := kq_f c_176 h
    refine kr_keep (lv' := [(0, .ref m), (2, .int l2), (3, .int l3)]) [0, 1, 2] rfl ?_
    exact xw_readBlock_J195 hX hr hm h
  · replace h := kq_t c_176 h
    refine kr_aload_n (i := 0) hX dX10_readBlock_179 rfl rfl ?_
    refine kr_iload_n (i := 3) hX dX10_readBlock_180 rfl rfl ?_
    refine kr_bipush (v := (-4)) hX dX10_readBlock_181 (by decide) ?_
    refine kr_icmp_eq (tgt := 190) hX dX10_readBlock_183 (by decide) (fun c_183 => ?_) (fun c_183 => ?_)
    · replace h := kq_t c_183 h
      refine kr_iconst (v := 0) hX dX10_readBlock_190 (by decide) ?_
      refine kr_keep (lv' := [(0, .ref m), (2, .int l2), (3, .int l3)]) [0, 1, 2] rfl ?_
      exact xw_readBlock_J191 hX hr hm h
    · replace h := kq_f c_183 h
      refine kr_iconst (v := 1) hX dX10_readBlock_186 (by decide) ?_
      refine kr_goto (tgt := 191) hX dX10_readBlock_187 (by decide) ?_
      refine kr_keep (lv' := [(0, .ref m), (2, .int l2), (3, .int l3)]) [0, 1, 2] rfl ?_
      exact xw_readBlock_J191 hX hr hm h
def x_readBlock_B97 (n : Nat) (m : Nat) (K97 : Int32 → Int32 → kt_M → Option (Unit × kt_M)) (l2 : Int32) (l3 : Int32) (μ : kt_M) : Option (Unit × kt_M) := (if (kt_i μ m 11) = 0 then (if l3 = ((-4) : Int32) then x_readBlock_J172 n m l2 l3 μ else (if (5 : Int32) < l3 then x_readBlock_J172 n m l2 l3 μ else kq_ck (kq_in l2 321) ((if (4 : Int32) ≤ (kt_i μ (m + 2) (Int32.toNatClampNeg l2)) then x_readBlock_J131 n m K97 l2 l3 (0 : Int32) μ else x_readBlock_J131 n m K97 l2 l3 (1 : Int32) μ)))) else x_readBlock_J172 n m l2 l3 μ)
set_option maxHeartbeats 4000000 in
set_option maxRecDepth 100000 in
theorem xw_readBlock_B97 {G : kt_G} {σ : kt_Y} {X : kt_X} (hX : kt_ok G X RX10 cX10_readBlock 4 4 0 0) (hr : kt_rt X = none) {m : Nat} (hm : kt_md σ m) {n : Nat} {q : (Unit × kt_M)} {K97 : Int32 → Int32 → kt_M → Option (Unit × kt_M)} (hK97 : ∀ (l2 : Int32) (l3 : Int32) (μ : kt_M), K97 l2 l3 μ = some q → kt_W G X 4 97 [(0, .ref m), (2, .int l2), (3, .int l3)] [] σ μ 0 0 (kt_Z G X (kt_q σ (fun rv μ2 => rv = none ∧ μ2 = q.2)) 0 0)) {l2 : Int32} {l3 : Int32} {μ : kt_M} (h : x_readBlock_B97 n m K97 l2 l3 μ = some q) : kt_W G X 4 97 [(0, .ref m), (2, .int l2), (3, .int l3)] [] σ μ 0 0 (kt_Z G X (kt_q σ (fun rv μ2 => rv = none ∧ μ2 = q.2)) 0 0) := by
  unfold x_readBlock_B97 at h
  refine kr_aload_n (i := 0) hX dX10_readBlock_97 rfl rfl ?_
  refine kr_geti (c0 := 10) (k := 11) hX ⟨_, kf_10_87⟩ dX10_readBlock_98 rfl (md_k hm) ?_
  refine kr_if_ne (tgt := 172) hX dX10_readBlock_101 (by decide) (fun c_101 => ?_) (fun c_101 => ?_)
  · replace h := kq_f c_101 h
    refine kr_keep (lv' := [(0, .ref m), (2, .int l2), (3, .int l3)]) [0, 1, 2] rfl ?_
    exact xw_readBlock_J172 hX hr hm h
  · replace h := kq_t c_101 h
    refine kr_iload_n (i := 3) hX dX10_readBlock_104 rfl rfl ?_
    refine kr_bipush (v := (-4)) hX dX10_readBlock_105 (by decide) ?_
    refine kr_icmp_eq (tgt := 172) hX dX10_readBlock_107 (by decide) (fun c_107 => ?_) (fun c_107 => ?_)
    · replace h := kq_t c_107 h
      refine kr_keep (lv' := [(0, .ref m), (2, .int l2), (3, .int l3)]) [0, 1, 2] rfl ?_
      exact xw_readBlock_J172 hX hr hm h
    · replace h := kq_f c_107 h
      refine kr_iload_n (i := 3) hX dX10_readBlock_110 rfl rfl ?_
      refine kr_iconst (v := 5) hX dX10_readBlock_111 (by decide) ?_
      refine kr_icmp_gt (tgt := 172) hX dX10_readBlock_112 (by decide) (fun c_112 => ?_) (fun c_112 => ?_)
      · replace h := kq_t c_112 h
        refine kr_keep (lv' := [(0, .ref m), (2, .int l2), (3, .int l3)]) [0, 1, 2] rfl ?_
        exact xw_readBlock_J172 hX hr hm h
      · replace h := kq_f c_112 h
        refine kr_aload_n (i := 0) hX dX10_readBlock_115 rfl rfl ?_
        refine kr_aload_n (i := 0) hX dX10_readBlock_116 rfl rfl ?_
        refine kr_getr (c0 := 10) (k := 1) hX ⟨_, kf_10_13⟩ dX10_readBlock_117 rfl (md_k hm) (md_r1 hm) ?_
        refine kr_iload_n (i := 2) hX dX10_readBlock_120 rfl rfl ?_
        obtain ⟨i_121, h⟩ := kq_ck_e h
        refine kr_iald hX dX10_readBlock_121 (md_a2 hm) (vp_in_iff.mpr i_121) ?_
        refine kr_iconst (v := 4) hX dX10_readBlock_122 (by decide) ?_
        refine kr_icmp_ge (tgt := 130) hX dX10_readBlock_123 (by decide) (fun c_123 => ?_) (fun c_123 => ?_)
        · replace h := kq_t c_123 h
          refine kr_iconst (v := 0) hX dX10_readBlock_130 (by decide) ?_
          refine kr_keep (lv' := [(0, .ref m), (2, .int l2), (3, .int l3)]) [0, 1, 2] rfl ?_
          exact xw_readBlock_J131 hX hr hm hK97 h
        · replace h := kq_f c_123 h
          refine kr_iconst (v := 1) hX dX10_readBlock_126 (by decide) ?_
          refine kr_goto (tgt := 131) hX dX10_readBlock_127 (by decide) ?_
          refine kr_keep (lv' := [(0, .ref m), (2, .int l2), (3, .int l3)]) [0, 1, 2] rfl ?_
          exact xw_readBlock_J131 hX hr hm hK97 h
def x_readBlock_L97 (n : Nat) (m : Nat) : Nat → Int32 → Int32 → kt_M → Option (Unit × kt_M)
  | 0, _, _, _ => none
  | k + 1, l2, l3, μ => x_readBlock_B97 n m (x_readBlock_L97 n m k) l2 l3 μ
set_option maxHeartbeats 4000000 in
set_option maxRecDepth 100000 in
theorem xw_readBlock_L97 {G : kt_G} {σ : kt_Y} {X : kt_X} (hX : kt_ok G X RX10 cX10_readBlock 4 4 0 0) (hr : kt_rt X = none) {m : Nat} (hm : kt_md σ m) {n : Nat} {q : (Unit × kt_M)} : ∀ (k : Nat) (l2 : Int32) (l3 : Int32) (μ : kt_M), x_readBlock_L97 n m k l2 l3 μ = some q → kt_W G X 4 97 [(0, .ref m), (2, .int l2), (3, .int l3)] [] σ μ 0 0 (kt_Z G X (kt_q σ (fun rv μ2 => rv = none ∧ μ2 = q.2)) 0 0) := by
  intro k
  induction k with
  | zero => intro l2 l3 μ h; cases h
  | succ k ih => intro l2 l3 μ h; exact xw_readBlock_B97 hX hr hm ih h
def x_readBlock_J55 (n : Nat) (m : Nat) (l1 : Int32) (s0 : Int32) (s1 : Int32) (s2 : Int32) (μ : kt_M) : Option (Unit × kt_M) := (if (kt_i μ m 11) ≤ 0 then kq_ck (kq_in (s0 + (s1 * s2)) 321) (kq_lt (kt_si μ (m + 2) (Int32.toNatClampNeg (s0 + (s1 * s2))) (0 : Int32)) (fun μ_72 => kq_ck (kq_in ((s0 + (s1 * s2)) + (19 : Int32)) 321) (kq_lt (kt_si μ_72 (m + 2) (Int32.toNatClampNeg ((s0 + (s1 * s2)) + (19 : Int32))) l1) (fun μ_82 => kq_b2 (x_noTest n m μ_82 (m + 2) 321 (s0 + (s1 * s2))) (fun r_89 μ_89 => kq_b2 (x_nameNow n m μ_89) (fun r_93 μ_93 => x_readBlock_L97 n m n (s0 + (s1 * s2)) r_93 μ_93)))))) else some ((), μ))
set_option maxHeartbeats 4000000 in
set_option maxRecDepth 100000 in
theorem xw_readBlock_J55 {G : kt_G} {σ : kt_Y} {X : kt_X} (hX : kt_ok G X RX10 cX10_readBlock 4 4 0 0) (hr : kt_rt X = none) {m : Nat} (hm : kt_md σ m) {n : Nat} {q : (Unit × kt_M)} {l1 : Int32} {s0 : Int32} {s1 : Int32} {s2 : Int32} {μ : kt_M} (h : x_readBlock_J55 n m l1 s0 s1 s2 μ = some q) : kt_W G X 4 55 [(0, .ref m), (1, .int l1)] [.int s2, .int s1, .int s0] σ μ 0 0 (kt_Z G X (kt_q σ (fun rv μ2 => rv = none ∧ μ2 = q.2)) 0 0) := by
  unfold x_readBlock_J55 at h
  refine kr_imul hX dX10_readBlock_55 ?_
  refine kr_iadd hX dX10_readBlock_56 ?_
  refine kr_istore_n (i := 2) hX dX10_readBlock_57 rfl (by decide) rfl rfl ?_
  refine kr_aload_n (i := 0) hX dX10_readBlock_58 rfl rfl ?_
  refine kr_geti (c0 := 10) (k := 11) hX ⟨_, kf_10_87⟩ dX10_readBlock_59 rfl (md_k hm) ?_
  refine kr_if_le (tgt := 66) hX dX10_readBlock_62 (by decide) (fun c_62 => ?_) (fun c_62 => ?_)
  · replace h := kq_t c_62 h
    refine kr_aload_n (i := 0) hX dX10_readBlock_66 rfl rfl ?_
    refine kr_getr (c0 := 10) (k := 1) hX ⟨_, kf_10_13⟩ dX10_readBlock_67 rfl (md_k hm) (md_r1 hm) ?_
    refine kr_iload_n (i := 2) hX dX10_readBlock_70 rfl rfl ?_
    refine kr_iconst (v := 0) hX dX10_readBlock_71 (by decide) ?_
    obtain ⟨i_72, h⟩ := kq_ck_e h
    refine kr_iast hX dX10_readBlock_72 (md_a2 hm) (vp_in_iff.mpr i_72) ?_
    refine kr_ltM h (fun μ_72 h => ?_)
    refine kr_aload_n (i := 0) hX dX10_readBlock_73 rfl rfl ?_
    refine kr_getr (c0 := 10) (k := 1) hX ⟨_, kf_10_13⟩ dX10_readBlock_74 rfl (md_k hm) (md_r1 hm) ?_
    refine kr_iload_n (i := 2) hX dX10_readBlock_77 rfl rfl ?_
    refine kr_bipush (v := 19) hX dX10_readBlock_78 (by decide) ?_
    refine kr_iadd hX dX10_readBlock_80 ?_
    refine kr_iload_n (i := 1) hX dX10_readBlock_81 rfl rfl ?_
    obtain ⟨i_82, h⟩ := kq_ck_e h
    refine kr_iast hX dX10_readBlock_82 (md_a2 hm) (vp_in_iff.mpr i_82) ?_
    refine kr_ltM h (fun μ_82 h => ?_)
    refine kr_aload_n (i := 0) hX dX10_readBlock_83 rfl rfl ?_
    refine kr_aload_n (i := 0) hX dX10_readBlock_84 rfl rfl ?_
    refine kr_getr (c0 := 10) (k := 1) hX ⟨_, kf_10_13⟩ dX10_readBlock_85 rfl (md_k hm) (md_r1 hm) ?_
    refine kr_iload_n (i := 2) hX dX10_readBlock_88 rfl rfl ?_
    obtain ⟨r_89, μ_89, e_89, h⟩ := kq_b2_e h
    refine kr_dV (c1 := 10) [_, _] hX km_10_149 dX10_readBlock_89 (xs_noTest hm (md_a2 hm) e_89) rfl rfl ⟨_, _, rfl⟩ (by decide) (Nat.le_of_ble_eq_true rfl) (Nat.le_refl _) (Nat.le_refl _) (md_k hm) ?_
    refine kr_aload_n (i := 0) hX dX10_readBlock_92 rfl rfl ?_
    obtain ⟨r_93, μ_93, e_93, h⟩ := kq_b2_e h
    refine kr_dV (c1 := 10) [] hX km_10_153 dX10_readBlock_93 (xs_nameNow hm e_93) rfl rfl ⟨_, _, rfl⟩ (by decide) (Nat.le_of_ble_eq_true rfl) (Nat.le_refl _) (Nat.le_refl _) (md_k hm) ?_
    refine kr_istore_n (i := 3) hX dX10_readBlock_96 rfl (by decide) rfl rfl ?_
    refine kr_keep (lv' := [(0, .ref m), (2, .int (s0 + (s1 * s2))), (3, .int r_93)]) [0, 2, 3] rfl ?_
    exact xw_readBlock_L97 hX hr hm n _ _ _ h
  · replace h := kq_f c_62 h
    refine kr_vret hX hr dX10_readBlock_65 ⟨rfl, ?_⟩
    exact kq_rV h
def x_readBlock_J37 (n : Nat) (m : Nat) (l1 : Int32) (s1 : Int32) (μ : kt_M) : Option (Unit × kt_M) := kq_b2 (x_requires n m μ s1 (5 : Int32)) (fun r_38 μ_38 => (if (8 : Int32) ≤ l1 then x_readBlock_J55 n m l1 (1 : Int32) (20 : Int32) (0 : Int32) μ_38 else x_readBlock_J55 n m l1 (1 : Int32) (20 : Int32) l1 μ_38))
set_option maxHeartbeats 4000000 in
set_option maxRecDepth 100000 in
theorem xw_readBlock_J37 {G : kt_G} {σ : kt_Y} {X : kt_X} (hX : kt_ok G X RX10 cX10_readBlock 4 4 0 0) (hr : kt_rt X = none) {m : Nat} (hm : kt_md σ m) {n : Nat} {q : (Unit × kt_M)} {l1 : Int32} {s1 : Int32} {μ : kt_M} (h : x_readBlock_J37 n m l1 s1 μ = some q) : kt_W G X 4 37 [(0, .ref m), (1, .int l1)] [.int s1, .ref m] σ μ 0 0 (kt_Z G X (kt_q σ (fun rv μ2 => rv = none ∧ μ2 = q.2)) 0 0) := by
  unfold x_readBlock_J37 at h
  refine kr_iconst (v := 5) hX dX10_readBlock_37 (by decide) ?_
  obtain ⟨r_38, μ_38, e_38, h⟩ := kq_b2_e h
  refine kr_dV (c1 := 10) [_, _] hX km_10_121 dX10_readBlock_38 (xs_requires hm e_38) rfl rfl ⟨_, _, rfl⟩ (by decide) (Nat.le_of_ble_eq_true rfl) (Nat.le_refl _) (Nat.le_refl _) (md_k hm) ?_
  refine kr_iconst (v := 1) hX dX10_readBlock_41 (by decide) ?_
  refine kr_bipush (v := 20) hX dX10_readBlock_42 (by decide) ?_
  refine kr_iload_n (i := 1) hX dX10_readBlock_44 rfl rfl ?_
  refine kr_bipush (v := 8) hX dX10_readBlock_45 (by decide) ?_
  refine kr_icmp_ge (tgt := 54) hX dX10_readBlock_47 (by decide) (fun c_47 => ?_) (fun c_47 => ?_)
  · replace h := kq_t c_47 h
    refine kr_iconst (v := 0) hX dX10_readBlock_54 (by decide) ?_
    refine kr_keep (lv' := [(0, .ref m), (1, .int l1)]) [0, 1] rfl ?_
    exact xw_readBlock_J55 hX hr hm h
  · replace h := kq_f c_47 h
    refine kr_iload_n (i := 1) hX dX10_readBlock_50 rfl rfl ?_
    refine kr_goto (tgt := 55) hX dX10_readBlock_51 (by decide) ?_
    refine kr_keep (lv' := [(0, .ref m), (1, .int l1)]) [0, 1] rfl ?_
    exact xw_readBlock_J55 hX hr hm h
def x_readBlock_J21 (n : Nat) (m : Nat) (l1 : Int32) (s1 : Int32) (μ : kt_M) : Option (Unit × kt_M) := kq_b2 (x_requires n m μ s1 (2 : Int32)) (fun r_22 μ_22 => (if (8 : Int32) ≤ l1 then x_readBlock_J37 n m l1 (0 : Int32) μ_22 else x_readBlock_J37 n m l1 (1 : Int32) μ_22))
set_option maxHeartbeats 4000000 in
set_option maxRecDepth 100000 in
theorem xw_readBlock_J21 {G : kt_G} {σ : kt_Y} {X : kt_X} (hX : kt_ok G X RX10 cX10_readBlock 4 4 0 0) (hr : kt_rt X = none) {m : Nat} (hm : kt_md σ m) {n : Nat} {q : (Unit × kt_M)} {l1 : Int32} {s1 : Int32} {μ : kt_M} (h : x_readBlock_J21 n m l1 s1 μ = some q) : kt_W G X 4 21 [(0, .ref m), (1, .int l1)] [.int s1, .ref m] σ μ 0 0 (kt_Z G X (kt_q σ (fun rv μ2 => rv = none ∧ μ2 = q.2)) 0 0) := by
  unfold x_readBlock_J21 at h
  refine kr_iconst (v := 2) hX dX10_readBlock_21 (by decide) ?_
  obtain ⟨r_22, μ_22, e_22, h⟩ := kq_b2_e h
  refine kr_dV (c1 := 10) [_, _] hX km_10_121 dX10_readBlock_22 (xs_requires hm e_22) rfl rfl ⟨_, _, rfl⟩ (by decide) (Nat.le_of_ble_eq_true rfl) (Nat.le_refl _) (Nat.le_refl _) (md_k hm) ?_
  refine kr_aload_n (i := 0) hX dX10_readBlock_25 rfl rfl ?_
  refine kr_iload_n (i := 1) hX dX10_readBlock_26 rfl rfl ?_
  refine kr_bipush (v := 8) hX dX10_readBlock_27 (by decide) ?_
  refine kr_icmp_ge (tgt := 36) hX dX10_readBlock_29 (by decide) (fun c_29 => ?_) (fun c_29 => ?_)
  · replace h := kq_t c_29 h
    refine kr_iconst (v := 0) hX dX10_readBlock_36 (by decide) ?_
    refine kr_keep (lv' := [(0, .ref m), (1, .int l1)]) [0, 1] rfl ?_
    exact xw_readBlock_J37 hX hr hm h
  · replace h := kq_f c_29 h
    refine kr_iconst (v := 1) hX dX10_readBlock_32 (by decide) ?_
    refine kr_goto (tgt := 37) hX dX10_readBlock_33 (by decide) ?_
    refine kr_keep (lv' := [(0, .ref m), (1, .int l1)]) [0, 1] rfl ?_
    exact xw_readBlock_J37 hX hr hm h
def x_readBlock (n : Nat) (m : Nat) (μ : kt_M) : Option (Unit × kt_M) := (if (kt_i μ m 9) = (1 : Int32) then x_readBlock_J21 n m (kt_i μ (m + 2) (Int32.toNatClampNeg (0 : Int32))) (1 : Int32) μ else x_readBlock_J21 n m (kt_i μ (m + 2) (Int32.toNatClampNeg (0 : Int32))) (0 : Int32) μ)
set_option maxHeartbeats 4000000 in
set_option maxRecDepth 100000 in
theorem xs_readBlock {G : kt_G} {σ : kt_Y} {μ : kt_M} {m : Nat} (hm : kt_md σ m) {n : Nat} {r : Unit} {μ1 : kt_M} (h : x_readBlock n m μ = some (r, μ1)) : kt_F G yX10_readBlock cX10_readBlock 4 none 4 [.ref m] σ μ (fun rv μ2 => rv = none ∧ μ2 = μ1) := by
  have key : ∀ q : (Unit × kt_M), x_readBlock n m μ = some q → kt_F G yX10_readBlock cX10_readBlock 4 none 4 [.ref m] σ μ (fun rv μ2 => rv = none ∧ μ2 = q.2) := by
    intro q h
    unfold x_readBlock at h
    refine kt_F.of (by decide) (Nat.le_of_ble_eq_true rfl) (fun X hX hr => ?_)
    refine kr_aload_n (i := 0) hX dX10_readBlock_0 rfl rfl ?_
    refine kr_getr (c0 := 10) (k := 1) hX ⟨_, kf_10_13⟩ dX10_readBlock_1 rfl (md_k hm) (md_r1 hm) ?_
    refine kr_iconst (v := 0) hX dX10_readBlock_4 (by decide) ?_
    refine kr_iald hX dX10_readBlock_5 (md_a2 hm) (vp_in_iff.mpr (by decide)) ?_
    refine kr_istore_n (i := 1) hX dX10_readBlock_6 rfl (by decide) rfl rfl ?_
    refine kr_aload_n (i := 0) hX dX10_readBlock_7 rfl rfl ?_
    refine kr_aload_n (i := 0) hX dX10_readBlock_8 rfl rfl ?_
    refine kr_geti (c0 := 10) (k := 9) hX ⟨_, kf_10_96⟩ dX10_readBlock_9 rfl (md_k hm) ?_
    refine kr_iconst (v := 1) hX dX10_readBlock_12 (by decide) ?_
    refine kr_icmp_ne (tgt := 20) hX dX10_readBlock_13 (by decide) (fun c_13 => ?_) (fun c_13 => ?_)
    · replace h := kq_f c_13 h
      refine kr_iconst (v := 0) hX dX10_readBlock_20 (by decide) ?_
      refine kr_keep (lv' := [(0, .ref m), (1, .int (kt_i μ (m + 2) (Int32.toNatClampNeg (0 : Int32))))]) [0, 1] rfl ?_
      exact xw_readBlock_J21 hX hr hm h
    · replace h := kq_t c_13 h
      refine kr_iconst (v := 1) hX dX10_readBlock_16 (by decide) ?_
      refine kr_goto (tgt := 21) hX dX10_readBlock_17 (by decide) ?_
      refine kr_keep (lv' := [(0, .ref m), (1, .int (kt_i μ (m + 2) (Int32.toNatClampNeg (0 : Int32))))]) [0, 1] rfl ?_
      exact xw_readBlock_J21 hX hr hm h
  exact key (r, μ1) h

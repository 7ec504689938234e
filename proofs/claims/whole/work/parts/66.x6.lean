def x_sweep_B56 (n : Nat) (m : Nat) (K48 : Int32 → Int32 → Int32 → kt_M → Option (Int32 × kt_M)) (K56 : Int32 → Int32 → Int32 → Int32 → kt_M → Option (Int32 × kt_M)) (l1 : Int32) (l2 : Int32) (l3 : Int32) (l4 : Int32) (μ : kt_M) : Option (Int32 × kt_M) := (if (20 : Int32) ≤ l4 then K48 l1 l2 (l3 + 1) μ else kq_ck (kq_in l3 16) ((if (kt_i μ (m + 9) (Int32.toNatClampNeg l3)) = 0 then K48 l1 l2 (l3 + 1) μ else kq_ck (kq_in l3 16) (kq_b1 (x_at n (1 : Int32) (kt_i μ (m + 11) (Int32.toNatClampNeg l3)) l4) (fun r_85 => kq_b2 (x_of n m μ (1 : Int32) l3 l4) (fun r_93 μ_93 => kq_ck (kq_in r_85 1284) (kq_lt (kt_si μ_93 (m + 1) (Int32.toNatClampNeg r_85) r_93) (fun μ_96 => K56 l1 l2 l3 (l4 + 1) μ_96))))))))
set_option maxHeartbeats 4000000 in
set_option maxRecDepth 100000 in
theorem xw_sweep_B56 {G : kt_G} {σ : kt_Y} {X : kt_X} (hX : kt_ok G X RX10 cX10_sweep 5 4 0 0) (hr : kt_rt X = (some .int)) {m : Nat} (hm : kt_md σ m) {n : Nat} {q : (Int32 × kt_M)} {K48 : Int32 → Int32 → Int32 → kt_M → Option (Int32 × kt_M)} (hK48 : ∀ (l1 : Int32) (l2 : Int32) (l3 : Int32) (μ : kt_M), K48 l1 l2 l3 μ = some q → kt_W G X 5 48 [(0, .ref m), (1, .int l1), (2, .int l2), (3, .int l3)] [] σ μ 0 0 (kt_Z G X (kt_q σ (fun rv μ2 => rv = some (.int q.1) ∧ μ2 = q.2)) 0 0)) {K56 : Int32 → Int32 → Int32 → Int32 → kt_M → Option (Int32 × kt_M)} (hK56 : ∀ (l1 : Int32) (l2 : Int32) (l3 : Int32) (l4 : Int32) (μ : kt_M), K56 l1 l2 l3 l4 μ = some q → kt_W G X 5 56 [(0, .ref m), (1, .int l1), (2, .int l2), (3, .int l3), (4, .int l4)] [] σ μ 0 0 (kt_Z G X (kt_q σ (fun rv μ2 => rv = some (.int q.1) ∧ μ2 = q.2)) 0 0)) {l1 : Int32} {l2 : Int32} {l3 : Int32} {l4 : Int32} {μ : kt_M} (h : x_sweep_B56 n m K48 K56 l1 l2 l3 l4 μ = some q) : kt_W G X 5 56 [(0, .ref m), (1, .int l1), (2, .int l2), (3, .int l3), (4, .int l4)] [] σ μ 0 0 (kt_Z G X (kt_q σ (fun rv μ2 => rv = some (.int q.1) ∧ μ2 = q.2)) 0 0) := by
  unfold x_sweep_B56 at h
  refine kr_iload hX dX10_sweep_56 rfl ?_
  refine kr_bipush (v := 20) hX dX10_sweep_58 (by decide) ?_
  refine kr_icmp_ge (tgt := 103) hX dX10_sweep_60 (by decide) (fun c_60 => ?_) (fun c_60 => ?_)
  · replace h := kq_t c_60 h
    refine kr_iinc (v := (l3 + 1)) hX dX10_sweep_103 rfl rfl (by decide) rfl rfl ?_
    refine kr_goto (tgt := 48) hX dX10_sweep_106 (by decide) ?_
    refine kr_keep (lv' := [(0, .ref m), (1, .int l1), (2, .int l2), (3, .int (l3 + 1))]) [0, 1, 2, 3] rfl ?_
    exact hK48 _ _ _ _ h
  · replace h := kq_f c_60 h
    refine kr_aload_n (i := 0) hX dX10_sweep_63 rfl rfl ?_
    refine kr_getr (c0 := 10) (k := 16) hX ⟨_, kf_10_40⟩ dX10_sweep_64 rfl (md_k hm) (md_r16 hm) ?_
    refine kr_iload_n (i := 3) hX dX10_sweep_67 rfl rfl ?_
    obtain ⟨i_68, h⟩ := kq_ck_e h
    refine kr_bald hX dX10_sweep_68 (md_a9 hm) (vp_in_iff.mpr i_68) ?_
    refine kr_if_eq (tgt := 103) hX dX10_sweep_69 (by decide) (fun c_69 => ?_) (fun c_69 => ?_)
    · replace h := kq_t c_69 h
      refine kr_iinc (v := (l3 + 1)) hX dX10_sweep_103 rfl rfl (by decide) rfl rfl ?_
      refine kr_goto (tgt := 48) hX dX10_sweep_106 (by decide) ?_
      refine kr_keep (lv' := [(0, .ref m), (1, .int l1), (2, .int l2), (3, .int (l3 + 1))]) [0, 1, 2, 3] rfl ?_
      exact hK48 _ _ _ _ h
    · replace h := kq_f c_69 h
      refine kr_aload_n (i := 0) hX dX10_sweep_72 rfl rfl ?_
      refine kr_getr (c0 := 10) (k := 0) hX ⟨_, kf_10_9⟩ dX10_sweep_73 rfl (md_k hm) (md_r0 hm) ?_
      refine kr_iconst (v := 1) hX dX10_sweep_76 (by decide) ?_
      refine kr_aload_n (i := 0) hX dX10_sweep_77 rfl rfl ?_
      refine kr_getr (c0 := 10) (k := 18) hX ⟨_, kf_10_46⟩ dX10_sweep_78 rfl (md_k hm) (md_r18 hm) ?_
      refine kr_iload_n (i := 3) hX dX10_sweep_81 rfl rfl ?_
      obtain ⟨i_82, h⟩ := kq_ck_e h
      refine kr_iald hX dX10_sweep_82 (md_a11 hm) (vp_in_iff.mpr i_82) ?_
      refine kr_iload hX dX10_sweep_83 rfl ?_
      obtain ⟨r_85, e_85, h⟩ := kq_b1_e h
      refine kr_dS [_, _, _] hX km_10_70 dX10_sweep_85 (xs_at e_85) rfl rfl (by decide) (Nat.le_of_ble_eq_true rfl) (Nat.le_refl _) (Nat.le_refl _) ?_
      refine kr_aload_n (i := 0) hX dX10_sweep_88 rfl rfl ?_
      refine kr_iconst (v := 1) hX dX10_sweep_89 (by decide) ?_
      refine kr_iload_n (i := 3) hX dX10_sweep_90 rfl rfl ?_
      refine kr_iload hX dX10_sweep_91 rfl ?_
      obtain ⟨r_93, μ_93, e_93, h⟩ := kq_b2_e h
      refine kr_dV (c1 := 10) [_, _, _] hX km_10_175 dX10_sweep_93 (xs_of hm e_93) rfl rfl ⟨_, _, rfl⟩ (by decide) (Nat.le_of_ble_eq_true rfl) (Nat.le_refl _) (Nat.le_refl _) (md_k hm) ?_
      obtain ⟨i_96, h⟩ := kq_ck_e h
      refine kr_iast hX dX10_sweep_96 (md_a1 hm) (vp_in_iff.mpr i_96) ?_
      refine kr_ltM h (fun μ_96 h => ?_)
      refine kr_iinc (v := (l4 + 1)) hX dX10_sweep_97 rfl rfl (by decide) rfl rfl ?_
      refine kr_goto (tgt := 56) hX dX10_sweep_100 (by decide) ?_
      refine kr_keep (lv' := [(0, .ref m), (1, .int l1), (2, .int l2), (3, .int l3), (4, .int (l4 + 1))]) [0, 1, 2, 3, 4] rfl ?_
      exact hK56 _ _ _ _ _ h
def x_sweep_L56 (n : Nat) (m : Nat) (K48 : Int32 → Int32 → Int32 → kt_M → Option (Int32 × kt_M)) : Nat → Int32 → Int32 → Int32 → Int32 → kt_M → Option (Int32 × kt_M)
  | 0, _, _, _, _, _ => none
  | k + 1, l1, l2, l3, l4, μ => x_sweep_B56 n m K48 (x_sweep_L56 n m K48 k) l1 l2 l3 l4 μ
set_option maxHeartbeats 4000000 in
set_option maxRecDepth 100000 in
theorem xw_sweep_L56 {G : kt_G} {σ : kt_Y} {X : kt_X} (hX : kt_ok G X RX10 cX10_sweep 5 4 0 0) (hr : kt_rt X = (some .int)) {m : Nat} (hm : kt_md σ m) {n : Nat} {q : (Int32 × kt_M)} {K48 : Int32 → Int32 → Int32 → kt_M → Option (Int32 × kt_M)} (hK48 : ∀ (l1 : Int32) (l2 : Int32) (l3 : Int32) (μ : kt_M), K48 l1 l2 l3 μ = some q → kt_W G X 5 48 [(0, .ref m), (1, .int l1), (2, .int l2), (3, .int l3)] [] σ μ 0 0 (kt_Z G X (kt_q σ (fun rv μ2 => rv = some (.int q.1) ∧ μ2 = q.2)) 0 0)) : ∀ (k : Nat) (l1 : Int32) (l2 : Int32) (l3 : Int32) (l4 : Int32) (μ : kt_M), x_sweep_L56 n m K48 k l1 l2 l3 l4 μ = some q → kt_W G X 5 56 [(0, .ref m), (1, .int l1), (2, .int l2), (3, .int l3), (4, .int l4)] [] σ μ 0 0 (kt_Z G X (kt_q σ (fun rv μ2 => rv = some (.int q.1) ∧ μ2 = q.2)) 0 0) := by
  intro k
  induction k with
  | zero => intro l1 l2 l3 l4 μ h; cases h
  | succ k ih => intro l1 l2 l3 l4 μ h; exact xw_sweep_B56 hX hr hm hK48 ih h
def x_sweep_B128 (n : Nat) (m : Nat) (K120 : Int32 → Int32 → Int32 → kt_M → Option (Int32 × kt_M)) (K128 : Int32 → Int32 → Int32 → Int32 → kt_M → Option (Int32 × kt_M)) (l1 : Int32) (l2 : Int32) (l3 : Int32) (l4 : Int32) (μ : kt_M) : Option (Int32 × kt_M) := kq_b2 (x_edgesOf n m μ (1 : Int32) l3) (fun r_133 μ_133 => (if r_133 ≤ l4 then K120 l1 l2 (l3 + 1) μ_133 else kq_b1 (x_at n (1 : Int32) l3 ((14 : Int32) + l4)) (fun r_150 => kq_b2 (x_of n m μ_133 (1 : Int32) l3 ((14 : Int32) + l4)) (fun r_165 μ_165 => kq_ck (kq_in r_165 16) (kq_ck (kq_in r_150 1284) (kq_lt (kt_si μ_165 (m + 1) (Int32.toNatClampNeg r_150) (kt_i μ_165 (m + 11) (Int32.toNatClampNeg r_165))) (fun μ_169 => K128 l1 l2 l3 (l4 + 1) μ_169)))))))
set_option maxHeartbeats 4000000 in
set_option maxRecDepth 100000 in
theorem xw_sweep_B128 {G : kt_G} {σ : kt_Y} {X : kt_X} (hX : kt_ok G X RX10 cX10_sweep 5 4 0 0) (hr : kt_rt X = (some .int)) {m : Nat} (hm : kt_md σ m) {n : Nat} {q : (Int32 × kt_M)} {K120 : Int32 → Int32 → Int32 → kt_M → Option (Int32 × kt_M)} (hK120 : ∀ (l1 : Int32) (l2 : Int32) (l3 : Int32) (μ : kt_M), K120 l1 l2 l3 μ = some q → kt_W G X 5 120 [(0, .ref m), (1, .int l1), (2, .int l2), (3, .int l3)] [] σ μ 0 0 (kt_Z G X (kt_q σ (fun rv μ2 => rv = some (.int q.1) ∧ μ2 = q.2)) 0 0)) {K128 : Int32 → Int32 → Int32 → Int32 → kt_M → Option (Int32 × kt_M)} (hK128 : ∀ (l1 : Int32) (l2 : Int32) (l3 : Int32) (l4 : Int32) (μ : kt_M), K128 l1 l2 l3 l4 μ = some q → kt_W G X 5 128 [(0, .ref m), (1, .int l1), (2, .int l2), (3, .int l3), (4, .int l4)] [] σ μ 0 0 (kt_Z G X (kt_q σ (fun rv μ2 => rv = some (.int q.1) ∧ μ2 = q.2)) 0 0)) {l1 : Int32} {l2 : Int32} {l3 : Int32} {l4 : Int32} {μ : kt_M} (h : x_sweep_B128 n m K120 K128 l1 l2 l3 l4 μ = some q) : kt_W G X 5 128 [(0, .ref m), (1, .int l1), (2, .int l2), (3, .int l3), (4, .int l4)] [] σ μ 0 0 (kt_Z G X (kt_q σ (fun rv μ2 => rv = some (.int q.1) ∧ μ2 = q.2)) 0 0) := by
  unfold x_sweep_B128 at h
  refine kr_iload hX dX10_sweep_128 rfl ?_
  refine kr_aload_n (i := 0) hX dX10_sweep_130 rfl rfl ?_
  refine kr_iconst (v := 1) hX dX10_sweep_131 (by decide) ?_
  refine kr_iload_n (i := 3) hX dX10_sweep_132 rfl rfl ?_
  obtain ⟨r_133, μ_133, e_133, h⟩ := kq_b2_e h
  refine kr_dV (c1 := 10) [_, _] hX km_10_182 dX10_sweep_133 (xs_edgesOf hm e_133) rfl rfl ⟨_, _, rfl⟩ (by decide) (Nat.le_of_ble_eq_true rfl) (Nat.le_refl _) (Nat.le_refl _) (md_k hm) ?_
  refine kr_icmp_ge (tgt := 176) hX dX10_sweep_136 (by decide) (fun c_136 => ?_) (fun c_136 => ?_)
  · replace h := kq_t c_136 h
    refine kr_iinc (v := (l3 + 1)) hX dX10_sweep_176 rfl rfl (by decide) rfl rfl ?_
    refine kr_goto (tgt := 120) hX dX10_sweep_179 (by decide) ?_
    refine kr_keep (lv' := [(0, .ref m), (1, .int l1), (2, .int l2), (3, .int (l3 + 1))]) [0, 1, 2, 3] rfl ?_
    exact hK120 _ _ _ _ h
  · replace h := kq_f c_136 h
    refine kr_aload_n (i := 0) hX dX10_sweep_139 rfl rfl ?_
    refine kr_getr (c0 := 10) (k := 0) hX ⟨_, kf_10_9⟩ dX10_sweep_140 rfl (md_k hm) (md_r0 hm) ?_
    refine kr_iconst (v := 1) hX dX10_sweep_143 (by decide) ?_
    refine kr_iload_n (i := 3) hX dX10_sweep_144 rfl rfl ?_
    refine kr_bipush (v := 14) hX dX10_sweep_145 (by decide) ?_
    refine kr_iload hX dX10_sweep_147 rfl ?_
    refine kr_iadd hX dX10_sweep_149 ?_
    obtain ⟨r_150, e_150, h⟩ := kq_b1_e h
    refine kr_dS [_, _, _] hX km_10_70 dX10_sweep_150 (xs_at e_150) rfl rfl (by decide) (Nat.le_of_ble_eq_true rfl) (Nat.le_refl _) (Nat.le_refl _) ?_
    refine kr_aload_n (i := 0) hX dX10_sweep_153 rfl rfl ?_
    refine kr_getr (c0 := 10) (k := 18) hX ⟨_, kf_10_46⟩ dX10_sweep_154 rfl (md_k hm) (md_r18 hm) ?_
    refine kr_aload_n (i := 0) hX dX10_sweep_157 rfl rfl ?_
    refine kr_iconst (v := 1) hX dX10_sweep_158 (by decide) ?_
    refine kr_iload_n (i := 3) hX dX10_sweep_159 rfl rfl ?_
    refine kr_bipush (v := 14) hX dX10_sweep_160 (by decide) ?_
    refine kr_iload hX dX10_sweep_162 rfl ?_
    refine kr_iadd hX dX10_sweep_164 ?_
    obtain ⟨r_165, μ_165, e_165, h⟩ := kq_b2_e h
    refine kr_dV (c1 := 10) [_, _, _] hX km_10_175 dX10_sweep_165 (xs_of hm e_165) rfl rfl ⟨_, _, rfl⟩ (by decide) (Nat.le_of_ble_eq_true rfl) (Nat.le_refl _) (Nat.le_refl _) (md_k hm) ?_
    obtain ⟨i_168, h⟩ := kq_ck_e h
    refine kr_iald hX dX10_sweep_168 (md_a11 hm) (vp_in_iff.mpr i_168) ?_
    obtain ⟨i_169, h⟩ := kq_ck_e h
    refine kr_iast hX dX10_sweep_169 (md_a1 hm) (vp_in_iff.mpr i_169) ?_
    refine kr_ltM h (fun μ_169 h => ?_)
    refine kr_iinc (v := (l4 + 1)) hX dX10_sweep_170 rfl rfl (by decide) rfl rfl ?_
    refine kr_goto (tgt := 128) hX dX10_sweep_173 (by decide) ?_
    refine kr_keep (lv' := [(0, .ref m), (1, .int l1), (2, .int l2), (3, .int l3), (4, .int (l4 + 1))]) [0, 1, 2, 3, 4] rfl ?_
    exact hK128 _ _ _ _ _ h
def x_sweep_L128 (n : Nat) (m : Nat) (K120 : Int32 → Int32 → Int32 → kt_M → Option (Int32 × kt_M)) : Nat → Int32 → Int32 → Int32 → Int32 → kt_M → Option (Int32 × kt_M)
  | 0, _, _, _, _, _ => none
  | k + 1, l1, l2, l3, l4, μ => x_sweep_B128 n m K120 (x_sweep_L128 n m K120 k) l1 l2 l3 l4 μ
set_option maxHeartbeats 4000000 in
set_option maxRecDepth 100000 in
theorem xw_sweep_L128 {G : kt_G} {σ : kt_Y} {X : kt_X} (hX : kt_ok G X RX10 cX10_sweep 5 4 0 0) (hr : kt_rt X = (some .int)) {m : Nat} (hm : kt_md σ m) {n : Nat} {q : (Int32 × kt_M)} {K120 : Int32 → Int32 → Int32 → kt_M → Option (Int32 × kt_M)} (hK120 : ∀ (l1 : Int32) (l2 : Int32) (l3 : Int32) (μ : kt_M), K120 l1 l2 l3 μ = some q → kt_W G X 5 120 [(0, .ref m), (1, .int l1), (2, .int l2), (3, .int l3)] [] σ μ 0 0 (kt_Z G X (kt_q σ (fun rv μ2 => rv = some (.int q.1) ∧ μ2 = q.2)) 0 0)) : ∀ (k : Nat) (l1 : Int32) (l2 : Int32) (l3 : Int32) (l4 : Int32) (μ : kt_M), x_sweep_L128 n m K120 k l1 l2 l3 l4 μ = some q → kt_W G X 5 128 [(0, .ref m), (1, .int l1), (2, .int l2), (3, .int l3), (4, .int l4)] [] σ μ 0 0 (kt_Z G X (kt_q σ (fun rv μ2 => rv = some (.int q.1) ∧ μ2 = q.2)) 0 0) := by
  intro k
  induction k with
  | zero => intro l1 l2 l3 l4 μ h; cases h
  | succ k ih => intro l1 l2 l3 l4 μ h; exact xw_sweep_B128 hX hr hm hK120 ih h
def x_sweep_B120 (n : Nat) (m : Nat) (K120 : Int32 → Int32 → Int32 → kt_M → Option (Int32 × kt_M)) (l1 : Int32) (l2 : Int32) (l3 : Int32) (μ : kt_M) : Option (Int32 × kt_M) := (if l1 ≤ l3 then some ((l2 - l1), μ) else x_sweep_L128 n m K120 n l1 l2 l3 (0 : Int32) μ)
set_option maxHeartbeats 4000000 in
set_option maxRecDepth 100000 in
theorem xw_sweep_B120 {G : kt_G} {σ : kt_Y} {X : kt_X} (hX : kt_ok G X RX10 cX10_sweep 5 4 0 0) (hr : kt_rt X = (some .int)) {m : Nat} (hm : kt_md σ m) {n : Nat} {q : (Int32 × kt_M)} {K120 : Int32 → Int32 → Int32 → kt_M → Option (Int32 × kt_M)} (hK120 : ∀ (l1 : Int32) (l2 : Int32) (l3 : Int32) (μ : kt_M), K120 l1 l2 l3 μ = some q → kt_W G X 5 120 [(0, .ref m), (1, .int l1), (2, .int l2), (3, .int l3)] [] σ μ 0 0 (kt_Z G X (kt_q σ (fun rv μ2 => rv = some (.int q.1) ∧ μ2 = q.2)) 0 0)) {l1 : Int32} {l2 : Int32} {l3 : Int32} {μ : kt_M} (h : x_sweep_B120 n m K120 l1 l2 l3 μ = some q) : kt_W G X 5 120 [(0, .ref m), (1, .int l1), (2, .int l2), (3, .int l3)] [] σ μ 0 0 (kt_Z G X (kt_q σ (fun rv μ2 => rv = some (.int q.1) ∧ μ2 = q.2)) 0 0) := by
  unfold x_sweep_B120 at h
  refine kr_iload_n (i := 3) hX dX10_sweep_120 rfl rfl ?_
  refine kr_iload_n (i := 1) hX dX10_sweep_121 rfl rfl ?_
  refine kr_icmp_ge (tgt := 182) hX dX10_sweep_122 (by decide) (fun c_122 => ?_) (fun c_122 => ?_)
  · replace h := kq_t c_122 h
    refine kr_iload_n (i := 2) hX dX10_sweep_182 rfl rfl ?_
    refine kr_iload_n (i := 1) hX dX10_sweep_183 rfl rfl ?_
    refine kr_isub hX dX10_sweep_184 ?_
    refine kr_iret hX hr dX10_sweep_185 ⟨rfl, ?_⟩
    exact kq_rI h
  · replace h := kq_f c_122 h
    refine kr_iconst (v := 0) hX dX10_sweep_125 (by decide) ?_
    refine kr_istore hX dX10_sweep_126 (by decide) rfl rfl ?_
    refine kr_keep (lv' := [(0, .ref m), (1, .int l1), (2, .int l2), (3, .int l3), (4, .int (0 : Int32))]) [0, 1, 2, 3, 4] rfl ?_
    exact xw_sweep_L128 hX hr hm hK120 n _ _ _ _ _ h
def x_sweep_L120 (n : Nat) (m : Nat) : Nat → Int32 → Int32 → Int32 → kt_M → Option (Int32 × kt_M)
  | 0, _, _, _, _ => none
  | k + 1, l1, l2, l3, μ => x_sweep_B120 n m (x_sweep_L120 n m k) l1 l2 l3 μ
set_option maxHeartbeats 4000000 in
set_option maxRecDepth 100000 in
theorem xw_sweep_L120 {G : kt_G} {σ : kt_Y} {X : kt_X} (hX : kt_ok G X RX10 cX10_sweep 5 4 0 0) (hr : kt_rt X = (some .int)) {m : Nat} (hm : kt_md σ m) {n : Nat} {q : (Int32 × kt_M)} : ∀ (k : Nat) (l1 : Int32) (l2 : Int32) (l3 : Int32) (μ : kt_M), x_sweep_L120 n m k l1 l2 l3 μ = some q → kt_W G X 5 120 [(0, .ref m), (1, .int l1), (2, .int l2), (3, .int l3)] [] σ μ 0 0 (kt_Z G X (kt_q σ (fun rv μ2 => rv = some (.int q.1) ∧ μ2 = q.2)) 0 0) := by
  intro k
  induction k with
  | zero => intro l1 l2 l3 μ h; cases h
  | succ k ih => intro l1 l2 l3 μ h; exact xw_sweep_B120 hX hr hm ih h
def x_sweep_B48 (n : Nat) (m : Nat) (K48 : Int32 → Int32 → Int32 → kt_M → Option (Int32 × kt_M)) (l1 : Int32) (l2 : Int32) (l3 : Int32) (μ : kt_M) : Option (Int32 × kt_M) := (if l2 ≤ l3 then kq_lt (kt_si μ (m + 1) (Int32.toNatClampNeg (321 : Int32)) l1) (fun μ_117 => x_sweep_L120 n m n l1 l2 (0 : Int32) μ_117) else x_sweep_L56 n m K48 n l1 l2 l3 (0 : Int32) μ)
set_option maxHeartbeats 4000000 in
set_option maxRecDepth 100000 in
theorem xw_sweep_B48 {G : kt_G} {σ : kt_Y} {X : kt_X} (hX : kt_ok G X RX10 cX10_sweep 5 4 0 0) (hr : kt_rt X = (some .int)) {m : Nat} (hm : kt_md σ m) {n : Nat} {q : (Int32 × kt_M)} {K48 : Int32 → Int32 → Int32 → kt_M → Option (Int32 × kt_M)} (hK48 : ∀ (l1 : Int32) (l2 : Int32) (l3 : Int32) (μ : kt_M), K48 l1 l2 l3 μ = some q → kt_W G X 5 48 [(0, .ref m), (1, .int l1), (2, .int l2), (3, .int l3)] [] σ μ 0 0 (kt_Z G X (kt_q σ (fun rv μ2 => rv = some (.int q.1) ∧ μ2 = q.2)) 0 0)) {l1 : Int32} {l2 : Int32} {l3 : Int32} {μ : kt_M} (h : x_sweep_B48 n m K48 l1 l2 l3 μ = some q) : kt_W G X 5 48 [(0, .ref m), (1, .int l1), (2, .int l2), (3, .int l3)] [] σ μ 0 0 (kt_Z G X (kt_q σ (fun rv μ2 => rv = some (.int q.1) ∧ μ2 = q.2)) 0 0) := by
  unfold x_sweep_B48 at h
  refine kr_iload_n (i := 3) hX dX10_sweep_48 rfl rfl ?_
  refine kr_iload_n (i := 2) hX dX10_sweep_49 rfl rfl ?_
  refine kr_icmp_ge (tgt := 109) hX dX10_sweep_50 (by decide) (fun c_50 => ?_) (fun c_50 => ?_)
  · replace h := kq_t c_50 h
    refine kr_aload_n (i := 0) hX dX10_sweep_109 rfl rfl ?_
    refine kr_getr (c0 := 10) (k := 0) hX ⟨_, kf_10_9⟩ dX10_sweep_110 rfl (md_k hm) (md_r0 hm) ?_
    refine kr_sipush (v := 321) hX dX10_sweep_113 (by decide) ?_
    refine kr_iload_n (i := 1) hX dX10_sweep_116 rfl rfl ?_
    refine kr_iast hX dX10_sweep_117 (md_a1 hm) (vp_in_iff.mpr (by decide)) ?_
    refine kr_ltM h (fun μ_117 h => ?_)
    refine kr_iconst (v := 0) hX dX10_sweep_118 (by decide) ?_
    refine kr_istore_n (i := 3) hX dX10_sweep_119 rfl (by decide) rfl rfl ?_
    refine kr_keep (lv' := [(0, .ref m), (1, .int l1), (2, .int l2), (3, .int (0 : Int32))]) [0, 1, 2, 3] rfl ?_
    exact xw_sweep_L120 hX hr hm n _ _ _ _ h
  · replace h := kq_f c_50 h
    refine kr_iconst (v := 0) hX dX10_sweep_53 (by decide) ?_
    refine kr_istore hX dX10_sweep_54 (by decide) rfl rfl ?_
    refine kr_keep (lv' := [(0, .ref m), (1, .int l1), (2, .int l2), (3, .int l3), (4, .int (0 : Int32))]) [0, 1, 2, 3, 4] rfl ?_
    exact xw_sweep_L56 hX hr hm hK48 n _ _ _ _ _ h
def x_sweep_L48 (n : Nat) (m : Nat) : Nat → Int32 → Int32 → Int32 → kt_M → Option (Int32 × kt_M)
  | 0, _, _, _, _ => none
  | k + 1, l1, l2, l3, μ => x_sweep_B48 n m (x_sweep_L48 n m k) l1 l2 l3 μ
set_option maxHeartbeats 4000000 in
set_option maxRecDepth 100000 in
theorem xw_sweep_L48 {G : kt_G} {σ : kt_Y} {X : kt_X} (hX : kt_ok G X RX10 cX10_sweep 5 4 0 0) (hr : kt_rt X = (some .int)) {m : Nat} (hm : kt_md σ m) {n : Nat} {q : (Int32 × kt_M)} : ∀ (k : Nat) (l1 : Int32) (l2 : Int32) (l3 : Int32) (μ : kt_M), x_sweep_L48 n m k l1 l2 l3 μ = some q → kt_W G X 5 48 [(0, .ref m), (1, .int l1), (2, .int l2), (3, .int l3)] [] σ μ 0 0 (kt_Z G X (kt_q σ (fun rv μ2 => rv = some (.int q.1) ∧ μ2 = q.2)) 0 0) := by
  intro k
  induction k with
  | zero => intro l1 l2 l3 μ h; cases h
  | succ k ih => intro l1 l2 l3 μ h; exact xw_sweep_B48 hX hr hm ih h
def x_sweep_B16 (n : Nat) (m : Nat) (K16 : Int32 → Int32 → Int32 → kt_M → Option (Int32 × kt_M)) (l1 : Int32) (l2 : Int32) (l3 : Int32) (μ : kt_M) : Option (Int32 × kt_M) := (if l2 ≤ l3 then x_sweep_L48 n m n l1 l2 (0 : Int32) μ else kq_ck (kq_in l3 16) (kq_lt (kt_si μ (m + 11) (Int32.toNatClampNeg l3) l1) (fun μ_27 => kq_ck (kq_in l3 16) (kq_b1 (x_flag n (kt_i μ_27 (m + 9) (Int32.toNatClampNeg l3))) (fun r_35 => K16 (l1 + r_35) l2 (l3 + 1) μ_27)))))
set_option maxHeartbeats 4000000 in
set_option maxRecDepth 100000 in
theorem xw_sweep_B16 {G : kt_G} {σ : kt_Y} {X : kt_X} (hX : kt_ok G X RX10 cX10_sweep 5 4 0 0) (hr : kt_rt X = (some .int)) {m : Nat} (hm : kt_md σ m) {n : Nat} {q : (Int32 × kt_M)} {K16 : Int32 → Int32 → Int32 → kt_M → Option (Int32 × kt_M)} (hK16 : ∀ (l1 : Int32) (l2 : Int32) (l3 : Int32) (μ : kt_M), K16 l1 l2 l3 μ = some q → kt_W G X 5 16 [(0, .ref m), (1, .int l1), (2, .int l2), (3, .int l3)] [] σ μ 0 0 (kt_Z G X (kt_q σ (fun rv μ2 => rv = some (.int q.1) ∧ μ2 = q.2)) 0 0)) {l1 : Int32} {l2 : Int32} {l3 : Int32} {μ : kt_M} (h : x_sweep_B16 n m K16 l1 l2 l3 μ = some q) : kt_W G X 5 16 [(0, .ref m), (1, .int l1), (2, .int l2), (3, .int l3)] [] σ μ 0 0 (kt_Z G X (kt_q σ (fun rv μ2 => rv = some (.int q.1) ∧ μ2 = q.2)) 0 0) := by
  unfold x_sweep_B16 at h
  refine kr_iload_n (i := 3) hX dX10_sweep_16 rfl rfl ?_
  refine kr_iload_n (i := 2) hX dX10_sweep_17 rfl rfl ?_
  refine kr_icmp_ge (tgt := 46) hX dX10_sweep_18 (by decide) (fun c_18 => ?_) (fun c_18 => ?_)
  · replace h := kq_t c_18 h
    refine kr_iconst (v := 0) hX dX10_sweep_46 (by decide) ?_
    refine kr_istore_n (i := 3) hX dX10_sweep_47 rfl (by decide) rfl rfl ?_
    refine kr_keep (lv' := [(0, .ref m), (1, .int l1), (2, .int l2), (3, .int (0 : Int32))]) [0, 1, 2, 3] rfl ?_
    exact xw_sweep_L48 hX hr hm n _ _ _ _ h
  · replace h := kq_f c_18 h
    refine kr_aload_n (i := 0) hX dX10_sweep_21 rfl rfl ?_
    refine kr_getr (c0 := 10) (k := 18) hX ⟨_, kf_10_46⟩ dX10_sweep_22 rfl (md_k hm) (md_r18 hm) ?_
    refine kr_iload_n (i := 3) hX dX10_sweep_25 rfl rfl ?_
    refine kr_iload_n (i := 1) hX dX10_sweep_26 rfl rfl ?_
    obtain ⟨i_27, h⟩ := kq_ck_e h
    refine kr_iast hX dX10_sweep_27 (md_a11 hm) (vp_in_iff.mpr i_27) ?_
    refine kr_ltM h (fun μ_27 h => ?_)
    refine kr_iload_n (i := 1) hX dX10_sweep_28 rfl rfl ?_
    refine kr_aload_n (i := 0) hX dX10_sweep_29 rfl rfl ?_
    refine kr_getr (c0 := 10) (k := 16) hX ⟨_, kf_10_40⟩ dX10_sweep_30 rfl (md_k hm) (md_r16 hm) ?_
    refine kr_iload_n (i := 3) hX dX10_sweep_33 rfl rfl ?_
    obtain ⟨i_34, h⟩ := kq_ck_e h
    refine kr_bald hX dX10_sweep_34 (md_a9 hm) (vp_in_iff.mpr i_34) ?_
    obtain ⟨r_35, e_35, h⟩ := kq_b1_e h
    refine kr_dS [_] hX km_10_145 dX10_sweep_35 (xs_flag e_35) rfl rfl (by decide) (Nat.le_of_ble_eq_true rfl) (Nat.le_refl _) (Nat.le_refl _) ?_
    refine kr_iadd hX dX10_sweep_38 ?_
    refine kr_istore_n (i := 1) hX dX10_sweep_39 rfl (by decide) rfl rfl ?_
    refine kr_iinc (v := (l3 + 1)) hX dX10_sweep_40 rfl rfl (by decide) rfl rfl ?_
    refine kr_goto (tgt := 16) hX dX10_sweep_43 (by decide) ?_
    refine kr_keep (lv' := [(0, .ref m), (1, .int (l1 + r_35)), (2, .int l2), (3, .int (l3 + 1))]) [0, 1, 2, 3] rfl ?_
    exact hK16 _ _ _ _ h
def x_sweep_L16 (n : Nat) (m : Nat) : Nat → Int32 → Int32 → Int32 → kt_M → Option (Int32 × kt_M)
  | 0, _, _, _, _ => none
  | k + 1, l1, l2, l3, μ => x_sweep_B16 n m (x_sweep_L16 n m k) l1 l2 l3 μ
set_option maxHeartbeats 4000000 in
set_option maxRecDepth 100000 in
theorem xw_sweep_L16 {G : kt_G} {σ : kt_Y} {X : kt_X} (hX : kt_ok G X RX10 cX10_sweep 5 4 0 0) (hr : kt_rt X = (some .int)) {m : Nat} (hm : kt_md σ m) {n : Nat} {q : (Int32 × kt_M)} : ∀ (k : Nat) (l1 : Int32) (l2 : Int32) (l3 : Int32) (μ : kt_M), x_sweep_L16 n m k l1 l2 l3 μ = some q → kt_W G X 5 16 [(0, .ref m), (1, .int l1), (2, .int l2), (3, .int l3)] [] σ μ 0 0 (kt_Z G X (kt_q σ (fun rv μ2 => rv = some (.int q.1) ∧ μ2 = q.2)) 0 0) := by
  intro k
  induction k with
  | zero => intro l1 l2 l3 μ h; cases h
  | succ k ih => intro l1 l2 l3 μ h; exact xw_sweep_B16 hX hr hm ih h
def x_sweep (n : Nat) (m : Nat) (μ : kt_M) : Option (Int32 × kt_M) := kq_b2 (x_meets n m μ ((-4) : Int32)) (fun r_3 μ_3 => kq_b2 (x_many n m μ_3 (1 : Int32)) (fun r_10 μ_10 => x_sweep_L16 n m n (0 : Int32) r_10 (0 : Int32) μ_10))
set_option maxHeartbeats 4000000 in
set_option maxRecDepth 100000 in
theorem xs_sweep {G : kt_G} {σ : kt_Y} {μ : kt_M} {m : Nat} (hm : kt_md σ m) {n : Nat} {r : Int32} {μ1 : kt_M} (h : x_sweep n m μ = some (r, μ1)) : kt_F G yX10_sweep cX10_sweep 5 (some .int) 4 [.ref m] σ μ (fun rv μ2 => rv = some (.int r) ∧ μ2 = μ1) := by
  have key : ∀ q : (Int32 × kt_M), x_sweep n m μ = some q → kt_F G yX10_sweep cX10_sweep 5 (some .int) 4 [.ref m] σ μ (fun rv μ2 => rv = some (.int q.1) ∧ μ2 = q.2) := by
    intro q h
    unfold x_sweep at h
    refine kt_F.of (by decide) (Nat.le_of_ble_eq_true rfl) (fun X hX hr => ?_)
    refine kr_aload_n (i := 0) hX dX10_sweep_0 rfl rfl ?_
    refine kr_bipush (v := (-4)) hX dX10_sweep_1 (by decide) ?_
    obtain ⟨r_3, μ_3, e_3, h⟩ := kq_b2_e h
    refine kr_dV (c1 := 10) [_] hX km_10_287 dX10_sweep_3 (xs_meets hm e_3) rfl rfl ⟨_, _, rfl⟩ (by decide) (Nat.le_of_ble_eq_true rfl) (Nat.le_refl _) (Nat.le_refl _) (md_k hm) ?_
    refine kr_iconst (v := 0) hX dX10_sweep_6 (by decide) ?_
    refine kr_istore_n (i := 1) hX dX10_sweep_7 rfl (by decide) rfl rfl ?_
    refine kr_aload_n (i := 0) hX dX10_sweep_8 rfl rfl ?_
    refine kr_iconst (v := 1) hX dX10_sweep_9 (by decide) ?_
    obtain ⟨r_10, μ_10, e_10, h⟩ := kq_b2_e h
    refine kr_dV (c1 := 10) [_] hX km_10_172 dX10_sweep_10 (xs_many hm e_10) rfl rfl ⟨_, _, rfl⟩ (by decide) (Nat.le_of_ble_eq_true rfl) (Nat.le_refl _) (Nat.le_refl _) (md_k hm) ?_
    refine kr_istore_n (i := 2) hX dX10_sweep_13 rfl (by decide) rfl rfl ?_
    refine kr_iconst (v := 0) hX dX10_sweep_14 (by decide) ?_
    refine kr_istore_n (i := 3) hX dX10_sweep_15 rfl (by decide) rfl rfl ?_
    refine kr_keep (lv' := [(0, .ref m), (1, .int (0 : Int32)), (2, .int r_10), (3, .int (0 : Int32))]) [0, 1, 2, 3] rfl ?_
    exact xw_sweep_L16 hX hr hm n _ _ _ _ h
  exact key (r, μ1) h
def x_limit (n : Nat) (m : Nat) (μ : kt_M) (a0 : Int32) : Option (Int32 × kt_M) := kq_b1 (x_in n (Int32.toInt64 a0) (0 : Int64) (4 : Int64)) (fun r_6 => (if r_6 = 0 then some (((-1) : Int32), μ) else kq_lt (kt_si μ m 4 a0) (fun μ_21 => some ((kt_i μ m 4), μ_21))))
set_option maxHeartbeats 4000000 in
set_option maxRecDepth 100000 in
theorem xs_limit {G : kt_G} {σ : kt_Y} {μ : kt_M} {m : Nat} (hm : kt_md σ m) {n : Nat} {a0 : Int32} {r : Int32} {μ1 : kt_M} (h : x_limit n m μ a0 = some (r, μ1)) : kt_F G yX10_limit cX10_limit 3 (some .int) 1 [.ref m, .int a0] σ μ (fun rv μ2 => rv = some (.int r) ∧ μ2 = μ1) := by
  have key : ∀ q : (Int32 × kt_M), x_limit n m μ a0 = some q → kt_F G yX10_limit cX10_limit 3 (some .int) 1 [.ref m, .int a0] σ μ (fun rv μ2 => rv = some (.int q.1) ∧ μ2 = q.2) := by
    intro q h
    unfold x_limit at h
    refine kt_F.of (by decide) (Nat.le_of_ble_eq_true rfl) (fun X hX hr => ?_)
    refine kr_iload_n (i := 1) hX dX10_limit_0 rfl rfl ?_
    refine kr_i2l hX dX10_limit_1 rfl ?_
    refine kr_lconst (v := 0) hX dX10_limit_2 (by decide) ?_
    refine kr_ldc2 (v := 4) hX kw_1426 dX10_limit_3 ?_
    obtain ⟨r_6, e_6, h⟩ := kq_b1_e h
    refine kr_dS [_, _, _] hX km_10_80 dX10_limit_6 (xs_in e_6) rfl rfl (by decide) (Nat.le_of_ble_eq_true rfl) (Nat.le_refl _) (Nat.le_refl _) ?_
    refine kr_if_ne (tgt := 14) hX dX10_limit_9 (by decide) (fun c_9 => ?_) (fun c_9 => ?_)
    · replace h := kq_f c_9 h
      refine kr_aload_n (i := 0) hX dX10_limit_14 rfl rfl ?_
      refine kr_geti (c0 := 10) (k := 4) hX ⟨_, kf_10_23⟩ dX10_limit_15 rfl (md_k hm) ?_
      refine kr_istore_n (i := 2) hX dX10_limit_18 rfl (by decide) rfl rfl ?_
      refine kr_aload_n (i := 0) hX dX10_limit_19 rfl rfl ?_
      refine kr_iload_n (i := 1) hX dX10_limit_20 rfl rfl ?_
      refine kr_puti (c0 := 10) (k := 4) hX kf_10_23 dX10_limit_21 rfl rfl rfl (md_k hm) ?_
      refine kr_ltM h (fun μ_21 h => ?_)
      refine kr_iload_n (i := 2) hX dX10_limit_24 rfl rfl ?_
      refine kr_iret hX hr dX10_limit_25 ⟨rfl, ?_⟩
      exact kq_rI h
    · replace h := kq_t c_9 h
      refine kr_iconst (v := (-1)) hX dX10_limit_12 (by decide) ?_
      refine kr_iret hX hr dX10_limit_13 ⟨rfl, ?_⟩
      exact kq_rI h
  exact key (r, μ1) h
def x_acts_J188 (n : Nat) (m : Nat) (μ : kt_M) : Option (Unit × kt_M) := kq_lt (kt_si μ m 23 ((kt_i μ m 23) + (1 : Int32))) (fun μ_195 => some ((), μ_195))
set_option maxHeartbeats 4000000 in
set_option maxRecDepth 100000 in
theorem xw_acts_J188 {G : kt_G} {σ : kt_Y} {X : kt_X} (hX : kt_ok G X RX10 cX10_acts 5 1 0 0) (hr : kt_rt X = none) {m : Nat} (hm : kt_md σ m) {n : Nat} {q : (Unit × kt_M)} {μ : kt_M} (h : x_acts_J188 n m μ = some q) : kt_W G X 5 188 [(0, .ref m)] [] σ μ 0 0 (kt_Z G X (kt_q σ (fun rv μ2 => rv = none ∧ μ2 = q.2)) 0 0) := by
  unfold x_acts_J188 at h
  refine kr_aload_n (i := 0) hX dX10_acts_188 rfl rfl ?_
  refine kr_dup hX dX10_acts_189 rfl ?_
  refine kr_geti (c0 := 10) (k := 23) hX ⟨_, kf_10_321⟩ dX10_acts_190 rfl (md_k hm) ?_
  refine kr_iconst (v := 1) hX dX10_acts_193 (by decide) ?_
  refine kr_iadd hX dX10_acts_194 ?_
  refine kr_puti (c0 := 10) (k := 23) hX kf_10_321 dX10_acts_195 rfl rfl rfl (md_k hm) ?_
  refine kr_ltM h (fun μ_195 h => ?_)
  refine kr_vret hX hr dX10_acts_198 ⟨rfl, ?_⟩
  exact kq_rV h
def x_acts_J78 (n : Nat) (m : Nat) (s1 : Int32) (s2 : Int32) (μ : kt_M) : Option (Unit × kt_M) := kq_ck (kq_in s1 4) (kq_lt (kt_si μ (m + 12) (Int32.toNatClampNeg s1) s2) (fun μ_78 => x_acts_J188 n m μ_78))
set_option maxHeartbeats 4000000 in
set_option maxRecDepth 100000 in
theorem xw_acts_J78 {G : kt_G} {σ : kt_Y} {X : kt_X} (hX : kt_ok G X RX10 cX10_acts 5 1 0 0) (hr : kt_rt X = none) {m : Nat} (hm : kt_md σ m) {n : Nat} {q : (Unit × kt_M)} {s1 : Int32} {s2 : Int32} {μ : kt_M} (h : x_acts_J78 n m s1 s2 μ = some q) : kt_W G X 5 78 [(0, .ref m)] [.int s2, .int s1, .ref (m + 12)] σ μ 0 0 (kt_Z G X (kt_q σ (fun rv μ2 => rv = none ∧ μ2 = q.2)) 0 0) := by
  unfold x_acts_J78 at h
  obtain ⟨i_78, h⟩ := kq_ck_e h
  refine kr_iast hX dX10_acts_78 (md_a12 hm) (vp_in_iff.mpr i_78) ?_
  refine kr_ltM h (fun μ_78 h => ?_)
  refine kr_goto (tgt := 188) hX dX10_acts_79 (by decide) ?_
  refine kr_keep (lv' := [(0, .ref m)]) [0] rfl ?_
  exact xw_acts_J188 hX hr hm h
def x_acts_J106 (n : Nat) (m : Nat) (s1 : Int32) (s2 : Int32) (μ : kt_M) : Option (Unit × kt_M) := kq_ck (kq_in s1 4) (kq_lt (kt_si μ (m + 12) (Int32.toNatClampNeg s1) s2) (fun μ_106 => x_acts_J188 n m μ_106))
set_option maxHeartbeats 4000000 in
set_option maxRecDepth 100000 in
theorem xw_acts_J106 {G : kt_G} {σ : kt_Y} {X : kt_X} (hX : kt_ok G X RX10 cX10_acts 5 1 0 0) (hr : kt_rt X = none) {m : Nat} (hm : kt_md σ m) {n : Nat} {q : (Unit × kt_M)} {s1 : Int32} {s2 : Int32} {μ : kt_M} (h : x_acts_J106 n m s1 s2 μ = some q) : kt_W G X 5 106 [(0, .ref m)] [.int s2, .int s1, .ref (m + 12)] σ μ 0 0 (kt_Z G X (kt_q σ (fun rv μ2 => rv = none ∧ μ2 = q.2)) 0 0) := by
  unfold x_acts_J106 at h
  obtain ⟨i_106, h⟩ := kq_ck_e h
  refine kr_iast hX dX10_acts_106 (md_a12 hm) (vp_in_iff.mpr i_106) ?_
  refine kr_ltM h (fun μ_106 h => ?_)
  refine kr_goto (tgt := 188) hX dX10_acts_107 (by decide) ?_
  refine kr_keep (lv' := [(0, .ref m)]) [0] rfl ?_
  exact xw_acts_J188 hX hr hm h
def x_acts_J153 (n : Nat) (m : Nat) (s1 : Int32) (s2 : Int32) (μ : kt_M) : Option (Unit × kt_M) := kq_ck (kq_in s1 4) (kq_lt (kt_si μ (m + 12) (Int32.toNatClampNeg s1) s2) (fun μ_153 => kq_lt (kt_si μ_153 m 26 ((kt_i μ_153 m 26) + (1 : Int32))) (fun μ_161 => x_acts_J188 n m μ_161)))
set_option maxHeartbeats 4000000 in
set_option maxRecDepth 100000 in
theorem xw_acts_J153 {G : kt_G} {σ : kt_Y} {X : kt_X} (hX : kt_ok G X RX10 cX10_acts 5 1 0 0) (hr : kt_rt X = none) {m : Nat} (hm : kt_md σ m) {n : Nat} {q : (Unit × kt_M)} {s1 : Int32} {s2 : Int32} {μ : kt_M} (h : x_acts_J153 n m s1 s2 μ = some q) : kt_W G X 5 153 [(0, .ref m)] [.int s2, .int s1, .ref (m + 12)] σ μ 0 0 (kt_Z G X (kt_q σ (fun rv μ2 => rv = none ∧ μ2 = q.2)) 0 0) := by
  unfold x_acts_J153 at h
  obtain ⟨i_153, h⟩ := kq_ck_e h
  refine kr_iast hX dX10_acts_153 (md_a12 hm) (vp_in_iff.mpr i_153) ?_
  refine kr_ltM h (fun μ_153 h => ?_)
  refine kr_aload_n (i := 0) hX dX10_acts_154 rfl rfl ?_
  refine kr_dup hX dX10_acts_155 rfl ?_
  refine kr_geti (c0 := 10) (k := 26) hX ⟨_, kf_10_315⟩ dX10_acts_156 rfl (md_k hm) ?_
  refine kr_iconst (v := 1) hX dX10_acts_159 (by decide) ?_
  refine kr_iadd hX dX10_acts_160 ?_
  refine kr_puti (c0 := 10) (k := 26) hX kf_10_315 dX10_acts_161 rfl rfl rfl (md_k hm) ?_
  refine kr_ltM h (fun μ_161 h => ?_)
  refine kr_goto (tgt := 188) hX dX10_acts_164 (by decide) ?_
  refine kr_keep (lv' := [(0, .ref m)]) [0] rfl ?_
  exact xw_acts_J188 hX hr hm h
def x_acts (n : Nat) (m : Nat) (μ : kt_M) (a0 : Int32) (a1 : Int32) (a2 : Int32) : Option (Unit × kt_M) := kq_ck (kq_in a1 4) ((if a0 = (0 : Int32) then kq_ck (kq_in a1 4) (kq_lt (kt_si μ (m + 12) (Int32.toNatClampNeg a1) a2) (fun μ_50 => x_acts_J188 n m μ_50)) else (if a0 = (1 : Int32) then (if (kt_i μ (m + 12) (Int32.toNatClampNeg a1)) = (51 : Int32) then x_acts_J78 n m a1 (51 : Int32) μ else kq_b1 (x_bounded n ((kt_i μ (m + 12) (Int32.toNatClampNeg a1)) + a2)) (fun r_75 => x_acts_J78 n m a1 r_75 μ)) else (if a0 = (2 : Int32) then (if (kt_i μ (m + 12) (Int32.toNatClampNeg a1)) = (51 : Int32) then x_acts_J106 n m a1 (51 : Int32) μ else kq_b1 (x_bounded n ((kt_i μ (m + 12) (Int32.toNatClampNeg a1)) - a2)) (fun r_103 => x_acts_J106 n m a1 r_103 μ)) else (if a0 = (3 : Int32) then kq_ck (kq_in a2 4) (kq_ck (kq_in a1 4) (kq_lt (kt_si μ (m + 12) (Int32.toNatClampNeg a1) (kt_i μ (m + 12) (Int32.toNatClampNeg a2))) (fun μ_121 => x_acts_J188 n m μ_121))) else (if a0 = (4 : Int32) then (if (8 : Int32) ≤ (kt_i μ m 26) then x_acts_J153 n m a1 (51 : Int32) μ else kq_ck (kq_in (kt_i μ m 26) 8) (x_acts_J153 n m a1 (kt_i μ (m + 3) (Int32.toNatClampNeg (kt_i μ m 26))) μ)) else kq_ck (kq_in (kt_i μ m 25) 240) (kq_lt (kt_si μ (m + 13) (Int32.toNatClampNeg (kt_i μ m 25)) (kt_i μ (m + 12) (Int32.toNatClampNeg a1))) (fun μ_177 => kq_lt (kt_si μ_177 m 25 ((kt_i μ_177 m 25) + (1 : Int32))) (fun μ_185 => x_acts_J188 n m μ_185)))))))))
set_option maxHeartbeats 4000000 in
set_option maxRecDepth 100000 in
theorem xs_acts {G : kt_G} {σ : kt_Y} {μ : kt_M} {m : Nat} (hm : kt_md σ m) {n : Nat} {a0 : Int32} {a1 : Int32} {a2 : Int32} {r : Unit} {μ1 : kt_M} (h : x_acts n m μ a0 a1 a2 = some (r, μ1)) : kt_F G yX10_acts cX10_acts 5 none 1 [.ref m, .int a0, .int a1, .int a2] σ μ (fun rv μ2 => rv = none ∧ μ2 = μ1) := by
  have key : ∀ q : (Unit × kt_M), x_acts n m μ a0 a1 a2 = some q → kt_F G yX10_acts cX10_acts 5 none 1 [.ref m, .int a0, .int a1, .int a2] σ μ (fun rv μ2 => rv = none ∧ μ2 = q.2) := by
    intro q h
    unfold x_acts at h
    refine kt_F.of (by decide) (Nat.le_of_ble_eq_true rfl) (fun X hX hr => ?_)
    refine kr_aload_n (i := 0) hX dX10_acts_0 rfl rfl ?_
    refine kr_getr (c0 := 10) (k := 19) hX ⟨_, kf_10_49⟩ dX10_acts_1 rfl (md_k hm) (md_r19 hm) ?_
    refine kr_iload_n (i := 2) hX dX10_acts_4 rfl rfl ?_
    obtain ⟨i_5, h⟩ := kq_ck_e h
    refine kr_iald hX dX10_acts_5 (md_a12 hm) (vp_in_iff.mpr i_5) ?_
    refine kr_istore hX dX10_acts_6 (by decide) rfl rfl ?_
    refine kr_iload_n (i := 1) hX dX10_acts_8 rfl rfl ?_
    by_cases c_9_0 : a0 = (0 : Int32)
    · replace h := kq_t c_9_0 h
      refine kr_tabIn (tgt := 44) (off := 35) hX dX10_acts_9 (by rw [c_9_0]; decide) (by rw [c_9_0]; decide) (by rw [c_9_0]; rfl) (by decide) ?_
      refine kr_aload_n (i := 0) hX dX10_acts_44 rfl rfl ?_
      refine kr_getr (c0 := 10) (k := 19) hX ⟨_, kf_10_49⟩ dX10_acts_45 rfl (md_k hm) (md_r19 hm) ?_
      refine kr_iload_n (i := 2) hX dX10_acts_48 rfl rfl ?_
      refine kr_iload_n (i := 3) hX dX10_acts_49 rfl rfl ?_
      obtain ⟨i_50, h⟩ := kq_ck_e h
      refine kr_iast hX dX10_acts_50 (md_a12 hm) (vp_in_iff.mpr i_50) ?_
      refine kr_ltM h (fun μ_50 h => ?_)
      refine kr_goto (tgt := 188) hX dX10_acts_51 (by decide) ?_
      refine kr_keep (lv' := [(0, .ref m)]) [0] rfl ?_
      exact xw_acts_J188 hX hr hm h
    replace h := kq_f c_9_0 h
    by_cases c_9_1 : a0 = (1 : Int32)
    · replace h := kq_t c_9_1 h
      refine kr_tabIn (tgt := 54) (off := 45) hX dX10_acts_9 (by rw [c_9_1]; decide) (by rw [c_9_1]; decide) (by rw [c_9_1]; rfl) (by decide) ?_
      refine kr_aload_n (i := 0) hX dX10_acts_54 rfl rfl ?_
      refine kr_getr (c0 := 10) (k := 19) hX ⟨_, kf_10_49⟩ dX10_acts_55 rfl (md_k hm) (md_r19 hm) ?_
      refine kr_iload_n (i := 2) hX dX10_acts_58 rfl rfl ?_
      refine kr_iload hX dX10_acts_59 rfl ?_
      refine kr_bipush (v := 51) hX dX10_acts_61 (by decide) ?_
      refine kr_icmp_ne (tgt := 71) hX dX10_acts_63 (by decide) (fun c_63 => ?_) (fun c_63 => ?_)
      · replace h := kq_f c_63 h
        refine kr_iload hX dX10_acts_71 rfl ?_
        refine kr_iload_n (i := 3) hX dX10_acts_73 rfl rfl ?_
        refine kr_iadd hX dX10_acts_74 ?_
        obtain ⟨r_75, e_75, h⟩ := kq_b1_e h
        refine kr_dS [_] hX km_10_217 dX10_acts_75 (xs_bounded e_75) rfl rfl (by decide) (Nat.le_of_ble_eq_true rfl) (Nat.le_refl _) (Nat.le_refl _) ?_
        refine kr_keep (lv' := [(0, .ref m)]) [0] rfl ?_
        exact xw_acts_J78 hX hr hm h
      · replace h := kq_t c_63 h
        refine kr_bipush (v := 51) hX dX10_acts_66 (by decide) ?_
        refine kr_goto (tgt := 78) hX dX10_acts_68 (by decide) ?_
        refine kr_keep (lv' := [(0, .ref m)]) [0] rfl ?_
        exact xw_acts_J78 hX hr hm h
    replace h := kq_f c_9_1 h
    by_cases c_9_2 : a0 = (2 : Int32)
    · replace h := kq_t c_9_2 h
      refine kr_tabIn (tgt := 82) (off := 73) hX dX10_acts_9 (by rw [c_9_2]; decide) (by rw [c_9_2]; decide) (by rw [c_9_2]; rfl) (by decide) ?_
      refine kr_aload_n (i := 0) hX dX10_acts_82 rfl rfl ?_
      refine kr_getr (c0 := 10) (k := 19) hX ⟨_, kf_10_49⟩ dX10_acts_83 rfl (md_k hm) (md_r19 hm) ?_
      refine kr_iload_n (i := 2) hX dX10_acts_86 rfl rfl ?_
      refine kr_iload hX dX10_acts_87 rfl ?_
      refine kr_bipush (v := 51) hX dX10_acts_89 (by decide) ?_
      refine kr_icmp_ne (tgt := 99) hX dX10_acts_91 (by decide) (fun c_91 => ?_) (fun c_91 => ?_)
      · replace h := kq_f c_91 h
        refine kr_iload hX dX10_acts_99 rfl ?_
        refine kr_iload_n (i := 3) hX dX10_acts_101 rfl rfl ?_
        refine kr_isub hX dX10_acts_102 ?_
        obtain ⟨r_103, e_103, h⟩ := kq_b1_e h
        refine kr_dS [_] hX km_10_217 dX10_acts_103 (xs_bounded e_103) rfl rfl (by decide) (Nat.le_of_ble_eq_true rfl) (Nat.le_refl _) (Nat.le_refl _) ?_
        refine kr_keep (lv' := [(0, .ref m)]) [0] rfl ?_
        exact xw_acts_J106 hX hr hm h
      · replace h := kq_t c_91 h
        refine kr_bipush (v := 51) hX dX10_acts_94 (by decide) ?_
        refine kr_goto (tgt := 106) hX dX10_acts_96 (by decide) ?_
        refine kr_keep (lv' := [(0, .ref m)]) [0] rfl ?_
        exact xw_acts_J106 hX hr hm h
    replace h := kq_f c_9_2 h
    by_cases c_9_3 : a0 = (3 : Int32)
    · replace h := kq_t c_9_3 h
      refine kr_tabIn (tgt := 110) (off := 101) hX dX10_acts_9 (by rw [c_9_3]; decide) (by rw [c_9_3]; decide) (by rw [c_9_3]; rfl) (by decide) ?_
      refine kr_aload_n (i := 0) hX dX10_acts_110 rfl rfl ?_
      refine kr_getr (c0 := 10) (k := 19) hX ⟨_, kf_10_49⟩ dX10_acts_111 rfl (md_k hm) (md_r19 hm) ?_
      refine kr_iload_n (i := 2) hX dX10_acts_114 rfl rfl ?_
      refine kr_aload_n (i := 0) hX dX10_acts_115 rfl rfl ?_
      refine kr_getr (c0 := 10) (k := 19) hX ⟨_, kf_10_49⟩ dX10_acts_116 rfl (md_k hm) (md_r19 hm) ?_
      refine kr_iload_n (i := 3) hX dX10_acts_119 rfl rfl ?_
      obtain ⟨i_120, h⟩ := kq_ck_e h
      refine kr_iald hX dX10_acts_120 (md_a12 hm) (vp_in_iff.mpr i_120) ?_
      obtain ⟨i_121, h⟩ := kq_ck_e h
      refine kr_iast hX dX10_acts_121 (md_a12 hm) (vp_in_iff.mpr i_121) ?_
      refine kr_ltM h (fun μ_121 h => ?_)
      refine kr_goto (tgt := 188) hX dX10_acts_122 (by decide) ?_
      refine kr_keep (lv' := [(0, .ref m)]) [0] rfl ?_
      exact xw_acts_J188 hX hr hm h
    replace h := kq_f c_9_3 h
    by_cases c_9_4 : a0 = (4 : Int32)
    · replace h := kq_t c_9_4 h
      refine kr_tabIn (tgt := 125) (off := 116) hX dX10_acts_9 (by rw [c_9_4]; decide) (by rw [c_9_4]; decide) (by rw [c_9_4]; rfl) (by decide) ?_
      refine kr_aload_n (i := 0) hX dX10_acts_125 rfl rfl ?_
      refine kr_getr (c0 := 10) (k := 19) hX ⟨_, kf_10_49⟩ dX10_acts_126 rfl (md_k hm) (md_r19 hm) ?_
      refine kr_iload_n (i := 2) hX dX10_acts_129 rfl rfl ?_
      refine kr_aload_n (i := 0) hX dX10_acts_130 rfl rfl ?_
      refine kr_geti (c0 := 10) (k := 26) hX ⟨_, kf_10_315⟩ dX10_acts_131 rfl (md_k hm) ?_
      refine kr_bipush (v := 8) hX dX10_acts_134 (by decide) ?_
      refine kr_icmp_ge (tgt := 151) hX dX10_acts_136 (by decide) (fun c_136 => ?_) (fun c_136 => ?_)
      · replace h := kq_t c_136 h
        refine kr_bipush (v := 51) hX dX10_acts_151 (by decide) ?_
        refine kr_keep (lv' := [(0, .ref m)]) [0] rfl ?_
        exact xw_acts_J153 hX hr hm h
      · replace h := kq_f c_136 h
        refine kr_aload_n (i := 0) hX dX10_acts_139 rfl rfl ?_
        refine kr_getr (c0 := 10) (k := 2) hX ⟨_, kf_10_16⟩ dX10_acts_140 rfl (md_k hm) (md_r2 hm) ?_
        refine kr_aload_n (i := 0) hX dX10_acts_143 rfl rfl ?_
        refine kr_geti (c0 := 10) (k := 26) hX ⟨_, kf_10_315⟩ dX10_acts_144 rfl (md_k hm) ?_
        obtain ⟨i_147, h⟩ := kq_ck_e h
        refine kr_iald hX dX10_acts_147 (md_a3 hm) (vp_in_iff.mpr i_147) ?_
        refine kr_goto (tgt := 153) hX dX10_acts_148 (by decide) ?_
        refine kr_keep (lv' := [(0, .ref m)]) [0] rfl ?_
        exact xw_acts_J153 hX hr hm h
    replace h := kq_f c_9_4 h
    refine kr_tabOut (tgt := 167) hX dX10_acts_9 (by have q_0 := kt_ne c_9_0 (z := 0) (by decide); have q_1 := kt_ne c_9_1 (z := 1) (by decide); have q_2 := kt_ne c_9_2 (z := 2) (by decide); have q_3 := kt_ne c_9_3 (z := 3) (by decide); have q_4 := kt_ne c_9_4 (z := 4) (by decide); omega) (by decide) ?_
    refine kr_aload_n (i := 0) hX dX10_acts_167 rfl rfl ?_
    refine kr_getr (c0 := 10) (k := 20) hX ⟨_, kf_10_52⟩ dX10_acts_168 rfl (md_k hm) (md_r20 hm) ?_
    refine kr_aload_n (i := 0) hX dX10_acts_171 rfl rfl ?_
    refine kr_geti (c0 := 10) (k := 25) hX ⟨_, kf_10_318⟩ dX10_acts_172 rfl (md_k hm) ?_
    refine kr_iload hX dX10_acts_175 rfl ?_
    obtain ⟨i_177, h⟩ := kq_ck_e h
    refine kr_iast hX dX10_acts_177 (md_a13 hm) (vp_in_iff.mpr i_177) ?_
    refine kr_ltM h (fun μ_177 h => ?_)
    refine kr_aload_n (i := 0) hX dX10_acts_178 rfl rfl ?_
    refine kr_dup hX dX10_acts_179 rfl ?_
    refine kr_geti (c0 := 10) (k := 25) hX ⟨_, kf_10_318⟩ dX10_acts_180 rfl (md_k hm) ?_
    refine kr_iconst (v := 1) hX dX10_acts_183 (by decide) ?_
    refine kr_iadd hX dX10_acts_184 ?_
    refine kr_puti (c0 := 10) (k := 25) hX kf_10_318 dX10_acts_185 rfl rfl rfl (md_k hm) ?_
    refine kr_ltM h (fun μ_185 h => ?_)
    refine kr_keep (lv' := [(0, .ref m)]) [0] rfl ?_
    exact xw_acts_J188 hX hr hm h
  exact key (r, μ1) h
def x_holds_J70 (n : Nat) (m : Nat) (l1 : Int32) (l2 : Int32) (l3 : Int32) (l4 : Int32) (s0 : Int32) (μ : kt_M) : Option (Int32 × kt_M) := (if s0 = 0 then some ((0 : Int32), μ) else kq_b2 (x_of n m μ l1 l2 (13 : Int32)) (fun r_82 μ_82 => (if r_82 = (2 : Int32) then (if l4 ≤ l3 then some ((0 : Int32), μ_82) else some ((1 : Int32), μ_82)) else (if l3 = l4 then some ((1 : Int32), μ_82) else some ((0 : Int32), μ_82)))))
set_option maxHeartbeats 4000000 in
set_option maxRecDepth 100000 in
theorem xw_holds_J70 {G : kt_G} {σ : kt_Y} {X : kt_X} (hX : kt_ok G X RX10 cX10_holds 6 2 0 0) (hr : kt_rt X = (some .boolean)) {m : Nat} (hm : kt_md σ m) {n : Nat} {q : (Int32 × kt_M)} {l1 : Int32} {l2 : Int32} {l3 : Int32} {l4 : Int32} {s0 : Int32} {μ : kt_M} (h : x_holds_J70 n m l1 l2 l3 l4 s0 μ = some q) : kt_W G X 6 70 [(0, .ref m), (1, .int l1), (2, .int l2), (3, .int l3), (4, .int l4)] [.int s0] σ μ 0 0 (kt_Z G X (kt_q σ (fun rv μ2 => rv = some (.int q.1) ∧ μ2 = q.2)) 0 0) := by
  unfold x_holds_J70 at h
  refine kr_istore hX dX10_holds_70 (by decide) rfl rfl ?_
  refine kr_iload hX dX10_holds_72 rfl ?_
  refine kr_if_eq (tgt := 108) hX dX10_holds_74 (by decide) (fun c_74 => ?_) (fun c_74 => ?_)
  · replace h := kq_t c_74 h
    refine kr_iconst (v := 0) hX dX10_holds_108 (by decide) ?_
    refine kr_zret hX hr (by decide) dX10_holds_109 ⟨rfl, ?_⟩
    exact kq_rI h
  · replace h := kq_f c_74 h
    refine kr_aload_n (i := 0) hX dX10_holds_77 rfl rfl ?_
    refine kr_iload_n (i := 1) hX dX10_holds_78 rfl rfl ?_
    refine kr_iload_n (i := 2) hX dX10_holds_79 rfl rfl ?_
    refine kr_bipush (v := 13) hX dX10_holds_80 (by decide) ?_
    obtain ⟨r_82, μ_82, e_82, h⟩ := kq_b2_e h
    refine kr_dV (c1 := 10) [_, _, _] hX km_10_175 dX10_holds_82 (xs_of hm e_82) rfl rfl ⟨_, _, rfl⟩ (by decide) (Nat.le_of_ble_eq_true rfl) (Nat.le_refl _) (Nat.le_refl _) (md_k hm) ?_
    refine kr_iconst (v := 2) hX dX10_holds_85 (by decide) ?_
    refine kr_icmp_ne (tgt := 98) hX dX10_holds_86 (by decide) (fun c_86 => ?_) (fun c_86 => ?_)
    · replace h := kq_f c_86 h
      refine kr_iload_n (i := 3) hX dX10_holds_98 rfl rfl ?_
      refine kr_iload hX dX10_holds_99 rfl ?_
      refine kr_icmp_ne (tgt := 108) hX dX10_holds_101 (by decide) (fun c_101 => ?_) (fun c_101 => ?_)
      · replace h := kq_f c_101 h
        refine kr_iconst (v := 0) hX dX10_holds_108 (by decide) ?_
        refine kr_zret hX hr (by decide) dX10_holds_109 ⟨rfl, ?_⟩
        exact kq_rI h
      · replace h := kq_t c_101 h
        refine kr_iconst (v := 1) hX dX10_holds_104 (by decide) ?_
        refine kr_goto (tgt := 109) hX dX10_holds_105 (by decide) ?_
        refine kr_zret hX hr (by decide) dX10_holds_109 ⟨rfl, ?_⟩
        exact kq_rI h
    · replace h := kq_t c_86 h
      refine kr_iload_n (i := 3) hX dX10_holds_89 rfl rfl ?_
      refine kr_iload hX dX10_holds_90 rfl ?_
      refine kr_icmp_ge (tgt := 108) hX dX10_holds_92 (by decide) (fun c_92 => ?_) (fun c_92 => ?_)
      · replace h := kq_t c_92 h
        refine kr_iconst (v := 0) hX dX10_holds_108 (by decide) ?_
        refine kr_zret hX hr (by decide) dX10_holds_109 ⟨rfl, ?_⟩
        exact kq_rI h
      · replace h := kq_f c_92 h
        refine kr_goto (tgt := 104) hX dX10_holds_95 (by decide) ?_
        refine kr_iconst (v := 1) hX dX10_holds_104 (by decide) ?_
        refine kr_goto (tgt := 109) hX dX10_holds_105 (by decide) ?_
        refine kr_zret hX hr (by decide) dX10_holds_109 ⟨rfl, ?_⟩
        exact kq_rI h
def x_holds_J50 (n : Nat) (m : Nat) (l1 : Int32) (l2 : Int32) (l3 : Int32) (s0 : Int32) (μ : kt_M) : Option (Int32 × kt_M) := (if l3 = (51 : Int32) then x_holds_J70 n m l1 l2 l3 s0 (0 : Int32) μ else (if s0 = (51 : Int32) then x_holds_J70 n m l1 l2 l3 s0 (0 : Int32) μ else x_holds_J70 n m l1 l2 l3 s0 (1 : Int32) μ))
set_option maxHeartbeats 4000000 in
set_option maxRecDepth 100000 in
theorem xw_holds_J50 {G : kt_G} {σ : kt_Y} {X : kt_X} (hX : kt_ok G X RX10 cX10_holds 6 2 0 0) (hr : kt_rt X = (some .boolean)) {m : Nat} (hm : kt_md σ m) {n : Nat} {q : (Int32 × kt_M)} {l1 : Int32} {l2 : Int32} {l3 : Int32} {s0 : Int32} {μ : kt_M} (h : x_holds_J50 n m l1 l2 l3 s0 μ = some q) : kt_W G X 6 50 [(0, .ref m), (1, .int l1), (2, .int l2), (3, .int l3)] [.int s0] σ μ 0 0 (kt_Z G X (kt_q σ (fun rv μ2 => rv = some (.int q.1) ∧ μ2 = q.2)) 0 0) := by
  unfold x_holds_J50 at h
  refine kr_istore hX dX10_holds_50 (by decide) rfl rfl ?_
  refine kr_iload_n (i := 3) hX dX10_holds_52 rfl rfl ?_
  refine kr_bipush (v := 51) hX dX10_holds_53 (by decide) ?_
  refine kr_icmp_eq (tgt := 69) hX dX10_holds_55 (by decide) (fun c_55 => ?_) (fun c_55 => ?_)
  · replace h := kq_t c_55 h
    refine kr_iconst (v := 0) hX dX10_holds_69 (by decide) ?_
    refine kr_keep (lv' := [(0, .ref m), (1, .int l1), (2, .int l2), (3, .int l3), (4, .int s0)]) [0, 1, 2, 3, 4] rfl ?_
    exact xw_holds_J70 hX hr hm h
  · replace h := kq_f c_55 h
    refine kr_iload hX dX10_holds_58 rfl ?_
    refine kr_bipush (v := 51) hX dX10_holds_60 (by decide) ?_
    refine kr_icmp_eq (tgt := 69) hX dX10_holds_62 (by decide) (fun c_62 => ?_) (fun c_62 => ?_)
    · replace h := kq_t c_62 h
      refine kr_iconst (v := 0) hX dX10_holds_69 (by decide) ?_
      refine kr_keep (lv' := [(0, .ref m), (1, .int l1), (2, .int l2), (3, .int l3), (4, .int s0)]) [0, 1, 2, 3, 4] rfl ?_
      exact xw_holds_J70 hX hr hm h
    · replace h := kq_f c_62 h
      refine kr_iconst (v := 1) hX dX10_holds_65 (by decide) ?_
      refine kr_goto (tgt := 70) hX dX10_holds_66 (by decide) ?_
      refine kr_keep (lv' := [(0, .ref m), (1, .int l1), (2, .int l2), (3, .int l3), (4, .int s0)]) [0, 1, 2, 3, 4] rfl ?_
      exact xw_holds_J70 hX hr hm h
def x_holds (n : Nat) (m : Nat) (μ : kt_M) (a0 : Int32) (a1 : Int32) : Option (Int32 × kt_M) := kq_b2 (x_of n m μ a0 a1 (16 : Int32)) (fun r_9 μ_9 => kq_ck (kq_in r_9 4) (kq_b2 (x_of n m μ_9 a0 a1 (17 : Int32)) (fun r_19 μ_19 => (if r_19 = (1 : Int32) then kq_b2 (x_of n m μ_19 a0 a1 (18 : Int32)) (fun r_35 μ_35 => kq_ck (kq_in r_35 4) (x_holds_J50 n m a0 a1 (kt_i μ_9 (m + 12) (Int32.toNatClampNeg r_9)) (kt_i μ_35 (m + 12) (Int32.toNatClampNeg r_35)) μ_35)) else kq_b2 (x_of n m μ_19 a0 a1 (18 : Int32)) (fun r_47 μ_47 => x_holds_J50 n m a0 a1 (kt_i μ_9 (m + 12) (Int32.toNatClampNeg r_9)) r_47 μ_47)))))
set_option maxHeartbeats 4000000 in
set_option maxRecDepth 100000 in
theorem xs_holds {G : kt_G} {σ : kt_Y} {μ : kt_M} {m : Nat} (hm : kt_md σ m) {n : Nat} {a0 : Int32} {a1 : Int32} {r : Int32} {μ1 : kt_M} (h : x_holds n m μ a0 a1 = some (r, μ1)) : kt_F G yX10_holds cX10_holds 6 (some .boolean) 2 [.ref m, .int a0, .int a1] σ μ (fun rv μ2 => rv = some (.int r) ∧ μ2 = μ1) := by
  have key : ∀ q : (Int32 × kt_M), x_holds n m μ a0 a1 = some q → kt_F G yX10_holds cX10_holds 6 (some .boolean) 2 [.ref m, .int a0, .int a1] σ μ (fun rv μ2 => rv = some (.int q.1) ∧ μ2 = q.2) := by
    intro q h
    unfold x_holds at h
    refine kt_F.of (by decide) (Nat.le_of_ble_eq_true rfl) (fun X hX hr => ?_)
    refine kr_aload_n (i := 0) hX dX10_holds_0 rfl rfl ?_
    refine kr_getr (c0 := 10) (k := 19) hX ⟨_, kf_10_49⟩ dX10_holds_1 rfl (md_k hm) (md_r19 hm) ?_
    refine kr_aload_n (i := 0) hX dX10_holds_4 rfl rfl ?_
    refine kr_iload_n (i := 1) hX dX10_holds_5 rfl rfl ?_
    refine kr_iload_n (i := 2) hX dX10_holds_6 rfl rfl ?_
    refine kr_bipush (v := 16) hX dX10_holds_7 (by decide) ?_
    obtain ⟨r_9, μ_9, e_9, h⟩ := kq_b2_e h
    refine kr_dV (c1 := 10) [_, _, _] hX km_10_175 dX10_holds_9 (xs_of hm e_9) rfl rfl ⟨_, _, rfl⟩ (by decide) (Nat.le_of_ble_eq_true rfl) (Nat.le_refl _) (Nat.le_refl _) (md_k hm) ?_
    obtain ⟨i_12, h⟩ := kq_ck_e h
    refine kr_iald hX dX10_holds_12 (md_a12 hm) (vp_in_iff.mpr i_12) ?_
    refine kr_istore_n (i := 3) hX dX10_holds_13 rfl (by decide) rfl rfl ?_
    refine kr_aload_n (i := 0) hX dX10_holds_14 rfl rfl ?_
    refine kr_iload_n (i := 1) hX dX10_holds_15 rfl rfl ?_
    refine kr_iload_n (i := 2) hX dX10_holds_16 rfl rfl ?_
    refine kr_bipush (v := 17) hX dX10_holds_17 (by decide) ?_
    obtain ⟨r_19, μ_19, e_19, h⟩ := kq_b2_e h
    refine kr_dV (c1 := 10) [_, _, _] hX km_10_175 dX10_holds_19 (xs_of hm e_19) rfl rfl ⟨_, _, rfl⟩ (by decide) (Nat.le_of_ble_eq_true rfl) (Nat.le_refl _) (Nat.le_refl _) (md_k hm) ?_
    refine kr_iconst (v := 1) hX dX10_holds_22 (by decide) ?_
    refine kr_icmp_ne (tgt := 42) hX dX10_holds_23 (by decide) (fun c_23 => ?_) (fun c_23 => ?_)
    · replace h := kq_f c_23 h
      refine kr_aload_n (i := 0) hX dX10_holds_42 rfl rfl ?_
      refine kr_iload_n (i := 1) hX dX10_holds_43 rfl rfl ?_
      refine kr_iload_n (i := 2) hX dX10_holds_44 rfl rfl ?_
      refine kr_bipush (v := 18) hX dX10_holds_45 (by decide) ?_
      obtain ⟨r_47, μ_47, e_47, h⟩ := kq_b2_e h
      refine kr_dV (c1 := 10) [_, _, _] hX km_10_175 dX10_holds_47 (xs_of hm e_47) rfl rfl ⟨_, _, rfl⟩ (by decide) (Nat.le_of_ble_eq_true rfl) (Nat.le_refl _) (Nat.le_refl _) (md_k hm) ?_
      refine kr_keep (lv' := [(0, .ref m), (1, .int a0), (2, .int a1), (3, .int (kt_i μ_9 (m + 12) (Int32.toNatClampNeg r_9)))]) [0, 1, 2, 3] rfl ?_
      exact xw_holds_J50 hX hr hm h
    · replace h := kq_t c_23 h
      refine kr_aload_n (i := 0) hX dX10_holds_26 rfl rfl ?_
      refine kr_getr (c0 := 10) (k := 19) hX ⟨_, kf_10_49⟩ dX10_holds_27 rfl (md_k hm) (md_r19 hm) ?_
      refine kr_aload_n (i := 0) hX dX10_holds_30 rfl rfl ?_
      refine kr_iload_n (i := 1) hX dX10_holds_31 rfl rfl ?_
      refine kr_iload_n (i := 2) hX dX10_holds_32 rfl rfl ?_
      refine kr_bipush (v := 18) hX dX10_holds_33 (by decide) ?_
      obtain ⟨r_35, μ_35, e_35, h⟩ := kq_b2_e h
      refine kr_dV (c1 := 10) [_, _, _] hX km_10_175 dX10_holds_35 (xs_of hm e_35) rfl rfl ⟨_, _, rfl⟩ (by decide) (Nat.le_of_ble_eq_true rfl) (Nat.le_refl _) (Nat.le_refl _) (md_k hm) ?_
      obtain ⟨i_38, h⟩ := kq_ck_e h
      refine kr_iald hX dX10_holds_38 (md_a12 hm) (vp_in_iff.mpr i_38) ?_
      refine kr_goto (tgt := 50) hX dX10_holds_39 (by decide) ?_
      refine kr_keep (lv' := [(0, .ref m), (1, .int a0), (2, .int a1), (3, .int (kt_i μ_9 (m + 12) (Int32.toNatClampNeg r_9)))]) [0, 1, 2, 3] rfl ?_
      exact xw_holds_J50 hX hr hm h
  exact key (r, μ1) h
def x_runs_J233 (n : Nat) (m : Nat) (K65 : Int32 → Int32 → kt_M → Option (Unit × kt_M)) (l1 : Int32) (s1 : Int32) (s2 : Int32) (s3 : Int32) (s4 : Int32) (μ : kt_M) : Option (Unit × kt_M) := kq_b1 (x_flag n s4) (fun r_233 => kq_b2 (x_of n m μ s1 s2 (s3 + r_233)) (fun r_237 μ_237 => K65 l1 r_237 μ_237))
set_option maxHeartbeats 4000000 in
set_option maxRecDepth 100000 in
theorem xw_runs_J233 {G : kt_G} {σ : kt_Y} {X : kt_X} (hX : kt_ok G X RX10 cX10_runs 4 3 0 0) (hr : kt_rt X = none) {m : Nat} (hm : kt_md σ m) {n : Nat} {q : (Unit × kt_M)} {K65 : Int32 → Int32 → kt_M → Option (Unit × kt_M)} (hK65 : ∀ (l1 : Int32) (l2 : Int32) (μ : kt_M), K65 l1 l2 μ = some q → kt_W G X 4 65 [(0, .ref m), (1, .int l1), (2, .int l2)] [] σ μ 0 0 (kt_Z G X (kt_q σ (fun rv μ2 => rv = none ∧ μ2 = q.2)) 0 0)) {l1 : Int32} {s1 : Int32} {s2 : Int32} {s3 : Int32} {s4 : Int32} {μ : kt_M} (h : x_runs_J233 n m K65 l1 s1 s2 s3 s4 μ = some q) : kt_W G X 4 233 [(0, .ref m), (1, .int l1)] [.int s4, .int s3, .int s2, .int s1, .ref m] σ μ 0 0 (kt_Z G X (kt_q σ (fun rv μ2 => rv = none ∧ μ2 = q.2)) 0 0) := by
  unfold x_runs_J233 at h
  obtain ⟨r_233, e_233, h⟩ := kq_b1_e h
  refine kr_dS [_] hX km_10_145 dX10_runs_233 (xs_flag e_233) rfl rfl (by decide) (Nat.le_of_ble_eq_true rfl) (Nat.le_refl _) (Nat.le_refl _) ?_
  refine kr_iadd hX dX10_runs_236 ?_
  obtain ⟨r_237, μ_237, e_237, h⟩ := kq_b2_e h
  refine kr_dV (c1 := 10) [_, _, _] hX km_10_175 dX10_runs_237 (xs_of hm e_237) rfl rfl ⟨_, _, rfl⟩ (by decide) (Nat.le_of_ble_eq_true rfl) (Nat.le_refl _) (Nat.le_refl _) (md_k hm) ?_
  refine kr_istore_n (i := 2) hX dX10_runs_240 rfl (by decide) rfl rfl ?_
  refine kr_goto (tgt := 65) hX dX10_runs_241 (by decide) ?_
  refine kr_keep (lv' := [(0, .ref m), (1, .int l1), (2, .int r_237)]) [0, 1, 2] rfl ?_
  exact hK65 _ _ _ h
def x_runs_J180 (n : Nat) (m : Nat) (K65 : Int32 → Int32 → kt_M → Option (Unit × kt_M)) (l1 : Int32) (l2 : Int32) (l3 : Int32) (s1 : Int32) (μ : kt_M) : Option (Unit × kt_M) := kq_ck (s1 = 0 ∨ s1 = 1) (kq_lt (kt_si μ m 27 s1) (fun μ_180 => kq_b1 (x_isTest n l3) (fun r_189 => kq_b1 (x_flag n r_189) (fun r_192 => kq_lt (kt_si μ_180 m 24 ((kt_i μ_180 m 24) + r_192)) (fun μ_196 => (if l3 = 0 then K65 l1 l2 μ_196 else kq_b1 (x_isTest n l3) (fun r_213 => (if r_213 = 0 then x_runs_J233 n m K65 l1 l1 l2 (14 : Int32) (0 : Int32) μ_196 else kq_b2 (x_holds n m μ_196 l1 l2) (fun r_222 μ_222 => (if r_222 = 0 then x_runs_J233 n m K65 l1 l1 l2 (14 : Int32) (1 : Int32) μ_222 else x_runs_J233 n m K65 l1 l1 l2 (14 : Int32) (0 : Int32) μ_222))))))))))
set_option maxHeartbeats 4000000 in
set_option maxRecDepth 100000 in
theorem xw_runs_J180 {G : kt_G} {σ : kt_Y} {X : kt_X} (hX : kt_ok G X RX10 cX10_runs 4 3 0 0) (hr : kt_rt X = none) {m : Nat} (hm : kt_md σ m) {n : Nat} {q : (Unit × kt_M)} {K65 : Int32 → Int32 → kt_M → Option (Unit × kt_M)} (hK65 : ∀ (l1 : Int32) (l2 : Int32) (μ : kt_M), K65 l1 l2 μ = some q → kt_W G X 4 65 [(0, .ref m), (1, .int l1), (2, .int l2)] [] σ μ 0 0 (kt_Z G X (kt_q σ (fun rv μ2 => rv = none ∧ μ2 = q.2)) 0 0)) {l1 : Int32} {l2 : Int32} {l3 : Int32} {s1 : Int32} {μ : kt_M} (h : x_runs_J180 n m K65 l1 l2 l3 s1 μ = some q) : kt_W G X 4 180 [(0, .ref m), (1, .int l1), (2, .int l2), (3, .int l3)] [.int s1, .ref m] σ μ 0 0 (kt_Z G X (kt_q σ (fun rv μ2 => rv = none ∧ μ2 = q.2)) 0 0) := by
  unfold x_runs_J180 at h
  obtain ⟨i_180, h⟩ := kq_ck_e h
  refine kr_puti (c0 := 10) (k := 27) hX kf_10_330 dX10_runs_180 rfl (kt_bz i_180).1 (kt_bz i_180).2 (md_k hm) ?_
  refine kr_ltM h (fun μ_180 h => ?_)
  refine kr_aload_n (i := 0) hX dX10_runs_183 rfl rfl ?_
  refine kr_dup hX dX10_runs_184 rfl ?_
  refine kr_geti (c0 := 10) (k := 24) hX ⟨_, kf_10_327⟩ dX10_runs_185 rfl (md_k hm) ?_
  refine kr_iload_n (i := 3) hX dX10_runs_188 rfl rfl ?_
  obtain ⟨r_189, e_189, h⟩ := kq_b1_e h
  refine kr_dS [_] hX km_10_188 dX10_runs_189 (xs_isTest e_189) rfl rfl (by decide) (Nat.le_of_ble_eq_true rfl) (Nat.le_refl _) (Nat.le_refl _) ?_
  obtain ⟨r_192, e_192, h⟩ := kq_b1_e h
  refine kr_dS [_] hX km_10_145 dX10_runs_192 (xs_flag e_192) rfl rfl (by decide) (Nat.le_of_ble_eq_true rfl) (Nat.le_refl _) (Nat.le_refl _) ?_
  refine kr_iadd hX dX10_runs_195 ?_
  refine kr_puti (c0 := 10) (k := 24) hX kf_10_327 dX10_runs_196 rfl rfl rfl (md_k hm) ?_
  refine kr_ltM h (fun μ_196 h => ?_)
  refine kr_iload_n (i := 3) hX dX10_runs_199 rfl rfl ?_
  refine kr_if_ne (tgt := 207) hX dX10_runs_200 (by decide) (fun c_200 => ?_) (fun c_200 => ?_)
  · replace h := kq_f c_200 h
    refine kr_aload_n (i := 0) hX dX10_runs_207 rfl rfl ?_
    refine kr_iload_n (i := 1) hX dX10_runs_208 rfl rfl ?_
    refine kr_iload_n (i := 2) hX dX10_runs_209 rfl rfl ?_
    refine kr_bipush (v := 14) hX dX10_runs_210 (by decide) ?_
    refine kr_iload_n (i := 3) hX dX10_runs_212 rfl rfl ?_
    obtain ⟨r_213, e_213, h⟩ := kq_b1_e h
    refine kr_dS [_] hX km_10_188 dX10_runs_213 (xs_isTest e_213) rfl rfl (by decide) (Nat.le_of_ble_eq_true rfl) (Nat.le_refl _) (Nat.le_refl _) ?_
    refine kr_if_eq (tgt := 232) hX dX10_runs_216 (by decide) (fun c_216 => ?_) (fun c_216 => ?_)
    · replace h := kq_t c_216 h
      refine kr_iconst (v := 0) hX dX10_runs_232 (by decide) ?_
      refine kr_keep (lv' := [(0, .ref m), (1, .int l1)]) [0, 1] rfl ?_
      exact xw_runs_J233 hX hr hm hK65 h
    · replace h := kq_f c_216 h
      refine kr_aload_n (i := 0) hX dX10_runs_219 rfl rfl ?_
      refine kr_iload_n (i := 1) hX dX10_runs_220 rfl rfl ?_
      refine kr_iload_n (i := 2) hX dX10_runs_221 rfl rfl ?_
      obtain ⟨r_222, μ_222, e_222, h⟩ := kq_b2_e h
      refine kr_dV (c1 := 10) [_, _] hX km_10_337 dX10_runs_222 (xs_holds hm e_222) rfl rfl ⟨_, _, rfl⟩ (by decide) (Nat.le_of_ble_eq_true rfl) (Nat.le_refl _) (Nat.le_refl _) (md_k hm) ?_
      refine kr_if_ne (tgt := 232) hX dX10_runs_225 (by decide) (fun c_225 => ?_) (fun c_225 => ?_)
      · replace h := kq_f c_225 h
        refine kr_iconst (v := 0) hX dX10_runs_232 (by decide) ?_
        refine kr_keep (lv' := [(0, .ref m), (1, .int l1)]) [0, 1] rfl ?_
        exact xw_runs_J233 hX hr hm hK65 h
      · replace h := kq_t c_225 h
        refine kr_iconst (v := 1) hX dX10_runs_228 (by decide) ?_
        refine kr_goto (tgt := 233) hX dX10_runs_229 (by decide) ?_
        refine kr_keep (lv' := [(0, .ref m), (1, .int l1)]) [0, 1] rfl ?_
        exact xw_runs_J233 hX hr hm hK65 h
  · replace h := kq_t c_200 h
    refine kr_iload_n (i := 2) hX dX10_runs_203 rfl rfl ?_
    refine kr_goto (tgt := 240) hX dX10_runs_204 (by decide) ?_
    refine kr_istore_n (i := 2) hX dX10_runs_240 rfl (by decide) rfl rfl ?_
    refine kr_goto (tgt := 65) hX dX10_runs_241 (by decide) ?_
    refine kr_keep (lv' := [(0, .ref m), (1, .int l1), (2, .int l2)]) [0, 1, 2] rfl ?_
    exact hK65 _ _ _ h
def x_runs_B103 (n : Nat) (m : Nat) (K65 : Int32 → Int32 → kt_M → Option (Unit × kt_M)) (K103 : Int32 → Int32 → Int32 → kt_M → Option (Unit × kt_M)) (l1 : Int32) (l2 : Int32) (l3 : Int32) (μ : kt_M) : Option (Unit × kt_M) := kq_b2 (x_of n m μ l1 l2 (0 : Int32)) (fun r_108 μ_108 => (if r_108 ≤ l3 then kq_b2 (x_of n m μ_108 l1 l2 (13 : Int32)) (fun r_166 μ_166 => (if r_166 = 0 then x_runs_J180 n m K65 l1 l2 r_166 (1 : Int32) μ_166 else x_runs_J180 n m K65 l1 l2 r_166 (0 : Int32) μ_166)) else kq_b2 (x_of n m μ_108 l1 l2 ((1 : Int32) + ((3 : Int32) * l3))) (fun r_123 μ_123 => kq_b2 (x_of n m μ_123 l1 l2 (((1 : Int32) + ((3 : Int32) * l3)) + (1 : Int32))) (fun r_136 μ_136 => kq_b2 (x_of n m μ_136 l1 l2 (((1 : Int32) + ((3 : Int32) * l3)) + (2 : Int32))) (fun r_149 μ_149 => kq_b2 (x_acts n m μ_149 r_123 r_136 r_149) (fun r_152 μ_152 => K103 l1 l2 (l3 + 1) μ_152))))))
set_option maxHeartbeats 4000000 in
set_option maxRecDepth 100000 in
theorem xw_runs_B103 {G : kt_G} {σ : kt_Y} {X : kt_X} (hX : kt_ok G X RX10 cX10_runs 4 3 0 0) (hr : kt_rt X = none) {m : Nat} (hm : kt_md σ m) {n : Nat} {q : (Unit × kt_M)} {K65 : Int32 → Int32 → kt_M → Option (Unit × kt_M)} (hK65 : ∀ (l1 : Int32) (l2 : Int32) (μ : kt_M), K65 l1 l2 μ = some q → kt_W G X 4 65 [(0, .ref m), (1, .int l1), (2, .int l2)] [] σ μ 0 0 (kt_Z G X (kt_q σ (fun rv μ2 => rv = none ∧ μ2 = q.2)) 0 0)) {K103 : Int32 → Int32 → Int32 → kt_M → Option (Unit × kt_M)} (hK103 : ∀ (l1 : Int32) (l2 : Int32) (l3 : Int32) (μ : kt_M), K103 l1 l2 l3 μ = some q → kt_W G X 4 103 [(0, .ref m), (1, .int l1), (2, .int l2), (3, .int l3)] [] σ μ 0 0 (kt_Z G X (kt_q σ (fun rv μ2 => rv = none ∧ μ2 = q.2)) 0 0)) {l1 : Int32} {l2 : Int32} {l3 : Int32} {μ : kt_M} (h : x_runs_B103 n m K65 K103 l1 l2 l3 μ = some q) : kt_W G X 4 103 [(0, .ref m), (1, .int l1), (2, .int l2), (3, .int l3)] [] σ μ 0 0 (kt_Z G X (kt_q σ (fun rv μ2 => rv = none ∧ μ2 = q.2)) 0 0) := by
  unfold x_runs_B103 at h
  refine kr_iload_n (i := 3) hX dX10_runs_103 rfl rfl ?_
  refine kr_aload_n (i := 0) hX dX10_runs_104 rfl rfl ?_
  refine kr_iload_n (i := 1) hX dX10_runs_105 rfl rfl ?_
  refine kr_iload_n (i := 2) hX dX10_runs_106 rfl rfl ?_
  refine kr_iconst (v := 0) hX dX10_runs_107 (by decide) ?_
  obtain ⟨r_108, μ_108, e_108, h⟩ := kq_b2_e h
  refine kr_dV (c1 := 10) [_, _, _] hX km_10_175 dX10_runs_108 (xs_of hm e_108) rfl rfl ⟨_, _, rfl⟩ (by decide) (Nat.le_of_ble_eq_true rfl) (Nat.le_refl _) (Nat.le_refl _) (md_k hm) ?_
  refine kr_icmp_ge (tgt := 161) hX dX10_runs_111 (by decide) (fun c_111 => ?_) (fun c_111 => ?_)
  · replace h := kq_t c_111 h
    refine kr_aload_n (i := 0) hX dX10_runs_161 rfl rfl ?_
    refine kr_iload_n (i := 1) hX dX10_runs_162 rfl rfl ?_
    refine kr_iload_n (i := 2) hX dX10_runs_163 rfl rfl ?_
    refine kr_bipush (v := 13) hX dX10_runs_164 (by decide) ?_
    obtain ⟨r_166, μ_166, e_166, h⟩ := kq_b2_e h
    refine kr_dV (c1 := 10) [_, _, _] hX km_10_175 dX10_runs_166 (xs_of hm e_166) rfl rfl ⟨_, _, rfl⟩ (by decide) (Nat.le_of_ble_eq_true rfl) (Nat.le_refl _) (Nat.le_refl _) (md_k hm) ?_
    refine kr_istore_n (i := 3) hX dX10_runs_169 rfl (by decide) rfl rfl ?_
    refine kr_aload_n (i := 0) hX dX10_runs_170 rfl rfl ?_
    refine kr_iload_n (i := 3) hX dX10_runs_171 rfl rfl ?_
    refine kr_if_ne (tgt := 179) hX dX10_runs_172 (by decide) (fun c_172 => ?_) (fun c_172 => ?_)
    · replace h := kq_f c_172 h
      refine kr_iconst (v := 0) hX dX10_runs_179 (by decide) ?_
      refine kr_keep (lv' := [(0, .ref m), (1, .int l1), (2, .int l2), (3, .int r_166)]) [0, 1, 2, 3] rfl ?_
      exact xw_runs_J180 hX hr hm hK65 h
    · replace h := kq_t c_172 h
      refine kr_iconst (v := 1) hX dX10_runs_175 (by decide) ?_
      refine kr_goto (tgt := 180) hX dX10_runs_176 (by decide) ?_
      refine kr_keep (lv' := [(0, .ref m), (1, .int l1), (2, .int l2), (3, .int r_166)]) [0, 1, 2, 3] rfl ?_
      exact xw_runs_J180 hX hr hm hK65 h
  · replace h := kq_f c_111 h
    refine kr_aload_n (i := 0) hX dX10_runs_114 rfl rfl ?_
    refine kr_aload_n (i := 0) hX dX10_runs_115 rfl rfl ?_
    refine kr_iload_n (i := 1) hX dX10_runs_116 rfl rfl ?_
    refine kr_iload_n (i := 2) hX dX10_runs_117 rfl rfl ?_
    refine kr_iconst (v := 1) hX dX10_runs_118 (by decide) ?_
    refine kr_iconst (v := 3) hX dX10_runs_119 (by decide) ?_
    refine kr_iload_n (i := 3) hX dX10_runs_120 rfl rfl ?_
    refine kr_imul hX dX10_runs_121 ?_
    refine kr_iadd hX dX10_runs_122 ?_
    obtain ⟨r_123, μ_123, e_123, h⟩ := kq_b2_e h
    refine kr_dV (c1 := 10) [_, _, _] hX km_10_175 dX10_runs_123 (xs_of hm e_123) rfl rfl ⟨_, _, rfl⟩ (by decide) (Nat.le_of_ble_eq_true rfl) (Nat.le_refl _) (Nat.le_refl _) (md_k hm) ?_
    refine kr_aload_n (i := 0) hX dX10_runs_126 rfl rfl ?_
    refine kr_iload_n (i := 1) hX dX10_runs_127 rfl rfl ?_
    refine kr_iload_n (i := 2) hX dX10_runs_128 rfl rfl ?_
    refine kr_iconst (v := 1) hX dX10_runs_129 (by decide) ?_
    refine kr_iconst (v := 3) hX dX10_runs_130 (by decide) ?_
    refine kr_iload_n (i := 3) hX dX10_runs_131 rfl rfl ?_
    refine kr_imul hX dX10_runs_132 ?_
    refine kr_iadd hX dX10_runs_133 ?_
    refine kr_iconst (v := 1) hX dX10_runs_134 (by decide) ?_
    refine kr_iadd hX dX10_runs_135 ?_
    obtain ⟨r_136, μ_136, e_136, h⟩ := kq_b2_e h
    refine kr_dV (c1 := 10) [_, _, _] hX km_10_175 dX10_runs_136 (xs_of hm e_136) rfl rfl ⟨_, _, rfl⟩ (by decide) (Nat.le_of_ble_eq_true rfl) (Nat.le_refl _) (Nat.le_refl _) (md_k hm) ?_
    refine kr_aload_n (i := 0) hX dX10_runs_139 rfl rfl ?_
    refine kr_iload_n (i := 1) hX dX10_runs_140 rfl rfl ?_
    refine kr_iload_n (i := 2) hX dX10_runs_141 rfl rfl ?_
    refine kr_iconst (v := 1) hX dX10_runs_142 (by decide) ?_
    refine kr_iconst (v := 3) hX dX10_runs_143 (by decide) ?_
    refine kr_iload_n (i := 3) hX dX10_runs_144 rfl rfl ?_
    refine kr_imul hX dX10_runs_145 ?_
    refine kr_iadd hX dX10_runs_146 ?_
    refine kr_iconst (v := 2) hX dX10_runs_147 (by decide) ?_
    refine kr_iadd hX dX10_runs_148 ?_
    obtain ⟨r_149, μ_149, e_149, h⟩ := kq_b2_e h
    refine kr_dV (c1 := 10) [_, _, _] hX km_10_175 dX10_runs_149 (xs_of hm e_149) rfl rfl ⟨_, _, rfl⟩ (by decide) (Nat.le_of_ble_eq_true rfl) (Nat.le_refl _) (Nat.le_refl _) (md_k hm) ?_
    obtain ⟨r_152, μ_152, e_152, h⟩ := kq_b2_e h
    refine kr_dV (c1 := 10) [_, _, _] hX km_10_334 dX10_runs_152 (xs_acts hm e_152) rfl rfl ⟨_, _, rfl⟩ (by decide) (Nat.le_of_ble_eq_true rfl) (Nat.le_refl _) (Nat.le_refl _) (md_k hm) ?_
    refine kr_iinc (v := (l3 + 1)) hX dX10_runs_155 rfl rfl (by decide) rfl rfl ?_
    refine kr_goto (tgt := 103) hX dX10_runs_158 (by decide) ?_
    refine kr_keep (lv' := [(0, .ref m), (1, .int l1), (2, .int l2), (3, .int (l3 + 1))]) [0, 1, 2, 3] rfl ?_
    exact hK103 _ _ _ _ h
def x_runs_L103 (n : Nat) (m : Nat) (K65 : Int32 → Int32 → kt_M → Option (Unit × kt_M)) : Nat → Int32 → Int32 → Int32 → kt_M → Option (Unit × kt_M)
  | 0, _, _, _, _ => none
  | k + 1, l1, l2, l3, μ => x_runs_B103 n m K65 (x_runs_L103 n m K65 k) l1 l2 l3 μ
set_option maxHeartbeats 4000000 in
set_option maxRecDepth 100000 in
theorem xw_runs_L103 {G : kt_G} {σ : kt_Y} {X : kt_X} (hX : kt_ok G X RX10 cX10_runs 4 3 0 0) (hr : kt_rt X = none) {m : Nat} (hm : kt_md σ m) {n : Nat} {q : (Unit × kt_M)} {K65 : Int32 → Int32 → kt_M → Option (Unit × kt_M)} (hK65 : ∀ (l1 : Int32) (l2 : Int32) (μ : kt_M), K65 l1 l2 μ = some q → kt_W G X 4 65 [(0, .ref m), (1, .int l1), (2, .int l2)] [] σ μ 0 0 (kt_Z G X (kt_q σ (fun rv μ2 => rv = none ∧ μ2 = q.2)) 0 0)) : ∀ (k : Nat) (l1 : Int32) (l2 : Int32) (l3 : Int32) (μ : kt_M), x_runs_L103 n m K65 k l1 l2 l3 μ = some q → kt_W G X 4 103 [(0, .ref m), (1, .int l1), (2, .int l2), (3, .int l3)] [] σ μ 0 0 (kt_Z G X (kt_q σ (fun rv μ2 => rv = none ∧ μ2 = q.2)) 0 0) := by
  intro k
  induction k with
  | zero => intro l1 l2 l3 μ h; cases h
  | succ k ih => intro l1 l2 l3 μ h; exact xw_runs_B103 hX hr hm hK65 ih h
def x_runs_B65 (n : Nat) (m : Nat) (K65 : Int32 → Int32 → kt_M → Option (Unit × kt_M)) (l1 : Int32) (l2 : Int32) (μ : kt_M) : Option (Unit × kt_M) := (if (kt_i μ m 27) = 0 then (if (60 : Int32) ≤ (kt_i μ m 22) then some ((), μ) else kq_ck (kq_in (kt_i μ m 22) 60) (kq_lt (kt_si μ (m + 14) (Int32.toNatClampNeg (kt_i μ m 22)) l2) (fun μ_90 => kq_lt (kt_si μ_90 m 22 ((kt_i μ_90 m 22) + (1 : Int32))) (fun μ_98 => x_runs_L103 n m K65 n l1 l2 (0 : Int32) μ_98)))) else some ((), μ))
set_option maxHeartbeats 4000000 in
set_option maxRecDepth 100000 in
theorem xw_runs_B65 {G : kt_G} {σ : kt_Y} {X : kt_X} (hX : kt_ok G X RX10 cX10_runs 4 3 0 0) (hr : kt_rt X = none) {m : Nat} (hm : kt_md σ m) {n : Nat} {q : (Unit × kt_M)} {K65 : Int32 → Int32 → kt_M → Option (Unit × kt_M)} (hK65 : ∀ (l1 : Int32) (l2 : Int32) (μ : kt_M), K65 l1 l2 μ = some q → kt_W G X 4 65 [(0, .ref m), (1, .int l1), (2, .int l2)] [] σ μ 0 0 (kt_Z G X (kt_q σ (fun rv μ2 => rv = none ∧ μ2 = q.2)) 0 0)) {l1 : Int32} {l2 : Int32} {μ : kt_M} (h : x_runs_B65 n m K65 l1 l2 μ = some q) : kt_W G X 4 65 [(0, .ref m), (1, .int l1), (2, .int l2)] [] σ μ 0 0 (kt_Z G X (kt_q σ (fun rv μ2 => rv = none ∧ μ2 = q.2)) 0 0) := by
  unfold x_runs_B65 at h
  refine kr_aload_n (i := 0) hX dX10_runs_65 rfl rfl ?_
  refine kr_geti (c0 := 10) (k := 27) hX ⟨_, kf_10_330⟩ dX10_runs_66 rfl (md_k hm) ?_
  refine kr_if_ne (tgt := 244) hX dX10_runs_69 (by decide) (fun c_69 => ?_) (fun c_69 => ?_)
  · replace h := kq_f c_69 h
    refine kr_vret hX hr dX10_runs_244 ⟨rfl, ?_⟩
    exact kq_rV h
  · replace h := kq_t c_69 h
    refine kr_aload_n (i := 0) hX dX10_runs_72 rfl rfl ?_
    refine kr_geti (c0 := 10) (k := 22) hX ⟨_, kf_10_324⟩ dX10_runs_73 rfl (md_k hm) ?_
    refine kr_bipush (v := 60) hX dX10_runs_76 (by decide) ?_
    refine kr_icmp_ge (tgt := 244) hX dX10_runs_78 (by decide) (fun c_78 => ?_) (fun c_78 => ?_)
    · replace h := kq_t c_78 h
      refine kr_vret hX hr dX10_runs_244 ⟨rfl, ?_⟩
      exact kq_rV h
    · replace h := kq_f c_78 h
      refine kr_aload_n (i := 0) hX dX10_runs_81 rfl rfl ?_
      refine kr_getr (c0 := 10) (k := 21) hX ⟨_, kf_10_55⟩ dX10_runs_82 rfl (md_k hm) (md_r21 hm) ?_
      refine kr_aload_n (i := 0) hX dX10_runs_85 rfl rfl ?_
      refine kr_geti (c0 := 10) (k := 22) hX ⟨_, kf_10_324⟩ dX10_runs_86 rfl (md_k hm) ?_
      refine kr_iload_n (i := 2) hX dX10_runs_89 rfl rfl ?_
      obtain ⟨i_90, h⟩ := kq_ck_e h
      refine kr_iast hX dX10_runs_90 (md_a14 hm) (vp_in_iff.mpr i_90) ?_
      refine kr_ltM h (fun μ_90 h => ?_)
      refine kr_aload_n (i := 0) hX dX10_runs_91 rfl rfl ?_
      refine kr_dup hX dX10_runs_92 rfl ?_
      refine kr_geti (c0 := 10) (k := 22) hX ⟨_, kf_10_324⟩ dX10_runs_93 rfl (md_k hm) ?_
      refine kr_iconst (v := 1) hX dX10_runs_96 (by decide) ?_
      refine kr_iadd hX dX10_runs_97 ?_
      refine kr_puti (c0 := 10) (k := 22) hX kf_10_324 dX10_runs_98 rfl rfl rfl (md_k hm) ?_
      refine kr_ltM h (fun μ_98 h => ?_)
      refine kr_iconst (v := 0) hX dX10_runs_101 (by decide) ?_
      refine kr_istore_n (i := 3) hX dX10_runs_102 rfl (by decide) rfl rfl ?_
      refine kr_keep (lv' := [(0, .ref m), (1, .int l1), (2, .int l2), (3, .int (0 : Int32))]) [0, 1, 2, 3] rfl ?_
      exact xw_runs_L103 hX hr hm hK65 n _ _ _ _ h
def x_runs_L65 (n : Nat) (m : Nat) : Nat → Int32 → Int32 → kt_M → Option (Unit × kt_M)
  | 0, _, _, _ => none
  | k + 1, l1, l2, μ => x_runs_B65 n m (x_runs_L65 n m k) l1 l2 μ
set_option maxHeartbeats 4000000 in
set_option maxRecDepth 100000 in
theorem xw_runs_L65 {G : kt_G} {σ : kt_Y} {X : kt_X} (hX : kt_ok G X RX10 cX10_runs 4 3 0 0) (hr : kt_rt X = none) {m : Nat} (hm : kt_md σ m) {n : Nat} {q : (Unit × kt_M)} : ∀ (k : Nat) (l1 : Int32) (l2 : Int32) (μ : kt_M), x_runs_L65 n m k l1 l2 μ = some q → kt_W G X 4 65 [(0, .ref m), (1, .int l1), (2, .int l2)] [] σ μ 0 0 (kt_Z G X (kt_q σ (fun rv μ2 => rv = none ∧ μ2 = q.2)) 0 0) := by
  intro k
  induction k with
  | zero => intro l1 l2 μ h; cases h
  | succ k ih => intro l1 l2 μ h; exact xw_runs_B65 hX hr hm ih h
def x_runs_J60 (n : Nat) (m : Nat) (l1 : Int32) (s1 : Int32) (μ : kt_M) : Option (Unit × kt_M) := kq_ck (s1 = 0 ∨ s1 = 1) (kq_lt (kt_si μ m 27 s1) (fun μ_60 => x_runs_L65 n m n l1 (0 : Int32) μ_60))
set_option maxHeartbeats 4000000 in
set_option maxRecDepth 100000 in
theorem xw_runs_J60 {G : kt_G} {σ : kt_Y} {X : kt_X} (hX : kt_ok G X RX10 cX10_runs 4 3 0 0) (hr : kt_rt X = none) {m : Nat} (hm : kt_md σ m) {n : Nat} {q : (Unit × kt_M)} {l1 : Int32} {s1 : Int32} {μ : kt_M} (h : x_runs_J60 n m l1 s1 μ = some q) : kt_W G X 4 60 [(0, .ref m), (1, .int l1)] [.int s1, .ref m] σ μ 0 0 (kt_Z G X (kt_q σ (fun rv μ2 => rv = none ∧ μ2 = q.2)) 0 0) := by
  unfold x_runs_J60 at h
  obtain ⟨i_60, h⟩ := kq_ck_e h
  refine kr_puti (c0 := 10) (k := 27) hX kf_10_330 dX10_runs_60 rfl (kt_bz i_60).1 (kt_bz i_60).2 (md_k hm) ?_
  refine kr_ltM h (fun μ_60 h => ?_)
  refine kr_iconst (v := 0) hX dX10_runs_63 (by decide) ?_
  refine kr_istore_n (i := 2) hX dX10_runs_64 rfl (by decide) rfl rfl ?_
  refine kr_keep (lv' := [(0, .ref m), (1, .int l1), (2, .int (0 : Int32))]) [0, 1, 2] rfl ?_
  exact xw_runs_L65 hX hr hm n _ _ _ h
def x_runs_B2 (n : Nat) (m : Nat) (K2 : Int32 → Int32 → kt_M → Option (Unit × kt_M)) (l1 : Int32) (l2 : Int32) (μ : kt_M) : Option (Unit × kt_M) := (if (4 : Int32) ≤ l2 then kq_lt (kt_si μ m 22 (0 : Int32)) (fun μ_23 => kq_lt (kt_si μ_23 m 23 (0 : Int32)) (fun μ_28 => kq_lt (kt_si μ_28 m 24 (0 : Int32)) (fun μ_33 => kq_lt (kt_si μ_33 m 25 (0 : Int32)) (fun μ_38 => kq_lt (kt_si μ_38 m 26 (0 : Int32)) (fun μ_43 => kq_b2 (x_many n m μ_43 l1) (fun r_49 μ_49 => (if r_49 = 0 then x_runs_J60 n m l1 (1 : Int32) μ_49 else x_runs_J60 n m l1 (0 : Int32) μ_49))))))) else kq_ck (kq_in l2 4) (kq_lt (kt_si μ (m + 12) (Int32.toNatClampNeg l2) (51 : Int32)) (fun μ_14 => K2 l1 (l2 + 1) μ_14)))
set_option maxHeartbeats 4000000 in
set_option maxRecDepth 100000 in
theorem xw_runs_B2 {G : kt_G} {σ : kt_Y} {X : kt_X} (hX : kt_ok G X RX10 cX10_runs 4 3 0 0) (hr : kt_rt X = none) {m : Nat} (hm : kt_md σ m) {n : Nat} {q : (Unit × kt_M)} {K2 : Int32 → Int32 → kt_M → Option (Unit × kt_M)} (hK2 : ∀ (l1 : Int32) (l2 : Int32) (μ : kt_M), K2 l1 l2 μ = some q → kt_W G X 4 2 [(0, .ref m), (1, .int l1), (2, .int l2)] [] σ μ 0 0 (kt_Z G X (kt_q σ (fun rv μ2 => rv = none ∧ μ2 = q.2)) 0 0)) {l1 : Int32} {l2 : Int32} {μ : kt_M} (h : x_runs_B2 n m K2 l1 l2 μ = some q) : kt_W G X 4 2 [(0, .ref m), (1, .int l1), (2, .int l2)] [] σ μ 0 0 (kt_Z G X (kt_q σ (fun rv μ2 => rv = none ∧ μ2 = q.2)) 0 0) := by
  unfold x_runs_B2 at h
  refine kr_iload_n (i := 2) hX dX10_runs_2 rfl rfl ?_
  refine kr_iconst (v := 4) hX dX10_runs_3 (by decide) ?_
  refine kr_icmp_ge (tgt := 21) hX dX10_runs_4 (by decide) (fun c_4 => ?_) (fun c_4 => ?_)
  · replace h := kq_t c_4 h
    refine kr_aload_n (i := 0) hX dX10_runs_21 rfl rfl ?_
    refine kr_iconst (v := 0) hX dX10_runs_22 (by decide) ?_
    refine kr_puti (c0 := 10) (k := 22) hX kf_10_324 dX10_runs_23 rfl rfl rfl (md_k hm) ?_
    refine kr_ltM h (fun μ_23 h => ?_)
    refine kr_aload_n (i := 0) hX dX10_runs_26 rfl rfl ?_
    refine kr_iconst (v := 0) hX dX10_runs_27 (by decide) ?_
    refine kr_puti (c0 := 10) (k := 23) hX kf_10_321 dX10_runs_28 rfl rfl rfl (md_k hm) ?_
    refine kr_ltM h (fun μ_28 h => ?_)
    refine kr_aload_n (i := 0) hX dX10_runs_31 rfl rfl ?_
    refine kr_iconst (v := 0) hX dX10_runs_32 (by decide) ?_
    refine kr_puti (c0 := 10) (k := 24) hX kf_10_327 dX10_runs_33 rfl rfl rfl (md_k hm) ?_
    refine kr_ltM h (fun μ_33 h => ?_)
    refine kr_aload_n (i := 0) hX dX10_runs_36 rfl rfl ?_
    refine kr_iconst (v := 0) hX dX10_runs_37 (by decide) ?_
    refine kr_puti (c0 := 10) (k := 25) hX kf_10_318 dX10_runs_38 rfl rfl rfl (md_k hm) ?_
    refine kr_ltM h (fun μ_38 h => ?_)
    refine kr_aload_n (i := 0) hX dX10_runs_41 rfl rfl ?_
    refine kr_iconst (v := 0) hX dX10_runs_42 (by decide) ?_
    refine kr_puti (c0 := 10) (k := 26) hX kf_10_315 dX10_runs_43 rfl rfl rfl (md_k hm) ?_
    refine kr_ltM h (fun μ_43 h => ?_)
    refine kr_aload_n (i := 0) hX dX10_runs_46 rfl rfl ?_
    refine kr_aload_n (i := 0) hX dX10_runs_47 rfl rfl ?_
    refine kr_iload_n (i := 1) hX dX10_runs_48 rfl rfl ?_
    obtain ⟨r_49, μ_49, e_49, h⟩ := kq_b2_e h
    refine kr_dV (c1 := 10) [_] hX km_10_172 dX10_runs_49 (xs_many hm e_49) rfl rfl ⟨_, _, rfl⟩ (by decide) (Nat.le_of_ble_eq_true rfl) (Nat.le_refl _) (Nat.le_refl _) (md_k hm) ?_
    refine kr_if_ne (tgt := 59) hX dX10_runs_52 (by decide) (fun c_52 => ?_) (fun c_52 => ?_)
    · replace h := kq_f c_52 h
      refine kr_iconst (v := 0) hX dX10_runs_59 (by decide) ?_
      refine kr_keep (lv' := [(0, .ref m), (1, .int l1)]) [0, 1] rfl ?_
      exact xw_runs_J60 hX hr hm h
    · replace h := kq_t c_52 h
      refine kr_iconst (v := 1) hX dX10_runs_55 (by decide) ?_
      refine kr_goto (tgt := 60) hX dX10_runs_56 (by decide) ?_
      refine kr_keep (lv' := [(0, .ref m), (1, .int l1)]) [0, 1] rfl ?_
      exact xw_runs_J60 hX hr hm h
  · replace h := kq_f c_4 h
    refine kr_aload_n (i := 0) hX dX10_runs_7 rfl rfl ?_
    refine kr_getr (c0 := 10) (k := 19) hX ⟨_, kf_10_49⟩ dX10_runs_8 rfl (md_k hm) (md_r19 hm) ?_
    refine kr_iload_n (i := 2) hX dX10_runs_11 rfl rfl ?_
    refine kr_bipush (v := 51) hX dX10_runs_12 (by decide) ?_
    obtain ⟨i_14, h⟩ := kq_ck_e h
    refine kr_iast hX dX10_runs_14 (md_a12 hm) (vp_in_iff.mpr i_14) ?_
    refine kr_ltM h (fun μ_14 h => ?_)
    refine kr_iinc (v := (l2 + 1)) hX dX10_runs_15 rfl rfl (by decide) rfl rfl ?_
    refine kr_goto (tgt := 2) hX dX10_runs_18 (by decide) ?_
    refine kr_keep (lv' := [(0, .ref m), (1, .int l1), (2, .int (l2 + 1))]) [0, 1, 2] rfl ?_
    exact hK2 _ _ _ h
def x_runs_L2 (n : Nat) (m : Nat) : Nat → Int32 → Int32 → kt_M → Option (Unit × kt_M)
  | 0, _, _, _ => none
  | k + 1, l1, l2, μ => x_runs_B2 n m (x_runs_L2 n m k) l1 l2 μ
set_option maxHeartbeats 4000000 in
set_option maxRecDepth 100000 in
theorem xw_runs_L2 {G : kt_G} {σ : kt_Y} {X : kt_X} (hX : kt_ok G X RX10 cX10_runs 4 3 0 0) (hr : kt_rt X = none) {m : Nat} (hm : kt_md σ m) {n : Nat} {q : (Unit × kt_M)} : ∀ (k : Nat) (l1 : Int32) (l2 : Int32) (μ : kt_M), x_runs_L2 n m k l1 l2 μ = some q → kt_W G X 4 2 [(0, .ref m), (1, .int l1), (2, .int l2)] [] σ μ 0 0 (kt_Z G X (kt_q σ (fun rv μ2 => rv = none ∧ μ2 = q.2)) 0 0) := by
  intro k
  induction k with
  | zero => intro l1 l2 μ h; cases h
  | succ k ih => intro l1 l2 μ h; exact xw_runs_B2 hX hr hm ih h
def x_runs (n : Nat) (m : Nat) (μ : kt_M) (a0 : Int32) : Option (Unit × kt_M) := x_runs_L2 n m n a0 (0 : Int32) μ
set_option maxHeartbeats 4000000 in
set_option maxRecDepth 100000 in
theorem xs_runs {G : kt_G} {σ : kt_Y} {μ : kt_M} {m : Nat} (hm : kt_md σ m) {n : Nat} {a0 : Int32} {r : Unit} {μ1 : kt_M} (h : x_runs n m μ a0 = some (r, μ1)) : kt_F G yX10_runs cX10_runs 4 none 3 [.ref m, .int a0] σ μ (fun rv μ2 => rv = none ∧ μ2 = μ1) := by
  have key : ∀ q : (Unit × kt_M), x_runs n m μ a0 = some q → kt_F G yX10_runs cX10_runs 4 none 3 [.ref m, .int a0] σ μ (fun rv μ2 => rv = none ∧ μ2 = q.2) := by
    intro q h
    unfold x_runs at h
    refine kt_F.of (by decide) (Nat.le_of_ble_eq_true rfl) (fun X hX hr => ?_)
    refine kr_iconst (v := 0) hX dX10_runs_0 (by decide) ?_
    refine kr_istore_n (i := 2) hX dX10_runs_1 rfl (by decide) rfl rfl ?_
    refine kr_keep (lv' := [(0, .ref m), (1, .int a0), (2, .int (0 : Int32))]) [0, 1, 2] rfl ?_
    exact xw_runs_L2 hX hr hm n _ _ _ h
  exact key (r, μ1) h
def x_input (n : Nat) (m : Nat) (μ : kt_M) (a0 : Int32) (a1 : Int32) : Option (Int32 × kt_M) := kq_b1 (x_in n (Int32.toInt64 a0) (0 : Int64) (7 : Int64)) (fun r_6 => (if r_6 = 0 then some (((-1) : Int32), μ) else kq_b1 (x_in n (Int32.toInt64 a1) (0 : Int64) (51 : Int64)) (fun r_18 => (if r_18 = 0 then some (((-1) : Int32), μ) else kq_ck (kq_in a0 8) (kq_ck (kq_in a0 8) (kq_lt (kt_si μ (m + 3) (Int32.toNatClampNeg a0) a1) (fun μ_39 => some ((kt_i μ (m + 3) (Int32.toNatClampNeg a0)), μ_39))))))))
set_option maxHeartbeats 4000000 in
set_option maxRecDepth 100000 in
theorem xs_input {G : kt_G} {σ : kt_Y} {μ : kt_M} {m : Nat} (hm : kt_md σ m) {n : Nat} {a0 : Int32} {a1 : Int32} {r : Int32} {μ1 : kt_M} (h : x_input n m μ a0 a1 = some (r, μ1)) : kt_F G yX10_input cX10_input 4 (some .int) 1 [.ref m, .int a0, .int a1] σ μ (fun rv μ2 => rv = some (.int r) ∧ μ2 = μ1) := by
  have key : ∀ q : (Int32 × kt_M), x_input n m μ a0 a1 = some q → kt_F G yX10_input cX10_input 4 (some .int) 1 [.ref m, .int a0, .int a1] σ μ (fun rv μ2 => rv = some (.int q.1) ∧ μ2 = q.2) := by
    intro q h
    unfold x_input at h
    refine kt_F.of (by decide) (Nat.le_of_ble_eq_true rfl) (fun X hX hr => ?_)
    refine kr_iload_n (i := 1) hX dX10_input_0 rfl rfl ?_
    refine kr_i2l hX dX10_input_1 rfl ?_
    refine kr_lconst (v := 0) hX dX10_input_2 (by decide) ?_
    refine kr_ldc2 (v := 7) hX kw_1431 dX10_input_3 ?_
    obtain ⟨r_6, e_6, h⟩ := kq_b1_e h
    refine kr_dS [_, _, _] hX km_10_80 dX10_input_6 (xs_in e_6) rfl rfl (by decide) (Nat.le_of_ble_eq_true rfl) (Nat.le_refl _) (Nat.le_refl _) ?_
    refine kr_if_eq (tgt := 24) hX dX10_input_9 (by decide) (fun c_9 => ?_) (fun c_9 => ?_)
    · replace h := kq_t c_9 h
      refine kr_iconst (v := (-1)) hX dX10_input_24 (by decide) ?_
      refine kr_iret hX hr dX10_input_25 ⟨rfl, ?_⟩
      exact kq_rI h
    · replace h := kq_f c_9 h
      refine kr_iload_n (i := 2) hX dX10_input_12 rfl rfl ?_
      refine kr_i2l hX dX10_input_13 rfl ?_
      refine kr_lconst (v := 0) hX dX10_input_14 (by decide) ?_
      refine kr_ldc2 (v := 51) hX kw_1432 dX10_input_15 ?_
      obtain ⟨r_18, e_18, h⟩ := kq_b1_e h
      refine kr_dS [_, _, _] hX km_10_80 dX10_input_18 (xs_in e_18) rfl rfl (by decide) (Nat.le_of_ble_eq_true rfl) (Nat.le_refl _) (Nat.le_refl _) ?_
      refine kr_if_ne (tgt := 26) hX dX10_input_21 (by decide) (fun c_21 => ?_) (fun c_21 => ?_)
      · replace h := kq_f c_21 h
        refine kr_aload_n (i := 0) hX dX10_input_26 rfl rfl ?_
        refine kr_getr (c0 := 10) (k := 2) hX ⟨_, kf_10_16⟩ dX10_input_27 rfl (md_k hm) (md_r2 hm) ?_
        refine kr_iload_n (i := 1) hX dX10_input_30 rfl rfl ?_
        obtain ⟨i_31, h⟩ := kq_ck_e h
        refine kr_iald hX dX10_input_31 (md_a3 hm) (vp_in_iff.mpr i_31) ?_
        refine kr_istore_n (i := 3) hX dX10_input_32 rfl (by decide) rfl rfl ?_
        refine kr_aload_n (i := 0) hX dX10_input_33 rfl rfl ?_
        refine kr_getr (c0 := 10) (k := 2) hX ⟨_, kf_10_16⟩ dX10_input_34 rfl (md_k hm) (md_r2 hm) ?_
        refine kr_iload_n (i := 1) hX dX10_input_37 rfl rfl ?_
        refine kr_iload_n (i := 2) hX dX10_input_38 rfl rfl ?_
        obtain ⟨i_39, h⟩ := kq_ck_e h
        refine kr_iast hX dX10_input_39 (md_a3 hm) (vp_in_iff.mpr i_39) ?_
        refine kr_ltM h (fun μ_39 h => ?_)
        refine kr_iload_n (i := 3) hX dX10_input_40 rfl rfl ?_
        refine kr_iret hX hr dX10_input_41 ⟨rfl, ?_⟩
        exact kq_rI h
      · replace h := kq_t c_21 h
        refine kr_iconst (v := (-1)) hX dX10_input_24 (by decide) ?_
        refine kr_iret hX hr dX10_input_25 ⟨rfl, ?_⟩
        exact kq_rI h
  exact key (r, μ1) h
def x_ran (n : Nat) (m : Nat) (μ : kt_M) (a0 : Int32) (a1 : Int32) : Option (Int32 × kt_M) := kq_b2 (x_isProgram n m μ a0) (fun r_2 μ_2 => (if r_2 = 0 then some (((-1) : Int32), μ_2) else kq_b1 (x_in n (Int32.toInt64 a1) (0 : Int64) (9 : Int64)) (fun r_14 => (if r_14 = 0 then some (((-1) : Int32), μ_2) else kq_b2 (x_runs n m μ_2 a0) (fun r_24 μ_24 => (if a1 = (0 : Int32) then some ((kt_i μ_24 m 22), μ_24) else (if a1 = (1 : Int32) then some ((kt_i μ_24 m 23), μ_24) else (if a1 = (2 : Int32) then some ((kt_i μ_24 m 24), μ_24) else (if a1 = (3 : Int32) then some ((kt_i μ_24 m 25), μ_24) else (if a1 = (4 : Int32) then kq_b1 (x_flag n (kt_i μ_24 m 27)) (fun r_108 => some (r_108, μ_24)) else (if a1 = (5 : Int32) then kq_ck (kq_in (a1 - (5 : Int32)) 4) (some ((kt_i μ_24 (m + 12) (Int32.toNatClampNeg (a1 - (5 : Int32)))), μ_24)) else (if a1 = (6 : Int32) then kq_ck (kq_in (a1 - (5 : Int32)) 4) (some ((kt_i μ_24 (m + 12) (Int32.toNatClampNeg (a1 - (5 : Int32)))), μ_24)) else (if a1 = (7 : Int32) then kq_ck (kq_in (a1 - (5 : Int32)) 4) (some ((kt_i μ_24 (m + 12) (Int32.toNatClampNeg (a1 - (5 : Int32)))), μ_24)) else (if a1 = (8 : Int32) then kq_ck (kq_in (a1 - (5 : Int32)) 4) (some ((kt_i μ_24 (m + 12) (Int32.toNatClampNeg (a1 - (5 : Int32)))), μ_24)) else (if a1 = (9 : Int32) then some ((kt_i μ_24 m 26), μ_24) else kq_ck (kq_in (a1 - (5 : Int32)) 4) (some ((kt_i μ_24 (m + 12) (Int32.toNatClampNeg (a1 - (5 : Int32)))), μ_24)))))))))))))))))
set_option maxHeartbeats 4000000 in
set_option maxRecDepth 100000 in
theorem xs_ran {G : kt_G} {σ : kt_Y} {μ : kt_M} {m : Nat} (hm : kt_md σ m) {n : Nat} {a0 : Int32} {a1 : Int32} {r : Int32} {μ1 : kt_M} (h : x_ran n m μ a0 a1 = some (r, μ1)) : kt_F G yX10_ran cX10_ran 3 (some .int) 4 [.ref m, .int a0, .int a1] σ μ (fun rv μ2 => rv = some (.int r) ∧ μ2 = μ1) := by
  have key : ∀ q : (Int32 × kt_M), x_ran n m μ a0 a1 = some q → kt_F G yX10_ran cX10_ran 3 (some .int) 4 [.ref m, .int a0, .int a1] σ μ (fun rv μ2 => rv = some (.int q.1) ∧ μ2 = q.2) := by
    intro q h
    unfold x_ran at h
    refine kt_F.of (by decide) (Nat.le_of_ble_eq_true rfl) (fun X hX hr => ?_)
    refine kr_aload_n (i := 0) hX dX10_ran_0 rfl rfl ?_
    refine kr_iload_n (i := 1) hX dX10_ran_1 rfl rfl ?_
    obtain ⟨r_2, μ_2, e_2, h⟩ := kq_b2_e h
    refine kr_dV (c1 := 10) [_] hX km_10_191 dX10_ran_2 (xs_isProgram hm e_2) rfl rfl ⟨_, _, rfl⟩ (by decide) (Nat.le_of_ble_eq_true rfl) (Nat.le_refl _) (Nat.le_refl _) (md_k hm) ?_
    refine kr_if_eq (tgt := 20) hX dX10_ran_5 (by decide) (fun c_5 => ?_) (fun c_5 => ?_)
    · replace h := kq_t c_5 h
      refine kr_iconst (v := (-1)) hX dX10_ran_20 (by decide) ?_
      refine kr_iret hX hr dX10_ran_21 ⟨rfl, ?_⟩
      exact kq_rI h
    · replace h := kq_f c_5 h
      refine kr_iload_n (i := 2) hX dX10_ran_8 rfl rfl ?_
      refine kr_i2l hX dX10_ran_9 rfl ?_
      refine kr_lconst (v := 0) hX dX10_ran_10 (by decide) ?_
      refine kr_ldc2 (v := 9) hX kw_1437 dX10_ran_11 ?_
      obtain ⟨r_14, e_14, h⟩ := kq_b1_e h
      refine kr_dS [_, _, _] hX km_10_80 dX10_ran_14 (xs_in e_14) rfl rfl (by decide) (Nat.le_of_ble_eq_true rfl) (Nat.le_refl _) (Nat.le_refl _) ?_
      refine kr_if_ne (tgt := 22) hX dX10_ran_17 (by decide) (fun c_17 => ?_) (fun c_17 => ?_)
      · replace h := kq_f c_17 h
        refine kr_aload_n (i := 0) hX dX10_ran_22 rfl rfl ?_
        refine kr_iload_n (i := 1) hX dX10_ran_23 rfl rfl ?_
        obtain ⟨r_24, μ_24, e_24, h⟩ := kq_b2_e h
        refine kr_dV (c1 := 10) [_] hX km_10_346 dX10_ran_24 (xs_runs hm e_24) rfl rfl ⟨_, _, rfl⟩ (by decide) (Nat.le_of_ble_eq_true rfl) (Nat.le_refl _) (Nat.le_refl _) (md_k hm) ?_
        refine kr_iload_n (i := 2) hX dX10_ran_27 rfl rfl ?_
        by_cases c_28_0 : a1 = (0 : Int32)
        · replace h := kq_t c_28_0 h
          refine kr_tabIn (tgt := 84) (off := 56) hX dX10_ran_28 (by rw [c_28_0]; decide) (by rw [c_28_0]; decide) (by rw [c_28_0]; rfl) (by decide) ?_
          refine kr_aload_n (i := 0) hX dX10_ran_84 rfl rfl ?_
          refine kr_geti (c0 := 10) (k := 22) hX ⟨_, kf_10_324⟩ dX10_ran_85 rfl (md_k hm) ?_
          refine kr_iret hX hr dX10_ran_88 ⟨rfl, ?_⟩
          exact kq_rI h
        replace h := kq_f c_28_0 h
        by_cases c_28_1 : a1 = (1 : Int32)
        · replace h := kq_t c_28_1 h
          refine kr_tabIn (tgt := 89) (off := 61) hX dX10_ran_28 (by rw [c_28_1]; decide) (by rw [c_28_1]; decide) (by rw [c_28_1]; rfl) (by decide) ?_
          refine kr_aload_n (i := 0) hX dX10_ran_89 rfl rfl ?_
          refine kr_geti (c0 := 10) (k := 23) hX ⟨_, kf_10_321⟩ dX10_ran_90 rfl (md_k hm) ?_
          refine kr_iret hX hr dX10_ran_93 ⟨rfl, ?_⟩
          exact kq_rI h
        replace h := kq_f c_28_1 h
        by_cases c_28_2 : a1 = (2 : Int32)
        · replace h := kq_t c_28_2 h
          refine kr_tabIn (tgt := 94) (off := 66) hX dX10_ran_28 (by rw [c_28_2]; decide) (by rw [c_28_2]; decide) (by rw [c_28_2]; rfl) (by decide) ?_
          refine kr_aload_n (i := 0) hX dX10_ran_94 rfl rfl ?_
          refine kr_geti (c0 := 10) (k := 24) hX ⟨_, kf_10_327⟩ dX10_ran_95 rfl (md_k hm) ?_
          refine kr_iret hX hr dX10_ran_98 ⟨rfl, ?_⟩
          exact kq_rI h
        replace h := kq_f c_28_2 h
        by_cases c_28_3 : a1 = (3 : Int32)
        · replace h := kq_t c_28_3 h
          refine kr_tabIn (tgt := 99) (off := 71) hX dX10_ran_28 (by rw [c_28_3]; decide) (by rw [c_28_3]; decide) (by rw [c_28_3]; rfl) (by decide) ?_
          refine kr_aload_n (i := 0) hX dX10_ran_99 rfl rfl ?_
          refine kr_geti (c0 := 10) (k := 25) hX ⟨_, kf_10_318⟩ dX10_ran_100 rfl (md_k hm) ?_
          refine kr_iret hX hr dX10_ran_103 ⟨rfl, ?_⟩
          exact kq_rI h
        replace h := kq_f c_28_3 h
        by_cases c_28_4 : a1 = (4 : Int32)
        · replace h := kq_t c_28_4 h
          refine kr_tabIn (tgt := 104) (off := 76) hX dX10_ran_28 (by rw [c_28_4]; decide) (by rw [c_28_4]; decide) (by rw [c_28_4]; rfl) (by decide) ?_
          refine kr_aload_n (i := 0) hX dX10_ran_104 rfl rfl ?_
          refine kr_geti (c0 := 10) (k := 27) hX ⟨_, kf_10_330⟩ dX10_ran_105 rfl (md_k hm) ?_
          obtain ⟨r_108, e_108, h⟩ := kq_b1_e h
          refine kr_dS [_] hX km_10_145 dX10_ran_108 (xs_flag e_108) rfl rfl (by decide) (Nat.le_of_ble_eq_true rfl) (Nat.le_refl _) (Nat.le_refl _) ?_
          refine kr_iret hX hr dX10_ran_111 ⟨rfl, ?_⟩
          exact kq_rI h
        replace h := kq_f c_28_4 h
        by_cases c_28_5 : a1 = (5 : Int32)
        · replace h := kq_t c_28_5 h
          refine kr_tabIn (tgt := 117) (off := 89) hX dX10_ran_28 (by rw [c_28_5]; decide) (by rw [c_28_5]; decide) (by rw [c_28_5]; rfl) (by decide) ?_
          refine kr_aload_n (i := 0) hX dX10_ran_117 rfl rfl ?_
          refine kr_getr (c0 := 10) (k := 19) hX ⟨_, kf_10_49⟩ dX10_ran_118 rfl (md_k hm) (md_r19 hm) ?_
          refine kr_iload_n (i := 2) hX dX10_ran_121 rfl rfl ?_
          refine kr_iconst (v := 5) hX dX10_ran_122 (by decide) ?_
          refine kr_isub hX dX10_ran_123 ?_
          obtain ⟨i_124, h⟩ := kq_ck_e h
          refine kr_iald hX dX10_ran_124 (md_a12 hm) (vp_in_iff.mpr i_124) ?_
          refine kr_iret hX hr dX10_ran_125 ⟨rfl, ?_⟩
          exact kq_rI h
        replace h := kq_f c_28_5 h
        by_cases c_28_6 : a1 = (6 : Int32)
        · replace h := kq_t c_28_6 h
          refine kr_tabIn (tgt := 117) (off := 89) hX dX10_ran_28 (by rw [c_28_6]; decide) (by rw [c_28_6]; decide) (by rw [c_28_6]; rfl) (by decide) ?_
          refine kr_aload_n (i := 0) hX dX10_ran_117 rfl rfl ?_
          refine kr_getr (c0 := 10) (k := 19) hX ⟨_, kf_10_49⟩ dX10_ran_118 rfl (md_k hm) (md_r19 hm) ?_
          refine kr_iload_n (i := 2) hX dX10_ran_121 rfl rfl ?_
          refine kr_iconst (v := 5) hX dX10_ran_122 (by decide) ?_
          refine kr_isub hX dX10_ran_123 ?_
          obtain ⟨i_124, h⟩ := kq_ck_e h
          refine kr_iald hX dX10_ran_124 (md_a12 hm) (vp_in_iff.mpr i_124) ?_
          refine kr_iret hX hr dX10_ran_125 ⟨rfl, ?_⟩
          exact kq_rI h
        replace h := kq_f c_28_6 h
        by_cases c_28_7 : a1 = (7 : Int32)
        · replace h := kq_t c_28_7 h
          refine kr_tabIn (tgt := 117) (off := 89) hX dX10_ran_28 (by rw [c_28_7]; decide) (by rw [c_28_7]; decide) (by rw [c_28_7]; rfl) (by decide) ?_
          refine kr_aload_n (i := 0) hX dX10_ran_117 rfl rfl ?_
          refine kr_getr (c0 := 10) (k := 19) hX ⟨_, kf_10_49⟩ dX10_ran_118 rfl (md_k hm) (md_r19 hm) ?_
          refine kr_iload_n (i := 2) hX dX10_ran_121 rfl rfl ?_
          refine kr_iconst (v := 5) hX dX10_ran_122 (by decide) ?_
          refine kr_isub hX dX10_ran_123 ?_
          obtain ⟨i_124, h⟩ := kq_ck_e h
          refine kr_iald hX dX10_ran_124 (md_a12 hm) (vp_in_iff.mpr i_124) ?_
          refine kr_iret hX hr dX10_ran_125 ⟨rfl, ?_⟩
          exact kq_rI h
        replace h := kq_f c_28_7 h
        by_cases c_28_8 : a1 = (8 : Int32)
        · replace h := kq_t c_28_8 h
          refine kr_tabIn (tgt := 117) (off := 89) hX dX10_ran_28 (by rw [c_28_8]; decide) (by rw [c_28_8]; decide) (by rw [c_28_8]; rfl) (by decide) ?_
          refine kr_aload_n (i := 0) hX dX10_ran_117 rfl rfl ?_
          refine kr_getr (c0 := 10) (k := 19) hX ⟨_, kf_10_49⟩ dX10_ran_118 rfl (md_k hm) (md_r19 hm) ?_
          refine kr_iload_n (i := 2) hX dX10_ran_121 rfl rfl ?_
          refine kr_iconst (v := 5) hX dX10_ran_122 (by decide) ?_
          refine kr_isub hX dX10_ran_123 ?_
          obtain ⟨i_124, h⟩ := kq_ck_e h
          refine kr_iald hX dX10_ran_124 (md_a12 hm) (vp_in_iff.mpr i_124) ?_
          refine kr_iret hX hr dX10_ran_125 ⟨rfl, ?_⟩
          exact kq_rI h
        replace h := kq_f c_28_8 h
        by_cases c_28_9 : a1 = (9 : Int32)
        · replace h := kq_t c_28_9 h
          refine kr_tabIn (tgt := 112) (off := 84) hX dX10_ran_28 (by rw [c_28_9]; decide) (by rw [c_28_9]; decide) (by rw [c_28_9]; rfl) (by decide) ?_
          refine kr_aload_n (i := 0) hX dX10_ran_112 rfl rfl ?_
          refine kr_geti (c0 := 10) (k := 26) hX ⟨_, kf_10_315⟩ dX10_ran_113 rfl (md_k hm) ?_
          refine kr_iret hX hr dX10_ran_116 ⟨rfl, ?_⟩
          exact kq_rI h
        replace h := kq_f c_28_9 h
        refine kr_tabOut (tgt := 117) hX dX10_ran_28 (by have q_0 := kt_ne c_28_0 (z := 0) (by decide); have q_1 := kt_ne c_28_1 (z := 1) (by decide); have q_2 := kt_ne c_28_2 (z := 2) (by decide); have q_3 := kt_ne c_28_3 (z := 3) (by decide); have q_4 := kt_ne c_28_4 (z := 4) (by decide); have q_5 := kt_ne c_28_5 (z := 5) (by decide); have q_6 := kt_ne c_28_6 (z := 6) (by decide); have q_7 := kt_ne c_28_7 (z := 7) (by decide); have q_8 := kt_ne c_28_8 (z := 8) (by decide); have q_9 := kt_ne c_28_9 (z := 9) (by decide); omega) (by decide) ?_
        refine kr_aload_n (i := 0) hX dX10_ran_117 rfl rfl ?_
        refine kr_getr (c0 := 10) (k := 19) hX ⟨_, kf_10_49⟩ dX10_ran_118 rfl (md_k hm) (md_r19 hm) ?_
        refine kr_iload_n (i := 2) hX dX10_ran_121 rfl rfl ?_
        refine kr_iconst (v := 5) hX dX10_ran_122 (by decide) ?_
        refine kr_isub hX dX10_ran_123 ?_
        obtain ⟨i_124, h⟩ := kq_ck_e h
        refine kr_iald hX dX10_ran_124 (md_a12 hm) (vp_in_iff.mpr i_124) ?_
        refine kr_iret hX hr dX10_ran_125 ⟨rfl, ?_⟩
        exact kq_rI h
      · replace h := kq_t c_17 h
        refine kr_iconst (v := (-1)) hX dX10_ran_20 (by decide) ?_
        refine kr_iret hX hr dX10_ran_21 ⟨rfl, ?_⟩
        exact kq_rI h
  exact key (r, μ1) h

/-! the model's constructor -/
def k_md0 : Nat → Nat → Int32 := fun x k => if x = 0 ∧ k = 4 then 4 else if x = 3 ∧ k < 8 then 51 else if x = 16 ∧ k < 4 then -4 else 0
set_option maxHeartbeats 4000000 in
set_option maxRecDepth 100000 in
theorem lp_mkm2 {G : kt_G} {X : kt_X} {m : Nat} {σ0 : kt_Y} {μ0 : kt_M} (hX : kt_ok G X RX10 cX10_init 2 1 18 2415) (hr : kt_rt X = none) {σ : kt_Y} (hm : kt_md σ m) : ∀ (n i : Nat) (μ : kt_M), i + n = 4 → (kI m 19 kt_md k_md0 σ0 μ0) none σ (m_fillL (m + 16) (-4) n i μ) → kt_W G X 2 176 [(0, .ref m), (1, .int (nI i))] [] σ μ 18 2415 (kt_Z G X (kI m 19 kt_md k_md0 σ0 μ0) 18 2415) := by
  intro n
  induction n with
  | zero =>
    intro i μ hin hQ
    have hib : i = 4 := by omega
    refine kr_iload_n (i := 1) hX dX10_init_176 rfl rfl ?_
    refine kr_iconst (v := 4) hX dX10_init_177 (by decide) ?_
    refine kr_icmp_ge (tgt := 195) hX dX10_init_178 (by decide) (fun c_178 => ?_) (fun c_178 => ?_)
    · skip
      refine kr_vret hX hr dX10_init_195 ?_
      exact hQ
    · skip
      exact absurd (by rw [hib]; exact Int32.le_refl _) c_178
  | succ n ih =>
    intro i μ hin hQ
    have hib : i < 4 := by omega
    refine kr_iload_n (i := 1) hX dX10_init_176 rfl rfl ?_
    refine kr_iconst (v := 4) hX dX10_init_177 (by decide) ?_
    refine kr_icmp_ge (tgt := 195) hX dX10_init_178 (by decide) (fun c_178 => ?_) (fun c_178 => ?_)
    · skip
      exact absurd c_178 (nI_ge (b := 4) hib (by omega))
    · skip
      refine kr_aload_n (i := 0) hX dX10_init_181 rfl rfl ?_
      refine kr_getr (c0 := 10) (k := 30) hX ⟨_, kf_10_61⟩ dX10_init_182 rfl (by exact md_k hm) (by exact md_r30 hm) ?_
      refine kr_iload_n (i := 1) hX dX10_init_185 rfl rfl ?_
      refine kr_bipush (v := (-4)) hX dX10_init_186 (by decide) ?_
      refine kr_iastN hX dX10_init_188 (by exact md_a16 hm) (⟨hib, by decide⟩) ?_
      refine kr_iinc (v := nI (i + 1)) hX dX10_init_189 rfl (by first | exact nI_1 _ | rfl) (by decide) rfl rfl ?_
      refine kr_goto (tgt := 176) hX dX10_init_192 (by decide) ?_
      exact ih (i + 1) _ (by omega) hQ

set_option maxHeartbeats 4000000 in
set_option maxRecDepth 100000 in
theorem lp_mkm1 {G : kt_G} {X : kt_X} {m : Nat} {σ0 : kt_Y} {μ0 : kt_M} (hX : kt_ok G X RX10 cX10_init 2 1 18 2415) (hr : kt_rt X = none) {σ : kt_Y} (hm : kt_md σ m) : ∀ (n i : Nat) (μ : kt_M), i + n = 8 → (kI m 19 kt_md k_md0 σ0 μ0) none σ (m_fillL (m + 16) (-4) 4 0 (m_fillL (m + 3) 51 n i μ)) → kt_W G X 2 154 [(0, .ref m), (1, .int (nI i))] [] σ μ 18 2415 (kt_Z G X (kI m 19 kt_md k_md0 σ0 μ0) 18 2415) := by
  intro n
  induction n with
  | zero =>
    intro i μ hin hQ
    have hib : i = 8 := by omega
    refine kr_iload_n (i := 1) hX dX10_init_154 rfl rfl ?_
    refine kr_bipush (v := 8) hX dX10_init_155 (by decide) ?_
    refine kr_icmp_ge (tgt := 174) hX dX10_init_157 (by decide) (fun c_157 => ?_) (fun c_157 => ?_)
    · skip
      refine kr_iconst (v := 0) hX dX10_init_174 (by decide) ?_
      refine kr_istore_n (i := 1) hX dX10_init_175 rfl (by decide) rfl rfl ?_
      exact lp_mkm2 hX hr hm 4 0 _ (by omega) hQ
    · skip
      exact absurd (by rw [hib]; exact Int32.le_refl _) c_157
  | succ n ih =>
    intro i μ hin hQ
    have hib : i < 8 := by omega
    refine kr_iload_n (i := 1) hX dX10_init_154 rfl rfl ?_
    refine kr_bipush (v := 8) hX dX10_init_155 (by decide) ?_
    refine kr_icmp_ge (tgt := 174) hX dX10_init_157 (by decide) (fun c_157 => ?_) (fun c_157 => ?_)
    · skip
      exact absurd c_157 (nI_ge (b := 8) hib (by omega))
    · skip
      refine kr_aload_n (i := 0) hX dX10_init_160 rfl rfl ?_
      refine kr_getr (c0 := 10) (k := 2) hX ⟨_, kf_10_16⟩ dX10_init_161 rfl (by exact md_k hm) (by exact md_r2 hm) ?_
      refine kr_iload_n (i := 1) hX dX10_init_164 rfl rfl ?_
      refine kr_bipush (v := 51) hX dX10_init_165 (by decide) ?_
      refine kr_iastN hX dX10_init_167 (by exact md_a3 hm) (⟨hib, by decide⟩) ?_
      refine kr_iinc (v := nI (i + 1)) hX dX10_init_168 rfl (by first | exact nI_1 _ | rfl) (by decide) rfl rfl ?_
      refine kr_goto (tgt := 154) hX dX10_init_171 (by decide) ?_
      exact ih (i + 1) _ (by omega) hQ

set_option maxHeartbeats 4000000 in
set_option maxRecDepth 100000 in
theorem mk_md {G : kt_G} {σ : kt_Y} {μ : kt_M} {m : Nat} (hk : kt_k σ m = some (0, 10)) (ht : kt_t σ = m + 1) (h0 : ∀ k, kt_i μ m k = 0) : kt_S G yX10_init cX10_init 2 none 1 18 2415 [.ref m] σ μ (kI m 19 kt_md k_md0 σ μ) := by
  refine kt_S.of (by decide) (Nat.le_of_ble_eq_true rfl) (fun X hX hr hmn => ?_)
  refine kr_aload_n (i := 0) hX dX10_init_0 rfl rfl ?_
  refine kr_obj hX kw_1016 dX10_init_1 (Nat.le_of_ble_eq_true rfl) ?_
  refine kr_aload_n (i := 0) hX dX10_init_4 rfl rfl ?_
  refine kr_sipush (v := 1284) hX dX10_init_5 (by decide) ?_
  refine kr_nI (m + 1) ht hX (1284) kw_58 dX10_init_8 (by decide) (by decide) (by decide) (by first | decide | omega | (simp only [kt_n]; omega)) (by first | decide | omega | (simp only [kt_n]; omega)) ?_
  refine kr_putr (c0 := 10) (k := 0) hX kf_10_9 (fun _ => ⟨hmn, _, _, rfl, rfl⟩) dX10_init_10 rfl rfl rfl (by simp [kt_k_nA, kt_k_sr, hk]) ?_
  refine kr_aload_n (i := 0) hX dX10_init_13 rfl rfl ?_
  refine kr_sipush (v := 321) hX dX10_init_14 (by decide) ?_
  refine kr_nI (m + 2) rfl hX (321) kw_58 dX10_init_17 (by decide) (by decide) (by decide) (by first | decide | omega | (simp only [kt_n]; omega)) (by first | decide | omega | (simp only [kt_n]; omega)) ?_
  refine kr_putr (c0 := 10) (k := 1) hX kf_10_13 (fun _ => ⟨hmn, _, _, rfl, rfl⟩) dX10_init_19 rfl rfl rfl (by simp [kt_k_nA, kt_k_sr, hk]) ?_
  refine kr_aload_n (i := 0) hX dX10_init_22 rfl rfl ?_
  refine kr_bipush (v := 8) hX dX10_init_23 (by decide) ?_
  refine kr_nI (m + 3) rfl hX (8) kw_58 dX10_init_25 (by decide) (by decide) (by decide) (by first | decide | omega | (simp only [kt_n]; omega)) (by first | decide | omega | (simp only [kt_n]; omega)) ?_
  refine kr_putr (c0 := 10) (k := 2) hX kf_10_16 (fun _ => ⟨hmn, _, _, rfl, rfl⟩) dX10_init_27 rfl rfl rfl (by simp [kt_k_nA, kt_k_sr, hk]) ?_
  refine kr_aload_n (i := 0) hX dX10_init_30 rfl rfl ?_
  refine kr_iconst (v := 2) hX dX10_init_31 (by decide) ?_
  refine kr_nZ (m + 4) rfl hX (2) kw_177 dX10_init_32 (by decide) (by decide) (by decide) (by first | decide | omega | (simp only [kt_n]; omega)) (by first | decide | omega | (simp only [kt_n]; omega)) ?_
  refine kr_putr (c0 := 10) (k := 3) hX kf_10_19 (fun _ => ⟨hmn, _, _, rfl, rfl⟩) dX10_init_34 rfl rfl rfl (by simp [kt_k_nA, kt_k_sr, hk]) ?_
  refine kr_aload_n (i := 0) hX dX10_init_37 rfl rfl ?_
  refine kr_iconst (v := 4) hX dX10_init_38 (by decide) ?_
  refine kr_puti (c0 := 10) (k := 4) hX kf_10_23 dX10_init_39 rfl rfl rfl (by simp [kt_k_nA, kt_k_sr, hk]) ?_
  refine kr_aload_n (i := 0) hX dX10_init_42 rfl rfl ?_
  refine kr_sipush (v := 200) hX dX10_init_43 (by decide) ?_
  refine kr_nI (m + 5) rfl hX (200) kw_58 dX10_init_46 (by decide) (by decide) (by decide) (by first | decide | omega | (simp only [kt_n]; omega)) (by first | decide | omega | (simp only [kt_n]; omega)) ?_
  refine kr_putr (c0 := 10) (k := 5) hX kf_10_27 (fun _ => ⟨hmn, _, _, rfl, rfl⟩) dX10_init_48 rfl rfl rfl (by simp [kt_k_nA, kt_k_sr, hk]) ?_
  refine kr_aload_n (i := 0) hX dX10_init_51 rfl rfl ?_
  refine kr_bipush (v := 64) hX dX10_init_52 (by decide) ?_
  refine kr_nJ (m + 6) rfl hX (64) kw_1120 dX10_init_54 (by decide) (by decide) (by decide) (by first | decide | omega | (simp only [kt_n]; omega)) (by first | decide | omega | (simp only [kt_n]; omega)) ?_
  refine kr_putr (c0 := 10) (k := 13) hX kf_10_30 (fun _ => ⟨hmn, _, _, rfl, rfl⟩) dX10_init_56 rfl rfl rfl (by simp [kt_k_nA, kt_k_sr, hk]) ?_
  refine kr_aload_n (i := 0) hX dX10_init_59 rfl rfl ?_
  refine kr_iconst (v := 4) hX dX10_init_60 (by decide) ?_
  refine kr_nJ (m + 7) rfl hX (4) kw_1120 dX10_init_61 (by decide) (by decide) (by decide) (by first | decide | omega | (simp only [kt_n]; omega)) (by first | decide | omega | (simp only [kt_n]; omega)) ?_
  refine kr_putr (c0 := 10) (k := 14) hX kf_10_34 (fun _ => ⟨hmn, _, _, rfl, rfl⟩) dX10_init_63 rfl rfl rfl (by simp [kt_k_nA, kt_k_sr, hk]) ?_
  refine kr_aload_n (i := 0) hX dX10_init_66 rfl rfl ?_
  refine kr_iconst (v := 4) hX dX10_init_67 (by decide) ?_
  refine kr_nJ (m + 8) rfl hX (4) kw_1120 dX10_init_68 (by decide) (by decide) (by decide) (by first | decide | omega | (simp only [kt_n]; omega)) (by first | decide | omega | (simp only [kt_n]; omega)) ?_
  refine kr_putr (c0 := 10) (k := 15) hX kf_10_37 (fun _ => ⟨hmn, _, _, rfl, rfl⟩) dX10_init_70 rfl rfl rfl (by simp [kt_k_nA, kt_k_sr, hk]) ?_
  refine kr_aload_n (i := 0) hX dX10_init_73 rfl rfl ?_
  refine kr_bipush (v := 16) hX dX10_init_74 (by decide) ?_
  refine kr_nZ (m + 9) rfl hX (16) kw_177 dX10_init_76 (by decide) (by decide) (by decide) (by first | decide | omega | (simp only [kt_n]; omega)) (by first | decide | omega | (simp only [kt_n]; omega)) ?_
  refine kr_putr (c0 := 10) (k := 16) hX kf_10_40 (fun _ => ⟨hmn, _, _, rfl, rfl⟩) dX10_init_78 rfl rfl rfl (by simp [kt_k_nA, kt_k_sr, hk]) ?_
  refine kr_aload_n (i := 0) hX dX10_init_81 rfl rfl ?_
  refine kr_bipush (v := 16) hX dX10_init_82 (by decide) ?_
  refine kr_nI (m + 10) rfl hX (16) kw_58 dX10_init_84 (by decide) (by decide) (by decide) (by first | decide | omega | (simp only [kt_n]; omega)) (by first | decide | omega | (simp only [kt_n]; omega)) ?_
  refine kr_putr (c0 := 10) (k := 17) hX kf_10_43 (fun _ => ⟨hmn, _, _, rfl, rfl⟩) dX10_init_86 rfl rfl rfl (by simp [kt_k_nA, kt_k_sr, hk]) ?_
  refine kr_aload_n (i := 0) hX dX10_init_89 rfl rfl ?_
  refine kr_bipush (v := 16) hX dX10_init_90 (by decide) ?_
  refine kr_nI (m + 11) rfl hX (16) kw_58 dX10_init_92 (by decide) (by decide) (by decide) (by first | decide | omega | (simp only [kt_n]; omega)) (by first | decide | omega | (simp only [kt_n]; omega)) ?_
  refine kr_putr (c0 := 10) (k := 18) hX kf_10_46 (fun _ => ⟨hmn, _, _, rfl, rfl⟩) dX10_init_94 rfl rfl rfl (by simp [kt_k_nA, kt_k_sr, hk]) ?_
  refine kr_aload_n (i := 0) hX dX10_init_97 rfl rfl ?_
  refine kr_iconst (v := 4) hX dX10_init_98 (by decide) ?_
  refine kr_nI (m + 12) rfl hX (4) kw_58 dX10_init_99 (by decide) (by decide) (by decide) (by first | decide | omega | (simp only [kt_n]; omega)) (by first | decide | omega | (simp only [kt_n]; omega)) ?_
  refine kr_putr (c0 := 10) (k := 19) hX kf_10_49 (fun _ => ⟨hmn, _, _, rfl, rfl⟩) dX10_init_101 rfl rfl rfl (by simp [kt_k_nA, kt_k_sr, hk]) ?_
  refine kr_aload_n (i := 0) hX dX10_init_104 rfl rfl ?_
  refine kr_sipush (v := 240) hX dX10_init_105 (by decide) ?_
  refine kr_nI (m + 13) rfl hX (240) kw_58 dX10_init_108 (by decide) (by decide) (by decide) (by first | decide | omega | (simp only [kt_n]; omega)) (by first | decide | omega | (simp only [kt_n]; omega)) ?_
  refine kr_putr (c0 := 10) (k := 20) hX kf_10_52 (fun _ => ⟨hmn, _, _, rfl, rfl⟩) dX10_init_110 rfl rfl rfl (by simp [kt_k_nA, kt_k_sr, hk]) ?_
  refine kr_aload_n (i := 0) hX dX10_init_113 rfl rfl ?_
  refine kr_bipush (v := 60) hX dX10_init_114 (by decide) ?_
  refine kr_nI (m + 14) rfl hX (60) kw_58 dX10_init_116 (by decide) (by decide) (by decide) (by first | decide | omega | (simp only [kt_n]; omega)) (by first | decide | omega | (simp only [kt_n]; omega)) ?_
  refine kr_putr (c0 := 10) (k := 21) hX kf_10_55 (fun _ => ⟨hmn, _, _, rfl, rfl⟩) dX10_init_118 rfl rfl rfl (by simp [kt_k_nA, kt_k_sr, hk]) ?_
  refine kr_aload_n (i := 0) hX dX10_init_121 rfl rfl ?_
  refine kr_bipush (v := 8) hX dX10_init_122 (by decide) ?_
  refine kr_nI (m + 15) rfl hX (8) kw_58 dX10_init_124 (by decide) (by decide) (by decide) (by first | decide | omega | (simp only [kt_n]; omega)) (by first | decide | omega | (simp only [kt_n]; omega)) ?_
  refine kr_putr (c0 := 10) (k := 29) hX kf_10_58 (fun _ => ⟨hmn, _, _, rfl, rfl⟩) dX10_init_126 rfl rfl rfl (by simp [kt_k_nA, kt_k_sr, hk]) ?_
  refine kr_aload_n (i := 0) hX dX10_init_129 rfl rfl ?_
  refine kr_iconst (v := 4) hX dX10_init_130 (by decide) ?_
  refine kr_nI (m + 16) rfl hX (4) kw_58 dX10_init_131 (by decide) (by decide) (by decide) (by first | decide | omega | (simp only [kt_n]; omega)) (by first | decide | omega | (simp only [kt_n]; omega)) ?_
  refine kr_putr (c0 := 10) (k := 30) hX kf_10_61 (fun _ => ⟨hmn, _, _, rfl, rfl⟩) dX10_init_133 rfl rfl rfl (by simp [kt_k_nA, kt_k_sr, hk]) ?_
  refine kr_aload_n (i := 0) hX dX10_init_136 rfl rfl ?_
  refine kr_iconst (v := 4) hX dX10_init_137 (by decide) ?_
  refine kr_nI (m + 17) rfl hX (4) kw_58 dX10_init_138 (by decide) (by decide) (by decide) (by first | decide | omega | (simp only [kt_n]; omega)) (by first | decide | omega | (simp only [kt_n]; omega)) ?_
  refine kr_putr (c0 := 10) (k := 31) hX kf_10_64 (fun _ => ⟨hmn, _, _, rfl, rfl⟩) dX10_init_140 rfl rfl rfl (by simp [kt_k_nA, kt_k_sr, hk]) ?_
  refine kr_aload_n (i := 0) hX dX10_init_143 rfl rfl ?_
  refine kr_sipush (v := 160) hX dX10_init_144 (by decide) ?_
  refine kr_nI (m + 18) rfl hX (160) kw_58 dX10_init_147 (by decide) (by decide) (by decide) (by first | decide | omega | (simp only [kt_n]; omega)) (by first | decide | omega | (simp only [kt_n]; omega)) ?_
  refine kr_putr (c0 := 10) (k := 32) hX kf_10_67 (fun _ => ⟨hmn, _, _, rfl, rfl⟩) dX10_init_149 rfl rfl rfl (by simp [kt_k_nA, kt_k_sr, hk]) ?_
  refine kr_iconst (v := 0) hX dX10_init_152 (by decide) ?_
  refine kr_istore_n (i := 1) hX dX10_init_153 rfl (by decide) rfl rfl ?_
  have hm : kt_md _ m := (by unfold kt_md; simp [kt_k_nA, kt_k_sr, kt_r_nA, kt_r_sr, hk] : kt_md (kt_sr (kt_nA (kt_sr (kt_nA (kt_sr (kt_nA (kt_sr (kt_nA (kt_sr (kt_nA (kt_sr (kt_nA (kt_sr (kt_nA (kt_sr (kt_nA (kt_sr (kt_nA (kt_sr (kt_nA (kt_sr (kt_nA (kt_sr (kt_nA (kt_sr (kt_nA (kt_sr (kt_nA (kt_sr (kt_nA (kt_sr (kt_nA (kt_sr (kt_nA (kt_sr (kt_nA σ (m + 1) (1, 1284)) m 0 (some (m + 1))) (m + 2) (1, 321)) m 1 (some (m + 2))) (m + 3) (1, 8)) m 2 (some (m + 3))) (m + 4) (3, 2)) m 3 (some (m + 4))) (m + 5) (1, 200)) m 5 (some (m + 5))) (m + 6) (2, 64)) m 13 (some (m + 6))) (m + 7) (2, 4)) m 14 (some (m + 7))) (m + 8) (2, 4)) m 15 (some (m + 8))) (m + 9) (3, 16)) m 16 (some (m + 9))) (m + 10) (1, 16)) m 17 (some (m + 10))) (m + 11) (1, 16)) m 18 (some (m + 11))) (m + 12) (1, 4)) m 19 (some (m + 12))) (m + 13) (1, 240)) m 20 (some (m + 13))) (m + 14) (1, 60)) m 21 (some (m + 14))) (m + 15) (1, 8)) m 29 (some (m + 15))) (m + 16) (1, 4)) m 30 (some (m + 16))) (m + 17) (1, 4)) m 31 (some (m + 17))) (m + 18) (1, 160)) m 32 (some (m + 18))) m)
  refine lp_mkm1 hX hr hm 8 0 _ (by omega) ⟨rfl, rfl, fun x hx => ?_, fun x k hx => ?_, hm, fun x k h1 h2 => ?_⟩
  · have e0 : x ≠ m := by omega
    have e1 : x ≠ m + 1 := by omega
    have e2 : x ≠ m + 2 := by omega
    have e3 : x ≠ m + 3 := by omega
    have e4 : x ≠ m + 4 := by omega
    have e5 : x ≠ m + 5 := by omega
    have e6 : x ≠ m + 6 := by omega
    have e7 : x ≠ m + 7 := by omega
    have e8 : x ≠ m + 8 := by omega
    have e9 : x ≠ m + 9 := by omega
    have e10 : x ≠ m + 10 := by omega
    have e11 : x ≠ m + 11 := by omega
    have e12 : x ≠ m + 12 := by omega
    have e13 : x ≠ m + 13 := by omega
    have e14 : x ≠ m + 14 := by omega
    have e15 : x ≠ m + 15 := by omega
    have e16 : x ≠ m + 16 := by omega
    have e17 : x ≠ m + 17 := by omega
    have e18 : x ≠ m + 18 := by omega
    simp [kt_k_nA, kt_k_sr, kt_r_nA, kt_r_sr, e0, e1, e2, e3, e4, e5, e6, e7, e8, e9, e10, e11, e12, e13, e14, e15, e16, e17, e18]
  · have e0 : x ≠ m := by omega
    have e1 : x ≠ m + 1 := by omega
    have e2 : x ≠ m + 2 := by omega
    have e3 : x ≠ m + 3 := by omega
    have e4 : x ≠ m + 4 := by omega
    have e5 : x ≠ m + 5 := by omega
    have e6 : x ≠ m + 6 := by omega
    have e7 : x ≠ m + 7 := by omega
    have e8 : x ≠ m + 8 := by omega
    have e9 : x ≠ m + 9 := by omega
    have e10 : x ≠ m + 10 := by omega
    have e11 : x ≠ m + 11 := by omega
    have e12 : x ≠ m + 12 := by omega
    have e13 : x ≠ m + 13 := by omega
    have e14 : x ≠ m + 14 := by omega
    have e15 : x ≠ m + 15 := by omega
    have e16 : x ≠ m + 16 := by omega
    have e17 : x ≠ m + 17 := by omega
    have e18 : x ≠ m + 18 := by omega
    simp [m_fillL_i, m_fillL_l, kt_i_z, kt_l_z, kt_i_si, kt_l_si, e0, e1, e2, e3, e4, e5, e6, e7, e8, e9, e10, e11, e12, e13, e14, e15, e16, e17, e18]
  · simp only [m_fillL_i, kt_i_si, kt_i_z]
    unfold k_md0
    have h3 : x = m ∨ x = m + 1 ∨ x = m + 2 ∨ x = m + 3 ∨ x = m + 4 ∨ x = m + 5 ∨ x = m + 6 ∨ x = m + 7 ∨ x = m + 8 ∨ x = m + 9 ∨ x = m + 10 ∨ x = m + 11 ∨ x = m + 12 ∨ x = m + 13 ∨ x = m + 14 ∨ x = m + 15 ∨ x = m + 16 ∨ x = m + 17 ∨ x = m + 18 := by omega
    rcases h3 with h3 | h3 | h3 | h3 | h3 | h3 | h3 | h3 | h3 | h3 | h3 | h3 | h3 | h3 | h3 | h3 | h3 | h3 | h3 <;> subst h3 <;> simp [h0]


def m_s1L (p q : Nat) : Nat → Nat → kt_M → kt_M
  | 0, _, μ => μ
  | n + 1, i, μ => m_s1L p q n (i + 1) (kt_si (kt_si μ (p + 1) i (k_nx μ (k_at μ q (nI i)))) (p + 2) i 0)
def m_s2L (p : Nat) : Nat → Nat → kt_M → kt_M
  | 0, _, μ => μ
  | n + 1, i, μ => m_s2L p n (i + 1) (m_dmL p (nI i) (k_cut μ p (nI i)) 16 0 μ)
def m_s3L (p : Nat) : Nat → Nat → kt_M → kt_M
  | 0, _, μ => μ
  | n + 1, i, μ => m_s3L p n (i + 1) (kt_si μ p 3 (kt_i μ p 3 ||| (kt_i μ (p + 1) i &&& kt_i μ (p + 2) i)))
def m_s2 (μ : kt_M) (p q : Nat) : kt_M := kt_si μ p 2 (if kt_i μ q 3 = 0 then 0 else k_rw μ p (-1))
theorem m_s2_t {μ : kt_M} {p q : Nat} (h : kt_i μ q 3 = 0) : m_s2 μ p q = kt_si μ p 2 0 := by unfold m_s2; rw [if_pos h]
theorem m_s2_f {μ : kt_M} {p q : Nat} (h : ¬ kt_i μ q 3 = 0) : m_s2 μ p q = kt_si μ p 2 (k_rw μ p (-1)) := by unfold m_s2; rw [if_neg h]
def m_psolve (μ : kt_M) (p q : Nat) : kt_M := m_s3L p 16 0 (kt_si (m_s2L p 16 0 (m_s2 (m_s1L p q 16 0 μ) p q)) p 3 0)
set_option maxHeartbeats 4000000 in
set_option maxRecDepth 100000 in
theorem lp_ps3 {G : kt_G} {σ : kt_Y} {X : kt_X} (hX : kt_ok G X RX3 cX3_solve 3 3 0 0) (hr : kt_rt X = none) {Q : Option Value → kt_M → Prop} {p : Nat} (hp : kt_pt σ p) {q N s : Nat} (hq : kt_pg σ q N) (hN : N ≤ 16) (hsN : s ≤ N) (hsep : p + 3 ≤ q ∨ q + 7 + 4 * N ≤ p) : ∀ (n i : Nat) (μ : kt_M) , i + n = 16 →  (Q none (m_s3L p n i μ)) → kt_W G X 3 81 [(0, .ref p), (1, .ref q), (2, .int (nI i))] [] σ μ 0 0 (kt_Z G X (kt_q σ Q) 0 0) := by
  have hp0 := hp
  obtain ⟨hk0, hr0, hr1, hk1, hk2⟩ := hp
  have hq0 := hq
  obtain ⟨gk0, gr0, gr1, gr2, gk5, gk6, gkn, gbl⟩ := hq
  intro n
  induction n with
  | zero =>
    intro i μ hin  hQ
    have hib : i = 16 := by omega
    refine kr_iload_n (i := 2) hX dX3_solve_81 rfl rfl ?_
    refine kr_bipush (v := 16) hX dX3_solve_82 (by decide) ?_
    refine kr_icmp_ge (tgt := 115) hX dX3_solve_84 (by decide) (fun c_84 => ?_) (fun c_84 => ?_)
    · skip
      refine kr_vret hX hr dX3_solve_115 ⟨rfl, ?_⟩
      exact hQ
    · skip
      exact absurd (by rw [hib]; decide) c_84
  | succ n ih =>
    intro i μ hin  hQ
    have hib : i < 16 := by omega
    refine kr_iload_n (i := 2) hX dX3_solve_81 rfl rfl ?_
    refine kr_bipush (v := 16) hX dX3_solve_82 (by decide) ?_
    refine kr_icmp_ge (tgt := 115) hX dX3_solve_84 (by decide) (fun c_84 => ?_) (fun c_84 => ?_)
    · skip
      exact absurd c_84 (kt_ge rfl hib (by decide))
    · skip
      refine kr_aload_n (i := 0) hX dX3_solve_87 rfl rfl ?_
      refine kr_dup hX dX3_solve_88 rfl ?_
      refine kr_geti (c0 := 3) (k := 3) hX ⟨_, kf_3_22⟩ dX3_solve_89 rfl (by assumption) ?_
      refine kr_aload_n (i := 0) hX dX3_solve_92 rfl rfl ?_
      refine kr_getr (c0 := 3) (k := 0) hX ⟨_, kf_3_9⟩ dX3_solve_93 rfl (by assumption) (by assumption) ?_
      refine kr_iload_n (i := 2) hX dX3_solve_96 rfl rfl ?_
      refine kr_ialdN hX dX3_solve_97 (by assumption) (by omega) ?_
      refine kr_aload_n (i := 0) hX dX3_solve_98 rfl rfl ?_
      refine kr_getr (c0 := 3) (k := 1) hX ⟨_, kf_3_15⟩ dX3_solve_99 rfl (by assumption) (by assumption) ?_
      refine kr_iload_n (i := 2) hX dX3_solve_102 rfl rfl ?_
      refine kr_ialdN hX dX3_solve_103 (by assumption) (by omega) ?_
      refine kr_iand hX dX3_solve_104 ?_
      refine kr_ior hX dX3_solve_105 ?_
      refine kr_puti (c0 := 3) (k := 3) hX kf_3_22 dX3_solve_106 rfl rfl rfl (by assumption) ?_
      refine kr_iinc (v := nI (i + 1)) hX dX3_solve_109 rfl (by first | exact nI_1 _ | rfl) (by decide) rfl rfl ?_
      refine kr_goto (tgt := 81) hX dX3_solve_112 (by decide) ?_
      exact ih (i + 1) _ (by omega) hQ

set_option maxHeartbeats 4000000 in
set_option maxRecDepth 100000 in
theorem lp_ps2 {G : kt_G} {σ : kt_Y} {X : kt_X} (hX : kt_ok G X RX3 cX3_solve 3 3 0 0) (hr : kt_rt X = none) {Q : Option Value → kt_M → Prop} {p : Nat} (hp : kt_pt σ p) {q N s : Nat} (hq : kt_pg σ q N) (hN : N ≤ 16) (hsN : s ≤ N) (hsep : p + 3 ≤ q ∨ q + 7 + 4 * N ≤ p) : ∀ (n i : Nat) (μ : kt_M) , i + n = 16 →  (Q none (m_s3L p 16 0 (kt_si (m_s2L p n i μ) p 3 0))) → kt_W G X 3 57 [(0, .ref p), (1, .ref q), (2, .int (nI i))] [] σ μ 0 0 (kt_Z G X (kt_q σ Q) 0 0) := by
  have hp0 := hp
  obtain ⟨hk0, hr0, hr1, hk1, hk2⟩ := hp
  have hq0 := hq
  obtain ⟨gk0, gr0, gr1, gr2, gk5, gk6, gkn, gbl⟩ := hq
  intro n
  induction n with
  | zero =>
    intro i μ hin  hQ
    have hib : i = 16 := by omega
    refine kr_iload_n (i := 2) hX dX3_solve_57 rfl rfl ?_
    refine kr_bipush (v := 16) hX dX3_solve_58 (by decide) ?_
    refine kr_icmp_ge (tgt := 74) hX dX3_solve_60 (by decide) (fun c_60 => ?_) (fun c_60 => ?_)
    · skip
      refine kr_aload_n (i := 0) hX dX3_solve_74 rfl rfl ?_
      refine kr_iconst (v := 0) hX dX3_solve_75 (by decide) ?_
      refine kr_puti (c0 := 3) (k := 3) hX kf_3_22 dX3_solve_76 rfl rfl rfl (by assumption) ?_
      refine kr_iconst (v := 0) hX dX3_solve_79 (by decide) ?_
      refine kr_istore_n (i := 2) hX dX3_solve_80 rfl (by decide) rfl rfl ?_
      exact lp_ps3 hX hr hp0 hq0 hN hsN hsep 16 0 _ (by omega) hQ
    · skip
      exact absurd (by rw [hib]; decide) c_60
  | succ n ih =>
    intro i μ hin  hQ
    have hib : i < 16 := by omega
    refine kr_iload_n (i := 2) hX dX3_solve_57 rfl rfl ?_
    refine kr_bipush (v := 16) hX dX3_solve_58 (by decide) ?_
    refine kr_icmp_ge (tgt := 74) hX dX3_solve_60 (by decide) (fun c_60 => ?_) (fun c_60 => ?_)
    · skip
      exact absurd c_60 (kt_ge rfl hib (by decide))
    · skip
      refine kr_aload_n (i := 0) hX dX3_solve_63 rfl rfl ?_
      refine kr_iload_n (i := 2) hX dX3_solve_64 rfl rfl ?_
      refine kr_dV (c1 := 3) [_] hX km_3_42 dX3_solve_65 (sp_addDom hp0) rfl rfl ⟨_, _, rfl⟩ (by decide) (Nat.le_of_ble_eq_true rfl) (Nat.le_refl _) (Nat.le_refl _) (by assumption) ?_
      refine kr_iinc (v := nI (i + 1)) hX dX3_solve_68 rfl (by first | exact nI_1 _ | rfl) (by decide) rfl rfl ?_
      refine kr_goto (tgt := 57) hX dX3_solve_71 (by decide) ?_
      exact ih (i + 1) _ (by omega) hQ

set_option maxHeartbeats 4000000 in
set_option maxRecDepth 100000 in
theorem lp_ps1 {G : kt_G} {σ : kt_Y} {X : kt_X} (hX : kt_ok G X RX3 cX3_solve 3 3 0 0) (hr : kt_rt X = none) {Q : Option Value → kt_M → Prop} {p : Nat} (hp : kt_pt σ p) {q N s : Nat} (hq : kt_pg σ q N) (hN : N ≤ 16) (hsN : s ≤ N) (hsep : p + 3 ≤ q ∨ q + 7 + 4 * N ≤ p) : ∀ (n i : Nat) (μ : kt_M) , i + n = 16 → kt_i μ q 3 = nI s → (Q none (m_s3L p 16 0 (kt_si (m_s2L p 16 0 (m_s2 (m_s1L p q n i μ) p q)) p 3 0))) → kt_W G X 3 2 [(0, .ref p), (1, .ref q), (2, .int (nI i))] [] σ μ 0 0 (kt_Z G X (kt_q σ Q) 0 0) := by
  have hp0 := hp
  obtain ⟨hk0, hr0, hr1, hk1, hk2⟩ := hp
  have hq0 := hq
  obtain ⟨gk0, gr0, gr1, gr2, gk5, gk6, gkn, gbl⟩ := hq
  intro n
  induction n with
  | zero =>
    intro i μ hin hs hQ
    have hib : i = 16 := by omega
    refine kr_iload_n (i := 2) hX dX3_solve_2 rfl rfl ?_
    refine kr_bipush (v := 16) hX dX3_solve_3 (by decide) ?_
    refine kr_icmp_ge (tgt := 35) hX dX3_solve_5 (by decide) (fun c_5 => ?_) (fun c_5 => ?_)
    · skip
      refine kr_aload_n (i := 0) hX dX3_solve_35 rfl rfl ?_
      refine kr_aload_n (i := 1) hX dX3_solve_36 rfl rfl ?_
      refine kr_geti (c0 := 4) (k := 3) hX ⟨_, kf_3_35⟩ dX3_solve_37 rfl (by assumption) ?_
      refine kr_if_ne (tgt := 47) hX dX3_solve_40 (by decide) (fun c_40 => ?_) (fun c_40 => ?_)
      · skip
        refine kr_aload_n (i := 0) hX dX3_solve_47 rfl rfl ?_
        refine kr_iconst (v := (-1)) hX dX3_solve_48 (by decide) ?_
        refine kr_dV (c1 := 3) [_] hX km_3_38 dX3_solve_49 (sp_within2 hp0) rfl rfl ⟨_, _, rfl⟩ (by decide) (Nat.le_of_ble_eq_true rfl) (Nat.le_refl _) (Nat.le_refl _) (by assumption) ?_
        refine kr_puti (c0 := 3) (k := 2) hX kf_3_18 dX3_solve_52 rfl rfl rfl (by assumption) ?_
        refine kr_iconst (v := 0) hX dX3_solve_55 (by decide) ?_
        refine kr_istore_n (i := 2) hX dX3_solve_56 rfl (by decide) rfl rfl ?_
        refine lp_ps2 hX hr hp0 hq0 hN hsN hsep 16 0 _ (by omega) ?_
        have h9 : Q none (m_s3L p 16 0 (kt_si (m_s2L p 16 0 (m_s2 μ p q)) p 3 0)) := hQ
        first
        | (rw [m_s2_t c_40] at h9; exact h9)
        | (rw [m_s2_f c_40] at h9; exact h9)
      · skip
        refine kr_iconst (v := 0) hX dX3_solve_43 (by decide) ?_
        refine kr_goto (tgt := 52) hX dX3_solve_44 (by decide) ?_
        refine kr_puti (c0 := 3) (k := 2) hX kf_3_18 dX3_solve_52 rfl rfl rfl (by assumption) ?_
        refine kr_iconst (v := 0) hX dX3_solve_55 (by decide) ?_
        refine kr_istore_n (i := 2) hX dX3_solve_56 rfl (by decide) rfl rfl ?_
        refine lp_ps2 hX hr hp0 hq0 hN hsN hsep 16 0 _ (by omega) ?_
        have h9 : Q none (m_s3L p 16 0 (kt_si (m_s2L p 16 0 (m_s2 μ p q)) p 3 0)) := hQ
        first
        | (rw [m_s2_t c_40] at h9; exact h9)
        | (rw [m_s2_f c_40] at h9; exact h9)
    · skip
      exact absurd (by rw [hib]; decide) c_5
  | succ n ih =>
    intro i μ hin hs hQ
    have hib : i < 16 := by omega
    refine kr_iload_n (i := 2) hX dX3_solve_2 rfl rfl ?_
    refine kr_bipush (v := 16) hX dX3_solve_3 (by decide) ?_
    refine kr_icmp_ge (tgt := 35) hX dX3_solve_5 (by decide) (fun c_5 => ?_) (fun c_5 => ?_)
    · skip
      exact absurd c_5 (kt_ge rfl hib (by decide))
    · skip
      refine kr_aload_n (i := 0) hX dX3_solve_8 rfl rfl ?_
      refine kr_getr (c0 := 3) (k := 0) hX ⟨_, kf_3_9⟩ dX3_solve_9 rfl (by assumption) (by assumption) ?_
      refine kr_iload_n (i := 2) hX dX3_solve_12 rfl rfl ?_
      refine kr_aload_n (i := 1) hX dX3_solve_13 rfl rfl ?_
      refine kr_iload_n (i := 2) hX dX3_solve_14 rfl rfl ?_
      refine kr_dV (c1 := 4) [_] hX km_3_25 dX3_solve_15 (sp_at hq0 hN hs hsN) rfl rfl ⟨_, _, rfl⟩ (by decide) (Nat.le_of_ble_eq_true rfl) (Nat.le_refl _) (Nat.le_refl _) (by assumption) ?_
      refine kr_dS [_] hX km_3_31 dX3_solve_18 (sp_nexts (hq0.at_ hs hsN hN _)) rfl rfl (by decide) (Nat.le_of_ble_eq_true rfl) (Nat.le_refl _) (Nat.le_refl _) ?_
      refine kr_iastN hX dX3_solve_21 (by assumption) (by omega) ?_
      refine kr_aload_n (i := 0) hX dX3_solve_22 rfl rfl ?_
      refine kr_getr (c0 := 3) (k := 1) hX ⟨_, kf_3_15⟩ dX3_solve_23 rfl (by assumption) (by assumption) ?_
      refine kr_iload_n (i := 2) hX dX3_solve_26 rfl rfl ?_
      refine kr_iconst (v := 0) hX dX3_solve_27 (by decide) ?_
      refine kr_iastN hX dX3_solve_28 (by assumption) (by omega) ?_
      refine kr_iinc (v := nI (i + 1)) hX dX3_solve_29 rfl (by first | exact nI_1 _ | rfl) (by decide) rfl rfl ?_
      refine kr_goto (tgt := 2) hX dX3_solve_32 (by decide) ?_
      refine ih (i + 1) _ (by omega) ?_ hQ
      rw [kt_i_sin (by omega), kt_i_sin (by omega)]; exact hs

set_option maxHeartbeats 4000000 in
set_option maxRecDepth 100000 in
theorem sp_psolve {G : kt_G} {σ : kt_Y} {μ : kt_M} {p : Nat} (hp : kt_pt σ p) {q N s : Nat} (hq : kt_pg σ q N) (hN : N ≤ 16) (hsN : s ≤ N) (hsep : p + 3 ≤ q ∨ q + 7 + 4 * N ≤ p) (hs : kt_i μ q 3 = nI s) : kt_F G yX3_solve cX3_solve 3 none 3 [.ref p, .ref q] σ μ (fun r μ2 => r = none ∧ μ2 = m_psolve μ p q) := by
  refine kt_F.of (by decide) (Nat.le_of_ble_eq_true rfl) (fun X hX hr => ?_)
  have hp0 := hp
  obtain ⟨hk0, hr0, hr1, hk1, hk2⟩ := hp
  have hq0 := hq
  obtain ⟨gk0, gr0, gr1, gr2, gk5, gk6, gkn, gbl⟩ := hq
  refine kr_iconst (v := 0) hX dX3_solve_0 (by decide) ?_
  refine kr_istore_n (i := 2) hX dX3_solve_1 rfl (by decide) rfl rfl ?_
  exact lp_ps1 hX hr hp0 hq0 hN hsN hsep 16 0 _ (by omega) hs ⟨rfl, rfl⟩


/-! KnownTurns$Flow -/
def kFB (σ : kt_Y) (p : Nat) : Prop := (kt_k σ p = some (0, 2) ∧ kt_r σ p 0 = some (p + 1) ∧ kt_r σ p 1 = some (p + 2) ∧ kt_r σ p 2 = some (p + 3) ∧ kt_r σ p 3 = some (p + 4) ∧ kt_r σ p 4 = some (p + 5) ∧ kt_r σ p 5 = some (p + 6)) ∧ kt_k σ (p + 1) = some (6, 16) ∧ kt_k σ (p + 2) = some (6, 32) ∧ kt_k σ (p + 3) = some (3, 16) ∧ kt_k σ (p + 4) = some (3, 16) ∧ kt_k σ (p + 5) = some (3, 32) ∧ kt_k σ (p + 6) = some (1, 32)
theorem kFB.ag {σ σ' : kt_Y} {p : Nat} (h : kFB σ p) (h1 : ∀ x, p ≤ x → x < p + 7 → kt_k σ' x = kt_k σ x) (h2 : ∀ k, k < 6 → kt_r σ' p k = kt_r σ p k) : kFB σ' p := by
  unfold kFB at h ⊢
  have g0 := h1 p (by omega) (by omega)
  have g1 := h1 (p + 1) (by omega) (by omega)
  have g2 := h1 (p + 2) (by omega) (by omega)
  have g3 := h1 (p + 3) (by omega) (by omega)
  have g4 := h1 (p + 4) (by omega) (by omega)
  have g5 := h1 (p + 5) (by omega) (by omega)
  have g6 := h1 (p + 6) (by omega) (by omega)
  rw [g0, g1, g2, g3, g4, g5, g6, h2 0 (by decide), h2 1 (by decide), h2 2 (by decide), h2 3 (by decide), h2 4 (by decide), h2 5 (by decide)]
  exact h
/-- a Flow under way: i ranges are made, nb and ne of them stored -/
def kFI (p i nb ne : Nat) (σ0 : kt_Y) (μ0 : kt_M) (σ : kt_Y) (μ : kt_M) : Prop := kt_t σ = p + 7 + 4 * i ∧ kO p σ0 μ0 σ μ ∧ kFB σ p ∧ (kt_r σ p 6 = some (p + 7) ∧ kt_r σ p 7 = some (p + 7 + 4 * 1)) ∧ (∀ j, j < i → kt_rg σ (p + 7 + 4 * j)) ∧ (∀ b, b < nb → kt_r σ (p + 1) b = some (p + 7 + 4 * (2 + b))) ∧ (∀ e, e < ne → kt_r σ (p + 2) e = some (p + 7 + 4 * (18 + e))) ∧ ∀ x k, p ≤ x → x < p + 7 + 4 * i → kt_i μ x k = 0
theorem kFI.make {p i nb ne a : Nat} {σ0 σ σ2 : kt_Y} {μ0 μ μ2 : kt_M} {r : Option Value} (h : kFI p i nb ne σ0 μ0 σ μ) (ha : a = p + 7 + 4 * i) (hI : kI a 4 kt_rg k_0 (kt_nA σ a (0, 5)) (kt_z μ a) r σ2 μ2) : kFI p (i + 1) nb ne σ0 μ0 σ2 μ2 := by
  subst ha
  obtain ⟨h1, h2, h3, ⟨h4, h5⟩, h6, h7, h8, h9⟩ := h
  have hO : kO (p + 7 + 4 * i) σ μ σ2 μ2 := (kO.nA (Nat.le_refl _)).trans hI.O (Nat.le_refl _)
  refine ⟨by rw [hI.2.1]; omega, h2.trans hO (by omega), h3.ag (fun x _ hx => (hO.1 x (by omega)).1) (fun k _ => (hO.1 p (by omega)).2 k), ⟨((hO.1 p (by omega)).2 6).trans h4, ((hO.1 p (by omega)).2 7).trans h5⟩, fun j hj => ?_, fun b hb => ((hO.1 (p + 1) (by omega)).2 b).trans (h7 b hb), fun b hb => ((hO.1 (p + 2) (by omega)).2 b).trans (h8 b hb), fun x k hx1 hx2 => ?_⟩
  · by_cases e : j = i
    · rw [e]; exact hI.2.2.2.2.1
    · exact (h6 j (by omega)).ag (hO.ag (by omega))
  · by_cases e : x < p + 7 + 4 * i
    · rw [(hO.2 x k e).1]; exact h9 x k hx1 e
    · rw [hI.2.2.2.2.2 x k (by omega) (by omega)]; rfl
theorem kFI.sr {p i nb ne a k : Nat} {v : Nat} {σ0 σ : kt_Y} {μ0 μ : kt_M} (h : kFI p i nb ne σ0 μ0 σ μ) (ha : (a = p + 1 ∧ nb ≤ k) ∨ (a = p + 2 ∧ ne ≤ k)) : kFI p i nb ne σ0 μ0 (kt_sr σ a k (some v)) μ := by
  obtain ⟨h1, h2, h3, ⟨h4, h5⟩, h6, h7, h8, h9⟩ := h
  refine ⟨h1, h2.trans (kO.sr (by omega)) (Nat.le_refl _), h3.ag (fun x _ hx => rfl) (fun k _ => by rw [kt_r_sr, if_neg (by omega)]), ⟨by rw [kt_r_sr, if_neg (by omega)]; exact h4, by rw [kt_r_sr, if_neg (by omega)]; exact h5⟩, fun j hj => (h6 j hj).ag (kt_ag.sr (by omega)), fun b hb => by rw [kt_r_sr, if_neg (by omega)]; exact h7 b hb, fun b hb => by rw [kt_r_sr, if_neg (by omega)]; exact h8 b hb, h9⟩
theorem kFI.setB {p i nb ne : Nat} {σ0 σ : kt_Y} {μ0 μ : kt_M} (h : kFI p i nb ne σ0 μ0 σ μ) : kFI p i (nb + 1) ne σ0 μ0 (kt_sr σ (p + 1) nb (some (p + 7 + 4 * (2 + nb)))) μ := by
  have g := h.sr (a := p + 1) (k := nb) (v := p + 7 + 4 * (2 + nb)) (Or.inl ⟨rfl, Nat.le_refl _⟩)
  refine ⟨g.1, g.2.1, g.2.2.1, g.2.2.2.1, g.2.2.2.2.1, fun b hb => ?_, g.2.2.2.2.2.2.1, g.2.2.2.2.2.2.2⟩
  by_cases e : b = nb
  · rw [e, kt_r_sr, if_pos ⟨rfl, rfl⟩]
  · exact g.2.2.2.2.2.1 b (by omega)
theorem kFI.setE {p i nb ne : Nat} {σ0 σ : kt_Y} {μ0 μ : kt_M} (h : kFI p i nb ne σ0 μ0 σ μ) : kFI p i nb (ne + 1) σ0 μ0 (kt_sr σ (p + 2) ne (some (p + 7 + 4 * (18 + ne)))) μ := by
  have g := h.sr (a := p + 2) (k := ne) (v := p + 7 + 4 * (18 + ne)) (Or.inr ⟨rfl, Nat.le_refl _⟩)
  refine ⟨g.1, g.2.1, g.2.2.1, g.2.2.2.1, g.2.2.2.2.1, g.2.2.2.2.2.1, fun b hb => ?_, g.2.2.2.2.2.2.2⟩
  by_cases e : b = ne
  · rw [e, kt_r_sr, if_pos ⟨rfl, rfl⟩]
  · exact g.2.2.2.2.2.2.1 b (by omega)
theorem kt_fw.ag {σ σ' : kt_Y} {p : Nat} (h : kt_fw σ p) (ha : kt_ag p (p + 207) σ σ') : kt_fw σ' p := by
  obtain ⟨a0, a1, a2, a3, a4, a5, a6, a7, a8, b1, b2, b3, b4, b5, b6, c1, c2, c3⟩ := h
  have g0 := ha p (by omega) (by omega)
  have g1 := ha (p + 1) (by omega) (by omega)
  have g2 := ha (p + 2) (by omega) (by omega)
  have g3 := ha (p + 3) (by omega) (by omega)
  have g4 := ha (p + 4) (by omega) (by omega)
  have g5 := ha (p + 5) (by omega) (by omega)
  have g6 := ha (p + 6) (by omega) (by omega)
  exact ⟨g0.1.trans a0, (g0.2 0).trans a1, (g0.2 1).trans a2, (g0.2 2).trans a3, (g0.2 3).trans a4, (g0.2 4).trans a5, (g0.2 5).trans a6, (g0.2 6).trans a7, (g0.2 7).trans a8, g1.1.trans b1, g2.1.trans b2, g3.1.trans b3, g4.1.trans b4, g5.1.trans b5, g6.1.trans b6, fun j hj => (c1 j hj).ag (ha.sub (by omega) (by omega)), fun b hb => (g1.2 b).trans (c2 b hb), fun b hb => (g2.2 b).trans (c3 b hb)⟩
set_option maxHeartbeats 4000000 in
set_option maxRecDepth 100000 in
theorem lp_mkfw2 {G : kt_G} {X : kt_X} {p : Nat} {σ0 : kt_Y} {μ0 : kt_M} (hX : kt_ok G X RX2 cX2_init 2 2 206 894) (hr : kt_rt X = none) : ∀ (n i : Nat) (σ : kt_Y) (μ : kt_M), i + n = 32 → kFI p (18 + i) 16 i σ0 μ0 σ μ → kt_W G X 2 105 [(0, .ref p), (1, .int (nI i))] [] σ μ (6 + 4 * (18 + i)) (144 + 15 * (18 + i)) (kt_Z G X (kI p 207 kt_fw k_0 σ0 μ0) 206 894) := by
  intro n
  induction n with
  | zero =>
    intro i σ μ hin h9
    have hib : i = 32 := by omega
    refine kr_iload_n (i := 1) hX dX2_init_105 rfl rfl ?_
    refine kr_bipush (v := 32) hX dX2_init_106 (by decide) ?_
    refine kr_icmp_ge (tgt := 130) hX dX2_init_108 (by decide) (fun c_108 => ?_) (fun c_108 => ?_)
    · skip
      subst hib
      refine kr_vret hX hr dX2_init_130 ?_
      exact ⟨rfl, h9.1, h9.2.1.1, h9.2.1.2, ⟨h9.2.2.1.1.1, h9.2.2.1.1.2.1, h9.2.2.1.1.2.2.1, h9.2.2.1.1.2.2.2.1, h9.2.2.1.1.2.2.2.2.1, h9.2.2.1.1.2.2.2.2.2.1, h9.2.2.1.1.2.2.2.2.2.2, h9.2.2.2.1.1, h9.2.2.2.1.2, h9.2.2.1.2.1, h9.2.2.1.2.2.1, h9.2.2.1.2.2.2.1, h9.2.2.1.2.2.2.2.1, h9.2.2.1.2.2.2.2.2.1, h9.2.2.1.2.2.2.2.2.2, h9.2.2.2.2.1, h9.2.2.2.2.2.1, h9.2.2.2.2.2.2.1⟩, fun x k h1 h2 => h9.2.2.2.2.2.2.2 x k h1 (by omega)⟩
    · skip
      exact absurd (by rw [hib]; exact Int32.le_refl _) c_108
  | succ n ih =>
    intro i σ μ hin h9
    have hib : i < 32 := by omega
    refine kr_iload_n (i := 1) hX dX2_init_105 rfl rfl ?_
    refine kr_bipush (v := 32) hX dX2_init_106 (by decide) ?_
    refine kr_icmp_ge (tgt := 130) hX dX2_init_108 (by decide) (fun c_108 => ?_) (fun c_108 => ?_)
    · skip
      exact absurd c_108 (nI_ge (b := 32) hib (by omega))
    · skip
      refine kr_aload_n (i := 0) hX dX2_init_111 rfl rfl ?_
      refine kr_getr (c0 := 2) (k := 1) hX ⟨_, kf_2_17⟩ dX2_init_112 rfl (by exact h9.2.2.1.1.1) (by exact h9.2.2.1.1.2.2.1) ?_
      refine kr_iload_n (i := 1) hX dX2_init_115 rfl rfl ?_
      refine kr_nO (c0 := 5) (p + 7 + 4 * (18 + i)) h9.1 hX kw_160 kw_162 kw_6 kc_5 kd_5 dX2_init_116 (by first | decide | omega | (simp only [kt_n]; omega)) (by first | decide | omega | (simp only [kt_n]; omega)) ?_
      refine kr_dup hX dX2_init_119 rfl ?_
      refine kr_callIN [] hX km_2_34 dX2_init_120 (mk_rg (by rw [kt_k_nA, if_pos rfl]) rfl (fun k => by rw [kt_i_z, if_pos rfl])) rfl rfl (by decide) (Nat.le_of_ble_eq_true rfl) (by first | decide | omega | (simp only [kt_n]; omega)) (by first | decide | omega | (simp only [kt_n]; omega)) ?_
      intro r σ2 μ2 hI
      have hr0 := hI.1
      subst hr0
      have hO : kO (p + 7 + 4 * (18 + i)) σ μ σ2 μ2 := (kO.nA (Nat.le_refl _)).trans hI.O (Nat.le_refl _)
      refine kr_aast (t := 2) (c1 := 5) hX dX2_init_123 (by decide) (by exact (hO.1 (p + 2) (by omega)).1.trans h9.2.2.1.2.2.1) (by exact hI.2.2.2.2.1.1) rfl (by exact vp_in_nI hib (by decide)) ?_
      refine kr_iinc (v := nI (i + 1)) hX dX2_init_124 rfl (by first | exact nI_1 _ | rfl) (by decide) rfl rfl ?_
      refine kr_goto (tgt := 105) hX dX2_init_127 (by decide) ?_
      refine kr_wid (cs' := 6 + 4 * (18 + (i + 1))) (ss' := 144 + 15 * (18 + (i + 1))) (by omega) (by simp only [kt_n]; omega) ?_
      rw [nI_clamp (by omega)]
      exact ih (i + 1) _ _ (by omega) ((h9.make rfl hI).setE)

set_option maxHeartbeats 4000000 in
set_option maxRecDepth 100000 in
theorem lp_mkfw1 {G : kt_G} {X : kt_X} {p : Nat} {σ0 : kt_Y} {μ0 : kt_M} (hX : kt_ok G X RX2 cX2_init 2 2 206 894) (hr : kt_rt X = none) : ∀ (n i : Nat) (σ : kt_Y) (μ : kt_M), i + n = 16 → kFI p (2 + i) i 0 σ0 μ0 σ μ → kt_W G X 2 78 [(0, .ref p), (1, .int (nI i))] [] σ μ (6 + 4 * (2 + i)) (144 + 15 * (2 + i)) (kt_Z G X (kI p 207 kt_fw k_0 σ0 μ0) 206 894) := by
  intro n
  induction n with
  | zero =>
    intro i σ μ hin h9
    have hib : i = 16 := by omega
    refine kr_iload_n (i := 1) hX dX2_init_78 rfl rfl ?_
    refine kr_bipush (v := 16) hX dX2_init_79 (by decide) ?_
    refine kr_icmp_ge (tgt := 103) hX dX2_init_81 (by decide) (fun c_81 => ?_) (fun c_81 => ?_)
    · skip
      refine kr_iconst (v := 0) hX dX2_init_103 (by decide) ?_
      refine kr_istore_n (i := 1) hX dX2_init_104 rfl (by decide) rfl rfl ?_
      subst hib
      exact lp_mkfw2 hX hr 32 0 _ _ (by omega) h9
    · skip
      exact absurd (by rw [hib]; exact Int32.le_refl _) c_81
  | succ n ih =>
    intro i σ μ hin h9
    have hib : i < 16 := by omega
    refine kr_iload_n (i := 1) hX dX2_init_78 rfl rfl ?_
    refine kr_bipush (v := 16) hX dX2_init_79 (by decide) ?_
    refine kr_icmp_ge (tgt := 103) hX dX2_init_81 (by decide) (fun c_81 => ?_) (fun c_81 => ?_)
    · skip
      exact absurd c_81 (nI_ge (b := 16) hib (by omega))
    · skip
      refine kr_aload_n (i := 0) hX dX2_init_84 rfl rfl ?_
      refine kr_getr (c0 := 2) (k := 0) hX ⟨_, kf_2_11⟩ dX2_init_85 rfl (by exact h9.2.2.1.1.1) (by exact h9.2.2.1.1.2.1) ?_
      refine kr_iload_n (i := 1) hX dX2_init_88 rfl rfl ?_
      refine kr_nO (c0 := 5) (p + 7 + 4 * (2 + i)) h9.1 hX kw_160 kw_162 kw_6 kc_5 kd_5 dX2_init_89 (by first | decide | omega | (simp only [kt_n]; omega)) (by first | decide | omega | (simp only [kt_n]; omega)) ?_
      refine kr_dup hX dX2_init_92 rfl ?_
      refine kr_callIN [] hX km_2_34 dX2_init_93 (mk_rg (by rw [kt_k_nA, if_pos rfl]) rfl (fun k => by rw [kt_i_z, if_pos rfl])) rfl rfl (by decide) (Nat.le_of_ble_eq_true rfl) (by first | decide | omega | (simp only [kt_n]; omega)) (by first | decide | omega | (simp only [kt_n]; omega)) ?_
      intro r σ2 μ2 hI
      have hr0 := hI.1
      subst hr0
      have hO : kO (p + 7 + 4 * (2 + i)) σ μ σ2 μ2 := (kO.nA (Nat.le_refl _)).trans hI.O (Nat.le_refl _)
      refine kr_aast (t := 2) (c1 := 5) hX dX2_init_96 (by decide) (by exact (hO.1 (p + 1) (by omega)).1.trans h9.2.2.1.2.1) (by exact hI.2.2.2.2.1.1) rfl (by exact vp_in_nI hib (by decide)) ?_
      refine kr_iinc (v := nI (i + 1)) hX dX2_init_97 rfl (by first | exact nI_1 _ | rfl) (by decide) rfl rfl ?_
      refine kr_goto (tgt := 78) hX dX2_init_100 (by decide) ?_
      refine kr_wid (cs' := 6 + 4 * (2 + (i + 1))) (ss' := 144 + 15 * (2 + (i + 1))) (by omega) (by simp only [kt_n]; omega) ?_
      rw [nI_clamp (by omega)]
      exact ih (i + 1) _ _ (by omega) ((h9.make rfl hI).setB)

set_option maxHeartbeats 4000000 in
set_option maxRecDepth 100000 in
theorem mk_fw {G : kt_G} {σ : kt_Y} {μ : kt_M} {p : Nat} (hk : kt_k σ p = some (0, 2)) (ht : kt_t σ = p + 1) (h0 : ∀ k, kt_i μ p k = 0) : kt_S G yX2_init cX2_init 2 none 2 206 894 [.ref p] σ μ (kI p 207 kt_fw k_0 σ μ) := by
  refine kt_S.of (by decide) (Nat.le_of_ble_eq_true rfl) (fun X hX hr hmn => ?_)
  refine kr_aload_n (i := 0) hX dX2_init_0 rfl rfl ?_
  refine kr_obj hX kw_159 dX2_init_1 (Nat.le_of_ble_eq_true rfl) ?_
  refine kr_aload_n (i := 0) hX dX2_init_4 rfl rfl ?_
  refine kr_bipush (v := 16) hX dX2_init_5 (by decide) ?_
  refine kr_nQ (p + 1) ht hX (t := 2) (by decide) (16) kw_160 (by decide) dX2_init_7 (by decide) (by decide) (by decide) (by first | decide | omega | (simp only [kt_n]; omega)) (by first | decide | omega | (simp only [kt_n]; omega)) ?_
  refine kr_putr (c0 := 2) (k := 0) hX kf_2_11 (fun _ => ⟨hmn, _, _, rfl, rfl⟩) dX2_init_10 rfl rfl rfl (by first | exact hk | exact hk2 | exact hk4 | (simp only [kt_k_sr, kt_k_nA]; (repeat rw [if_neg (by omega)]); first | exact hk | exact hk2 | exact hk4)) ?_
  refine kr_aload_n (i := 0) hX dX2_init_13 rfl rfl ?_
  refine kr_bipush (v := 32) hX dX2_init_14 (by decide) ?_
  refine kr_nQ (p + 2) rfl hX (t := 2) (by decide) (32) kw_160 (by decide) dX2_init_16 (by decide) (by decide) (by decide) (by first | decide | omega | (simp only [kt_n]; omega)) (by first | decide | omega | (simp only [kt_n]; omega)) ?_
  refine kr_putr (c0 := 2) (k := 1) hX kf_2_17 (fun _ => ⟨hmn, _, _, rfl, rfl⟩) dX2_init_19 rfl rfl rfl (by first | exact hk | exact hk2 | exact hk4 | (simp only [kt_k_sr, kt_k_nA]; (repeat rw [if_neg (by omega)]); first | exact hk | exact hk2 | exact hk4)) ?_
  refine kr_aload_n (i := 0) hX dX2_init_22 rfl rfl ?_
  refine kr_bipush (v := 16) hX dX2_init_23 (by decide) ?_
  refine kr_nZ (p + 3) rfl hX (16) kw_177 dX2_init_25 (by decide) (by decide) (by decide) (by first | decide | omega | (simp only [kt_n]; omega)) (by first | decide | omega | (simp only [kt_n]; omega)) ?_
  refine kr_putr (c0 := 2) (k := 2) hX kf_2_20 (fun _ => ⟨hmn, _, _, rfl, rfl⟩) dX2_init_27 rfl rfl rfl (by first | exact hk | exact hk2 | exact hk4 | (simp only [kt_k_sr, kt_k_nA]; (repeat rw [if_neg (by omega)]); first | exact hk | exact hk2 | exact hk4)) ?_
  refine kr_aload_n (i := 0) hX dX2_init_30 rfl rfl ?_
  refine kr_bipush (v := 16) hX dX2_init_31 (by decide) ?_
  refine kr_nZ (p + 4) rfl hX (16) kw_177 dX2_init_33 (by decide) (by decide) (by decide) (by first | decide | omega | (simp only [kt_n]; omega)) (by first | decide | omega | (simp only [kt_n]; omega)) ?_
  refine kr_putr (c0 := 2) (k := 3) hX kf_2_24 (fun _ => ⟨hmn, _, _, rfl, rfl⟩) dX2_init_35 rfl rfl rfl (by first | exact hk | exact hk2 | exact hk4 | (simp only [kt_k_sr, kt_k_nA]; (repeat rw [if_neg (by omega)]); first | exact hk | exact hk2 | exact hk4)) ?_
  refine kr_aload_n (i := 0) hX dX2_init_38 rfl rfl ?_
  refine kr_bipush (v := 32) hX dX2_init_39 (by decide) ?_
  refine kr_nZ (p + 5) rfl hX (32) kw_177 dX2_init_41 (by decide) (by decide) (by decide) (by first | decide | omega | (simp only [kt_n]; omega)) (by first | decide | omega | (simp only [kt_n]; omega)) ?_
  refine kr_putr (c0 := 2) (k := 4) hX kf_2_27 (fun _ => ⟨hmn, _, _, rfl, rfl⟩) dX2_init_43 rfl rfl rfl (by first | exact hk | exact hk2 | exact hk4 | (simp only [kt_k_sr, kt_k_nA]; (repeat rw [if_neg (by omega)]); first | exact hk | exact hk2 | exact hk4)) ?_
  refine kr_aload_n (i := 0) hX dX2_init_46 rfl rfl ?_
  refine kr_bipush (v := 32) hX dX2_init_47 (by decide) ?_
  refine kr_nI (p + 6) rfl hX (32) kw_58 dX2_init_49 (by decide) (by decide) (by decide) (by first | decide | omega | (simp only [kt_n]; omega)) (by first | decide | omega | (simp only [kt_n]; omega)) ?_
  refine kr_putr (c0 := 2) (k := 5) hX kf_2_30 (fun _ => ⟨hmn, _, _, rfl, rfl⟩) dX2_init_51 rfl rfl rfl (by first | exact hk | exact hk2 | exact hk4 | (simp only [kt_k_sr, kt_k_nA]; (repeat rw [if_neg (by omega)]); first | exact hk | exact hk2 | exact hk4)) ?_
  refine kr_aload_n (i := 0) hX dX2_init_54 rfl rfl ?_
  refine kr_nO (c0 := 5) (p + 7) rfl hX kw_160 kw_162 kw_6 kc_5 kd_5 dX2_init_55 (by first | decide | omega | (simp only [kt_n]; omega)) (by first | decide | omega | (simp only [kt_n]; omega)) ?_
  refine kr_dup hX dX2_init_58 rfl ?_
  refine kr_callIN [] hX km_2_34 dX2_init_59 (mk_rg (by rw [kt_k_nA, if_pos rfl]) rfl (fun k => by rw [kt_i_z, if_pos rfl])) rfl rfl (by decide) (Nat.le_of_ble_eq_true rfl) (by first | decide | omega | (simp only [kt_n]; omega)) (by first | decide | omega | (simp only [kt_n]; omega)) ?_
  intro r2 σ2 μ2 hI2
  have hr2 := hI2.1
  subst hr2
  have hk2 : kt_k σ2 p = some (0, 2) := by
    rw [(hI2.O.1 p (by omega)).1]; simp [kt_k_nA, kt_k_sr, hk]
  refine kr_putr (c0 := 2) (k := 6) hX kf_2_35 (fun _ => ⟨hmn, _, _, rfl, rfl⟩) dX2_init_62 rfl rfl rfl (by first | exact hk | exact hk2 | exact hk4 | (simp only [kt_k_sr, kt_k_nA]; (repeat rw [if_neg (by omega)]); first | exact hk | exact hk2 | exact hk4)) ?_
  refine kr_aload_n (i := 0) hX dX2_init_65 rfl rfl ?_
  refine kr_nO (c0 := 5) (p + 7 + 4 * 1) (by exact hI2.2.1) hX kw_160 kw_162 kw_6 kc_5 kd_5 dX2_init_66 (by first | decide | omega | (simp only [kt_n]; omega)) (by first | decide | omega | (simp only [kt_n]; omega)) ?_
  refine kr_dup hX dX2_init_69 rfl ?_
  refine kr_callIN [] hX km_2_34 dX2_init_70 (mk_rg (by rw [kt_k_nA, if_pos rfl]) rfl (fun k => by rw [kt_i_z, if_pos rfl])) rfl rfl (by decide) (Nat.le_of_ble_eq_true rfl) (by first | decide | omega | (simp only [kt_n]; omega)) (by first | decide | omega | (simp only [kt_n]; omega)) ?_
  intro r4 σ4 μ4 hI4
  have hr4 := hI4.1
  subst hr4
  have hk4 : kt_k σ4 p = some (0, 2) := by
    rw [(hI4.O.1 p (by omega)).1, kt_k_nA, if_neg (by omega), kt_k_sr]; exact hk2
  refine kr_putr (c0 := 2) (k := 7) hX kf_2_39 (fun _ => ⟨hmn, _, _, rfl, rfl⟩) dX2_init_73 rfl rfl rfl (by first | exact hk | exact hk2 | exact hk4 | (simp only [kt_k_sr, kt_k_nA]; (repeat rw [if_neg (by omega)]); first | exact hk | exact hk2 | exact hk4)) ?_
  refine kr_iconst (v := 0) hX dX2_init_76 (by decide) ?_
  refine kr_istore_n (i := 1) hX dX2_init_77 rfl (by decide) rfl rfl ?_
  refine kr_wid (cs' := 6 + 4 * (2 + 0)) (ss' := 144 + 15 * (2 + 0)) (by omega) (by simp only [kt_n]; omega) ?_
  have hB2 : kFB σ2 p := kFB.ag (σ := kt_nA _ (p + 7) (0, 5)) (by unfold kFB; simp [kt_k_nA, kt_k_sr, kt_r_nA, kt_r_sr, hk]) (fun x _ hx => (hI2.O.1 x (by omega)).1) (fun k _ => (hI2.O.1 p (by omega)).2 k)
  have hO4 : kO (p + 7 + 4 * 1) (kt_sr σ2 p 6 (some (p + 7))) μ2 σ4 μ4 := (kO.nA (Nat.le_refl _)).trans hI4.O (Nat.le_refl _)
  have hB4 : kFB σ4 p := (hB2.ag (σ' := kt_sr σ2 p 6 (some (p + 7))) (fun x _ hx => rfl) (fun k hk => by rw [kt_r_sr, if_neg (by omega)])).ag (fun x _ hx => (hO4.1 x (by omega)).1) (fun k _ => (hO4.1 p (by omega)).2 k)
  refine lp_mkfw1 (p := p) hX hr 16 0 _ _ (by omega) ⟨by rw [show kt_t (kt_sr σ4 p 7 (some (p + 7 + 4 * 1))) = kt_t σ4 from rfl, hI4.2.1], ?_, hB4.ag (fun x _ hx => rfl) (fun k hk => by rw [kt_r_sr, if_neg (by omega)]), ⟨?_, ?_⟩, fun j hj => ?_, fun b hb => absurd hb (by omega), fun b hb => absurd hb (by omega), fun x k h1 h2 => ?_⟩
  · refine kO.trans (σ1 := σ2) (μ1 := μ2) ?_ (((kO.sr (by omega)).trans ⟨fun x hx => hO4.1 x (by omega), fun x k hx => hO4.2 x k (by omega)⟩ (Nat.le_refl _)).trans (kO.sr (by omega)) (Nat.le_refl _)) (Nat.le_refl _)
    refine kO.trans ?_ ⟨fun x hx => hI2.O.1 x (by omega), fun x k hx => hI2.O.2 x k (by omega)⟩ (Nat.le_refl _)
    refine kO.trans ?_ (kO.nA (by omega)) (Nat.le_refl _)
    refine kO.trans ?_ (kO.sr (by omega)) (Nat.le_refl _)
    refine kO.trans ?_ (kO.nA (by omega)) (Nat.le_refl _)
    refine kO.trans ?_ (kO.sr (by omega)) (Nat.le_refl _)
    refine kO.trans ?_ (kO.nA (by omega)) (Nat.le_refl _)
    refine kO.trans ?_ (kO.sr (by omega)) (Nat.le_refl _)
    refine kO.trans ?_ (kO.nA (by omega)) (Nat.le_refl _)
    refine kO.trans ?_ (kO.sr (by omega)) (Nat.le_refl _)
    refine kO.trans ?_ (kO.nA (by omega)) (Nat.le_refl _)
    refine kO.trans ?_ (kO.sr (by omega)) (Nat.le_refl _)
    refine kO.trans ?_ (kO.nA (by omega)) (Nat.le_refl _)
    refine kO.trans ?_ (kO.sr (by omega)) (Nat.le_refl _)
    exact kO.nA (by omega)
  · rw [kt_r_sr, if_neg (by omega), (hO4.1 p (by omega)).2 6, kt_r_sr, if_pos ⟨rfl, rfl⟩]
  · rw [kt_r_sr, if_pos ⟨rfl, rfl⟩]
  · by_cases e : j = 0
    · rw [e]; exact ((hI2.2.2.2.2.1.ag (kt_ag.sr (by omega))).ag (hO4.ag (by omega))).ag (kt_ag.sr (by omega))
    · rw [show j = 1 from by omega]; exact hI4.2.2.2.2.1.ag (kt_ag.sr (by omega))
  · by_cases e : x < p + 7 + 4 * 1
    · rw [(hO4.2 x k e).1]
      by_cases e2 : x < p + 7
      · rw [(hI2.O.2 x k e2).1]
        have e3 : x = p ∨ x = p + 1 ∨ x = p + 2 ∨ x = p + 3 ∨ x = p + 4 ∨ x = p + 5 ∨ x = p + 6 := by omega
        rcases e3 with e3 | e3 | e3 | e3 | e3 | e3 | e3 <;> subst e3 <;> simp [kt_i_z, h0]
      · rw [hI2.2.2.2.2.2 x k (by omega) (by omega)]; rfl
    · rw [hI4.2.2.2.2.2 x k (by omega) (by omega)]; rfl


/-! constructors that make others -/
def kO (p : Nat) (σ : kt_Y) (μ : kt_M) (σ' : kt_Y) (μ' : kt_M) : Prop := (∀ x, x < p → kt_k σ' x = kt_k σ x ∧ ∀ k, kt_r σ' x k = kt_r σ x k) ∧ (∀ x k, x < p → kt_i μ' x k = kt_i μ x k ∧ kt_l μ' x k = kt_l μ x k)
theorem kO.trans {p q : Nat} {σ σ1 σ2 : kt_Y} {μ μ1 μ2 : kt_M} (h : kO p σ μ σ1 μ1) (h2 : kO q σ1 μ1 σ2 μ2) (hq : p ≤ q) : kO p σ μ σ2 μ2 :=
  ⟨fun x hx => ⟨((h2.1 x (by omega)).1).trans (h.1 x hx).1, fun k => ((h2.1 x (by omega)).2 k).trans ((h.1 x hx).2 k)⟩, fun x k hx => ⟨((h2.2 x k (by omega)).1).trans (h.2 x k hx).1, ((h2.2 x k (by omega)).2).trans (h.2 x k hx).2⟩⟩
theorem kO.refl {p : Nat} {σ : kt_Y} {μ : kt_M} : kO p σ μ σ μ := ⟨fun _ _ => ⟨rfl, fun _ => rfl⟩, fun _ _ _ => ⟨rfl, rfl⟩⟩
theorem kO.nA {p a : Nat} {σ : kt_Y} {μ : kt_M} {kd : Nat × Nat} (h : p ≤ a) : kO p σ μ (kt_nA σ a kd) (kt_z μ a) :=
  ⟨fun x hx => ⟨by rw [kt_k_nA, if_neg (by omega)], fun k => by rw [kt_r_nA, if_neg (by omega)]⟩, fun x k hx => ⟨by rw [kt_i_z, if_neg (by omega)], by rw [kt_l_z, if_neg (by omega)]⟩⟩
theorem kO.sr {p a k : Nat} {σ : kt_Y} {μ : kt_M} {v : Option Nat} (h : p ≤ a) : kO p σ μ (kt_sr σ a k v) μ :=
  ⟨fun x hx => ⟨rfl, fun j => by rw [kt_r_sr, if_neg (by omega)]⟩, fun _ _ _ => ⟨rfl, rfl⟩⟩
theorem kO.si {p a k : Nat} {σ : kt_Y} {μ : kt_M} {v : Int32} (h : p ≤ a) : kO p σ μ σ (kt_si μ a k v) :=
  ⟨fun _ _ => ⟨rfl, fun _ => rfl⟩, fun x j hx => ⟨by rw [kt_i_sin (by omega)], rfl⟩⟩
theorem kI.O {p n : Nat} {St : kt_Y → Nat → Prop} {ini : Nat → Nat → Int32} {σ σ' : kt_Y} {μ μ' : kt_M} {r : Option Value} (h : kI p n St ini σ μ r σ' μ') : kO p σ μ σ' μ' := ⟨h.2.2.1, h.2.2.2.1⟩
/-- two layouts agree on a stretch -/
def kt_ag (lo hi : Nat) (σ σ' : kt_Y) : Prop := ∀ x, lo ≤ x → x < hi → kt_k σ' x = kt_k σ x ∧ ∀ k, kt_r σ' x k = kt_r σ x k
theorem kO.ag {p lo hi : Nat} {σ σ' : kt_Y} {μ μ' : kt_M} (h : kO p σ μ σ' μ') (hh : hi ≤ p) : kt_ag lo hi σ σ' := fun x _ h2 => h.1 x (by omega)
theorem kt_ag.sr {lo hi a k : Nat} {σ : kt_Y} {v : Option Nat} (h : a < lo ∨ hi ≤ a) : kt_ag lo hi σ (kt_sr σ a k v) := fun x h1 h2 => ⟨rfl, fun j => by rw [kt_r_sr, if_neg (by omega)]⟩
theorem kt_ag.trans {lo hi : Nat} {σ σ1 σ2 : kt_Y} (h : kt_ag lo hi σ σ1) (h2 : kt_ag lo hi σ1 σ2) : kt_ag lo hi σ σ2 := fun x a b => ⟨(h2 x a b).1.trans (h x a b).1, fun k => ((h2 x a b).2 k).trans ((h x a b).2 k)⟩
theorem kt_ag.sub {lo hi lo2 hi2 : Nat} {σ σ1 : kt_Y} (h : kt_ag lo hi σ σ1) (h1 : lo ≤ lo2) (h2 : hi2 ≤ hi) : kt_ag lo2 hi2 σ σ1 := fun x a b => h x (by omega) (by omega)

theorem kt_blk.ag {σ σ' : kt_Y} {p : Nat} (h : kt_blk σ p) (ha : kt_ag p (p + 4) σ σ') : kt_blk σ' p := by
  unfold kt_blk at h ⊢
  have g0 := ha (p + 0) (by omega) (by omega)
  have g1 := ha (p + 1) (by omega) (by omega)
  have g2 := ha (p + 2) (by omega) (by omega)
  have g3 := ha (p + 3) (by omega) (by omega)
  simp only [Nat.add_zero] at g0
  simp only [g0.1, g0.2, g1.1, g1.2, g2.1, g2.2, g3.1, g3.2]
  exact h
theorem kt_rg.ag {σ σ' : kt_Y} {p : Nat} (h : kt_rg σ p) (ha : kt_ag p (p + 4) σ σ') : kt_rg σ' p := by
  unfold kt_rg at h ⊢
  have g0 := ha (p + 0) (by omega) (by omega)
  have g1 := ha (p + 1) (by omega) (by omega)
  have g2 := ha (p + 2) (by omega) (by omega)
  have g3 := ha (p + 3) (by omega) (by omega)
  simp only [Nat.add_zero] at g0
  simp only [g0.1, g0.2, g1.1, g1.2, g2.1, g2.2, g3.1, g3.2]
  exact h
theorem kt_pt.ag {σ σ' : kt_Y} {p : Nat} (h : kt_pt σ p) (ha : kt_ag p (p + 3) σ σ') : kt_pt σ' p := by
  unfold kt_pt at h ⊢
  have g0 := ha (p + 0) (by omega) (by omega)
  have g1 := ha (p + 1) (by omega) (by omega)
  have g2 := ha (p + 2) (by omega) (by omega)
  simp only [Nat.add_zero] at g0
  simp only [g0.1, g0.2, g1.1, g1.2, g2.1, g2.2]
  exact h
theorem kt_rn.ag {σ σ' : kt_Y} {p : Nat} (h : kt_rn σ p) (ha : kt_ag p (p + 4) σ σ') : kt_rn σ' p := by
  unfold kt_rn at h ⊢
  have g0 := ha (p + 0) (by omega) (by omega)
  have g1 := ha (p + 1) (by omega) (by omega)
  have g2 := ha (p + 2) (by omega) (by omega)
  have g3 := ha (p + 3) (by omega) (by omega)
  simp only [Nat.add_zero] at g0
  simp only [g0.1, g0.2, g1.1, g1.2, g2.1, g2.2, g3.1, g3.2]
  exact h
theorem kt_rd.ag {σ σ' : kt_Y} {p : Nat} (h : kt_rd σ p) (ha : kt_ag p (p + 2) σ σ') : kt_rd σ' p := by
  unfold kt_rd at h ⊢
  have g0 := ha (p + 0) (by omega) (by omega)
  have g1 := ha (p + 1) (by omega) (by omega)
  simp only [Nat.add_zero] at g0
  simp only [g0.1, g0.2, g1.1, g1.2]
  exact h
theorem kt_di.ag {σ σ' : kt_Y} {p : Nat} (h : kt_di σ p) (ha : kt_ag p (p + 1) σ σ') : kt_di σ' p := by
  unfold kt_di at h ⊢
  have g0 := ha (p + 0) (by omega) (by omega)
  simp only [Nat.add_zero] at g0
  simp only [g0.1, g0.2]
  exact h
theorem kt_sh.ag {σ σ' : kt_Y} {p : Nat} (h : kt_sh σ p) (ha : kt_ag p (p + 2) σ σ') : kt_sh σ' p := by
  unfold kt_sh at h ⊢
  have g0 := ha (p + 0) (by omega) (by omega)
  have g1 := ha (p + 1) (by omega) (by omega)
  simp only [Nat.add_zero] at g0
  simp only [g0.1, g0.2, g1.1, g1.2]
  exact h
theorem kt_pg.ag {σ σ' : kt_Y} {p N : Nat} (h : kt_pg σ p N) (ha : kt_ag p (p + 7 + 4 * N) σ σ') : kt_pg σ' p N := by
  obtain ⟨a0, a1, a2, a3, a4, a5, a6, a7⟩ := h
  have g0 := ha p (by omega) (by omega)
  have g5 := ha (p + 5) (by omega) (by omega)
  have g6 := ha (p + 6) (by omega) (by omega)
  refine ⟨g0.1.trans a0, (g0.2 0).trans a1, (g0.2 1).trans a2, (g0.2 2).trans a3, g5.1.trans a4, g6.1.trans a5, a6.ag (ha.sub (by omega) (by omega)), fun b hb => ⟨(g5.2 b).trans (a7 b hb).1, (a7 b hb).2.ag (ha.sub (by omega) (by omega))⟩⟩
/-- a Program under way: i blocks are made -/
def kPI (p N i : Nat) (σ0 : kt_Y) (μ0 : kt_M) (σ : kt_Y) (μ : kt_M) : Prop := kt_t σ = p + 7 + 4 * i ∧ kO p σ0 μ0 σ μ ∧ (kt_k σ p = some (0, 4) ∧ kt_r σ p 0 = some (p + 5) ∧ kt_r σ p 1 = some (p + 6) ∧ kt_r σ p 2 = some (p + 1)) ∧ (kt_k σ (p + 5) = some (4, N) ∧ kt_k σ (p + 6) = some (1, N)) ∧ kt_blk σ (p + 1) ∧ (∀ b, b < i → kt_r σ (p + 5) b = some (p + 7 + 4 * b) ∧ kt_blk σ (p + 7 + 4 * b)) ∧ ∀ x k, p ≤ x → x < p + 7 + 4 * i → kt_i μ x k = 0
theorem kPI.step {p N i a : Nat} {σ0 σ σ2 : kt_Y} {μ0 μ μ2 : kt_M} {r : Option Value} (h : kPI p N i σ0 μ0 σ μ) (ha : a = p + 7 + 4 * i) (hI : kI a 4 kt_blk k_0 (kt_nA σ a (0, 0)) (kt_z μ a) r σ2 μ2) : kPI p N (i + 1) σ0 μ0 (kt_sr σ2 (p + 5) i (some a)) μ2 := by
  subst ha
  obtain ⟨h1, h2, ⟨h3, h4, h5, h6⟩, ⟨h7, h8⟩, h9, h10, h11⟩ := h
  have hO : kO (p + 7 + 4 * i) σ μ σ2 μ2 := (kO.nA (Nat.le_refl _)).trans hI.O (Nat.le_refl _)
  have hp := hO.1 p (by omega)
  have h5' := hO.1 (p + 5) (by omega)
  have h6' := hO.1 (p + 6) (by omega)
  have hs : ∀ lo hi, (p + 5 < lo ∨ hi ≤ p + 5) → kt_ag lo hi σ2 (kt_sr σ2 (p + 5) i (some (p + 7 + 4 * i))) := fun lo hi h => kt_ag.sr h
  refine ⟨?_, (h2.trans hO (by omega)).trans (kO.sr (by omega)) (Nat.le_refl _), ⟨?_, ?_, ?_, ?_⟩, ⟨?_, ?_⟩, ?_, fun b hb => ⟨?_, ?_⟩, fun x k hx1 hx2 => ?_⟩
  · show kt_t σ2 = _
    rw [hI.2.1]; omega
  · exact hp.1.trans h3
  · rw [kt_r_sr, if_neg (by omega)]; exact (hp.2 0).trans h4
  · rw [kt_r_sr, if_neg (by omega)]; exact (hp.2 1).trans h5
  · rw [kt_r_sr, if_neg (by omega)]; exact (hp.2 2).trans h6
  · exact h5'.1.trans h7
  · exact h6'.1.trans h8
  · exact (h9.ag (hO.ag (by omega))).ag (hs _ _ (by omega))
  · rw [kt_r_sr]
    by_cases e : b = i
    · rw [if_pos ⟨rfl, e⟩, e]
    · rw [if_neg (fun h => e h.2)]; exact (h5'.2 b).trans (h10 b (by omega)).1
  · by_cases e : b = i
    · rw [e]; exact hI.2.2.2.2.1.ag (hs _ _ (by omega))
    · exact ((h10 b (by omega)).2.ag (hO.ag (by omega))).ag (hs _ _ (by omega))
  · by_cases e : x < p + 7 + 4 * i
    · rw [(hO.2 x k e).1]; exact h11 x k hx1 e
    · rw [hI.2.2.2.2.2 x k (by omega) (by omega)]; rfl
set_option maxHeartbeats 4000000 in
set_option maxRecDepth 100000 in
theorem lp_mkpg {G : kt_G} {X : kt_X} {p N : Nat} {σ0 : kt_Y} {μ0 : kt_M} (hN : N ≤ 16) (hX : kt_ok G X RX4 cX4_init 4 2 (6 + 4 * N) (23 + 2 * N + 23 * N)) (hr : kt_rt X = none) : ∀ (n i : Nat) (σ : kt_Y) (μ : kt_M), i + n = N → kPI p N i σ0 μ0 σ μ → kt_W G X 4 47 [(0, .ref p), (1, .int (nI N)), (2, .int (nI N)), (3, .int (nI i))] [] σ μ (6 + 4 * i) (23 + 2 * N + 23 * i) (kt_Z G X (kI p (7 + 4 * N) (fun σ p => kt_pg σ p N) k_0 σ0 μ0) (6 + 4 * N) (23 + 2 * N + 23 * N)) := by
  intro n
  induction n with
  | zero =>
    intro i σ μ hin h9
    have hib : i = N := by omega
    refine kr_iload_n (i := 3) hX dX4_init_47 rfl rfl ?_
    refine kr_iload_n (i := 2) hX dX4_init_48 rfl rfl ?_
    refine kr_icmp_ge (tgt := 71) hX dX4_init_49 (by decide) (fun c_49 => ?_) (fun c_49 => ?_)
    · skip
      rw [show 6 + 4 * i = 6 + 4 * N from by omega, show 23 + 2 * N + 23 * i = 23 + 2 * N + 23 * N from by omega]
      refine kr_vret hX hr dX4_init_71 ?_
      subst hib
      exact ⟨rfl, by rw [h9.1]; omega, h9.2.1.1, h9.2.1.2, ⟨h9.2.2.1.1, h9.2.2.1.2.1, h9.2.2.1.2.2.1, h9.2.2.1.2.2.2, h9.2.2.2.1.1, h9.2.2.2.1.2, h9.2.2.2.2.1, h9.2.2.2.2.2.1⟩, fun x k h1 h2 => h9.2.2.2.2.2.2 x k h1 (by omega)⟩
    · skip
      exact absurd (by rw [hib]; exact Int32.le_refl _) c_49
  | succ n ih =>
    intro i σ μ hin h9
    have hib : i < N := by omega
    refine kr_iload_n (i := 3) hX dX4_init_47 rfl rfl ?_
    refine kr_iload_n (i := 2) hX dX4_init_48 rfl rfl ?_
    refine kr_icmp_ge (tgt := 71) hX dX4_init_49 (by decide) (fun c_49 => ?_) (fun c_49 => ?_)
    · skip
      exact absurd c_49 (nI_ge hib (by omega))
    · skip
      refine kr_aload_n (i := 0) hX dX4_init_52 rfl rfl ?_
      refine kr_getr (c0 := 4) (k := 0) hX ⟨_, kf_4_20⟩ dX4_init_53 rfl (by exact h9.2.2.1.1) (by exact h9.2.2.1.2.1) ?_
      refine kr_iload_n (i := 3) hX dX4_init_56 rfl rfl ?_
      refine kr_nO (c0 := 0) (p + 7 + 4 * i) h9.1 hX kw_65 kw_66 kw_4 kc_0 kd_0 dX4_init_57 (by first | decide | omega | (simp only [kt_n]; omega)) (by first | decide | omega | (simp only [kt_n]; omega)) ?_
      refine kr_dup hX dX4_init_60 rfl ?_
      refine kr_callIN [] hX km_4_9 dX4_init_61 (mk_blk (by rw [kt_k_nA, if_pos rfl]) rfl (fun k => by rw [kt_i_z, if_pos rfl])) rfl rfl (by decide) (Nat.le_of_ble_eq_true rfl) (by first | decide | omega | (simp only [kt_n]; omega)) (by first | decide | omega | (simp only [kt_n]; omega)) ?_
      intro r σ2 μ2 hI
      have hr0 := hI.1
      subst hr0
      have hO : kO (p + 7 + 4 * i) σ μ σ2 μ2 := (kO.nA (Nat.le_refl _)).trans hI.O (Nat.le_refl _)
      refine kr_aast (t := 0) (c1 := 0) hX dX4_init_64 (by decide) (by exact (hO.1 (p + 5) (by omega)).1.trans h9.2.2.2.1.1) (by exact hI.2.2.2.2.1.1) rfl (by exact vp_in_nI hib (by omega)) ?_
      refine kr_iinc (v := nI (i + 1)) hX dX4_init_65 rfl (by first | exact nI_1 _ | rfl) (by decide) rfl rfl ?_
      refine kr_goto (tgt := 47) hX dX4_init_68 (by decide) ?_
      refine kr_wid (cs' := 6 + 4 * (i + 1)) (ss' := 23 + 2 * N + 23 * (i + 1)) (by omega) (by simp only [kt_n]; omega) ?_
      rw [nI_clamp (by omega)]
      exact ih (i + 1) _ _ (by omega) (h9.step rfl hI)

set_option maxHeartbeats 4000000 in
set_option maxRecDepth 100000 in
theorem mk_pg {G : kt_G} {σ : kt_Y} {μ : kt_M} {p N : Nat} (hN : N ≤ 16) (hN0 : 0 < N) (hk : kt_k σ p = some (0, 4)) (ht : kt_t σ = p + 1) (h0 : ∀ k, kt_i μ p k = 0) : kt_S G yX4_init cX4_init 4 none 2 (6 + 4 * N) (23 + 2 * N + 23 * N) [.ref p, .int (nI N)] σ μ (kI p (7 + 4 * N) (fun σ p => kt_pg σ p N) k_0 σ μ) := by
  refine kt_S.of (by decide) (Nat.le_of_ble_eq_true rfl) (fun X hX hr hmn => ?_)
  refine kr_aload_n (i := 0) hX dX4_init_0 rfl rfl ?_
  refine kr_obj hX kw_64 dX4_init_1 (Nat.le_of_ble_eq_true rfl) ?_
  refine kr_aload_n (i := 0) hX dX4_init_4 rfl rfl ?_
  refine kr_nO (c0 := 0) (p + 1) ht hX kw_65 kw_66 kw_4 kc_0 kd_0 dX4_init_5 (by first | decide | omega | (simp only [kt_n]; omega)) (by first | decide | omega | (simp only [kt_n]; omega)) ?_
  refine kr_dup hX dX4_init_8 rfl ?_
  refine kr_callIN [] hX km_4_9 dX4_init_9 (mk_blk (by rw [kt_k_nA, if_pos rfl]) rfl (fun k => by rw [kt_i_z, if_pos rfl])) rfl rfl (by decide) (Nat.le_of_ble_eq_true rfl) (by first | decide | omega | (simp only [kt_n]; omega)) (by first | decide | omega | (simp only [kt_n]; omega)) ?_
  intro r σ2 μ2 hI
  have hr0 := hI.1
  subst hr0
  have hO : kO (p + 1) σ μ σ2 μ2 := (kO.nA (Nat.le_refl _)).trans hI.O (Nat.le_refl _)
  have hkp : kt_k σ2 p = some (0, 4) := (hO.1 p (by omega)).1.trans hk
  refine kr_putr (c0 := 4) (k := 2) hX kf_4_10 (fun _ => ⟨hmn, _, _, rfl, rfl⟩) dX4_init_12 rfl rfl rfl (by first | exact hkp | (simp only [kt_k_sr, kt_k_nA]; rw [if_neg (by omega)]; exact hkp) | (simp only [kt_k_sr, kt_k_nA]; rw [if_neg (by omega), if_neg (by omega)]; exact hkp)) ?_
  refine kr_aload_n (i := 0) hX dX4_init_15 rfl rfl ?_
  refine kr_iconst (v := 0) hX dX4_init_16 (by decide) ?_
  refine kr_puti (c0 := 4) (k := 3) hX kf_4_16 dX4_init_17 rfl rfl rfl (by first | exact hkp | (simp only [kt_k_sr, kt_k_nA]; rw [if_neg (by omega)]; exact hkp) | (simp only [kt_k_sr, kt_k_nA]; rw [if_neg (by omega), if_neg (by omega)]; exact hkp)) ?_
  refine kr_iload_n (i := 1) hX dX4_init_20 rfl rfl ?_
  refine kr_if_le (tgt := 28) hX dX4_init_21 (by decide) (fun c_21 => ?_) (fun c_21 => ?_)
  · skip
    exact absurd c_21 (nI_nle hN0 (by omega))
  · skip
    refine kr_iload_n (i := 1) hX dX4_init_24 rfl rfl ?_
    refine kr_goto (tgt := 29) hX dX4_init_25 (by decide) ?_
    refine kr_istore_n (i := 2) hX dX4_init_29 rfl (by decide) rfl rfl ?_
    refine kr_aload_n (i := 0) hX dX4_init_30 rfl rfl ?_
    refine kr_iload_n (i := 2) hX dX4_init_31 rfl rfl ?_
    refine kr_nQ (p + 5) (by exact hI.2.1) hX (t := 0) (by decide) (N) kw_65 (by decide) dX4_init_32 (by exact nI_pos (n := N) (by omega)) (by exact nI_clamp (n := N) (by omega)) (by omega) (by first | decide | omega | (simp only [kt_n]; omega)) (by first | decide | omega | (simp only [kt_n]; omega)) ?_
    refine kr_putr (c0 := 4) (k := 0) hX kf_4_20 (fun _ => ⟨hmn, _, _, rfl, rfl⟩) dX4_init_35 rfl rfl rfl (by first | exact hkp | (simp only [kt_k_sr, kt_k_nA]; rw [if_neg (by omega)]; exact hkp) | (simp only [kt_k_sr, kt_k_nA]; rw [if_neg (by omega), if_neg (by omega)]; exact hkp)) ?_
    refine kr_aload_n (i := 0) hX dX4_init_38 rfl rfl ?_
    refine kr_iload_n (i := 2) hX dX4_init_39 rfl rfl ?_
    refine kr_nI (p + 6) rfl hX (N) kw_58 dX4_init_40 (by exact nI_pos (n := N) (by omega)) (by exact nI_clamp (n := N) (by omega)) (by omega) (by first | decide | omega | (simp only [kt_n]; omega)) (by first | decide | omega | (simp only [kt_n]; omega)) ?_
    refine kr_putr (c0 := 4) (k := 1) hX kf_4_24 (fun _ => ⟨hmn, _, _, rfl, rfl⟩) dX4_init_42 rfl rfl rfl (by first | exact hkp | (simp only [kt_k_sr, kt_k_nA]; rw [if_neg (by omega)]; exact hkp) | (simp only [kt_k_sr, kt_k_nA]; rw [if_neg (by omega), if_neg (by omega)]; exact hkp)) ?_
    refine kr_iconst (v := 0) hX dX4_init_45 (by decide) ?_
    refine kr_istore_n (i := 3) hX dX4_init_46 rfl (by decide) rfl rfl ?_
    refine kr_wid (cs' := 6 + 4 * 0) (ss' := 23 + 2 * N + 23 * 0) (by omega) (by simp only [kt_n]; omega) ?_
    refine lp_mkpg (p := p) hN hX hr N 0 _ _ (by omega) ⟨rfl, ?_, ⟨?_, ?_, ?_, ?_⟩, ⟨?_, ?_⟩, ?_, fun b hb => absurd hb (by omega), fun x k h1 h2 => ?_⟩
    · refine kO.trans (σ1 := σ2) (μ1 := μ2) ⟨fun x hx => hO.1 x (by omega), fun x k hx => hO.2 x k (by omega)⟩ ?_ (Nat.le_refl _)
      exact (((((kO.sr (by omega)).trans (kO.si (by omega)) (Nat.le_refl _)).trans (kO.nA (by omega)) (Nat.le_refl _)).trans (kO.sr (by omega)) (Nat.le_refl _)).trans (kO.nA (by omega)) (Nat.le_refl _)).trans (kO.sr (by omega)) (Nat.le_refl _)
    · simp [kt_k_nA, kt_k_sr, hkp]
    · simp [kt_r_nA, kt_r_sr]
    · simp [kt_r_nA, kt_r_sr]
    · simp [kt_r_nA, kt_r_sr]
    · simp [kt_k_nA, kt_k_sr]
    · simp [kt_k_nA, kt_k_sr]
    · refine hI.2.2.2.2.1.ag (fun x h1 h2 => ⟨?_, fun k => ?_⟩)
      · simp only [kt_k_nA, kt_k_sr]; rw [if_neg (by omega), if_neg (by omega)]
      · simp only [kt_r_nA, kt_r_sr]; rw [if_neg (by omega), if_neg (by omega), if_neg (by omega), if_neg (by omega), if_neg (by omega)]
    · have e : x = p ∨ (p + 1 ≤ x ∧ x < p + 1 + 4) ∨ x = p + 5 ∨ x = p + 6 := by omega
      simp only [kt_i_z, kt_i_si]
      rcases e with e | e | e | e
      · subst e
        rw [if_neg (by omega), if_neg (by omega), (hO.2 x k (by omega)).1, h0]; simp
      · rw [if_neg (by omega), if_neg (by omega), if_neg (by omega), hI.2.2.2.2.2 x k e.1 e.2]; rfl
      · rw [if_neg (by omega), if_pos e]
      · rw [if_pos e]


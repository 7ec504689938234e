/-! KnownTurns -/
def kKB (σ : kt_Y) (o : Nat) : Prop := (kt_k σ o = some (0, 9) ∧ kt_r σ o 0 = some (o + 1) ∧ kt_r σ o 1 = some (o + 3) ∧ kt_r σ o 2 = some (o + 42) ∧ kt_r σ o 3 = some (o + 81) ∧ kt_r σ o 4 = some (o + 152) ∧ kt_r σ o 5 = some (o + 153) ∧ kt_r σ o 6 = some (o + 154) ∧ kt_r σ o 7 = some (o + 361) ∧ kt_r σ o 8 = some (o + 364) ∧ kt_r σ o 9 = some (o + 368) ∧ kt_r σ o 10 = some (o + 369) ∧ kt_r σ o 11 = some (o + 370) ∧ kt_r σ o 12 = some (o + 371)) ∧ (kt_k σ (o + 152) = some (5, 2) ∧ kt_k σ (o + 153) = some (3, 2) ∧ kt_k σ (o + 369) = some (1, 8) ∧ kt_k σ (o + 370) = some (1, 8) ∧ kt_k σ (o + 371) = some (7, 4)) ∧ (kt_rd σ (o + 1) ∧ kt_pg σ (o + 3) 8 ∧ kt_pg σ (o + 42) 8 ∧ kt_pg σ (o + 81) 16 ∧ kt_fw σ (o + 154) ∧ kt_pt σ (o + 361) ∧ kt_rn σ (o + 364) ∧ kt_di σ (o + 368))
theorem kKB.ag {σ σ' : kt_Y} {o : Nat} (h : kKB σ o) (h1 : ∀ x, o ≤ x → x < o + 372 → kt_k σ' x = kt_k σ x) (h2 : ∀ x, o ≤ x → x < o + 372 → x ≠ o + 152 → x ≠ o + 371 → ∀ k, kt_r σ' x k = kt_r σ x k) : kKB σ' o := by
  obtain ⟨ha, hb, hc⟩ := h
  have ha2 : ∀ lo hi, o ≤ lo → hi ≤ o + 372 → (hi ≤ o + 152 ∨ o + 153 ≤ lo) → (hi ≤ o + 371) → kt_ag lo hi σ σ' := fun lo hi q1 q2 q3 q4 x q5 q6 => ⟨h1 x (by omega) (by omega), h2 x (by omega) (by omega) (by omega) (by omega)⟩
  refine ⟨?_, ?_, ?_⟩
  · rw [h1 o (by omega) (by omega), h2 o (by omega) (by omega) (by omega) (by omega) 0, h2 o (by omega) (by omega) (by omega) (by omega) 1, h2 o (by omega) (by omega) (by omega) (by omega) 2, h2 o (by omega) (by omega) (by omega) (by omega) 3, h2 o (by omega) (by omega) (by omega) (by omega) 4, h2 o (by omega) (by omega) (by omega) (by omega) 5, h2 o (by omega) (by omega) (by omega) (by omega) 6, h2 o (by omega) (by omega) (by omega) (by omega) 7, h2 o (by omega) (by omega) (by omega) (by omega) 8, h2 o (by omega) (by omega) (by omega) (by omega) 9, h2 o (by omega) (by omega) (by omega) (by omega) 10, h2 o (by omega) (by omega) (by omega) (by omega) 11, h2 o (by omega) (by omega) (by omega) (by omega) 12]; exact ha
  · rw [h1 (o + 152) (by omega) (by omega), h1 (o + 153) (by omega) (by omega), h1 (o + 369) (by omega) (by omega), h1 (o + 370) (by omega) (by omega), h1 (o + 371) (by omega) (by omega)]; exact hb
  · exact ⟨(hc.1).ag (ha2 _ _ (by omega) (by omega) (by omega) (by omega)), (hc.2.1).ag (ha2 _ _ (by omega) (by omega) (by omega) (by omega)), (hc.2.2.1).ag (ha2 _ _ (by omega) (by omega) (by omega) (by omega)), (hc.2.2.2.1).ag (ha2 _ _ (by omega) (by omega) (by omega) (by omega)), (hc.2.2.2.2.1).ag (ha2 _ _ (by omega) (by omega) (by omega) (by omega)), (hc.2.2.2.2.2.1).ag (ha2 _ _ (by omega) (by omega) (by omega) (by omega)), (hc.2.2.2.2.2.2.1).ag (ha2 _ _ (by omega) (by omega) (by omega) (by omega)), (hc.2.2.2.2.2.2.2).ag (ha2 _ _ (by omega) (by omega) (by omega) (by omega))⟩
def k_kt0 : Nat → Nat → Int32 := fun x k => if x = 0 ∧ k = 13 then 4 else if 514 ≤ x ∧ x % 2 = 0 ∧ k = 1 then -1 else 0
def k_kt1 : Nat → Nat → Int32 := fun x k => if x = 369 ∧ k < 8 then 51 else k_kt0 x k
/-- a KnownTurns under way: i images, j sheets are made -/
def kKI (o i j : Nat) (σ0 : kt_Y) (μ0 : kt_M) (σ : kt_Y) (μ : kt_M) : Prop := kt_t σ = o + 372 + 71 * i + 2 * j ∧ kO o σ0 μ0 σ μ ∧ kKB σ o ∧ (∀ k, k < i → kt_r σ (o + 152) k = some (o + 372 + 71 * k) ∧ kt_pg σ (o + 372 + 71 * k) 16) ∧ (∀ k, k < j → kt_r σ (o + 371) k = some (o + 514 + 2 * k) ∧ kt_sh σ (o + 514 + 2 * k)) ∧ ∀ x k, o ≤ x → x < o + 372 + 71 * i + 2 * j → kt_i μ x k = k_kt0 (x - o) k
theorem kKI.img {o i a : Nat} {σ0 σ σ2 : kt_Y} {μ0 μ μ2 : kt_M} {r : Option Value} (h : kKI o i 0 σ0 μ0 σ μ) (hi : i < 2) (ha : a = o + 372 + 71 * i) (hI : kI a (7 + 4 * 16) (fun σ p => kt_pg σ p 16) k_0 (kt_nA σ a (0, 4)) (kt_z μ a) r σ2 μ2) : kKI o (i + 1) 0 σ0 μ0 (kt_sr σ2 (o + 152) i (some a)) μ2 := by
  subst ha
  obtain ⟨h1, h2, h3, h4, h5, h6⟩ := h
  have hO : kO (o + 372 + 71 * i) σ μ σ2 μ2 := (kO.nA (Nat.le_refl _)).trans hI.O (Nat.le_refl _)
  refine ⟨?_, (h2.trans hO (by omega)).trans (kO.sr (by omega)) (Nat.le_refl _), ?_, fun k hk => ⟨?_, ?_⟩, fun k hk => absurd hk (by omega), fun x k hx1 hx2 => ?_⟩
  · show kt_t σ2 = _
    rw [hI.2.1]; omega
  · exact (h3.ag (σ' := σ2) (fun x _ hx => (hO.1 x (by omega)).1) (fun x _ hx _ _ k => (hO.1 x (by omega)).2 k)).ag (fun x _ _ => rfl) (fun x _ _ hx _ k => by rw [kt_r_sr, if_neg (by omega)])
  · rw [kt_r_sr]
    by_cases e : k = i
    · rw [if_pos ⟨rfl, e⟩, e]
    · rw [if_neg (fun h => e h.2)]; exact ((hO.1 (o + 152) (by omega)).2 k).trans (h4 k (by omega)).1
  · by_cases e : k = i
    · rw [e]; exact hI.2.2.2.2.1.ag (kt_ag.sr (by omega))
    · exact ((h4 k (by omega)).2.ag (hO.ag (by omega))).ag (kt_ag.sr (by omega))
  · by_cases e : x < o + 372 + 71 * i
    · rw [(hO.2 x k e).1]; exact h6 x k hx1 (by omega)
    · rw [hI.2.2.2.2.2 x k (by omega) (by omega)]
      unfold k_0 k_kt0
      rw [if_neg (by omega), if_neg (by omega)]
theorem kKI.sht {o j a : Nat} {σ0 σ σ2 : kt_Y} {μ0 μ μ2 : kt_M} {r : Option Value} (h : kKI o 2 j σ0 μ0 σ μ) (hj : j < 4) (ha : a = o + 514 + 2 * j) (hI : kI a 2 kt_sh k_sh0 (kt_nA σ a (0, 8)) (kt_z μ a) r σ2 μ2) : kKI o 2 (j + 1) σ0 μ0 (kt_sr σ2 (o + 371) j (some a)) μ2 := by
  subst ha
  obtain ⟨h1, h2, h3, h4, h5, h6⟩ := h
  have hO : kO (o + 514 + 2 * j) σ μ σ2 μ2 := (kO.nA (Nat.le_refl _)).trans hI.O (Nat.le_refl _)
  refine ⟨?_, (h2.trans hO (by omega)).trans (kO.sr (by omega)) (Nat.le_refl _), ?_, fun k hk => ⟨?_, ?_⟩, fun k hk => ⟨?_, ?_⟩, fun x k hx1 hx2 => ?_⟩
  · show kt_t σ2 = _
    rw [hI.2.1]; omega
  · exact (h3.ag (σ' := σ2) (fun x _ hx => (hO.1 x (by omega)).1) (fun x _ hx _ _ k => (hO.1 x (by omega)).2 k)).ag (fun x _ _ => rfl) (fun x _ _ _ hx k => by rw [kt_r_sr, if_neg (by omega)])
  · rw [kt_r_sr, if_neg (by omega)]; exact ((hO.1 (o + 152) (by omega)).2 k).trans (h4 k hk).1
  · exact ((h4 k hk).2.ag (hO.ag (by omega))).ag (kt_ag.sr (by omega))
  · rw [kt_r_sr]
    by_cases e : k = j
    · rw [if_pos ⟨rfl, e⟩, e]
    · rw [if_neg (fun h => e h.2)]; exact ((hO.1 (o + 371) (by omega)).2 k).trans (h5 k (by omega)).1
  · by_cases e : k = j
    · rw [e]; exact hI.2.2.2.2.1.ag (kt_ag.sr (by omega))
    · exact ((h5 k (by omega)).2.ag (hO.ag (by omega))).ag (kt_ag.sr (by omega))
  · by_cases e : x < o + 514 + 2 * j
    · rw [(hO.2 x k e).1]; exact h6 x k hx1 (by omega)
    · rw [hI.2.2.2.2.2 x k (by omega) (by omega)]
      unfold k_sh0 k_kt0
      rw [if_neg (c := x - o = 0 ∧ k = 13) (by omega)]
      by_cases e2 : x - (o + 514 + 2 * j) = 0 ∧ k = 1
      · rw [if_pos e2, if_pos (by omega)]
      · rw [if_neg e2, if_neg (by omega)]
set_option maxHeartbeats 4000000 in
set_option maxRecDepth 100000 in
theorem lp_mkin {G : kt_G} {X : kt_X} {o : Nat} {σ0 : kt_Y} {μ0 : kt_M} (hX : kt_ok G X RX9 cX9_init 2 3 521 3390) (hr : kt_rt X = none) {σ : kt_Y} {μ1 : kt_M} (h9 : kKI o 2 4 σ0 μ0 σ μ1) : ∀ (n i : Nat) (μ : kt_M), i + n = 8 → (kI o 522 kt_kt k_kt1 σ0 μ0) none σ (m_fillL (o + 369) 51 n i μ) → kt_W G X 2 208 [(0, .ref o), (1, .int (nI i))] [] σ μ 521 3390 (kt_Z G X (kI o 522 kt_kt k_kt1 σ0 μ0) 521 3390) := by
  intro n
  induction n with
  | zero =>
    intro i μ hin hQ
    have hib : i = 8 := by omega
    refine kr_iload_n (i := 1) hX dX9_init_208 rfl rfl ?_
    refine kr_bipush (v := 8) hX dX9_init_209 (by decide) ?_
    refine kr_icmp_ge (tgt := 228) hX dX9_init_211 (by decide) (fun c_211 => ?_) (fun c_211 => ?_)
    · skip
      refine kr_vret hX hr dX9_init_228 ?_
      exact hQ
    · skip
      exact absurd (by rw [hib]; exact Int32.le_refl _) c_211
  | succ n ih =>
    intro i μ hin hQ
    have hib : i < 8 := by omega
    refine kr_iload_n (i := 1) hX dX9_init_208 rfl rfl ?_
    refine kr_bipush (v := 8) hX dX9_init_209 (by decide) ?_
    refine kr_icmp_ge (tgt := 228) hX dX9_init_211 (by decide) (fun c_211 => ?_) (fun c_211 => ?_)
    · skip
      exact absurd c_211 (nI_ge (b := 8) hib (by omega))
    · skip
      refine kr_aload_n (i := 0) hX dX9_init_214 rfl rfl ?_
      refine kr_getr (c0 := 9) (k := 10) hX ⟨_, kf_9_67⟩ dX9_init_215 rfl (by exact h9.2.2.1.1.1) (by exact h9.2.2.1.1.2.2.2.2.2.2.2.2.2.2.2.1) ?_
      refine kr_iload_n (i := 1) hX dX9_init_218 rfl rfl ?_
      refine kr_bipush (v := 51) hX dX9_init_219 (by decide) ?_
      refine kr_iastN hX dX9_init_221 (by exact h9.2.2.1.2.1.2.2.1) (⟨hib, by decide⟩) ?_
      refine kr_iinc (v := nI (i + 1)) hX dX9_init_222 rfl (by first | exact nI_1 _ | rfl) (by decide) rfl rfl ?_
      refine kr_goto (tgt := 208) hX dX9_init_225 (by decide) ?_
      exact ih (i + 1) _ (by omega) hQ

set_option maxHeartbeats 4000000 in
set_option maxRecDepth 100000 in
theorem lp_mksh {G : kt_G} {X : kt_X} {o : Nat} {σ0 : kt_Y} {μ0 : kt_M} (hX : kt_ok G X RX9 cX9_init 2 3 521 3390) (hr : kt_rt X = none) : ∀ (n i : Nat) (σ : kt_Y) (μ : kt_M), i + n = 4 → kKI o 2 i σ0 μ0 σ μ → kt_W G X 2 182 [(0, .ref o), (1, .int (nI i))] [] σ μ (371 + 142 + 2 * i) (2364 + 854 + 43 * i) (kt_Z G X (kI o 522 kt_kt k_kt1 σ0 μ0) 521 3390) := by
  intro n
  induction n with
  | zero =>
    intro i σ μ hin h9
    have hib : i = 4 := by omega
    refine kr_iload_n (i := 1) hX dX9_init_182 rfl rfl ?_
    refine kr_iconst (v := 4) hX dX9_init_183 (by decide) ?_
    refine kr_icmp_ge (tgt := 206) hX dX9_init_184 (by decide) (fun c_184 => ?_) (fun c_184 => ?_)
    · skip
      refine kr_iconst (v := 0) hX dX9_init_206 (by decide) ?_
      refine kr_istore_n (i := 1) hX dX9_init_207 rfl (by decide) rfl rfl ?_
      subst hib
      refine lp_mkin hX hr h9 8 0 _ (by omega) ⟨rfl, h9.1, h9.2.1.1, fun x k hx => ?_, ?_, fun x k h1 h2 => ?_⟩
      · rw [m_fillL_i, if_neg (by omega), m_fillL_l]; exact h9.2.1.2 x k hx
      · obtain ⟨⟨ha, hb, hc⟩, hd, he⟩ : kKB σ o ∧ _ ∧ _ := ⟨h9.2.2.1, h9.2.2.2.1, h9.2.2.2.2.1⟩
        exact ⟨ha.1, ha.2.1, ha.2.2.1, ha.2.2.2.1, ha.2.2.2.2.1, ha.2.2.2.2.2.1, ha.2.2.2.2.2.2.1, ha.2.2.2.2.2.2.2.1, ha.2.2.2.2.2.2.2.2.1, ha.2.2.2.2.2.2.2.2.2.1, ha.2.2.2.2.2.2.2.2.2.2.1, ha.2.2.2.2.2.2.2.2.2.2.2.1, ha.2.2.2.2.2.2.2.2.2.2.2.2.1, ha.2.2.2.2.2.2.2.2.2.2.2.2.2, hb.1, hb.2.1, hb.2.2.1, hb.2.2.2.1, hb.2.2.2.2, hc.1, hc.2.1, hc.2.2.1, hc.2.2.2.1, hc.2.2.2.2.1, hc.2.2.2.2.2.1, hc.2.2.2.2.2.2.1, hc.2.2.2.2.2.2.2, hd, he⟩
      · rw [m_fillL_i]
        unfold k_kt1
        by_cases e : x = o + 369 ∧ 0 ≤ k ∧ k < 0 + 8
        · rw [if_pos e, if_pos (by omega)]
        · rw [if_neg e, if_neg (by omega)]; exact h9.2.2.2.2.2 x k h1 (by omega)
    · skip
      exact absurd (by rw [hib]; exact Int32.le_refl _) c_184
  | succ n ih =>
    intro i σ μ hin h9
    have hib : i < 4 := by omega
    refine kr_iload_n (i := 1) hX dX9_init_182 rfl rfl ?_
    refine kr_iconst (v := 4) hX dX9_init_183 (by decide) ?_
    refine kr_icmp_ge (tgt := 206) hX dX9_init_184 (by decide) (fun c_184 => ?_) (fun c_184 => ?_)
    · skip
      exact absurd c_184 (nI_ge (b := 4) hib (by omega))
    · skip
      refine kr_aload_n (i := 0) hX dX9_init_187 rfl rfl ?_
      refine kr_getr (c0 := 9) (k := 12) hX ⟨_, kf_9_76⟩ dX9_init_188 rfl (by exact h9.2.2.1.1.1) (by exact h9.2.2.1.1.2.2.2.2.2.2.2.2.2.2.2.2.2) ?_
      refine kr_iload_n (i := 1) hX dX9_init_191 rfl rfl ?_
      refine kr_nO (c0 := 8) (o + 514 + 2 * i) (by rw [h9.1]) hX kw_276 kw_278 kw_10 kc_8 kd_8 dX9_init_192 (by first | decide | omega | (simp only [kt_n]; omega)) (by first | decide | omega | (simp only [kt_n]; omega)) ?_
      refine kr_dup hX dX9_init_195 rfl ?_
      refine kr_callIN [] hX km_9_91 dX9_init_196 (mk_sh (by rw [kt_k_nA, if_pos rfl]) rfl (fun k => by rw [kt_i_z, if_pos rfl])) rfl rfl (by decide) (Nat.le_of_ble_eq_true rfl) (by first | decide | omega | (simp only [kt_n]; omega)) (by first | decide | omega | (simp only [kt_n]; omega)) ?_
      intro r σ2 μ2 hI
      have hr0 := hI.1
      subst hr0
      have hO : kO (o + 514 + 2 * i) σ μ σ2 μ2 := (kO.nA (Nat.le_refl _)).trans hI.O (Nat.le_refl _)
      refine kr_aast (t := 3) (c1 := 8) hX dX9_init_199 (by decide) (by exact (hO.1 (o + 371) (by omega)).1.trans h9.2.2.1.2.1.2.2.2.2) (by exact hI.2.2.2.2.1.1) rfl (by exact vp_in_nI hib (by decide)) ?_
      refine kr_iinc (v := nI (i + 1)) hX dX9_init_200 rfl (by first | exact nI_1 _ | rfl) (by decide) rfl rfl ?_
      refine kr_goto (tgt := 182) hX dX9_init_203 (by decide) ?_
      refine kr_wid (cs' := 371 + 142 + 2 * (i + 1)) (ss' := 2364 + 854 + 43 * (i + 1)) (by omega) (by simp only [kt_n]; omega) ?_
      rw [nI_clamp (by omega)]
      exact ih (i + 1) _ _ (by omega) (h9.sht hib rfl hI)

set_option maxHeartbeats 4000000 in
set_option maxRecDepth 100000 in
theorem lp_mkim {G : kt_G} {X : kt_X} {o : Nat} {σ0 : kt_Y} {μ0 : kt_M} (hX : kt_ok G X RX9 cX9_init 2 3 521 3390) (hr : kt_rt X = none) : ∀ (n i : Nat) (σ : kt_Y) (μ : kt_M), i + n = 2 → kKI o i 0 σ0 μ0 σ μ → kt_W G X 2 154 [(0, .ref o), (1, .int (nI i))] [] σ μ (371 + 71 * i) (2364 + 427 * i) (kt_Z G X (kI o 522 kt_kt k_kt1 σ0 μ0) 521 3390) := by
  intro n
  induction n with
  | zero =>
    intro i σ μ hin h9
    have hib : i = 2 := by omega
    refine kr_iload_n (i := 1) hX dX9_init_154 rfl rfl ?_
    refine kr_iconst (v := 2) hX dX9_init_155 (by decide) ?_
    refine kr_icmp_ge (tgt := 180) hX dX9_init_156 (by decide) (fun c_156 => ?_) (fun c_156 => ?_)
    · skip
      refine kr_iconst (v := 0) hX dX9_init_180 (by decide) ?_
      refine kr_istore_n (i := 1) hX dX9_init_181 rfl (by decide) rfl rfl ?_
      subst hib
      exact lp_mksh hX hr 4 0 _ _ (by omega) h9
    · skip
      exact absurd (by rw [hib]; exact Int32.le_refl _) c_156
  | succ n ih =>
    intro i σ μ hin h9
    have hib : i < 2 := by omega
    refine kr_iload_n (i := 1) hX dX9_init_154 rfl rfl ?_
    refine kr_iconst (v := 2) hX dX9_init_155 (by decide) ?_
    refine kr_icmp_ge (tgt := 180) hX dX9_init_156 (by decide) (fun c_156 => ?_) (fun c_156 => ?_)
    · skip
      exact absurd c_156 (nI_ge (b := 2) hib (by omega))
    · skip
      refine kr_aload_n (i := 0) hX dX9_init_159 rfl rfl ?_
      refine kr_getr (c0 := 9) (k := 4) hX ⟨_, kf_9_31⟩ dX9_init_160 rfl (by exact h9.2.2.1.1.1) (by exact h9.2.2.1.1.2.2.2.2.2.1) ?_
      refine kr_iload_n (i := 1) hX dX9_init_163 rfl rfl ?_
      refine kr_nO (c0 := 4) (o + 372 + 71 * i) h9.1 hX kw_59 kw_60 kw_3 kc_4 kd_4 dX9_init_164 (by first | decide | omega | (simp only [kt_n]; omega)) (by first | decide | omega | (simp only [kt_n]; omega)) ?_
      refine kr_dup hX dX9_init_167 rfl ?_
      refine kr_bipush (v := 16) hX dX9_init_168 (by decide) ?_
      refine kr_callI [_] hX km_9_18 dX9_init_170 (mk_pg (N := 16) (by decide) (by decide) (by rw [kt_k_nA, if_pos rfl]) rfl (fun k => by rw [kt_i_z, if_pos rfl])) rfl rfl (by decide) (Nat.le_of_ble_eq_true rfl) (by first | decide | omega | (simp only [kt_n]; omega)) (by first | decide | omega | (simp only [kt_n]; omega)) ?_
      intro r σ2 μ2 hI
      have hr0 := hI.1
      subst hr0
      have hO : kO (o + 372 + 71 * i) σ μ σ2 μ2 := (kO.nA (Nat.le_refl _)).trans hI.O (Nat.le_refl _)
      refine kr_aast (t := 1) (c1 := 4) hX dX9_init_173 (by decide) (by exact (hO.1 (o + 152) (by omega)).1.trans h9.2.2.1.2.1.1) (by exact hI.2.2.2.2.1.1) rfl (by exact vp_in_nI hib (by decide)) ?_
      refine kr_iinc (v := nI (i + 1)) hX dX9_init_174 rfl (by first | exact nI_1 _ | rfl) (by decide) rfl rfl ?_
      refine kr_goto (tgt := 154) hX dX9_init_177 (by decide) ?_
      refine kr_wid (cs' := 371 + 71 * (i + 1)) (ss' := 2364 + 427 * (i + 1)) (by omega) (by simp only [kt_n]; omega) ?_
      rw [nI_clamp (by omega)]
      exact ih (i + 1) _ _ (by omega) (h9.img hib rfl hI)

set_option maxHeartbeats 4000000 in
set_option maxRecDepth 100000 in
theorem mk_kt {G : kt_G} {σ : kt_Y} {μ : kt_M} {o : Nat} (hk : kt_k σ o = some (0, 9)) (ht : kt_t σ = o + 1) (h0 : ∀ k, kt_i μ o k = 0) : kt_S G yX9_init cX9_init 2 none 3 521 3390 [.ref o] σ μ (kI o 522 kt_kt k_kt1 σ μ) := by
  refine kt_S.of (by decide) (Nat.le_of_ble_eq_true rfl) (fun X hX hr hmn => ?_)
  refine kr_aload_n (i := 0) hX dX9_init_0 rfl rfl ?_
  refine kr_obj hX kw_24 dX9_init_1 (Nat.le_of_ble_eq_true rfl) ?_
  refine kr_aload_n (i := 0) hX dX9_init_4 rfl rfl ?_
  refine kr_nO (c0 := 6) (o + 1) ht hX kw_27 kw_28 kw_2 kc_6 kd_6 dX9_init_5 (by first | decide | omega | (simp only [kt_n]; omega)) (by first | decide | omega | (simp only [kt_n]; omega)) ?_
  refine kr_dup hX dX9_init_8 rfl ?_
  refine kr_callIN [] hX km_9_9 dX9_init_9 (mk_rd (by rw [kt_k_nA, if_pos rfl]) rfl (fun k => by rw [kt_i_z, if_pos rfl])) rfl rfl (by decide) (Nat.le_of_ble_eq_true rfl) (by first | decide | omega | (simp only [kt_n]; omega)) (by first | decide | omega | (simp only [kt_n]; omega)) ?_
  intro r1 σ1 μ1 hI1
  have hr1 := hI1.1
  subst hr1
  have hk_1 : kt_k σ1 o = some (0, 9) := by rw [(hI1.O.1 o (by omega)).1]; simp only [kt_k_nA, kt_k_sr]; (repeat rw [if_neg (by omega)]); exact hk
  have hs0_1 : kt_rd σ1 (o + 1) := hI1.2.2.2.2.1
  have hO1 : kO o σ μ σ1 μ1 := ⟨fun x hx => ⟨by rw [(hI1.O.1 x (by omega)).1]; simp only [kt_k_nA, kt_k_sr]; (repeat rw [if_neg (by omega)]), fun k => by rw [(hI1.O.1 x (by omega)).2 k]; simp only [kt_r_nA, kt_r_sr]; (repeat rw [if_neg (by omega)])⟩, fun x k hx => ⟨by rw [(hI1.O.2 x k (by omega)).1]; simp only [kt_i_z]; (repeat rw [if_neg (by omega)]), by rw [(hI1.O.2 x k (by omega)).2]; simp only [kt_l_z]; (repeat rw [if_neg (by omega)])⟩⟩
  have hz1 : ∀ x k, o ≤ x → x < o + 3 → kt_i μ1 x k = 0 := by
    intro x k h1 h2
    by_cases e1 : x < o + 1
    · by_cases e2 : x < o + 1
      · rw [(hI1.O.2 x k (by omega)).1]; simp only [kt_i_z]; (repeat rw [if_neg (by omega)]); rw [show x = o from by omega]; exact h0 k
      · omega
    · rw [hI1.2.2.2.2.2 x k (by omega) (by omega)]; rfl
  have ht1 : kt_t σ1 = o + 3 := by rw [hI1.2.1]
  refine kr_putr (c0 := 9) (k := 0) hX kf_9_10 (fun _ => ⟨hmn, _, _, rfl, rfl⟩) dX9_init_12 rfl rfl rfl (by first | exact hk | exact hk_8 | exact hk_7 | exact hk_6 | exact hk_5 | exact hk_4 | exact hk_3 | exact hk_2 | exact hk_1 | (simp only [kt_k_sr, kt_k_nA]; (repeat rw [if_neg (by omega)]); first | exact hk | exact hk_8 | exact hk_7 | exact hk_6 | exact hk_5 | exact hk_4 | exact hk_3 | exact hk_2 | exact hk_1)) ?_
  refine kr_aload_n (i := 0) hX dX9_init_15 rfl rfl ?_
  refine kr_nO (c0 := 4) (o + 3) (by exact ht1) hX kw_59 kw_60 kw_3 kc_4 kd_4 dX9_init_16 (by first | decide | omega | (simp only [kt_n]; omega)) (by first | decide | omega | (simp only [kt_n]; omega)) ?_
  refine kr_dup hX dX9_init_19 rfl ?_
  refine kr_bipush (v := 8) hX dX9_init_20 (by decide) ?_
  refine kr_callI [_] hX km_9_18 dX9_init_22 (mk_pg (N := 8) (by decide) (by decide) (by rw [kt_k_nA, if_pos rfl]) rfl (fun k => by rw [kt_i_z, if_pos rfl])) rfl rfl (by decide) (Nat.le_of_ble_eq_true rfl) (by first | decide | omega | (simp only [kt_n]; omega)) (by first | decide | omega | (simp only [kt_n]; omega)) ?_
  intro r2 σ2 μ2 hI2
  have hr2 := hI2.1
  subst hr2
  have hk_2 : kt_k σ2 o = some (0, 9) := by rw [(hI2.O.1 o (by omega)).1]; simp only [kt_k_nA, kt_k_sr]; (repeat rw [if_neg (by omega)]); exact hk_1
  have hf0_2 : kt_r σ2 o 0 = some (o + 1) := by rw [(hI2.O.1 o (by omega)).2 0]; simp [kt_r_nA, kt_r_sr]
  have hA2 : kt_ag (o + 1) (o + 3) σ1 σ2 := fun x h1 h2 => ⟨by rw [(hI2.O.1 x (by omega)).1]; simp only [kt_k_nA, kt_k_sr]; (repeat rw [if_neg (by omega)]), fun k => by rw [(hI2.O.1 x (by omega)).2 k]; simp only [kt_r_nA, kt_r_sr]; (repeat rw [if_neg (by omega)])⟩
  have hs0_2 : kt_rd σ2 (o + 1) := hs0_1.ag (hA2.sub (by omega) (by omega))
  have hs1_2 : kt_pg σ2 (o + 3) 8 := hI2.2.2.2.2.1
  have hO2 : kO o σ μ σ2 μ2 := ⟨fun x hx => ⟨by rw [(hI2.O.1 x (by omega)).1]; simp only [kt_k_nA, kt_k_sr]; (repeat rw [if_neg (by omega)]); exact (hO1.1 x hx).1, fun k => by rw [(hI2.O.1 x (by omega)).2 k]; simp only [kt_r_nA, kt_r_sr]; (repeat rw [if_neg (by omega)]); exact (hO1.1 x hx).2 k⟩, fun x k hx => ⟨by rw [(hI2.O.2 x k (by omega)).1]; simp only [kt_i_z]; (repeat rw [if_neg (by omega)]); exact (hO1.2 x k hx).1, by rw [(hI2.O.2 x k (by omega)).2]; simp only [kt_l_z]; (repeat rw [if_neg (by omega)]); exact (hO1.2 x k hx).2⟩⟩
  have hz2 : ∀ x k, o ≤ x → x < o + 42 → kt_i μ2 x k = 0 := by
    intro x k h1 h2
    by_cases e1 : x < o + 3
    · by_cases e2 : x < o + 3
      · rw [(hI2.O.2 x k (by omega)).1]; simp only [kt_i_z]; (repeat rw [if_neg (by omega)]); exact hz1 x k h1 e2
      · omega
    · rw [hI2.2.2.2.2.2 x k (by omega) (by omega)]; rfl
  have ht2 : kt_t σ2 = o + 42 := by rw [hI2.2.1]
  refine kr_putr (c0 := 9) (k := 1) hX kf_9_21 (fun _ => ⟨hmn, _, _, rfl, rfl⟩) dX9_init_25 rfl rfl rfl (by first | exact hk | exact hk_8 | exact hk_7 | exact hk_6 | exact hk_5 | exact hk_4 | exact hk_3 | exact hk_2 | exact hk_1 | (simp only [kt_k_sr, kt_k_nA]; (repeat rw [if_neg (by omega)]); first | exact hk | exact hk_8 | exact hk_7 | exact hk_6 | exact hk_5 | exact hk_4 | exact hk_3 | exact hk_2 | exact hk_1)) ?_
  refine kr_aload_n (i := 0) hX dX9_init_28 rfl rfl ?_
  refine kr_nO (c0 := 4) (o + 42) (by exact ht2) hX kw_59 kw_60 kw_3 kc_4 kd_4 dX9_init_29 (by first | decide | omega | (simp only [kt_n]; omega)) (by first | decide | omega | (simp only [kt_n]; omega)) ?_
  refine kr_dup hX dX9_init_32 rfl ?_
  refine kr_bipush (v := 8) hX dX9_init_33 (by decide) ?_
  refine kr_callI [_] hX km_9_18 dX9_init_35 (mk_pg (N := 8) (by decide) (by decide) (by rw [kt_k_nA, if_pos rfl]) rfl (fun k => by rw [kt_i_z, if_pos rfl])) rfl rfl (by decide) (Nat.le_of_ble_eq_true rfl) (by first | decide | omega | (simp only [kt_n]; omega)) (by first | decide | omega | (simp only [kt_n]; omega)) ?_
  intro r3 σ3 μ3 hI3
  have hr3 := hI3.1
  subst hr3
  have hk_3 : kt_k σ3 o = some (0, 9) := by rw [(hI3.O.1 o (by omega)).1]; simp only [kt_k_nA, kt_k_sr]; (repeat rw [if_neg (by omega)]); exact hk_2
  have hf0_3 : kt_r σ3 o 0 = some (o + 1) := by rw [(hI3.O.1 o (by omega)).2 0]; simp [kt_r_nA, kt_r_sr, hf0_2]
  have hf1_3 : kt_r σ3 o 1 = some (o + 3) := by rw [(hI3.O.1 o (by omega)).2 1]; simp [kt_r_nA, kt_r_sr]
  have hA3 : kt_ag (o + 1) (o + 42) σ2 σ3 := fun x h1 h2 => ⟨by rw [(hI3.O.1 x (by omega)).1]; simp only [kt_k_nA, kt_k_sr]; (repeat rw [if_neg (by omega)]), fun k => by rw [(hI3.O.1 x (by omega)).2 k]; simp only [kt_r_nA, kt_r_sr]; (repeat rw [if_neg (by omega)])⟩
  have hs0_3 : kt_rd σ3 (o + 1) := hs0_2.ag (hA3.sub (by omega) (by omega))
  have hs1_3 : kt_pg σ3 (o + 3) 8 := hs1_2.ag (hA3.sub (by omega) (by omega))
  have hs2_3 : kt_pg σ3 (o + 42) 8 := hI3.2.2.2.2.1
  have hO3 : kO o σ μ σ3 μ3 := ⟨fun x hx => ⟨by rw [(hI3.O.1 x (by omega)).1]; simp only [kt_k_nA, kt_k_sr]; (repeat rw [if_neg (by omega)]); exact (hO2.1 x hx).1, fun k => by rw [(hI3.O.1 x (by omega)).2 k]; simp only [kt_r_nA, kt_r_sr]; (repeat rw [if_neg (by omega)]); exact (hO2.1 x hx).2 k⟩, fun x k hx => ⟨by rw [(hI3.O.2 x k (by omega)).1]; simp only [kt_i_z]; (repeat rw [if_neg (by omega)]); exact (hO2.2 x k hx).1, by rw [(hI3.O.2 x k (by omega)).2]; simp only [kt_l_z]; (repeat rw [if_neg (by omega)]); exact (hO2.2 x k hx).2⟩⟩
  have hz3 : ∀ x k, o ≤ x → x < o + 81 → kt_i μ3 x k = 0 := by
    intro x k h1 h2
    by_cases e1 : x < o + 42
    · by_cases e2 : x < o + 42
      · rw [(hI3.O.2 x k (by omega)).1]; simp only [kt_i_z]; (repeat rw [if_neg (by omega)]); exact hz2 x k h1 e2
      · omega
    · rw [hI3.2.2.2.2.2 x k (by omega) (by omega)]; rfl
  have ht3 : kt_t σ3 = o + 81 := by rw [hI3.2.1]
  refine kr_putr (c0 := 9) (k := 2) hX kf_9_25 (fun _ => ⟨hmn, _, _, rfl, rfl⟩) dX9_init_38 rfl rfl rfl (by first | exact hk | exact hk_8 | exact hk_7 | exact hk_6 | exact hk_5 | exact hk_4 | exact hk_3 | exact hk_2 | exact hk_1 | (simp only [kt_k_sr, kt_k_nA]; (repeat rw [if_neg (by omega)]); first | exact hk | exact hk_8 | exact hk_7 | exact hk_6 | exact hk_5 | exact hk_4 | exact hk_3 | exact hk_2 | exact hk_1)) ?_
  refine kr_aload_n (i := 0) hX dX9_init_41 rfl rfl ?_
  refine kr_nO (c0 := 4) (o + 81) (by exact ht3) hX kw_59 kw_60 kw_3 kc_4 kd_4 dX9_init_42 (by first | decide | omega | (simp only [kt_n]; omega)) (by first | decide | omega | (simp only [kt_n]; omega)) ?_
  refine kr_dup hX dX9_init_45 rfl ?_
  refine kr_bipush (v := 16) hX dX9_init_46 (by decide) ?_
  refine kr_callI [_] hX km_9_18 dX9_init_48 (mk_pg (N := 16) (by decide) (by decide) (by rw [kt_k_nA, if_pos rfl]) rfl (fun k => by rw [kt_i_z, if_pos rfl])) rfl rfl (by decide) (Nat.le_of_ble_eq_true rfl) (by first | decide | omega | (simp only [kt_n]; omega)) (by first | decide | omega | (simp only [kt_n]; omega)) ?_
  intro r4 σ4 μ4 hI4
  have hr4 := hI4.1
  subst hr4
  have hk_4 : kt_k σ4 o = some (0, 9) := by rw [(hI4.O.1 o (by omega)).1]; simp only [kt_k_nA, kt_k_sr]; (repeat rw [if_neg (by omega)]); exact hk_3
  have hf0_4 : kt_r σ4 o 0 = some (o + 1) := by rw [(hI4.O.1 o (by omega)).2 0]; simp [kt_r_nA, kt_r_sr, hf0_3]
  have hf1_4 : kt_r σ4 o 1 = some (o + 3) := by rw [(hI4.O.1 o (by omega)).2 1]; simp [kt_r_nA, kt_r_sr, hf1_3]
  have hf2_4 : kt_r σ4 o 2 = some (o + 42) := by rw [(hI4.O.1 o (by omega)).2 2]; simp [kt_r_nA, kt_r_sr]
  have hA4 : kt_ag (o + 1) (o + 81) σ3 σ4 := fun x h1 h2 => ⟨by rw [(hI4.O.1 x (by omega)).1]; simp only [kt_k_nA, kt_k_sr]; (repeat rw [if_neg (by omega)]), fun k => by rw [(hI4.O.1 x (by omega)).2 k]; simp only [kt_r_nA, kt_r_sr]; (repeat rw [if_neg (by omega)])⟩
  have hs0_4 : kt_rd σ4 (o + 1) := hs0_3.ag (hA4.sub (by omega) (by omega))
  have hs1_4 : kt_pg σ4 (o + 3) 8 := hs1_3.ag (hA4.sub (by omega) (by omega))
  have hs2_4 : kt_pg σ4 (o + 42) 8 := hs2_3.ag (hA4.sub (by omega) (by omega))
  have hs3_4 : kt_pg σ4 (o + 81) 16 := hI4.2.2.2.2.1
  have hO4 : kO o σ μ σ4 μ4 := ⟨fun x hx => ⟨by rw [(hI4.O.1 x (by omega)).1]; simp only [kt_k_nA, kt_k_sr]; (repeat rw [if_neg (by omega)]); exact (hO3.1 x hx).1, fun k => by rw [(hI4.O.1 x (by omega)).2 k]; simp only [kt_r_nA, kt_r_sr]; (repeat rw [if_neg (by omega)]); exact (hO3.1 x hx).2 k⟩, fun x k hx => ⟨by rw [(hI4.O.2 x k (by omega)).1]; simp only [kt_i_z]; (repeat rw [if_neg (by omega)]); exact (hO3.2 x k hx).1, by rw [(hI4.O.2 x k (by omega)).2]; simp only [kt_l_z]; (repeat rw [if_neg (by omega)]); exact (hO3.2 x k hx).2⟩⟩
  have hz4 : ∀ x k, o ≤ x → x < o + 152 → kt_i μ4 x k = 0 := by
    intro x k h1 h2
    by_cases e1 : x < o + 81
    · by_cases e2 : x < o + 81
      · rw [(hI4.O.2 x k (by omega)).1]; simp only [kt_i_z]; (repeat rw [if_neg (by omega)]); exact hz3 x k h1 e2
      · omega
    · rw [hI4.2.2.2.2.2 x k (by omega) (by omega)]; rfl
  have ht4 : kt_t σ4 = o + 152 := by rw [hI4.2.1]
  refine kr_putr (c0 := 9) (k := 3) hX kf_9_28 (fun _ => ⟨hmn, _, _, rfl, rfl⟩) dX9_init_51 rfl rfl rfl (by first | exact hk | exact hk_8 | exact hk_7 | exact hk_6 | exact hk_5 | exact hk_4 | exact hk_3 | exact hk_2 | exact hk_1 | (simp only [kt_k_sr, kt_k_nA]; (repeat rw [if_neg (by omega)]); first | exact hk | exact hk_8 | exact hk_7 | exact hk_6 | exact hk_5 | exact hk_4 | exact hk_3 | exact hk_2 | exact hk_1)) ?_
  refine kr_aload_n (i := 0) hX dX9_init_54 rfl rfl ?_
  refine kr_iconst (v := 2) hX dX9_init_55 (by decide) ?_
  refine kr_nQ (o + 152) (by exact ht4) hX (t := 1) (by decide) (2) kw_59 (by decide) dX9_init_56 (by decide) (by decide) (by decide) (by first | decide | omega | (simp only [kt_n]; omega)) (by first | decide | omega | (simp only [kt_n]; omega)) ?_
  refine kr_putr (c0 := 9) (k := 4) hX kf_9_31 (fun _ => ⟨hmn, _, _, rfl, rfl⟩) dX9_init_59 rfl rfl rfl (by first | exact hk | exact hk_8 | exact hk_7 | exact hk_6 | exact hk_5 | exact hk_4 | exact hk_3 | exact hk_2 | exact hk_1 | (simp only [kt_k_sr, kt_k_nA]; (repeat rw [if_neg (by omega)]); first | exact hk | exact hk_8 | exact hk_7 | exact hk_6 | exact hk_5 | exact hk_4 | exact hk_3 | exact hk_2 | exact hk_1)) ?_
  refine kr_aload_n (i := 0) hX dX9_init_62 rfl rfl ?_
  refine kr_iconst (v := 2) hX dX9_init_63 (by decide) ?_
  refine kr_nZ (o + 153) rfl hX (2) kw_177 dX9_init_64 (by decide) (by decide) (by decide) (by first | decide | omega | (simp only [kt_n]; omega)) (by first | decide | omega | (simp only [kt_n]; omega)) ?_
  refine kr_putr (c0 := 9) (k := 5) hX kf_9_35 (fun _ => ⟨hmn, _, _, rfl, rfl⟩) dX9_init_66 rfl rfl rfl (by first | exact hk | exact hk_8 | exact hk_7 | exact hk_6 | exact hk_5 | exact hk_4 | exact hk_3 | exact hk_2 | exact hk_1 | (simp only [kt_k_sr, kt_k_nA]; (repeat rw [if_neg (by omega)]); first | exact hk | exact hk_8 | exact hk_7 | exact hk_6 | exact hk_5 | exact hk_4 | exact hk_3 | exact hk_2 | exact hk_1)) ?_
  refine kr_aload_n (i := 0) hX dX9_init_69 rfl rfl ?_
  refine kr_nO (c0 := 2) (o + 154) rfl hX kw_154 kw_155 kw_5 kc_2 kd_2 dX9_init_70 (by first | decide | omega | (simp only [kt_n]; omega)) (by first | decide | omega | (simp only [kt_n]; omega)) ?_
  refine kr_dup hX dX9_init_73 rfl ?_
  refine kr_callI [] hX km_9_41 dX9_init_74 (mk_fw (by rw [kt_k_nA, if_pos rfl]) rfl (fun k => by rw [kt_i_z, if_pos rfl])) rfl rfl (by decide) (Nat.le_of_ble_eq_true rfl) (by first | decide | omega | (simp only [kt_n]; omega)) (by first | decide | omega | (simp only [kt_n]; omega)) ?_
  intro r5 σ5 μ5 hI5
  have hr5 := hI5.1
  subst hr5
  have hk_5 : kt_k σ5 o = some (0, 9) := by rw [(hI5.O.1 o (by omega)).1]; simp only [kt_k_nA, kt_k_sr]; (repeat rw [if_neg (by omega)]); exact hk_4
  have hf0_5 : kt_r σ5 o 0 = some (o + 1) := by rw [(hI5.O.1 o (by omega)).2 0]; simp [kt_r_nA, kt_r_sr, hf0_4]
  have hf1_5 : kt_r σ5 o 1 = some (o + 3) := by rw [(hI5.O.1 o (by omega)).2 1]; simp [kt_r_nA, kt_r_sr, hf1_4]
  have hf2_5 : kt_r σ5 o 2 = some (o + 42) := by rw [(hI5.O.1 o (by omega)).2 2]; simp [kt_r_nA, kt_r_sr, hf2_4]
  have hf3_5 : kt_r σ5 o 3 = some (o + 81) := by rw [(hI5.O.1 o (by omega)).2 3]; simp [kt_r_nA, kt_r_sr]
  have hf4_5 : kt_r σ5 o 4 = some (o + 152) := by rw [(hI5.O.1 o (by omega)).2 4]; simp [kt_r_nA, kt_r_sr]
  have hf5_5 : kt_r σ5 o 5 = some (o + 153) := by rw [(hI5.O.1 o (by omega)).2 5]; simp [kt_r_nA, kt_r_sr]
  have hA5 : kt_ag (o + 1) (o + 152) σ4 σ5 := fun x h1 h2 => ⟨by rw [(hI5.O.1 x (by omega)).1]; simp only [kt_k_nA, kt_k_sr]; (repeat rw [if_neg (by omega)]), fun k => by rw [(hI5.O.1 x (by omega)).2 k]; simp only [kt_r_nA, kt_r_sr]; (repeat rw [if_neg (by omega)])⟩
  have hs0_5 : kt_rd σ5 (o + 1) := hs0_4.ag (hA5.sub (by omega) (by omega))
  have hs1_5 : kt_pg σ5 (o + 3) 8 := hs1_4.ag (hA5.sub (by omega) (by omega))
  have hs2_5 : kt_pg σ5 (o + 42) 8 := hs2_4.ag (hA5.sub (by omega) (by omega))
  have hs3_5 : kt_pg σ5 (o + 81) 16 := hs3_4.ag (hA5.sub (by omega) (by omega))
  have ha152_5 : kt_k σ5 (o + 152) = some (5, 2) := by rw [(hI5.O.1 (o + 152) (by omega)).1]; simp [kt_k_nA, kt_k_sr]
  have ha153_5 : kt_k σ5 (o + 153) = some (3, 2) := by rw [(hI5.O.1 (o + 153) (by omega)).1]; simp [kt_k_nA, kt_k_sr]
  have hs4_5 : kt_fw σ5 (o + 154) := hI5.2.2.2.2.1
  have hO5 : kO o σ μ σ5 μ5 := ⟨fun x hx => ⟨by rw [(hI5.O.1 x (by omega)).1]; simp only [kt_k_nA, kt_k_sr]; (repeat rw [if_neg (by omega)]); exact (hO4.1 x hx).1, fun k => by rw [(hI5.O.1 x (by omega)).2 k]; simp only [kt_r_nA, kt_r_sr]; (repeat rw [if_neg (by omega)]); exact (hO4.1 x hx).2 k⟩, fun x k hx => ⟨by rw [(hI5.O.2 x k (by omega)).1]; simp only [kt_i_z]; (repeat rw [if_neg (by omega)]); exact (hO4.2 x k hx).1, by rw [(hI5.O.2 x k (by omega)).2]; simp only [kt_l_z]; (repeat rw [if_neg (by omega)]); exact (hO4.2 x k hx).2⟩⟩
  have hz5 : ∀ x k, o ≤ x → x < o + 361 → kt_i μ5 x k = 0 := by
    intro x k h1 h2
    by_cases e1 : x < o + 154
    · by_cases e2 : x < o + 152
      · rw [(hI5.O.2 x k (by omega)).1]; simp only [kt_i_z]; (repeat rw [if_neg (by omega)]); exact hz4 x k h1 e2
      · rw [(hI5.O.2 x k (by omega)).1]; simp only [kt_i_z]
        have e3 : x = o + 152 ∨ x = o + 153 := by omega
        rcases e3 with e3 | e3 <;> subst e3 <;> simp
    · rw [hI5.2.2.2.2.2 x k (by omega) (by omega)]; rfl
  have ht5 : kt_t σ5 = o + 361 := by rw [hI5.2.1]
  refine kr_putr (c0 := 9) (k := 6) hX kf_9_42 (fun _ => ⟨hmn, _, _, rfl, rfl⟩) dX9_init_77 rfl rfl rfl (by first | exact hk | exact hk_8 | exact hk_7 | exact hk_6 | exact hk_5 | exact hk_4 | exact hk_3 | exact hk_2 | exact hk_1 | (simp only [kt_k_sr, kt_k_nA]; (repeat rw [if_neg (by omega)]); first | exact hk | exact hk_8 | exact hk_7 | exact hk_6 | exact hk_5 | exact hk_4 | exact hk_3 | exact hk_2 | exact hk_1)) ?_
  refine kr_aload_n (i := 0) hX dX9_init_80 rfl rfl ?_
  refine kr_nO (c0 := 3) (o + 361) (by exact ht5) hX kw_205 kw_206 kw_7 kc_3 kd_3 dX9_init_81 (by first | decide | omega | (simp only [kt_n]; omega)) (by first | decide | omega | (simp only [kt_n]; omega)) ?_
  refine kr_dup hX dX9_init_84 rfl ?_
  refine kr_callIN [] hX km_9_48 dX9_init_85 (mk_pt (by rw [kt_k_nA, if_pos rfl]) rfl (fun k => by rw [kt_i_z, if_pos rfl])) rfl rfl (by decide) (Nat.le_of_ble_eq_true rfl) (by first | decide | omega | (simp only [kt_n]; omega)) (by first | decide | omega | (simp only [kt_n]; omega)) ?_
  intro r6 σ6 μ6 hI6
  have hr6 := hI6.1
  subst hr6
  have hk_6 : kt_k σ6 o = some (0, 9) := by rw [(hI6.O.1 o (by omega)).1]; simp only [kt_k_nA, kt_k_sr]; (repeat rw [if_neg (by omega)]); exact hk_5
  have hf0_6 : kt_r σ6 o 0 = some (o + 1) := by rw [(hI6.O.1 o (by omega)).2 0]; simp [kt_r_nA, kt_r_sr, hf0_5]
  have hf1_6 : kt_r σ6 o 1 = some (o + 3) := by rw [(hI6.O.1 o (by omega)).2 1]; simp [kt_r_nA, kt_r_sr, hf1_5]
  have hf2_6 : kt_r σ6 o 2 = some (o + 42) := by rw [(hI6.O.1 o (by omega)).2 2]; simp [kt_r_nA, kt_r_sr, hf2_5]
  have hf3_6 : kt_r σ6 o 3 = some (o + 81) := by rw [(hI6.O.1 o (by omega)).2 3]; simp [kt_r_nA, kt_r_sr, hf3_5]
  have hf4_6 : kt_r σ6 o 4 = some (o + 152) := by rw [(hI6.O.1 o (by omega)).2 4]; simp [kt_r_nA, kt_r_sr, hf4_5]
  have hf5_6 : kt_r σ6 o 5 = some (o + 153) := by rw [(hI6.O.1 o (by omega)).2 5]; simp [kt_r_nA, kt_r_sr, hf5_5]
  have hf6_6 : kt_r σ6 o 6 = some (o + 154) := by rw [(hI6.O.1 o (by omega)).2 6]; simp [kt_r_nA, kt_r_sr]
  have hA6 : kt_ag (o + 1) (o + 361) σ5 σ6 := fun x h1 h2 => ⟨by rw [(hI6.O.1 x (by omega)).1]; simp only [kt_k_nA, kt_k_sr]; (repeat rw [if_neg (by omega)]), fun k => by rw [(hI6.O.1 x (by omega)).2 k]; simp only [kt_r_nA, kt_r_sr]; (repeat rw [if_neg (by omega)])⟩
  have hs0_6 : kt_rd σ6 (o + 1) := hs0_5.ag (hA6.sub (by omega) (by omega))
  have hs1_6 : kt_pg σ6 (o + 3) 8 := hs1_5.ag (hA6.sub (by omega) (by omega))
  have hs2_6 : kt_pg σ6 (o + 42) 8 := hs2_5.ag (hA6.sub (by omega) (by omega))
  have hs3_6 : kt_pg σ6 (o + 81) 16 := hs3_5.ag (hA6.sub (by omega) (by omega))
  have hs4_6 : kt_fw σ6 (o + 154) := hs4_5.ag (hA6.sub (by omega) (by omega))
  have ha152_6 := (hA6 (o + 152) (by omega) (by omega)).1.trans ha152_5
  have ha153_6 := (hA6 (o + 153) (by omega) (by omega)).1.trans ha153_5
  have hs5_6 : kt_pt σ6 (o + 361) := hI6.2.2.2.2.1
  have hO6 : kO o σ μ σ6 μ6 := ⟨fun x hx => ⟨by rw [(hI6.O.1 x (by omega)).1]; simp only [kt_k_nA, kt_k_sr]; (repeat rw [if_neg (by omega)]); exact (hO5.1 x hx).1, fun k => by rw [(hI6.O.1 x (by omega)).2 k]; simp only [kt_r_nA, kt_r_sr]; (repeat rw [if_neg (by omega)]); exact (hO5.1 x hx).2 k⟩, fun x k hx => ⟨by rw [(hI6.O.2 x k (by omega)).1]; simp only [kt_i_z]; (repeat rw [if_neg (by omega)]); exact (hO5.2 x k hx).1, by rw [(hI6.O.2 x k (by omega)).2]; simp only [kt_l_z]; (repeat rw [if_neg (by omega)]); exact (hO5.2 x k hx).2⟩⟩
  have hz6 : ∀ x k, o ≤ x → x < o + 364 → kt_i μ6 x k = 0 := by
    intro x k h1 h2
    by_cases e1 : x < o + 361
    · by_cases e2 : x < o + 361
      · rw [(hI6.O.2 x k (by omega)).1]; simp only [kt_i_z]; (repeat rw [if_neg (by omega)]); exact hz5 x k h1 e2
      · omega
    · rw [hI6.2.2.2.2.2 x k (by omega) (by omega)]; rfl
  have ht6 : kt_t σ6 = o + 364 := by rw [hI6.2.1]
  refine kr_putr (c0 := 9) (k := 7) hX kf_9_49 (fun _ => ⟨hmn, _, _, rfl, rfl⟩) dX9_init_88 rfl rfl rfl (by first | exact hk | exact hk_8 | exact hk_7 | exact hk_6 | exact hk_5 | exact hk_4 | exact hk_3 | exact hk_2 | exact hk_1 | (simp only [kt_k_sr, kt_k_nA]; (repeat rw [if_neg (by omega)]); first | exact hk | exact hk_8 | exact hk_7 | exact hk_6 | exact hk_5 | exact hk_4 | exact hk_3 | exact hk_2 | exact hk_1)) ?_
  refine kr_aload_n (i := 0) hX dX9_init_91 rfl rfl ?_
  refine kr_nO (c0 := 7) (o + 364) (by exact ht6) hX kw_226 kw_227 kw_8 kc_7 kd_7 dX9_init_92 (by first | decide | omega | (simp only [kt_n]; omega)) (by first | decide | omega | (simp only [kt_n]; omega)) ?_
  refine kr_dup hX dX9_init_95 rfl ?_
  refine kr_callIN [] hX km_9_55 dX9_init_96 (mk_rn (by rw [kt_k_nA, if_pos rfl]) rfl (fun k => by rw [kt_i_z, if_pos rfl])) rfl rfl (by decide) (Nat.le_of_ble_eq_true rfl) (by first | decide | omega | (simp only [kt_n]; omega)) (by first | decide | omega | (simp only [kt_n]; omega)) ?_
  intro r7 σ7 μ7 hI7
  have hr7 := hI7.1
  subst hr7
  have hk_7 : kt_k σ7 o = some (0, 9) := by rw [(hI7.O.1 o (by omega)).1]; simp only [kt_k_nA, kt_k_sr]; (repeat rw [if_neg (by omega)]); exact hk_6
  have hf0_7 : kt_r σ7 o 0 = some (o + 1) := by rw [(hI7.O.1 o (by omega)).2 0]; simp [kt_r_nA, kt_r_sr, hf0_6]
  have hf1_7 : kt_r σ7 o 1 = some (o + 3) := by rw [(hI7.O.1 o (by omega)).2 1]; simp [kt_r_nA, kt_r_sr, hf1_6]
  have hf2_7 : kt_r σ7 o 2 = some (o + 42) := by rw [(hI7.O.1 o (by omega)).2 2]; simp [kt_r_nA, kt_r_sr, hf2_6]
  have hf3_7 : kt_r σ7 o 3 = some (o + 81) := by rw [(hI7.O.1 o (by omega)).2 3]; simp [kt_r_nA, kt_r_sr, hf3_6]
  have hf4_7 : kt_r σ7 o 4 = some (o + 152) := by rw [(hI7.O.1 o (by omega)).2 4]; simp [kt_r_nA, kt_r_sr, hf4_6]
  have hf5_7 : kt_r σ7 o 5 = some (o + 153) := by rw [(hI7.O.1 o (by omega)).2 5]; simp [kt_r_nA, kt_r_sr, hf5_6]
  have hf6_7 : kt_r σ7 o 6 = some (o + 154) := by rw [(hI7.O.1 o (by omega)).2 6]; simp [kt_r_nA, kt_r_sr, hf6_6]
  have hf7_7 : kt_r σ7 o 7 = some (o + 361) := by rw [(hI7.O.1 o (by omega)).2 7]; simp [kt_r_nA, kt_r_sr]
  have hA7 : kt_ag (o + 1) (o + 364) σ6 σ7 := fun x h1 h2 => ⟨by rw [(hI7.O.1 x (by omega)).1]; simp only [kt_k_nA, kt_k_sr]; (repeat rw [if_neg (by omega)]), fun k => by rw [(hI7.O.1 x (by omega)).2 k]; simp only [kt_r_nA, kt_r_sr]; (repeat rw [if_neg (by omega)])⟩
  have hs0_7 : kt_rd σ7 (o + 1) := hs0_6.ag (hA7.sub (by omega) (by omega))
  have hs1_7 : kt_pg σ7 (o + 3) 8 := hs1_6.ag (hA7.sub (by omega) (by omega))
  have hs2_7 : kt_pg σ7 (o + 42) 8 := hs2_6.ag (hA7.sub (by omega) (by omega))
  have hs3_7 : kt_pg σ7 (o + 81) 16 := hs3_6.ag (hA7.sub (by omega) (by omega))
  have hs4_7 : kt_fw σ7 (o + 154) := hs4_6.ag (hA7.sub (by omega) (by omega))
  have hs5_7 : kt_pt σ7 (o + 361) := hs5_6.ag (hA7.sub (by omega) (by omega))
  have ha152_7 := (hA7 (o + 152) (by omega) (by omega)).1.trans ha152_6
  have ha153_7 := (hA7 (o + 153) (by omega) (by omega)).1.trans ha153_6
  have hs6_7 : kt_rn σ7 (o + 364) := hI7.2.2.2.2.1
  have hO7 : kO o σ μ σ7 μ7 := ⟨fun x hx => ⟨by rw [(hI7.O.1 x (by omega)).1]; simp only [kt_k_nA, kt_k_sr]; (repeat rw [if_neg (by omega)]); exact (hO6.1 x hx).1, fun k => by rw [(hI7.O.1 x (by omega)).2 k]; simp only [kt_r_nA, kt_r_sr]; (repeat rw [if_neg (by omega)]); exact (hO6.1 x hx).2 k⟩, fun x k hx => ⟨by rw [(hI7.O.2 x k (by omega)).1]; simp only [kt_i_z]; (repeat rw [if_neg (by omega)]); exact (hO6.2 x k hx).1, by rw [(hI7.O.2 x k (by omega)).2]; simp only [kt_l_z]; (repeat rw [if_neg (by omega)]); exact (hO6.2 x k hx).2⟩⟩
  have hz7 : ∀ x k, o ≤ x → x < o + 368 → kt_i μ7 x k = 0 := by
    intro x k h1 h2
    by_cases e1 : x < o + 364
    · by_cases e2 : x < o + 364
      · rw [(hI7.O.2 x k (by omega)).1]; simp only [kt_i_z]; (repeat rw [if_neg (by omega)]); exact hz6 x k h1 e2
      · omega
    · rw [hI7.2.2.2.2.2 x k (by omega) (by omega)]; rfl
  have ht7 : kt_t σ7 = o + 368 := by rw [hI7.2.1]
  refine kr_putr (c0 := 9) (k := 8) hX kf_9_56 (fun _ => ⟨hmn, _, _, rfl, rfl⟩) dX9_init_99 rfl rfl rfl (by first | exact hk | exact hk_8 | exact hk_7 | exact hk_6 | exact hk_5 | exact hk_4 | exact hk_3 | exact hk_2 | exact hk_1 | (simp only [kt_k_sr, kt_k_nA]; (repeat rw [if_neg (by omega)]); first | exact hk | exact hk_8 | exact hk_7 | exact hk_6 | exact hk_5 | exact hk_4 | exact hk_3 | exact hk_2 | exact hk_1)) ?_
  refine kr_aload_n (i := 0) hX dX9_init_102 rfl rfl ?_
  refine kr_nO (c0 := 1) (o + 368) (by exact ht7) hX kw_265 kw_266 kw_9 kc_1 kd_1 dX9_init_103 (by first | decide | omega | (simp only [kt_n]; omega)) (by first | decide | omega | (simp only [kt_n]; omega)) ?_
  refine kr_dup hX dX9_init_106 rfl ?_
  refine kr_callIN [] hX km_9_62 dX9_init_107 (mk_di (by rw [kt_k_nA, if_pos rfl]) rfl (fun k => by rw [kt_i_z, if_pos rfl])) rfl rfl (by decide) (Nat.le_of_ble_eq_true rfl) (by first | decide | omega | (simp only [kt_n]; omega)) (by first | decide | omega | (simp only [kt_n]; omega)) ?_
  intro r8 σ8 μ8 hI8
  have hr8 := hI8.1
  subst hr8
  have hk_8 : kt_k σ8 o = some (0, 9) := by rw [(hI8.O.1 o (by omega)).1]; simp only [kt_k_nA, kt_k_sr]; (repeat rw [if_neg (by omega)]); exact hk_7
  have hf0_8 : kt_r σ8 o 0 = some (o + 1) := by rw [(hI8.O.1 o (by omega)).2 0]; simp [kt_r_nA, kt_r_sr, hf0_7]
  have hf1_8 : kt_r σ8 o 1 = some (o + 3) := by rw [(hI8.O.1 o (by omega)).2 1]; simp [kt_r_nA, kt_r_sr, hf1_7]
  have hf2_8 : kt_r σ8 o 2 = some (o + 42) := by rw [(hI8.O.1 o (by omega)).2 2]; simp [kt_r_nA, kt_r_sr, hf2_7]
  have hf3_8 : kt_r σ8 o 3 = some (o + 81) := by rw [(hI8.O.1 o (by omega)).2 3]; simp [kt_r_nA, kt_r_sr, hf3_7]
  have hf4_8 : kt_r σ8 o 4 = some (o + 152) := by rw [(hI8.O.1 o (by omega)).2 4]; simp [kt_r_nA, kt_r_sr, hf4_7]
  have hf5_8 : kt_r σ8 o 5 = some (o + 153) := by rw [(hI8.O.1 o (by omega)).2 5]; simp [kt_r_nA, kt_r_sr, hf5_7]
  have hf6_8 : kt_r σ8 o 6 = some (o + 154) := by rw [(hI8.O.1 o (by omega)).2 6]; simp [kt_r_nA, kt_r_sr, hf6_7]
  have hf7_8 : kt_r σ8 o 7 = some (o + 361) := by rw [(hI8.O.1 o (by omega)).2 7]; simp [kt_r_nA, kt_r_sr, hf7_7]
  have hf8_8 : kt_r σ8 o 8 = some (o + 364) := by rw [(hI8.O.1 o (by omega)).2 8]; simp [kt_r_nA, kt_r_sr]
  have hA8 : kt_ag (o + 1) (o + 368) σ7 σ8 := fun x h1 h2 => ⟨by rw [(hI8.O.1 x (by omega)).1]; simp only [kt_k_nA, kt_k_sr]; (repeat rw [if_neg (by omega)]), fun k => by rw [(hI8.O.1 x (by omega)).2 k]; simp only [kt_r_nA, kt_r_sr]; (repeat rw [if_neg (by omega)])⟩
  have hs0_8 : kt_rd σ8 (o + 1) := hs0_7.ag (hA8.sub (by omega) (by omega))
  have hs1_8 : kt_pg σ8 (o + 3) 8 := hs1_7.ag (hA8.sub (by omega) (by omega))
  have hs2_8 : kt_pg σ8 (o + 42) 8 := hs2_7.ag (hA8.sub (by omega) (by omega))
  have hs3_8 : kt_pg σ8 (o + 81) 16 := hs3_7.ag (hA8.sub (by omega) (by omega))
  have hs4_8 : kt_fw σ8 (o + 154) := hs4_7.ag (hA8.sub (by omega) (by omega))
  have hs5_8 : kt_pt σ8 (o + 361) := hs5_7.ag (hA8.sub (by omega) (by omega))
  have hs6_8 : kt_rn σ8 (o + 364) := hs6_7.ag (hA8.sub (by omega) (by omega))
  have ha152_8 := (hA8 (o + 152) (by omega) (by omega)).1.trans ha152_7
  have ha153_8 := (hA8 (o + 153) (by omega) (by omega)).1.trans ha153_7
  have hs7_8 : kt_di σ8 (o + 368) := hI8.2.2.2.2.1
  have hO8 : kO o σ μ σ8 μ8 := ⟨fun x hx => ⟨by rw [(hI8.O.1 x (by omega)).1]; simp only [kt_k_nA, kt_k_sr]; (repeat rw [if_neg (by omega)]); exact (hO7.1 x hx).1, fun k => by rw [(hI8.O.1 x (by omega)).2 k]; simp only [kt_r_nA, kt_r_sr]; (repeat rw [if_neg (by omega)]); exact (hO7.1 x hx).2 k⟩, fun x k hx => ⟨by rw [(hI8.O.2 x k (by omega)).1]; simp only [kt_i_z]; (repeat rw [if_neg (by omega)]); exact (hO7.2 x k hx).1, by rw [(hI8.O.2 x k (by omega)).2]; simp only [kt_l_z]; (repeat rw [if_neg (by omega)]); exact (hO7.2 x k hx).2⟩⟩
  have hz8 : ∀ x k, o ≤ x → x < o + 369 → kt_i μ8 x k = 0 := by
    intro x k h1 h2
    by_cases e1 : x < o + 368
    · by_cases e2 : x < o + 368
      · rw [(hI8.O.2 x k (by omega)).1]; simp only [kt_i_z]; (repeat rw [if_neg (by omega)]); exact hz7 x k h1 e2
      · omega
    · rw [hI8.2.2.2.2.2 x k (by omega) (by omega)]; rfl
  have ht8 : kt_t σ8 = o + 369 := by rw [hI8.2.1]
  refine kr_putr (c0 := 9) (k := 9) hX kf_9_63 (fun _ => ⟨hmn, _, _, rfl, rfl⟩) dX9_init_110 rfl rfl rfl (by first | exact hk | exact hk_8 | exact hk_7 | exact hk_6 | exact hk_5 | exact hk_4 | exact hk_3 | exact hk_2 | exact hk_1 | (simp only [kt_k_sr, kt_k_nA]; (repeat rw [if_neg (by omega)]); first | exact hk | exact hk_8 | exact hk_7 | exact hk_6 | exact hk_5 | exact hk_4 | exact hk_3 | exact hk_2 | exact hk_1)) ?_
  refine kr_aload_n (i := 0) hX dX9_init_113 rfl rfl ?_
  refine kr_bipush (v := 8) hX dX9_init_114 (by decide) ?_
  refine kr_nI (o + 369) (by exact ht8) hX (8) kw_58 dX9_init_116 (by decide) (by decide) (by decide) (by first | decide | omega | (simp only [kt_n]; omega)) (by first | decide | omega | (simp only [kt_n]; omega)) ?_
  refine kr_putr (c0 := 9) (k := 10) hX kf_9_67 (fun _ => ⟨hmn, _, _, rfl, rfl⟩) dX9_init_118 rfl rfl rfl (by first | exact hk | exact hk_8 | exact hk_7 | exact hk_6 | exact hk_5 | exact hk_4 | exact hk_3 | exact hk_2 | exact hk_1 | (simp only [kt_k_sr, kt_k_nA]; (repeat rw [if_neg (by omega)]); first | exact hk | exact hk_8 | exact hk_7 | exact hk_6 | exact hk_5 | exact hk_4 | exact hk_3 | exact hk_2 | exact hk_1)) ?_
  refine kr_aload_n (i := 0) hX dX9_init_121 rfl rfl ?_
  refine kr_bipush (v := 8) hX dX9_init_122 (by decide) ?_
  refine kr_nI (o + 370) rfl hX (8) kw_58 dX9_init_124 (by decide) (by decide) (by decide) (by first | decide | omega | (simp only [kt_n]; omega)) (by first | decide | omega | (simp only [kt_n]; omega)) ?_
  refine kr_putr (c0 := 9) (k := 11) hX kf_9_71 (fun _ => ⟨hmn, _, _, rfl, rfl⟩) dX9_init_126 rfl rfl rfl (by first | exact hk | exact hk_8 | exact hk_7 | exact hk_6 | exact hk_5 | exact hk_4 | exact hk_3 | exact hk_2 | exact hk_1 | (simp only [kt_k_sr, kt_k_nA]; (repeat rw [if_neg (by omega)]); first | exact hk | exact hk_8 | exact hk_7 | exact hk_6 | exact hk_5 | exact hk_4 | exact hk_3 | exact hk_2 | exact hk_1)) ?_
  refine kr_aload_n (i := 0) hX dX9_init_129 rfl rfl ?_
  refine kr_iconst (v := 4) hX dX9_init_130 (by decide) ?_
  refine kr_nQ (o + 371) rfl hX (t := 3) (by decide) (4) kw_276 (by decide) dX9_init_131 (by decide) (by decide) (by decide) (by first | decide | omega | (simp only [kt_n]; omega)) (by first | decide | omega | (simp only [kt_n]; omega)) ?_
  refine kr_putr (c0 := 9) (k := 12) hX kf_9_76 (fun _ => ⟨hmn, _, _, rfl, rfl⟩) dX9_init_134 rfl rfl rfl (by first | exact hk | exact hk_8 | exact hk_7 | exact hk_6 | exact hk_5 | exact hk_4 | exact hk_3 | exact hk_2 | exact hk_1 | (simp only [kt_k_sr, kt_k_nA]; (repeat rw [if_neg (by omega)]); first | exact hk | exact hk_8 | exact hk_7 | exact hk_6 | exact hk_5 | exact hk_4 | exact hk_3 | exact hk_2 | exact hk_1)) ?_
  refine kr_aload_n (i := 0) hX dX9_init_137 rfl rfl ?_
  refine kr_iconst (v := 4) hX dX9_init_138 (by decide) ?_
  refine kr_puti (c0 := 9) (k := 13) hX kf_9_80 dX9_init_139 rfl rfl rfl (by first | exact hk | exact hk_8 | exact hk_7 | exact hk_6 | exact hk_5 | exact hk_4 | exact hk_3 | exact hk_2 | exact hk_1 | (simp only [kt_k_sr, kt_k_nA]; (repeat rw [if_neg (by omega)]); first | exact hk | exact hk_8 | exact hk_7 | exact hk_6 | exact hk_5 | exact hk_4 | exact hk_3 | exact hk_2 | exact hk_1)) ?_
  refine kr_aload_n (i := 0) hX dX9_init_142 rfl rfl ?_
  refine kr_iconst (v := 0) hX dX9_init_143 (by decide) ?_
  refine kr_puti (c0 := 9) (k := 14) hX kf_9_84 dX9_init_144 rfl rfl rfl (by first | exact hk | exact hk_8 | exact hk_7 | exact hk_6 | exact hk_5 | exact hk_4 | exact hk_3 | exact hk_2 | exact hk_1 | (simp only [kt_k_sr, kt_k_nA]; (repeat rw [if_neg (by omega)]); first | exact hk | exact hk_8 | exact hk_7 | exact hk_6 | exact hk_5 | exact hk_4 | exact hk_3 | exact hk_2 | exact hk_1)) ?_
  refine kr_aload_n (i := 0) hX dX9_init_147 rfl rfl ?_
  refine kr_iconst (v := 0) hX dX9_init_148 (by decide) ?_
  refine kr_puti (c0 := 9) (k := 15) hX kf_9_87 dX9_init_149 rfl (kt_bz (by first | exact Or.inl rfl | exact Or.inr rfl | assumption)).1 (kt_bz (by first | exact Or.inl rfl | exact Or.inr rfl | assumption)).2 (by first | exact hk | exact hk_8 | exact hk_7 | exact hk_6 | exact hk_5 | exact hk_4 | exact hk_3 | exact hk_2 | exact hk_1 | (simp only [kt_k_sr, kt_k_nA]; (repeat rw [if_neg (by omega)]); first | exact hk | exact hk_8 | exact hk_7 | exact hk_6 | exact hk_5 | exact hk_4 | exact hk_3 | exact hk_2 | exact hk_1)) ?_
  refine kr_iconst (v := 0) hX dX9_init_152 (by decide) ?_
  refine kr_istore_n (i := 1) hX dX9_init_153 rfl (by decide) rfl rfl ?_
  refine kr_wid (cs' := 371 + 71 * 0) (ss' := 2364 + 427 * 0) (by omega) (by simp only [kt_n]; omega) ?_
  refine lp_mkim hX hr 2 0 _ _ (by omega) ⟨rfl, ?_, ⟨⟨?_, ?_, ?_, ?_, ?_, ?_, ?_, ?_, ?_, ?_, ?_, ?_, ?_, ?_⟩, ⟨?_, ?_, ?_, ?_, ?_⟩, ⟨?_, ?_, ?_, ?_, ?_, ?_, ?_, ?_⟩⟩, fun k hk => absurd hk (by omega), fun k hk => absurd hk (by omega), fun x k h1 h2 => ?_⟩
  · refine hO8.trans (p := o) (q := o) ?_ (Nat.le_refl _)
    refine kO.trans ?_ (kO.si (by omega)) (Nat.le_refl _)
    refine kO.trans ?_ (kO.si (by omega)) (Nat.le_refl _)
    refine kO.trans ?_ (kO.si (by omega)) (Nat.le_refl _)
    refine kO.trans ?_ (kO.sr (by omega)) (Nat.le_refl _)
    refine kO.trans ?_ (kO.nA (by omega)) (Nat.le_refl _)
    refine kO.trans ?_ (kO.sr (by omega)) (Nat.le_refl _)
    refine kO.trans ?_ (kO.nA (by omega)) (Nat.le_refl _)
    refine kO.trans ?_ (kO.sr (by omega)) (Nat.le_refl _)
    refine kO.trans ?_ (kO.nA (by omega)) (Nat.le_refl _)
    exact kO.sr (by omega)
  · simp only [kt_k_sr, kt_k_nA]; (repeat rw [if_neg (by omega)]); exact hk_8
  · simp [kt_r_nA, kt_r_sr, hf0_8]
  · simp [kt_r_nA, kt_r_sr, hf1_8]
  · simp [kt_r_nA, kt_r_sr, hf2_8]
  · simp [kt_r_nA, kt_r_sr, hf3_8]
  · simp [kt_r_nA, kt_r_sr, hf4_8]
  · simp [kt_r_nA, kt_r_sr, hf5_8]
  · simp [kt_r_nA, kt_r_sr, hf6_8]
  · simp [kt_r_nA, kt_r_sr, hf7_8]
  · simp [kt_r_nA, kt_r_sr, hf8_8]
  · simp [kt_r_nA, kt_r_sr]
  · simp [kt_r_nA, kt_r_sr]
  · simp [kt_r_nA, kt_r_sr]
  · simp [kt_r_nA, kt_r_sr]
  · simp only [kt_k_sr, kt_k_nA]; (repeat rw [if_neg (by omega)]); exact ha152_8
  · simp only [kt_k_sr, kt_k_nA]; (repeat rw [if_neg (by omega)]); exact ha153_8
  · simp [kt_k_sr, kt_k_nA]
  · simp [kt_k_sr, kt_k_nA]
  · simp [kt_k_sr, kt_k_nA]
  · refine hs0_8.ag (fun x h1 h2 => ⟨?_, fun k => ?_⟩)
    · simp only [kt_k_nA, kt_k_sr]; (repeat rw [if_neg (by omega)])
    · simp only [kt_r_nA, kt_r_sr]; (repeat rw [if_neg (by omega)])
  · refine hs1_8.ag (fun x h1 h2 => ⟨?_, fun k => ?_⟩)
    · simp only [kt_k_nA, kt_k_sr]; (repeat rw [if_neg (by omega)])
    · simp only [kt_r_nA, kt_r_sr]; (repeat rw [if_neg (by omega)])
  · refine hs2_8.ag (fun x h1 h2 => ⟨?_, fun k => ?_⟩)
    · simp only [kt_k_nA, kt_k_sr]; (repeat rw [if_neg (by omega)])
    · simp only [kt_r_nA, kt_r_sr]; (repeat rw [if_neg (by omega)])
  · refine hs3_8.ag (fun x h1 h2 => ⟨?_, fun k => ?_⟩)
    · simp only [kt_k_nA, kt_k_sr]; (repeat rw [if_neg (by omega)])
    · simp only [kt_r_nA, kt_r_sr]; (repeat rw [if_neg (by omega)])
  · refine hs4_8.ag (fun x h1 h2 => ⟨?_, fun k => ?_⟩)
    · simp only [kt_k_nA, kt_k_sr]; (repeat rw [if_neg (by omega)])
    · simp only [kt_r_nA, kt_r_sr]; (repeat rw [if_neg (by omega)])
  · refine hs5_8.ag (fun x h1 h2 => ⟨?_, fun k => ?_⟩)
    · simp only [kt_k_nA, kt_k_sr]; (repeat rw [if_neg (by omega)])
    · simp only [kt_r_nA, kt_r_sr]; (repeat rw [if_neg (by omega)])
  · refine hs6_8.ag (fun x h1 h2 => ⟨?_, fun k => ?_⟩)
    · simp only [kt_k_nA, kt_k_sr]; (repeat rw [if_neg (by omega)])
    · simp only [kt_r_nA, kt_r_sr]; (repeat rw [if_neg (by omega)])
  · refine hs7_8.ag (fun x h1 h2 => ⟨?_, fun k => ?_⟩)
    · simp only [kt_k_nA, kt_k_sr]; (repeat rw [if_neg (by omega)])
    · simp only [kt_r_nA, kt_r_sr]; (repeat rw [if_neg (by omega)])
  · simp only [kt_i_si, kt_i_z]
    unfold k_kt0
    by_cases e : x < o + 369
    · rw [hz8 x k h1 e]
      by_cases e0 : x = o
      · subst e0
        by_cases e13 : k = 13
        · subst e13; simp
        · simp [e13]
      · simp [e0, show ¬ x - o = 0 from by omega, show ¬ 514 ≤ x - o from by omega]
    · have e3 : x = o + 369 ∨ x = o + 370 ∨ x = o + 371 := by omega
      rcases e3 with e3 | e3 | e3 <;> subst e3 <;> simp


/-! KnownTurns$Paths: nexts at p + 1, dominators at p + 2 -/
def kt_pt (σ : kt_Y) (p : Nat) : Prop := kt_k σ p = some (0, 3) ∧ kt_r σ p 0 = some (p + 1) ∧ kt_r σ p 1 = some (p + 2) ∧ kt_k σ (p + 1) = some (1, 16) ∧ kt_k σ (p + 2) = some (1, 16)
abbrev k_tg (μ : kt_M) (b : Nat) (x : Int32) : Int32 := if x = 0 then kt_i μ b 8 else kt_i μ b 9
def k_nxL (μ : kt_M) (b : Nat) : Nat → Nat → Int32 → Int32
  | 0, _, m => m
  | n + 1, i, m => k_nxL μ b n (i + 1) (m ||| ((1 : Int32) <<< (k_tg μ b (nI i) &&& 31)))
def k_nx (μ : kt_M) (b : Nat) : Int32 := k_nxL μ b (k_ne μ b) 0 0
abbrev k_bt (m : Int32) (i : Int32) : Prop := ¬ (m >>> (i &&& 31)) &&& 1 = 0
def k_psL (μ : kt_M) (p : Nat) (a : Int32) : Nat → Nat → Int32 → Int32
  | 0, _, s => s
  | n + 1, i, s => k_psL μ p a n (i + 1) (if (s >>> (nI i &&& 31)) &&& 1 = 0 then s else s ||| (kt_i μ (p + 1) i &&& a))
def k_rwL (μ : kt_M) (p : Nat) (a : Int32) : Nat → Int32 → Int32 → Int32
  | 0, s, _ => s
  | n + 1, s, g => if g = 0 then s else k_rwL μ p a n (k_psL μ p a 16 0 s) (if k_psL μ p a 16 0 s = s then 0 else 1)
def k_rw (μ : kt_M) (p : Nat) (a : Int32) : Int32 := k_rwL μ p a 16 (a &&& 1) 1
def k_cut (μ : kt_M) (p : Nat) (a : Int32) : Int32 := kt_i μ p 2 &&& (k_rw μ p ((1 <<< (a &&& 31)) ^^^ (-1)) ^^^ (-1))
def m_dmL (p : Nat) (a c : Int32) : Nat → Nat → kt_M → kt_M
  | 0, _, μ => μ
  | n + 1, i, μ => m_dmL p a c n (i + 1) (if (c >>> (nI i &&& 31)) &&& 1 = 0 then μ else kt_si μ (p + 2) i (kt_i μ (p + 2) i ||| (1 <<< (a &&& 31))))
def k_idL (μ : kt_M) (p : Nat) (o : Int32) : Nat → Nat → Int32
  | 0, _ => -4
  | n + 1, i => if k_bt o (nI i) ∧ kt_i μ (p + 2) i = o then nI i else k_idL μ p o n (i + 1)
def k_oth (μ : kt_M) (p : Nat) (b : Int32) : Int32 := kt_i μ (p + 2) b.toNatClampNeg &&& ((1 <<< (b &&& 31)) ^^^ (-1))
set_option maxHeartbeats 4000000 in
set_option maxRecDepth 100000 in
theorem lp_nexts {G : kt_G} {σ : kt_Y} {X : kt_X} (hX : kt_ok G X RX3 cX3_nextsOf 3 2 0 0) (hr : kt_rt X = (some .int)) {Q : Option Value → kt_M → Prop} {b : Nat} (hb : kt_blk σ b) {e : Nat} (he : e ≤ 2) : ∀ (n i : Nat) (μ : kt_M) (m : Int32), i + n = e → kb_edges (kt_i μ b 4) = nI e → (Q (some (.int (k_nxL μ b n i m))) μ) → kt_W G X 3 4 [(0, .ref b), (1, .int m), (2, .int (nI i))] [] σ μ 0 0 (kt_Z G X (kt_q σ Q) 0 0) := by
  have hb0 := hb
  obtain ⟨gk0, gr1, gr2, gr3, gk1, gk2, gk3⟩ := hb
  intro n
  induction n with
  | zero =>
    intro i μ m hin hE hQ
    have hib : i = e := by omega
    refine kr_iload_n (i := 2) hX dX3_nextsOf_4 rfl rfl ?_
    refine kr_aload_n (i := 0) hX dX3_nextsOf_5 rfl rfl ?_
    refine kr_dV (c1 := 0) [] hX km_3_46 dX3_nextsOf_6 (sp_edges hb0) rfl rfl ⟨_, _, rfl⟩ (by decide) (Nat.le_of_ble_eq_true rfl) (Nat.le_refl _) (Nat.le_refl _) (by assumption) ?_
    refine kr_icmp_ge (tgt := 28) hX dX3_nextsOf_9 (by decide) (fun c_9 => ?_) (fun c_9 => ?_)
    · skip
      refine kr_iload_n (i := 1) hX dX3_nextsOf_28 rfl rfl ?_
      refine kr_iret hX hr dX3_nextsOf_29 ⟨rfl, ?_⟩
      exact hQ
    · skip
      exact absurd (by rw [hE, hib]; exact Int32.le_refl _) c_9
  | succ n ih =>
    intro i μ m hin hE hQ
    have hib : i < e := by omega
    refine kr_iload_n (i := 2) hX dX3_nextsOf_4 rfl rfl ?_
    refine kr_aload_n (i := 0) hX dX3_nextsOf_5 rfl rfl ?_
    refine kr_dV (c1 := 0) [] hX km_3_46 dX3_nextsOf_6 (sp_edges hb0) rfl rfl ⟨_, _, rfl⟩ (by decide) (Nat.le_of_ble_eq_true rfl) (Nat.le_refl _) (Nat.le_refl _) (by assumption) ?_
    refine kr_icmp_ge (tgt := 28) hX dX3_nextsOf_9 (by decide) (fun c_9 => ?_) (fun c_9 => ?_)
    · skip
      exact absurd c_9 (by rw [hE]; exact nI_ge hib (by omega))
    · skip
      refine kr_iload_n (i := 1) hX dX3_nextsOf_12 rfl rfl ?_
      refine kr_iconst (v := 1) hX dX3_nextsOf_13 (by decide) ?_
      refine kr_aload_n (i := 0) hX dX3_nextsOf_14 rfl rfl ?_
      refine kr_iload_n (i := 2) hX dX3_nextsOf_15 rfl rfl ?_
      refine kr_dV (c1 := 0) [_] hX km_3_52 dX3_nextsOf_16 (sp_target hb0) rfl rfl ⟨_, _, rfl⟩ (by decide) (Nat.le_of_ble_eq_true rfl) (Nat.le_refl _) (Nat.le_refl _) (by assumption) ?_
      refine kr_ishl hX dX3_nextsOf_19 ?_
      refine kr_ior hX dX3_nextsOf_20 ?_
      refine kr_istore_n (i := 1) hX dX3_nextsOf_21 rfl (by decide) rfl rfl ?_
      refine kr_iinc (v := nI (i + 1)) hX dX3_nextsOf_22 rfl (by first | exact nI_1 _ | rfl) (by decide) rfl rfl ?_
      refine kr_goto (tgt := 4) hX dX3_nextsOf_25 (by decide) ?_
      exact ih (i + 1) _ _ (by omega) hE hQ

set_option maxHeartbeats 4000000 in
set_option maxRecDepth 100000 in
theorem sp_nexts {G : kt_G} {σ : kt_Y} {μ : kt_M} {b : Nat} (hb : kt_blk σ b) : kt_F G yX3_nextsOf cX3_nextsOf 3 (some .int) 2 [.ref b] σ μ (fun r μ2 => r = some (.int (k_nx μ b)) ∧ μ2 = μ) := by
  refine kt_F.of (by decide) (Nat.le_of_ble_eq_true rfl) (fun X hX hr => ?_)
  have hb0 := hb
  obtain ⟨gk0, gr1, gr2, gr3, gk1, gk2, gk3⟩ := hb
  refine kr_iconst (v := 0) hX dX3_nextsOf_0 (by decide) ?_
  refine kr_istore_n (i := 1) hX dX3_nextsOf_1 rfl (by decide) rfl rfl ?_
  refine kr_iconst (v := 0) hX dX3_nextsOf_2 (by decide) ?_
  refine kr_istore_n (i := 2) hX dX3_nextsOf_3 rfl (by decide) rfl rfl ?_
  exact lp_nexts hX hr hb0 (k_ne_eq μ b).1 (k_ne μ b) 0 _ 0 (by omega) (k_ne_eq μ b).2 ⟨rfl, rfl⟩

set_option maxHeartbeats 4000000 in
set_option maxRecDepth 100000 in
theorem lp_pass {G : kt_G} {σ : kt_Y} {X : kt_X} (hX : kt_ok G X RX3 cX3_reachedWithin 7 0 0 0) (hr : kt_rt X = (some .int)) {Q : Option Value → kt_M → Prop} {p : Nat} (hp : kt_pt σ p) {a g h : Int32} {j : Nat} : ∀ (n i : Nat) (μ : kt_M) (s : Int32), i + n = 16 →  (kt_W G X 7 60 [(0, .ref p), (1, .int a), (2, .int (k_psL μ p a n i s)), (3, .int g), (4, .int (nI j)), (5, .int h), (6, .int 16)] [] σ μ 0 0 (kt_Z G X (kt_q σ Q) 0 0)) → kt_W G X 7 26 [(0, .ref p), (1, .int a), (2, .int s), (3, .int g), (4, .int (nI j)), (5, .int h), (6, .int (nI i))] [] σ μ 0 0 (kt_Z G X (kt_q σ Q) 0 0) := by
  have hp0 := hp
  obtain ⟨hk0, hr0, hr1, hk1, hk2⟩ := hp
  intro n
  induction n with
  | zero =>
    intro i μ s hin  hQ
    have hib : i = 16 := by omega
    refine kr_iload hX dX3_reachedWithin_26 rfl ?_
    refine kr_bipush (v := 16) hX dX3_reachedWithin_28 (by decide) ?_
    refine kr_icmp_ge (tgt := 60) hX dX3_reachedWithin_30 (by decide) (fun c_30 => ?_) (fun c_30 => ?_)
    · skip
      rw [hib]; exact hQ
    · skip
      exact absurd (by rw [hib]; decide) c_30
  | succ n ih =>
    intro i μ s hin  hQ
    have hib : i < 16 := by omega
    refine kr_iload hX dX3_reachedWithin_26 rfl ?_
    refine kr_bipush (v := 16) hX dX3_reachedWithin_28 (by decide) ?_
    refine kr_icmp_ge (tgt := 60) hX dX3_reachedWithin_30 (by decide) (fun c_30 => ?_) (fun c_30 => ?_)
    · skip
      exact absurd c_30 (kt_ge rfl hib (by decide))
    · skip
      refine kr_iload_n (i := 2) hX dX3_reachedWithin_33 rfl rfl ?_
      refine kr_iload hX dX3_reachedWithin_34 rfl ?_
      refine kr_ishr hX dX3_reachedWithin_36 ?_
      refine kr_iconst (v := 1) hX dX3_reachedWithin_37 (by decide) ?_
      refine kr_iand hX dX3_reachedWithin_38 ?_
      refine kr_if_eq (tgt := 54) hX dX3_reachedWithin_39 (by decide) (fun c_39 => ?_) (fun c_39 => ?_)
      · skip
        refine kr_iinc (v := nI (i + 1)) hX dX3_reachedWithin_54 rfl (by first | exact nI_1 _ | rfl) (by decide) rfl rfl ?_
        refine kr_goto (tgt := 26) hX dX3_reachedWithin_57 (by decide) ?_
        refine ih (i + 1) _ _ (by omega) ?_
        simp only [k_psL] at hQ
        first
        | (rw [if_pos c_39] at hQ; exact hQ)
        | (rw [if_neg c_39] at hQ; exact hQ)
      · skip
        refine kr_iload_n (i := 2) hX dX3_reachedWithin_42 rfl rfl ?_
        refine kr_aload_n (i := 0) hX dX3_reachedWithin_43 rfl rfl ?_
        refine kr_getr (c0 := 3) (k := 0) hX ⟨_, kf_3_9⟩ dX3_reachedWithin_44 rfl (by assumption) (by assumption) ?_
        refine kr_iload hX dX3_reachedWithin_47 rfl ?_
        refine kr_ialdN hX dX3_reachedWithin_49 (by assumption) (by omega) ?_
        refine kr_iload_n (i := 1) hX dX3_reachedWithin_50 rfl rfl ?_
        refine kr_iand hX dX3_reachedWithin_51 ?_
        refine kr_ior hX dX3_reachedWithin_52 ?_
        refine kr_istore_n (i := 2) hX dX3_reachedWithin_53 rfl (by decide) rfl rfl ?_
        refine kr_iinc (v := nI (i + 1)) hX dX3_reachedWithin_54 rfl (by first | exact nI_1 _ | rfl) (by decide) rfl rfl ?_
        refine kr_goto (tgt := 26) hX dX3_reachedWithin_57 (by decide) ?_
        refine ih (i + 1) _ _ (by omega) ?_
        simp only [k_psL] at hQ
        first
        | (rw [if_pos c_39] at hQ; exact hQ)
        | (rw [if_neg c_39] at hQ; exact hQ)

set_option maxHeartbeats 4000000 in
set_option maxRecDepth 100000 in
theorem lp_within {G : kt_G} {σ : kt_Y} {X : kt_X} (hX : kt_ok G X RX3 cX3_reachedWithin 7 0 0 0) (hr : kt_rt X = (some .int)) {Q : Option Value → kt_M → Prop} {p : Nat} (hp : kt_pt σ p) {a : Int32} : ∀ (n i : Nat) (μ : kt_M) (s g : Int32), i + n = 16 →  (Q (some (.int (k_rwL μ p a n s g))) μ) → kt_W G X 7 9 [(0, .ref p), (1, .int a), (2, .int s), (3, .int g), (4, .int (nI i))] [] σ μ 0 0 (kt_Z G X (kt_q σ Q) 0 0) := by
  have hp0 := hp
  obtain ⟨hk0, hr0, hr1, hk1, hk2⟩ := hp
  intro n
  induction n with
  | zero =>
    intro i μ s g hin  hQ
    have hib : i = 16 := by omega
    refine kr_iload hX dX3_reachedWithin_9 rfl ?_
    refine kr_bipush (v := 16) hX dX3_reachedWithin_11 (by decide) ?_
    refine kr_icmp_ge (tgt := 78) hX dX3_reachedWithin_13 (by decide) (fun c_13 => ?_) (fun c_13 => ?_)
    · skip
      refine kr_iload_n (i := 2) hX dX3_reachedWithin_78 rfl rfl ?_
      refine kr_iret hX hr dX3_reachedWithin_79 ⟨rfl, ?_⟩
      exact hQ
    · skip
      exact absurd (by rw [hib]; decide) c_13
  | succ n ih =>
    intro i μ s g hin  hQ
    have hib : i < 16 := by omega
    refine kr_iload hX dX3_reachedWithin_9 rfl ?_
    refine kr_bipush (v := 16) hX dX3_reachedWithin_11 (by decide) ?_
    refine kr_icmp_ge (tgt := 78) hX dX3_reachedWithin_13 (by decide) (fun c_13 => ?_) (fun c_13 => ?_)
    · skip
      exact absurd c_13 (kt_ge rfl hib (by decide))
    · skip
      refine kr_iload_n (i := 3) hX dX3_reachedWithin_16 rfl rfl ?_
      refine kr_if_eq (tgt := 78) hX dX3_reachedWithin_17 (by decide) (fun c_17 => ?_) (fun c_17 => ?_)
      · skip
        refine kr_iload_n (i := 2) hX dX3_reachedWithin_78 rfl rfl ?_
        refine kr_iret hX hr dX3_reachedWithin_79 ⟨rfl, ?_⟩
        simp only [k_rwL] at hQ
        rw [if_pos c_17] at hQ
        exact hQ
      · skip
        refine kr_iload_n (i := 2) hX dX3_reachedWithin_20 rfl rfl ?_
        refine kr_istore hX dX3_reachedWithin_21 (by decide) rfl rfl ?_
        refine kr_iconst (v := 0) hX dX3_reachedWithin_23 (by decide) ?_
        refine kr_istore hX dX3_reachedWithin_24 (by decide) rfl rfl ?_
        have hp1 := hp0
        refine lp_pass hX hr hp1 16 0 _ _ (by omega) ?_
        refine kr_iload_n (i := 2) hX dX3_reachedWithin_60 rfl rfl ?_
        refine kr_iload hX dX3_reachedWithin_61 rfl ?_
        refine kr_icmp_eq (tgt := 70) hX dX3_reachedWithin_63 (by decide) (fun c_63 => ?_) (fun c_63 => ?_)
        · skip
          refine kr_iconst (v := 0) hX dX3_reachedWithin_70 (by decide) ?_
          refine kr_istore_n (i := 3) hX dX3_reachedWithin_71 rfl (by decide) rfl rfl ?_
          refine kr_iinc (v := nI (i + 1)) hX dX3_reachedWithin_72 rfl (by first | exact nI_1 _ | rfl) (by decide) rfl rfl ?_
          refine kr_goto (tgt := 9) hX dX3_reachedWithin_75 (by decide) ?_
          refine kr_keep [0, 1, 2, 3, 4] rfl ?_
          refine ih (i + 1) _ _ _ (by omega) ?_
          simp only [k_rwL] at hQ
          rw [if_neg c_17] at hQ
          first
          | (rw [if_pos c_63] at hQ; exact hQ)
          | (rw [if_neg c_63] at hQ; exact hQ)
        · skip
          refine kr_iconst (v := 1) hX dX3_reachedWithin_66 (by decide) ?_
          refine kr_goto (tgt := 71) hX dX3_reachedWithin_67 (by decide) ?_
          refine kr_istore_n (i := 3) hX dX3_reachedWithin_71 rfl (by decide) rfl rfl ?_
          refine kr_iinc (v := nI (i + 1)) hX dX3_reachedWithin_72 rfl (by first | exact nI_1 _ | rfl) (by decide) rfl rfl ?_
          refine kr_goto (tgt := 9) hX dX3_reachedWithin_75 (by decide) ?_
          refine kr_keep [0, 1, 2, 3, 4] rfl ?_
          refine ih (i + 1) _ _ _ (by omega) ?_
          simp only [k_rwL] at hQ
          rw [if_neg c_17] at hQ
          first
          | (rw [if_pos c_63] at hQ; exact hQ)
          | (rw [if_neg c_63] at hQ; exact hQ)

set_option maxHeartbeats 4000000 in
set_option maxRecDepth 100000 in
theorem sp_within2 {G : kt_G} {σ : kt_Y} {μ : kt_M} {p : Nat} (hp : kt_pt σ p) {a : Int32} : kt_F G yX3_reachedWithin cX3_reachedWithin 7 (some .int) 0 [.ref p, .int a] σ μ (fun r μ2 => r = some (.int (k_rw μ p a)) ∧ μ2 = μ) := by
  refine kt_F.of (by decide) (Nat.le_of_ble_eq_true rfl) (fun X hX hr => ?_)
  have hp0 := hp
  obtain ⟨hk0, hr0, hr1, hk1, hk2⟩ := hp
  refine kr_iload_n (i := 1) hX dX3_reachedWithin_0 rfl rfl ?_
  refine kr_iconst (v := 1) hX dX3_reachedWithin_1 (by decide) ?_
  refine kr_iand hX dX3_reachedWithin_2 ?_
  refine kr_istore_n (i := 2) hX dX3_reachedWithin_3 rfl (by decide) rfl rfl ?_
  refine kr_iconst (v := 1) hX dX3_reachedWithin_4 (by decide) ?_
  refine kr_istore_n (i := 3) hX dX3_reachedWithin_5 rfl (by decide) rfl rfl ?_
  refine kr_iconst (v := 0) hX dX3_reachedWithin_6 (by decide) ?_
  refine kr_istore hX dX3_reachedWithin_7 (by decide) rfl rfl ?_
  exact lp_within hX hr hp0 16 0 _ _ _ (by omega) ⟨rfl, rfl⟩

set_option maxHeartbeats 4000000 in
set_option maxRecDepth 100000 in
theorem lp_addDom {G : kt_G} {σ : kt_Y} {X : kt_X} (hX : kt_ok G X RX3 cX3_addDominator 4 1 0 0) (hr : kt_rt X = none) {Q : Option Value → kt_M → Prop} {p : Nat} (hp : kt_pt σ p) {a c : Int32} : ∀ (n i : Nat) (μ : kt_M) , i + n = 16 →  (Q none (m_dmL p a c n i μ)) → kt_W G X 4 19 [(0, .ref p), (1, .int a), (2, .int c), (3, .int (nI i))] [] σ μ 0 0 (kt_Z G X (kt_q σ Q) 0 0) := by
  have hp0 := hp
  obtain ⟨hk0, hr0, hr1, hk1, hk2⟩ := hp
  intro n
  induction n with
  | zero =>
    intro i μ hin  hQ
    have hib : i = 16 := by omega
    refine kr_iload_n (i := 3) hX dX3_addDominator_19 rfl rfl ?_
    refine kr_bipush (v := 16) hX dX3_addDominator_20 (by decide) ?_
    refine kr_icmp_ge (tgt := 51) hX dX3_addDominator_22 (by decide) (fun c_22 => ?_) (fun c_22 => ?_)
    · skip
      refine kr_vret hX hr dX3_addDominator_51 ⟨rfl, ?_⟩
      exact hQ
    · skip
      exact absurd (by rw [hib]; decide) c_22
  | succ n ih =>
    intro i μ hin  hQ
    have hib : i < 16 := by omega
    refine kr_iload_n (i := 3) hX dX3_addDominator_19 rfl rfl ?_
    refine kr_bipush (v := 16) hX dX3_addDominator_20 (by decide) ?_
    refine kr_icmp_ge (tgt := 51) hX dX3_addDominator_22 (by decide) (fun c_22 => ?_) (fun c_22 => ?_)
    · skip
      exact absurd c_22 (kt_ge rfl hib (by decide))
    · skip
      refine kr_iload_n (i := 2) hX dX3_addDominator_25 rfl rfl ?_
      refine kr_iload_n (i := 3) hX dX3_addDominator_26 rfl rfl ?_
      refine kr_ishr hX dX3_addDominator_27 ?_
      refine kr_iconst (v := 1) hX dX3_addDominator_28 (by decide) ?_
      refine kr_iand hX dX3_addDominator_29 ?_
      refine kr_if_eq (tgt := 45) hX dX3_addDominator_30 (by decide) (fun c_30 => ?_) (fun c_30 => ?_)
      · skip
        refine kr_iinc (v := nI (i + 1)) hX dX3_addDominator_45 rfl (by first | exact nI_1 _ | rfl) (by decide) rfl rfl ?_
        refine kr_goto (tgt := 19) hX dX3_addDominator_48 (by decide) ?_
        refine ih (i + 1) _ (by omega) ?_
        simp only [m_dmL] at hQ
        first
        | (rw [if_pos c_30] at hQ; exact hQ)
        | (rw [if_neg c_30] at hQ; exact hQ)
      · skip
        refine kr_aload_n (i := 0) hX dX3_addDominator_33 rfl rfl ?_
        refine kr_getr (c0 := 3) (k := 1) hX ⟨_, kf_3_15⟩ dX3_addDominator_34 rfl (by assumption) (by assumption) ?_
        refine kr_iload_n (i := 3) hX dX3_addDominator_37 rfl rfl ?_
        refine kr_dup2_11 hX dX3_addDominator_38 rfl rfl ?_
        refine kr_ialdN hX dX3_addDominator_39 (by assumption) (by omega) ?_
        refine kr_iconst (v := 1) hX dX3_addDominator_40 (by decide) ?_
        refine kr_iload_n (i := 1) hX dX3_addDominator_41 rfl rfl ?_
        refine kr_ishl hX dX3_addDominator_42 ?_
        refine kr_ior hX dX3_addDominator_43 ?_
        refine kr_iastN hX dX3_addDominator_44 (by assumption) (by omega) ?_
        refine kr_iinc (v := nI (i + 1)) hX dX3_addDominator_45 rfl (by first | exact nI_1 _ | rfl) (by decide) rfl rfl ?_
        refine kr_goto (tgt := 19) hX dX3_addDominator_48 (by decide) ?_
        refine ih (i + 1) _ (by omega) ?_
        simp only [m_dmL] at hQ
        first
        | (rw [if_pos c_30] at hQ; exact hQ)
        | (rw [if_neg c_30] at hQ; exact hQ)

set_option maxHeartbeats 4000000 in
set_option maxRecDepth 100000 in
theorem sp_addDom {G : kt_G} {σ : kt_Y} {μ : kt_M} {p : Nat} (hp : kt_pt σ p) {a : Int32} : kt_F G yX3_addDominator cX3_addDominator 4 none 1 [.ref p, .int a] σ μ (fun r μ2 => r = none ∧ μ2 = m_dmL p a (k_cut μ p a) 16 0 μ) := by
  refine kt_F.of (by decide) (Nat.le_of_ble_eq_true rfl) (fun X hX hr => ?_)
  have hp0 := hp
  obtain ⟨hk0, hr0, hr1, hk1, hk2⟩ := hp
  refine kr_aload_n (i := 0) hX dX3_addDominator_0 rfl rfl ?_
  refine kr_geti (c0 := 3) (k := 2) hX ⟨_, kf_3_18⟩ dX3_addDominator_1 rfl (by assumption) ?_
  refine kr_aload_n (i := 0) hX dX3_addDominator_4 rfl rfl ?_
  refine kr_iconst (v := 1) hX dX3_addDominator_5 (by decide) ?_
  refine kr_iload_n (i := 1) hX dX3_addDominator_6 rfl rfl ?_
  refine kr_ishl hX dX3_addDominator_7 ?_
  refine kr_iconst (v := (-1)) hX dX3_addDominator_8 (by decide) ?_
  refine kr_ixor hX dX3_addDominator_9 ?_
  refine kr_dV (c1 := 3) [_] hX km_3_38 dX3_addDominator_10 (sp_within2 hp0) rfl rfl ⟨_, _, rfl⟩ (by decide) (Nat.le_of_ble_eq_true rfl) (Nat.le_refl _) (Nat.le_refl _) (by assumption) ?_
  refine kr_iconst (v := (-1)) hX dX3_addDominator_13 (by decide) ?_
  refine kr_ixor hX dX3_addDominator_14 ?_
  refine kr_iand hX dX3_addDominator_15 ?_
  refine kr_istore_n (i := 2) hX dX3_addDominator_16 rfl (by decide) rfl rfl ?_
  refine kr_iconst (v := 0) hX dX3_addDominator_17 (by decide) ?_
  refine kr_istore_n (i := 3) hX dX3_addDominator_18 rfl (by decide) rfl rfl ?_
  exact lp_addDom hX hr hp0 16 0 _ (by omega) ⟨rfl, rfl⟩

set_option maxHeartbeats 4000000 in
set_option maxRecDepth 100000 in
theorem sp_isDom {G : kt_G} {σ : kt_Y} {μ : kt_M} {p : Nat} (hp : kt_pt σ p) {b a : Int32} : kt_F G yX3_isDominated cX3_isDominated 3 (some .boolean) 0 [.ref p, .int b, .int a] σ μ (fun r μ2 => r = some (.int (kt_f (0 ≤ b ∧ b < 16 ∧ k_bt (kt_i μ (p + 2) b.toNatClampNeg) a))) ∧ μ2 = μ) := by
  refine kt_F.of (by decide) (Nat.le_of_ble_eq_true rfl) (fun X hX hr => ?_)
  have hp0 := hp
  obtain ⟨hk0, hr0, hr1, hk1, hk2⟩ := hp
  refine kr_iload_n (i := 1) hX dX3_isDominated_0 rfl rfl ?_
  refine kr_if_lt (tgt := 27) hX dX3_isDominated_1 (by decide) (fun c_1 => ?_) (fun c_1 => ?_)
  · skip
    refine kr_iconst (v := 0) hX dX3_isDominated_27 (by decide) ?_
    refine kr_zret hX hr (by first | exact Or.inl rfl | exact Or.inr rfl | assumption) dX3_isDominated_28 ⟨rfl, ?_⟩
    first
    | exact ⟨kt_ft ⟨Int32.not_lt.mp c_1, Int32.not_le.mp c_7, c_20⟩, rfl⟩
    | exact ⟨kt_ff (fun h => h.2.2 c_20), rfl⟩
    | exact ⟨kt_ff (fun h => absurd h.2.1 (Int32.not_lt.mpr c_7)), rfl⟩
    | exact ⟨kt_ff (fun h => absurd h.1 (Int32.not_le.mpr c_1)), rfl⟩
  · skip
    refine kr_iload_n (i := 1) hX dX3_isDominated_4 rfl rfl ?_
    refine kr_bipush (v := 16) hX dX3_isDominated_5 (by decide) ?_
    refine kr_icmp_ge (tgt := 27) hX dX3_isDominated_7 (by decide) (fun c_7 => ?_) (fun c_7 => ?_)
    · skip
      refine kr_iconst (v := 0) hX dX3_isDominated_27 (by decide) ?_
      refine kr_zret hX hr (by first | exact Or.inl rfl | exact Or.inr rfl | assumption) dX3_isDominated_28 ⟨rfl, ?_⟩
      first
      | exact ⟨kt_ft ⟨Int32.not_lt.mp c_1, Int32.not_le.mp c_7, c_20⟩, rfl⟩
      | exact ⟨kt_ff (fun h => h.2.2 c_20), rfl⟩
      | exact ⟨kt_ff (fun h => absurd h.2.1 (Int32.not_lt.mpr c_7)), rfl⟩
      | exact ⟨kt_ff (fun h => absurd h.1 (Int32.not_le.mpr c_1)), rfl⟩
    · skip
      refine kr_aload_n (i := 0) hX dX3_isDominated_10 rfl rfl ?_
      refine kr_getr (c0 := 3) (k := 1) hX ⟨_, kf_3_15⟩ dX3_isDominated_11 rfl (by assumption) (by assumption) ?_
      refine kr_iload_n (i := 1) hX dX3_isDominated_14 rfl rfl ?_
      refine kr_iald hX dX3_isDominated_15 (by assumption) (by exact vp_in_iff.mpr (by have h5 := c_1; have h6 := c_7; simp only [Int32.le_iff_toInt_le, Int32.lt_iff_toInt_lt, ki_0, ki_16] at h5 h6 ⊢; omega)) ?_
      refine kr_iload_n (i := 2) hX dX3_isDominated_16 rfl rfl ?_
      refine kr_ishr hX dX3_isDominated_17 ?_
      refine kr_iconst (v := 1) hX dX3_isDominated_18 (by decide) ?_
      refine kr_iand hX dX3_isDominated_19 ?_
      refine kr_if_eq (tgt := 27) hX dX3_isDominated_20 (by decide) (fun c_20 => ?_) (fun c_20 => ?_)
      · skip
        refine kr_iconst (v := 0) hX dX3_isDominated_27 (by decide) ?_
        refine kr_zret hX hr (by first | exact Or.inl rfl | exact Or.inr rfl | assumption) dX3_isDominated_28 ⟨rfl, ?_⟩
        first
        | exact ⟨kt_ft ⟨Int32.not_lt.mp c_1, Int32.not_le.mp c_7, c_20⟩, rfl⟩
        | exact ⟨kt_ff (fun h => h.2.2 c_20), rfl⟩
        | exact ⟨kt_ff (fun h => absurd h.2.1 (Int32.not_lt.mpr c_7)), rfl⟩
        | exact ⟨kt_ff (fun h => absurd h.1 (Int32.not_le.mpr c_1)), rfl⟩
      · skip
        refine kr_iconst (v := 1) hX dX3_isDominated_23 (by decide) ?_
        refine kr_goto (tgt := 28) hX dX3_isDominated_24 (by decide) ?_
        refine kr_zret hX hr (by first | exact Or.inl rfl | exact Or.inr rfl | assumption) dX3_isDominated_28 ⟨rfl, ?_⟩
        first
        | exact ⟨kt_ft ⟨Int32.not_lt.mp c_1, Int32.not_le.mp c_7, c_20⟩, rfl⟩
        | exact ⟨kt_ff (fun h => h.2.2 c_20), rfl⟩
        | exact ⟨kt_ff (fun h => absurd h.2.1 (Int32.not_lt.mpr c_7)), rfl⟩
        | exact ⟨kt_ff (fun h => absurd h.1 (Int32.not_le.mpr c_1)), rfl⟩

set_option maxHeartbeats 4000000 in
set_option maxRecDepth 100000 in
theorem sp_isHead {G : kt_G} {σ : kt_Y} {μ : kt_M} {p : Nat} (hp : kt_pt σ p) {b : Int32} : kt_F G yX3_isHead cX3_isHead 2 (some .boolean) 0 [.ref p, .int b] σ μ (fun r μ2 => r = some (.int (kt_f (k_bt (kt_i μ p 3) b))) ∧ μ2 = μ) := by
  refine kt_F.of (by decide) (Nat.le_of_ble_eq_true rfl) (fun X hX hr => ?_)
  have hp0 := hp
  obtain ⟨hk0, hr0, hr1, hk1, hk2⟩ := hp
  refine kr_aload_n (i := 0) hX dX3_isHead_0 rfl rfl ?_
  refine kr_geti (c0 := 3) (k := 3) hX ⟨_, kf_3_22⟩ dX3_isHead_1 rfl (by assumption) ?_
  refine kr_iload_n (i := 1) hX dX3_isHead_4 rfl rfl ?_
  refine kr_ishr hX dX3_isHead_5 ?_
  refine kr_iconst (v := 1) hX dX3_isHead_6 (by decide) ?_
  refine kr_iand hX dX3_isHead_7 ?_
  refine kr_if_eq (tgt := 15) hX dX3_isHead_8 (by decide) (fun c_8 => ?_) (fun c_8 => ?_)
  · skip
    refine kr_iconst (v := 0) hX dX3_isHead_15 (by decide) ?_
    refine kr_zret hX hr (by first | exact Or.inl rfl | exact Or.inr rfl | assumption) dX3_isHead_16 ⟨rfl, ?_⟩
    first | exact ⟨kt_ft c_8, rfl⟩ | exact ⟨kt_ff (fun h => h c_8), rfl⟩
  · skip
    refine kr_iconst (v := 1) hX dX3_isHead_11 (by decide) ?_
    refine kr_goto (tgt := 16) hX dX3_isHead_12 (by decide) ?_
    refine kr_zret hX hr (by first | exact Or.inl rfl | exact Or.inr rfl | assumption) dX3_isHead_16 ⟨rfl, ?_⟩
    first | exact ⟨kt_ft c_8, rfl⟩ | exact ⟨kt_ff (fun h => h c_8), rfl⟩

set_option maxHeartbeats 4000000 in
set_option maxRecDepth 100000 in
theorem lp_idom {G : kt_G} {σ : kt_Y} {X : kt_X} (hX : kt_ok G X RX3 cX3_immediateDominator 4 0 0 0) (hr : kt_rt X = (some .int)) {Q : Option Value → kt_M → Prop} {p : Nat} (hp : kt_pt σ p) {b o : Int32} : ∀ (n i : Nat) (μ : kt_M) , i + n = 16 →  (Q (some (.int (k_idL μ p o n i))) μ) → kt_W G X 4 28 [(0, .ref p), (1, .int b), (2, .int o), (3, .int (nI i))] [] σ μ 0 0 (kt_Z G X (kt_q σ Q) 0 0) := by
  have hp0 := hp
  obtain ⟨hk0, hr0, hr1, hk1, hk2⟩ := hp
  intro n
  induction n with
  | zero =>
    intro i μ hin  hQ
    have hib : i = 16 := by omega
    refine kr_iload_n (i := 3) hX dX3_immediateDominator_28 rfl rfl ?_
    refine kr_bipush (v := 16) hX dX3_immediateDominator_29 (by decide) ?_
    refine kr_icmp_ge (tgt := 60) hX dX3_immediateDominator_31 (by decide) (fun c_31 => ?_) (fun c_31 => ?_)
    · skip
      refine kr_bipush (v := (-4)) hX dX3_immediateDominator_60 (by decide) ?_
      refine kr_iret hX hr dX3_immediateDominator_62 ⟨rfl, ?_⟩
      exact hQ
    · skip
      exact absurd (by rw [hib]; decide) c_31
  | succ n ih =>
    intro i μ hin  hQ
    have hib : i < 16 := by omega
    refine kr_iload_n (i := 3) hX dX3_immediateDominator_28 rfl rfl ?_
    refine kr_bipush (v := 16) hX dX3_immediateDominator_29 (by decide) ?_
    refine kr_icmp_ge (tgt := 60) hX dX3_immediateDominator_31 (by decide) (fun c_31 => ?_) (fun c_31 => ?_)
    · skip
      exact absurd c_31 (kt_ge rfl hib (by decide))
    · skip
      refine kr_iload_n (i := 2) hX dX3_immediateDominator_34 rfl rfl ?_
      refine kr_iload_n (i := 3) hX dX3_immediateDominator_35 rfl rfl ?_
      refine kr_ishr hX dX3_immediateDominator_36 ?_
      refine kr_iconst (v := 1) hX dX3_immediateDominator_37 (by decide) ?_
      refine kr_iand hX dX3_immediateDominator_38 ?_
      refine kr_if_eq (tgt := 54) hX dX3_immediateDominator_39 (by decide) (fun c_39 => ?_) (fun c_39 => ?_)
      · skip
        refine kr_iinc (v := nI (i + 1)) hX dX3_immediateDominator_54 rfl (by first | exact nI_1 _ | rfl) (by decide) rfl rfl ?_
        refine kr_goto (tgt := 28) hX dX3_immediateDominator_57 (by decide) ?_
        refine ih (i + 1) _ (by omega) ?_
        simp only [k_idL] at hQ
        rw [if_neg (by first | exact fun h => h.1 c_39 | exact fun h => c_49 h.2)] at hQ
        exact hQ
      · skip
        refine kr_aload_n (i := 0) hX dX3_immediateDominator_42 rfl rfl ?_
        refine kr_getr (c0 := 3) (k := 1) hX ⟨_, kf_3_15⟩ dX3_immediateDominator_43 rfl (by assumption) (by assumption) ?_
        refine kr_iload_n (i := 3) hX dX3_immediateDominator_46 rfl rfl ?_
        refine kr_ialdN hX dX3_immediateDominator_47 (by assumption) (by omega) ?_
        refine kr_iload_n (i := 2) hX dX3_immediateDominator_48 rfl rfl ?_
        refine kr_icmp_ne (tgt := 54) hX dX3_immediateDominator_49 (by decide) (fun c_49 => ?_) (fun c_49 => ?_)
        · skip
          refine kr_iinc (v := nI (i + 1)) hX dX3_immediateDominator_54 rfl (by first | exact nI_1 _ | rfl) (by decide) rfl rfl ?_
          refine kr_goto (tgt := 28) hX dX3_immediateDominator_57 (by decide) ?_
          refine ih (i + 1) _ (by omega) ?_
          simp only [k_idL] at hQ
          rw [if_neg (by first | exact fun h => h.1 c_39 | exact fun h => c_49 h.2)] at hQ
          exact hQ
        · skip
          refine kr_iload_n (i := 3) hX dX3_immediateDominator_52 rfl rfl ?_
          refine kr_iret hX hr dX3_immediateDominator_53 ⟨rfl, ?_⟩
          simp only [k_idL] at hQ
          rw [if_pos ⟨c_39, c_49⟩] at hQ
          exact hQ

set_option maxHeartbeats 4000000 in
set_option maxRecDepth 100000 in
theorem sp_idom {G : kt_G} {σ : kt_Y} {μ : kt_M} {p : Nat} (hp : kt_pt σ p) {b : Int32} (hb : vp_in b 16) : kt_F G yX3_immediateDominator cX3_immediateDominator 4 (some .int) 0 [.ref p, .int b] σ μ (fun r μ2 => r = some (.int (k_idL μ p (k_oth μ p b) 16 0)) ∧ μ2 = μ) := by
  refine kt_F.of (by decide) (Nat.le_of_ble_eq_true rfl) (fun X hX hr => ?_)
  have hp0 := hp
  obtain ⟨hk0, hr0, hr1, hk1, hk2⟩ := hp
  have hb2 := vp_in_iff.mp hb
  refine kr_iload_n (i := 1) hX dX3_immediateDominator_0 rfl rfl ?_
  refine kr_if_lt (tgt := 10) hX dX3_immediateDominator_1 (by decide) (fun c_1 => ?_) (fun c_1 => ?_)
  · skip
    exact absurd c_1 (by simp only [Int32.lt_iff_toInt_lt, ki_0]; omega)
  · skip
    refine kr_iload_n (i := 1) hX dX3_immediateDominator_4 rfl rfl ?_
    refine kr_bipush (v := 16) hX dX3_immediateDominator_5 (by decide) ?_
    refine kr_icmp_lt (tgt := 13) hX dX3_immediateDominator_7 (by decide) (fun c_7 => ?_) (fun c_7 => ?_)
    · skip
      refine kr_aload_n (i := 0) hX dX3_immediateDominator_13 rfl rfl ?_
      refine kr_getr (c0 := 3) (k := 1) hX ⟨_, kf_3_15⟩ dX3_immediateDominator_14 rfl (by assumption) (by assumption) ?_
      refine kr_iload_n (i := 1) hX dX3_immediateDominator_17 rfl rfl ?_
      refine kr_iald hX dX3_immediateDominator_18 (by assumption) (by assumption) ?_
      refine kr_iconst (v := 1) hX dX3_immediateDominator_19 (by decide) ?_
      refine kr_iload_n (i := 1) hX dX3_immediateDominator_20 rfl rfl ?_
      refine kr_ishl hX dX3_immediateDominator_21 ?_
      refine kr_iconst (v := (-1)) hX dX3_immediateDominator_22 (by decide) ?_
      refine kr_ixor hX dX3_immediateDominator_23 ?_
      refine kr_iand hX dX3_immediateDominator_24 ?_
      refine kr_istore_n (i := 2) hX dX3_immediateDominator_25 rfl (by decide) rfl rfl ?_
      refine kr_iconst (v := 0) hX dX3_immediateDominator_26 (by decide) ?_
      refine kr_istore_n (i := 3) hX dX3_immediateDominator_27 rfl (by decide) rfl rfl ?_
      exact lp_idom hX hr hp0 16 0 _ (by omega) ⟨rfl, rfl⟩
    · skip
      exact absurd (by simp only [Int32.lt_iff_toInt_lt, ki_16]; omega) c_7


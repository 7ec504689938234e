/-! KnownTurns$Sheet, KnownTurns$Dice -/
def kt_sh (σ : kt_Y) (p : Nat) : Prop := kt_k σ p = some (0, 8) ∧ kt_r σ p 0 = some (p + 1) ∧ kt_k σ (p + 1) = some (1, 40)
/-- a stretch of an array, filled -/
def m_fillL (a : Nat) (c : Int32) : Nat → Nat → kt_M → kt_M
  | 0, _, μ => μ
  | n + 1, i, μ => m_fillL a c n (i + 1) (kt_si μ a i c)
theorem m_fillL_i {a x k : Nat} {c : Int32} : ∀ (n i : Nat) (μ : kt_M), kt_i (m_fillL a c n i μ) x k = if x = a ∧ i ≤ k ∧ k < i + n then c else kt_i μ x k
  | 0, i, μ => by rw [if_neg (by omega)]; rfl
  | n + 1, i, μ => by
    rw [m_fillL, m_fillL_i n (i + 1), kt_i_si]
    by_cases h : x = a ∧ i + 1 ≤ k ∧ k < i + 1 + n
    · rw [if_pos h, if_pos (by omega)]
    · rw [if_neg h]
      by_cases h1 : x = a ∧ k = i
      · rw [if_pos h1, if_pos (by omega)]
      · rw [if_neg h1, if_neg (by omega)]
theorem m_fillL_l {a : Nat} {c : Int32} : ∀ (n i : Nat) (μ : kt_M), kt_l (m_fillL a c n i μ) = kt_l μ
  | 0, _, _ => rfl
  | n + 1, i, μ => by rw [m_fillL, m_fillL_l n]; rfl
abbrev k_has (μ : kt_M) (p : Nat) (i : Int32) : Prop := 0 ≤ i ∧ i < kt_i μ p 2 ∧ i < 40
def k_lane (t v : Int32) : Int32 := if t = 0 then v.toInt8.toInt32 else if t = 1 then v.toInt16.toInt32 else v
theorem k_has_in {μ : kt_M} {p : Nat} {i : Int32} (h : k_has μ p i) : vp_in i 40 := vp_in_iff.mpr (by simp only [k_has, Int32.le_iff_toInt_le, Int32.lt_iff_toInt_lt, ki_0, ki_40] at h; omega)
def k_fault (μ : kt_M) (p : Nat) (l i : Int32) : Int32 := if kt_i μ p 1 = -1 then 1 else if kt_i μ p 1 = l then (if k_has μ p i then 0 else 2) else 3
set_option maxHeartbeats 4000000 in
set_option maxRecDepth 100000 in
theorem sp_missing {G : kt_G} {σ : kt_Y} {μ : kt_M} {p : Nat} (hp : kt_sh σ p) : kt_F G yX8_isMissing cX8_isMissing 1 (some .boolean) 0 [.ref p] σ μ (fun r μ2 => r = some (.int (kt_f (kt_i μ p 1 = -1))) ∧ μ2 = μ) := by
  refine kt_F.of (by decide) (Nat.le_of_ble_eq_true rfl) (fun X hX hr => ?_)
  have hp0 := hp
  obtain ⟨hk0, hr1, hk1⟩ := hp
  refine kr_aload_n (i := 0) hX dX8_isMissing_0 rfl rfl ?_
  refine kr_geti (c0 := 8) (k := 1) hX ⟨_, kf_8_13⟩ dX8_isMissing_1 rfl (by assumption) ?_
  refine kr_iconst (v := (-1)) hX dX8_isMissing_4 (by decide) ?_
  refine kr_icmp_ne (tgt := 12) hX dX8_isMissing_5 (by decide) (fun c_5 => ?_) (fun c_5 => ?_)
  · skip
    refine kr_iconst (v := 0) hX dX8_isMissing_12 (by decide) ?_
    refine kr_zret hX hr (by first | exact Or.inl rfl | exact Or.inr rfl | assumption) dX8_isMissing_13 ⟨rfl, ?_⟩
    first | exact ⟨kt_ft (by assumption), rfl⟩ | exact ⟨kt_ff (by assumption), rfl⟩
  · skip
    refine kr_iconst (v := 1) hX dX8_isMissing_8 (by decide) ?_
    refine kr_goto (tgt := 13) hX dX8_isMissing_9 (by decide) ?_
    refine kr_zret hX hr (by first | exact Or.inl rfl | exact Or.inr rfl | assumption) dX8_isMissing_13 ⟨rfl, ?_⟩
    first | exact ⟨kt_ft (by assumption), rfl⟩ | exact ⟨kt_ff (by assumption), rfl⟩

set_option maxHeartbeats 4000000 in
set_option maxRecDepth 100000 in
theorem sp_hasIx {G : kt_G} {σ : kt_Y} {μ : kt_M} {p : Nat} (hp : kt_sh σ p) {i : Int32} : kt_F G yX8_hasIndex cX8_hasIndex 2 (some .boolean) 0 [.ref p, .int i] σ μ (fun r μ2 => r = some (.int (kt_f (k_has μ p i))) ∧ μ2 = μ) := by
  refine kt_F.of (by decide) (Nat.le_of_ble_eq_true rfl) (fun X hX hr => ?_)
  have hp0 := hp
  obtain ⟨hk0, hr1, hk1⟩ := hp
  refine kr_iload_n (i := 1) hX dX8_hasIndex_0 rfl rfl ?_
  refine kr_if_lt (tgt := 22) hX dX8_hasIndex_1 (by decide) (fun c_1 => ?_) (fun c_1 => ?_)
  · skip
    refine kr_iconst (v := 0) hX dX8_hasIndex_22 (by decide) ?_
    refine kr_zret hX hr (by first | exact Or.inl rfl | exact Or.inr rfl | assumption) dX8_hasIndex_23 ⟨rfl, ?_⟩
    unfold k_has
    first | exact ⟨kt_ft (by (simp only [kt_f_0, kt_f_1, ← Int32.toInt_inj, Int32.le_iff_toInt_le, Int32.lt_iff_toInt_lt, Classical.not_not, ki_0, ki_40] at *; omega)), rfl⟩ | exact ⟨kt_ff (by (simp only [kt_f_0, kt_f_1, ← Int32.toInt_inj, Int32.le_iff_toInt_le, Int32.lt_iff_toInt_lt, Classical.not_not, ki_0, ki_40] at *; omega)), rfl⟩
  · skip
    refine kr_iload_n (i := 1) hX dX8_hasIndex_4 rfl rfl ?_
    refine kr_aload_n (i := 0) hX dX8_hasIndex_5 rfl rfl ?_
    refine kr_geti (c0 := 8) (k := 2) hX ⟨_, kf_8_17⟩ dX8_hasIndex_6 rfl (by assumption) ?_
    refine kr_icmp_ge (tgt := 22) hX dX8_hasIndex_9 (by decide) (fun c_9 => ?_) (fun c_9 => ?_)
    · skip
      refine kr_iconst (v := 0) hX dX8_hasIndex_22 (by decide) ?_
      refine kr_zret hX hr (by first | exact Or.inl rfl | exact Or.inr rfl | assumption) dX8_hasIndex_23 ⟨rfl, ?_⟩
      unfold k_has
      first | exact ⟨kt_ft (by (simp only [kt_f_0, kt_f_1, ← Int32.toInt_inj, Int32.le_iff_toInt_le, Int32.lt_iff_toInt_lt, Classical.not_not, ki_0, ki_40] at *; omega)), rfl⟩ | exact ⟨kt_ff (by (simp only [kt_f_0, kt_f_1, ← Int32.toInt_inj, Int32.le_iff_toInt_le, Int32.lt_iff_toInt_lt, Classical.not_not, ki_0, ki_40] at *; omega)), rfl⟩
    · skip
      refine kr_iload_n (i := 1) hX dX8_hasIndex_12 rfl rfl ?_
      refine kr_bipush (v := 40) hX dX8_hasIndex_13 (by decide) ?_
      refine kr_icmp_ge (tgt := 22) hX dX8_hasIndex_15 (by decide) (fun c_15 => ?_) (fun c_15 => ?_)
      · skip
        refine kr_iconst (v := 0) hX dX8_hasIndex_22 (by decide) ?_
        refine kr_zret hX hr (by first | exact Or.inl rfl | exact Or.inr rfl | assumption) dX8_hasIndex_23 ⟨rfl, ?_⟩
        unfold k_has
        first | exact ⟨kt_ft (by (simp only [kt_f_0, kt_f_1, ← Int32.toInt_inj, Int32.le_iff_toInt_le, Int32.lt_iff_toInt_lt, Classical.not_not, ki_0, ki_40] at *; omega)), rfl⟩ | exact ⟨kt_ff (by (simp only [kt_f_0, kt_f_1, ← Int32.toInt_inj, Int32.le_iff_toInt_le, Int32.lt_iff_toInt_lt, Classical.not_not, ki_0, ki_40] at *; omega)), rfl⟩
      · skip
        refine kr_iconst (v := 1) hX dX8_hasIndex_18 (by decide) ?_
        refine kr_goto (tgt := 23) hX dX8_hasIndex_19 (by decide) ?_
        refine kr_zret hX hr (by first | exact Or.inl rfl | exact Or.inr rfl | assumption) dX8_hasIndex_23 ⟨rfl, ?_⟩
        unfold k_has
        first | exact ⟨kt_ft (by (simp only [kt_f_0, kt_f_1, ← Int32.toInt_inj, Int32.le_iff_toInt_le, Int32.lt_iff_toInt_lt, Classical.not_not, ki_0, ki_40] at *; omega)), rfl⟩ | exact ⟨kt_ff (by (simp only [kt_f_0, kt_f_1, ← Int32.toInt_inj, Int32.le_iff_toInt_le, Int32.lt_iff_toInt_lt, Classical.not_not, ki_0, ki_40] at *; omega)), rfl⟩

set_option maxHeartbeats 4000000 in
set_option maxRecDepth 100000 in
theorem lp_create {G : kt_G} {σ : kt_Y} {X : kt_X} (hX : kt_ok G X RX8 cX8_create 4 0 0 0) (hr : kt_rt X = none) {Q : Option Value → kt_M → Prop} {p : Nat} (hp : kt_sh σ p) {a b : Int32} : ∀ (n i : Nat) (μ : kt_M) , i + n = 40 →  (Q none (m_fillL (p + 1) 0 n i μ)) → kt_W G X 4 12 [(0, .ref p), (1, .int a), (2, .int b), (3, .int (nI i))] [] σ μ 0 0 (kt_Z G X (kt_q σ Q) 0 0) := by
  obtain ⟨hk0, hr1, hk1⟩ := hp
  intro n
  induction n with
  | zero =>
    intro i μ hin  hQ
    have hib : i = 40 := by omega
    refine kr_iload_n (i := 3) hX dX8_create_12 rfl rfl ?_
    refine kr_bipush (v := 40) hX dX8_create_13 (by decide) ?_
    refine kr_icmp_ge (tgt := 31) hX dX8_create_15 (by decide) (fun c_15 => ?_) (fun c_15 => ?_)
    · skip
      refine kr_vret hX hr dX8_create_31 ⟨rfl, ?_⟩
      exact hQ
    · skip
      exact absurd (by rw [hib]; decide) c_15
  | succ n ih =>
    intro i μ hin  hQ
    have hib : i < 40 := by omega
    refine kr_iload_n (i := 3) hX dX8_create_12 rfl rfl ?_
    refine kr_bipush (v := 40) hX dX8_create_13 (by decide) ?_
    refine kr_icmp_ge (tgt := 31) hX dX8_create_15 (by decide) (fun c_15 => ?_) (fun c_15 => ?_)
    · skip
      exact absurd c_15 (kt_ge rfl hib (by decide))
    · skip
      refine kr_aload_n (i := 0) hX dX8_create_18 rfl rfl ?_
      refine kr_getr (c0 := 8) (k := 0) hX ⟨_, kf_8_9⟩ dX8_create_19 rfl (by assumption) (by assumption) ?_
      refine kr_iload_n (i := 3) hX dX8_create_22 rfl rfl ?_
      refine kr_iconst (v := 0) hX dX8_create_23 (by decide) ?_
      refine kr_iastN hX dX8_create_24 (by assumption) (by omega) ?_
      refine kr_iinc (v := nI (i + 1)) hX dX8_create_25 rfl (by first | exact nI_1 _ | rfl) (by decide) rfl rfl ?_
      refine kr_goto (tgt := 12) hX dX8_create_28 (by decide) ?_
      exact ih (i + 1) _ (by omega) hQ

set_option maxHeartbeats 4000000 in
set_option maxRecDepth 100000 in
theorem sp_create {G : kt_G} {σ : kt_Y} {μ : kt_M} {p : Nat} (hp : kt_sh σ p) {a b : Int32} : kt_F G yX8_create cX8_create 4 none 0 [.ref p, .int a, .int b] σ μ (fun r μ2 => r = none ∧ μ2 = m_fillL (p + 1) 0 40 0 (kt_si (kt_si μ p 1 a) p 2 b)) := by
  refine kt_F.of (by decide) (Nat.le_of_ble_eq_true rfl) (fun X hX hr => ?_)
  have hp0 := hp
  obtain ⟨hk0, hr1, hk1⟩ := hp
  refine kr_aload_n (i := 0) hX dX8_create_0 rfl rfl ?_
  refine kr_iload_n (i := 1) hX dX8_create_1 rfl rfl ?_
  refine kr_puti (c0 := 8) (k := 1) hX kf_8_13 dX8_create_2 rfl rfl rfl (by assumption) ?_
  refine kr_aload_n (i := 0) hX dX8_create_5 rfl rfl ?_
  refine kr_iload_n (i := 2) hX dX8_create_6 rfl rfl ?_
  refine kr_puti (c0 := 8) (k := 2) hX kf_8_17 dX8_create_7 rfl rfl rfl (by assumption) ?_
  refine kr_iconst (v := 0) hX dX8_create_10 (by decide) ?_
  refine kr_istore_n (i := 3) hX dX8_create_11 rfl (by decide) rfl rfl ?_
  exact lp_create hX hr hp0 40 0 _ (by omega) ⟨rfl, rfl⟩

set_option maxHeartbeats 4000000 in
set_option maxRecDepth 100000 in
theorem sp_sput {G : kt_G} {σ : kt_Y} {μ : kt_M} {p : Nat} (hp : kt_sh σ p) {i v : Int32} : kt_F G yX8_put cX8_put 3 (some .boolean) 1 [.ref p, .int i, .int v] σ μ (fun r μ2 => r = some (.int (kt_f (k_has μ p i))) ∧ μ2 = if k_has μ p i then kt_si μ (p + 1) i.toNatClampNeg (k_lane (kt_i μ p 1) v) else μ) := by
  refine kt_F.of (by decide) (Nat.le_of_ble_eq_true rfl) (fun X hX hr => ?_)
  have hp0 := hp
  obtain ⟨hk0, hr1, hk1⟩ := hp
  refine kr_aload_n (i := 0) hX dX8_put_0 rfl rfl ?_
  refine kr_iload_n (i := 1) hX dX8_put_1 rfl rfl ?_
  refine kr_dV (c1 := 8) [_] hX km_8_20 dX8_put_2 (sp_hasIx hp0) rfl rfl ⟨_, _, rfl⟩ (by decide) (Nat.le_of_ble_eq_true rfl) (Nat.le_refl _) (Nat.le_refl _) (by assumption) ?_
  refine kr_if_ne (tgt := 10) hX dX8_put_5 (by decide) (fun c_5 => ?_) (fun c_5 => ?_)
  · skip
    refine kr_aload_n (i := 0) hX dX8_put_10 rfl rfl ?_
    refine kr_getr (c0 := 8) (k := 0) hX ⟨_, kf_8_9⟩ dX8_put_11 rfl (by assumption) (by assumption) ?_
    refine kr_iload_n (i := 1) hX dX8_put_14 rfl rfl ?_
    refine kr_aload_n (i := 0) hX dX8_put_15 rfl rfl ?_
    refine kr_geti (c0 := 8) (k := 1) hX ⟨_, kf_8_13⟩ dX8_put_16 rfl (by assumption) ?_
    refine kr_if_ne (tgt := 27) hX dX8_put_19 (by decide) (fun c_19 => ?_) (fun c_19 => ?_)
    · skip
      refine kr_aload_n (i := 0) hX dX8_put_27 rfl rfl ?_
      refine kr_geti (c0 := 8) (k := 1) hX ⟨_, kf_8_13⟩ dX8_put_28 rfl (by assumption) ?_
      refine kr_iconst (v := 1) hX dX8_put_31 (by decide) ?_
      refine kr_icmp_ne (tgt := 40) hX dX8_put_32 (by decide) (fun c_32 => ?_) (fun c_32 => ?_)
      · skip
        refine kr_iload_n (i := 2) hX dX8_put_40 rfl rfl ?_
        refine kr_iast hX dX8_put_41 (by assumption) (by exact k_has_in (by simp only [kt_f_0, Classical.not_not] at c_5; exact c_5)) ?_
        refine kr_iconst (v := 1) hX dX8_put_42 (by decide) ?_
        refine kr_zret hX hr (by first | exact Or.inl rfl | exact Or.inr rfl | assumption) dX8_put_43 ⟨rfl, ?_⟩
        simp only [kt_f_0, Classical.not_not] at c_5
        first
        | exact ⟨kt_ff c_5, (if_neg c_5).symm⟩
        | (refine ⟨kt_ft c_5, ?_⟩; rw [if_pos c_5]; simp_all [k_lane])
      · skip
        refine kr_iload_n (i := 2) hX dX8_put_35 rfl rfl ?_
        refine kr_i2s hX dX8_put_36 rfl ?_
        refine kr_goto (tgt := 41) hX dX8_put_37 (by decide) ?_
        refine kr_iast hX dX8_put_41 (by assumption) (by exact k_has_in (by simp only [kt_f_0, Classical.not_not] at c_5; exact c_5)) ?_
        refine kr_iconst (v := 1) hX dX8_put_42 (by decide) ?_
        refine kr_zret hX hr (by first | exact Or.inl rfl | exact Or.inr rfl | assumption) dX8_put_43 ⟨rfl, ?_⟩
        simp only [kt_f_0, Classical.not_not] at c_5
        first
        | exact ⟨kt_ff c_5, (if_neg c_5).symm⟩
        | (refine ⟨kt_ft c_5, ?_⟩; rw [if_pos c_5]; simp_all [k_lane])
    · skip
      refine kr_iload_n (i := 2) hX dX8_put_22 rfl rfl ?_
      refine kr_i2b hX dX8_put_23 rfl ?_
      refine kr_goto (tgt := 41) hX dX8_put_24 (by decide) ?_
      refine kr_iast hX dX8_put_41 (by assumption) (by exact k_has_in (by simp only [kt_f_0, Classical.not_not] at c_5; exact c_5)) ?_
      refine kr_iconst (v := 1) hX dX8_put_42 (by decide) ?_
      refine kr_zret hX hr (by first | exact Or.inl rfl | exact Or.inr rfl | assumption) dX8_put_43 ⟨rfl, ?_⟩
      simp only [kt_f_0, Classical.not_not] at c_5
      first
      | exact ⟨kt_ff c_5, (if_neg c_5).symm⟩
      | (refine ⟨kt_ft c_5, ?_⟩; rw [if_pos c_5]; simp_all [k_lane])
  · skip
    refine kr_iconst (v := 0) hX dX8_put_8 (by decide) ?_
    refine kr_zret hX hr (by first | exact Or.inl rfl | exact Or.inr rfl | assumption) dX8_put_9 ⟨rfl, ?_⟩
    simp only [kt_f_0, Classical.not_not] at c_5
    first
    | exact ⟨kt_ff c_5, (if_neg c_5).symm⟩
    | (refine ⟨kt_ft c_5, ?_⟩; rw [if_pos c_5]; simp_all [k_lane])

set_option maxHeartbeats 4000000 in
set_option maxRecDepth 100000 in
theorem sp_elem {G : kt_G} {σ : kt_Y} {μ : kt_M} {p : Nat} (hp : kt_sh σ p) {i : Int32} : kt_F G yX8_element cX8_element 2 (some .int) 1 [.ref p, .int i] σ μ (fun r μ2 => r = some (.int (if k_has μ p i then kt_i μ (p + 1) i.toNatClampNeg else 0)) ∧ μ2 = μ) := by
  refine kt_F.of (by decide) (Nat.le_of_ble_eq_true rfl) (fun X hX hr => ?_)
  have hp0 := hp
  obtain ⟨hk0, hr1, hk1⟩ := hp
  refine kr_aload_n (i := 0) hX dX8_element_0 rfl rfl ?_
  refine kr_iload_n (i := 1) hX dX8_element_1 rfl rfl ?_
  refine kr_dV (c1 := 8) [_] hX km_8_20 dX8_element_2 (sp_hasIx hp0) rfl rfl ⟨_, _, rfl⟩ (by decide) (Nat.le_of_ble_eq_true rfl) (Nat.le_refl _) (Nat.le_refl _) (by assumption) ?_
  refine kr_if_eq (tgt := 17) hX dX8_element_5 (by decide) (fun c_5 => ?_) (fun c_5 => ?_)
  · skip
    refine kr_iconst (v := 0) hX dX8_element_17 (by decide) ?_
    refine kr_iret hX hr dX8_element_18 ⟨rfl, ?_⟩
    simp only [kt_f_0, Classical.not_not] at c_5
    first | (rw [if_pos c_5]; exact ⟨rfl, rfl⟩) | (rw [if_neg c_5]; exact ⟨rfl, rfl⟩)
  · skip
    refine kr_aload_n (i := 0) hX dX8_element_8 rfl rfl ?_
    refine kr_getr (c0 := 8) (k := 0) hX ⟨_, kf_8_9⟩ dX8_element_9 rfl (by assumption) (by assumption) ?_
    refine kr_iload_n (i := 1) hX dX8_element_12 rfl rfl ?_
    refine kr_iald hX dX8_element_13 (by assumption) (by exact k_has_in (by simp only [kt_f_0, Classical.not_not] at c_5; exact c_5)) ?_
    refine kr_goto (tgt := 18) hX dX8_element_14 (by decide) ?_
    refine kr_iret hX hr dX8_element_18 ⟨rfl, ?_⟩
    simp only [kt_f_0, Classical.not_not] at c_5
    first | (rw [if_pos c_5]; exact ⟨rfl, rfl⟩) | (rw [if_neg c_5]; exact ⟨rfl, rfl⟩)

set_option maxHeartbeats 4000000 in
set_option maxRecDepth 100000 in
theorem sp_faultAt {G : kt_G} {σ : kt_Y} {μ : kt_M} {p : Nat} (hp : kt_sh σ p) {l i : Int32} : kt_F G yX8_faultAt cX8_faultAt 3 (some .int) 1 [.ref p, .int l, .int i] σ μ (fun r μ2 => r = some (.int (k_fault μ p l i)) ∧ μ2 = μ) := by
  refine kt_F.of (by decide) (Nat.le_of_ble_eq_true rfl) (fun X hX hr => ?_)
  have hp0 := hp
  obtain ⟨hk0, hr1, hk1⟩ := hp
  refine kr_aload_n (i := 0) hX dX8_faultAt_0 rfl rfl ?_
  refine kr_dV (c1 := 8) [] hX km_8_24 dX8_faultAt_1 (sp_missing hp0) rfl rfl ⟨_, _, rfl⟩ (by decide) (Nat.le_of_ble_eq_true rfl) (Nat.le_refl _) (Nat.le_refl _) (by assumption) ?_
  refine kr_if_eq (tgt := 9) hX dX8_faultAt_4 (by decide) (fun c_4 => ?_) (fun c_4 => ?_)
  · skip
    refine kr_aload_n (i := 0) hX dX8_faultAt_9 rfl rfl ?_
    refine kr_geti (c0 := 8) (k := 1) hX ⟨_, kf_8_13⟩ dX8_faultAt_10 rfl (by assumption) ?_
    refine kr_iload_n (i := 1) hX dX8_faultAt_13 rfl rfl ?_
    refine kr_icmp_eq (tgt := 19) hX dX8_faultAt_14 (by decide) (fun c_14 => ?_) (fun c_14 => ?_)
    · skip
      refine kr_aload_n (i := 0) hX dX8_faultAt_19 rfl rfl ?_
      refine kr_iload_n (i := 2) hX dX8_faultAt_20 rfl rfl ?_
      refine kr_dV (c1 := 8) [_] hX km_8_20 dX8_faultAt_21 (sp_hasIx hp0) rfl rfl ⟨_, _, rfl⟩ (by decide) (Nat.le_of_ble_eq_true rfl) (Nat.le_refl _) (Nat.le_refl _) (by assumption) ?_
      refine kr_if_eq (tgt := 31) hX dX8_faultAt_24 (by decide) (fun c_24 => ?_) (fun c_24 => ?_)
      · skip
        refine kr_iconst (v := 2) hX dX8_faultAt_31 (by decide) ?_
        refine kr_iret hX hr dX8_faultAt_32 ⟨rfl, ?_⟩
        refine ⟨?_, rfl⟩
        simp only [kt_f_0, Classical.not_not] at *
        simp_all [k_fault, -Int32.not_le, -Int32.not_lt]
      · skip
        refine kr_iconst (v := 0) hX dX8_faultAt_27 (by decide) ?_
        refine kr_goto (tgt := 32) hX dX8_faultAt_28 (by decide) ?_
        refine kr_iret hX hr dX8_faultAt_32 ⟨rfl, ?_⟩
        refine ⟨?_, rfl⟩
        simp only [kt_f_0, Classical.not_not] at *
        simp_all [k_fault, -Int32.not_le, -Int32.not_lt]
    · skip
      refine kr_iconst (v := 3) hX dX8_faultAt_17 (by decide) ?_
      refine kr_iret hX hr dX8_faultAt_18 ⟨rfl, ?_⟩
      refine ⟨?_, rfl⟩
      simp only [kt_f_0, Classical.not_not] at *
      simp_all [k_fault, -Int32.not_le, -Int32.not_lt]
  · skip
    refine kr_iconst (v := 1) hX dX8_faultAt_7 (by decide) ?_
    refine kr_iret hX hr dX8_faultAt_8 ⟨rfl, ?_⟩
    refine ⟨?_, rfl⟩
    simp only [kt_f_0, Classical.not_not] at *
    simp_all [k_fault, -Int32.not_le, -Int32.not_lt]


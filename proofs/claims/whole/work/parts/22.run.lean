/-! KnownTurns$Run: values at p + 1, visited at p + 2, written at p + 3 -/
def kt_rn (σ : kt_Y) (p : Nat) : Prop := kt_k σ p = some (0, 7) ∧ kt_r σ p 0 = some (p + 1) ∧ kt_r σ p 1 = some (p + 2) ∧ kt_r σ p 2 = some (p + 3) ∧ kt_k σ (p + 1) = some (1, 4) ∧ kt_k σ (p + 2) = some (1, 60) ∧ kt_k σ (p + 3) = some (1, 240)
def r_val (μ : kt_M) (p : Nat) (v : Int32) : Int32 := if 0 ≤ v ∧ v < 4 then kt_i μ (p + 1) v.toNatClampNeg else 51
def r_start (μ : kt_M) (p : Nat) : kt_M := kt_si (kt_si (kt_si (kt_si (kt_si (kt_si (kt_si (kt_si (kt_si μ (p + 1) 0 51) (p + 1) 1 51) (p + 1) 2 51) (p + 1) 3 51) p 3 0) p 4 0) p 5 0) p 6 0) p 7 0
def r_out (μ : kt_M) (p : Nat) (x : Int32) : kt_M := if kt_i μ p 6 < 0 ∨ 240 ≤ kt_i μ p 6 then μ else kt_si (kt_si μ (p + 3) (kt_i μ p 6).toNatClampNeg x) p 6 (kt_i μ p 6 + 1)
def r_in (μ : kt_M) (p q : Nat) : Int32 := if kt_i μ p 7 < 0 ∨ 8 ≤ kt_i μ p 7 then 51 else kt_i μ q (kt_i μ p 7).toNatClampNeg
def r_act2 (μ : kt_M) (p q : Nat) (k : Int32) (v : Nat) (n : Int32) : kt_M :=
  if k = 0 then kt_si μ (p + 1) v n else if k = 1 then kt_si μ (p + 1) v (if kt_i μ (p + 1) v = 51 then 51 else k_min 50 (kt_i μ (p + 1) v + n))
  else if k = 2 then kt_si μ (p + 1) v (if kt_i μ (p + 1) v = 51 then 51 else k_max 0 (kt_i μ (p + 1) v - n))
  else if k = 3 then kt_si μ (p + 1) v (r_val μ p n)
  else if k = 4 then kt_si (kt_si μ (p + 1) v (r_in μ p q)) p 7 (kt_i μ p 7 + 1)
  else r_out μ p (kt_i μ (p + 1) v)
def r_act (μ : kt_M) (p q : Nat) (k v n : Int32) : kt_M := if 0 ≤ v ∧ v < 4 then r_act2 (kt_si μ p 4 (kt_i μ p 4 + 1)) p q k v.toNatClampNeg n else μ
def r_rhs (μ : kt_M) (p b : Nat) : Int32 := if kt_i μ b 6 = 0 then kt_i μ b 7 else r_val μ p (kt_i μ b 7)
def r_holds (μ : kt_M) (p b : Nat) : Prop := ¬ r_val μ p (kt_i μ b 5) = 51 ∧ ¬ r_rhs μ p b = 51 ∧ if kt_i μ b 4 = 2 then r_val μ p (kt_i μ b 5) < r_rhs μ p b else r_val μ p (kt_i μ b 5) = r_rhs μ p b
def r_hd (μ : kt_M) (p b : Nat) : Int32 := if r_val μ p (kt_i μ b 5) = 51 ∨ r_rhs μ p b = 51 then 0 else if kt_i μ b 4 = 2 then (if r_rhs μ p b ≤ r_val μ p (kt_i μ b 5) then 0 else 1) else (if r_val μ p (kt_i μ b 5) = r_rhs μ p b then 1 else 0)
def r_end (μ : kt_M) (p b : Nat) : Int32 × kt_M :=
  if kb_test (kt_i μ b 4) then (let μ1 := kt_si μ p 5 (kt_i μ p 5 + 1); (if r_hd μ1 p b = 0 then kt_i μ1 b 9 else kt_i μ1 b 8, μ1))
  else (let μ1 := kt_si μ p 8 (if kt_i μ b 4 = 0 then 1 else 0); (kt_i μ1 b 8, μ1))
set_option maxHeartbeats 4000000 in
set_option maxRecDepth 100000 in
theorem sp_val {G : kt_G} {σ : kt_Y} {μ : kt_M} {p : Nat} (hp : kt_rn σ p) {v : Int32} : kt_F G yX7_valueOf cX7_valueOf 2 (some .int) 1 [.ref p, .int v] σ μ (fun r μ2 => r = some (.int (r_val μ p v)) ∧ μ2 = μ) := by
  refine kt_F.of (by decide) (Nat.le_of_ble_eq_true rfl) (fun X hX hr => ?_)
  have hp0 := hp
  obtain ⟨hk0, hr0, hr1, hr2, hk1, hk2, hk3⟩ := hp
  refine kr_iload_n (i := 1) hX dX7_valueOf_0 rfl rfl ?_
  refine kr_dSN [_] hX km_7_73 dX7_valueOf_1 (sp_isVar) rfl rfl (by decide) (Nat.le_of_ble_eq_true rfl) (Nat.le_refl _) (Nat.le_refl _) ?_
  refine kr_if_eq (tgt := 16) hX dX7_valueOf_4 (by decide) (fun c_4 => ?_) (fun c_4 => ?_)
  · skip
    refine kr_bipush (v := 51) hX dX7_valueOf_16 (by decide) ?_
    refine kr_iret hX hr dX7_valueOf_18 ⟨rfl, ?_⟩
    simp only [kt_f_0, Classical.not_not] at c_4
    unfold r_val
    first | (rw [if_pos c_4]; exact ⟨rfl, rfl⟩) | (rw [if_neg c_4]; exact ⟨rfl, rfl⟩)
  · skip
    refine kr_aload_n (i := 0) hX dX7_valueOf_7 rfl rfl ?_
    refine kr_getr (c0 := 7) (k := 0) hX ⟨_, kf_7_9⟩ dX7_valueOf_8 rfl (by assumption) (by assumption) ?_
    refine kr_iload_n (i := 1) hX dX7_valueOf_11 rfl rfl ?_
    refine kr_iald hX dX7_valueOf_12 (by assumption) (by exact k_isv_in (by simp only [kt_f_0, Classical.not_not] at c_4; exact c_4)) ?_
    refine kr_goto (tgt := 18) hX dX7_valueOf_13 (by decide) ?_
    refine kr_iret hX hr dX7_valueOf_18 ⟨rfl, ?_⟩
    simp only [kt_f_0, Classical.not_not] at c_4
    unfold r_val
    first | (rw [if_pos c_4]; exact ⟨rfl, rfl⟩) | (rw [if_neg c_4]; exact ⟨rfl, rfl⟩)

set_option maxHeartbeats 4000000 in
set_option maxRecDepth 100000 in
theorem sp_rstart {G : kt_G} {σ : kt_Y} {μ : kt_M} {p : Nat} (hp : kt_rn σ p) : kt_F G yX7_startWithNil cX7_startWithNil 2 none 0 [.ref p] σ μ (fun r μ2 => r = none ∧ μ2 = r_start μ p) := by
  refine kt_F.of (by decide) (Nat.le_of_ble_eq_true rfl) (fun X hX hr => ?_)
  have hp0 := hp
  obtain ⟨hk0, hr0, hr1, hr2, hk1, hk2, hk3⟩ := hp
  refine kr_iconst (v := 0) hX dX7_startWithNil_0 (by decide) ?_
  refine kr_istore_n (i := 1) hX dX7_startWithNil_1 rfl (by decide) rfl rfl ?_
  refine kr_iload_n (i := 1) hX dX7_startWithNil_2 rfl rfl ?_
  refine kr_iconst (v := 4) hX dX7_startWithNil_3 (by decide) ?_
  refine kr_icmp_ge (tgt := 21) hX dX7_startWithNil_4 (by decide) (fun c_4 => ?_) (fun c_4 => ?_)
  · skip
    exact absurd c_4 (by decide)
  · skip
    refine kr_aload_n (i := 0) hX dX7_startWithNil_7 rfl rfl ?_
    refine kr_getr (c0 := 7) (k := 0) hX ⟨_, kf_7_9⟩ dX7_startWithNil_8 rfl (by assumption) (by assumption) ?_
    refine kr_iload_n (i := 1) hX dX7_startWithNil_11 rfl rfl ?_
    refine kr_bipush (v := 51) hX dX7_startWithNil_12 (by decide) ?_
    refine kr_iast hX dX7_startWithNil_14 (by assumption) (by unfold vp_in; decide) ?_
    refine kr_iinc (v := 1) hX dX7_startWithNil_15 rfl (by decide) (by decide) rfl rfl ?_
    refine kr_goto (tgt := 2) hX dX7_startWithNil_18 (by decide) ?_
    refine kr_iload_n (i := 1) hX dX7_startWithNil_2 rfl rfl ?_
    refine kr_iconst (v := 4) hX dX7_startWithNil_3 (by decide) ?_
    refine kr_icmp_ge (tgt := 21) hX dX7_startWithNil_4 (by decide) (fun c_4 => ?_) (fun c_4 => ?_)
    · skip
      exact absurd c_4 (by decide)
    · skip
      refine kr_aload_n (i := 0) hX dX7_startWithNil_7 rfl rfl ?_
      refine kr_getr (c0 := 7) (k := 0) hX ⟨_, kf_7_9⟩ dX7_startWithNil_8 rfl (by assumption) (by assumption) ?_
      refine kr_iload_n (i := 1) hX dX7_startWithNil_11 rfl rfl ?_
      refine kr_bipush (v := 51) hX dX7_startWithNil_12 (by decide) ?_
      refine kr_iast hX dX7_startWithNil_14 (by assumption) (by unfold vp_in; decide) ?_
      refine kr_iinc (v := 2) hX dX7_startWithNil_15 rfl (by decide) (by decide) rfl rfl ?_
      refine kr_goto (tgt := 2) hX dX7_startWithNil_18 (by decide) ?_
      refine kr_iload_n (i := 1) hX dX7_startWithNil_2 rfl rfl ?_
      refine kr_iconst (v := 4) hX dX7_startWithNil_3 (by decide) ?_
      refine kr_icmp_ge (tgt := 21) hX dX7_startWithNil_4 (by decide) (fun c_4 => ?_) (fun c_4 => ?_)
      · skip
        exact absurd c_4 (by decide)
      · skip
        refine kr_aload_n (i := 0) hX dX7_startWithNil_7 rfl rfl ?_
        refine kr_getr (c0 := 7) (k := 0) hX ⟨_, kf_7_9⟩ dX7_startWithNil_8 rfl (by assumption) (by assumption) ?_
        refine kr_iload_n (i := 1) hX dX7_startWithNil_11 rfl rfl ?_
        refine kr_bipush (v := 51) hX dX7_startWithNil_12 (by decide) ?_
        refine kr_iast hX dX7_startWithNil_14 (by assumption) (by unfold vp_in; decide) ?_
        refine kr_iinc (v := 3) hX dX7_startWithNil_15 rfl (by decide) (by decide) rfl rfl ?_
        refine kr_goto (tgt := 2) hX dX7_startWithNil_18 (by decide) ?_
        refine kr_iload_n (i := 1) hX dX7_startWithNil_2 rfl rfl ?_
        refine kr_iconst (v := 4) hX dX7_startWithNil_3 (by decide) ?_
        refine kr_icmp_ge (tgt := 21) hX dX7_startWithNil_4 (by decide) (fun c_4 => ?_) (fun c_4 => ?_)
        · skip
          exact absurd c_4 (by decide)
        · skip
          refine kr_aload_n (i := 0) hX dX7_startWithNil_7 rfl rfl ?_
          refine kr_getr (c0 := 7) (k := 0) hX ⟨_, kf_7_9⟩ dX7_startWithNil_8 rfl (by assumption) (by assumption) ?_
          refine kr_iload_n (i := 1) hX dX7_startWithNil_11 rfl rfl ?_
          refine kr_bipush (v := 51) hX dX7_startWithNil_12 (by decide) ?_
          refine kr_iast hX dX7_startWithNil_14 (by assumption) (by unfold vp_in; decide) ?_
          refine kr_iinc (v := 4) hX dX7_startWithNil_15 rfl (by decide) (by decide) rfl rfl ?_
          refine kr_goto (tgt := 2) hX dX7_startWithNil_18 (by decide) ?_
          refine kr_iload_n (i := 1) hX dX7_startWithNil_2 rfl rfl ?_
          refine kr_iconst (v := 4) hX dX7_startWithNil_3 (by decide) ?_
          refine kr_icmp_ge (tgt := 21) hX dX7_startWithNil_4 (by decide) (fun c_4 => ?_) (fun c_4 => ?_)
          · skip
            refine kr_aload_n (i := 0) hX dX7_startWithNil_21 rfl rfl ?_
            refine kr_iconst (v := 0) hX dX7_startWithNil_22 (by decide) ?_
            refine kr_puti (c0 := 7) (k := 3) hX kf_7_34 dX7_startWithNil_23 rfl rfl rfl (by assumption) ?_
            refine kr_aload_n (i := 0) hX dX7_startWithNil_26 rfl rfl ?_
            refine kr_iconst (v := 0) hX dX7_startWithNil_27 (by decide) ?_
            refine kr_puti (c0 := 7) (k := 4) hX kf_7_63 dX7_startWithNil_28 rfl rfl rfl (by assumption) ?_
            refine kr_aload_n (i := 0) hX dX7_startWithNil_31 rfl rfl ?_
            refine kr_iconst (v := 0) hX dX7_startWithNil_32 (by decide) ?_
            refine kr_puti (c0 := 7) (k := 5) hX kf_7_64 dX7_startWithNil_33 rfl rfl rfl (by assumption) ?_
            refine kr_aload_n (i := 0) hX dX7_startWithNil_36 rfl rfl ?_
            refine kr_iconst (v := 0) hX dX7_startWithNil_37 (by decide) ?_
            refine kr_puti (c0 := 7) (k := 6) hX kf_7_67 dX7_startWithNil_38 rfl rfl rfl (by assumption) ?_
            refine kr_aload_n (i := 0) hX dX7_startWithNil_41 rfl rfl ?_
            refine kr_iconst (v := 0) hX dX7_startWithNil_42 (by decide) ?_
            refine kr_puti (c0 := 7) (k := 7) hX kf_7_70 dX7_startWithNil_43 rfl rfl rfl (by assumption) ?_
            refine kr_vret hX hr dX7_startWithNil_46 ⟨rfl, ?_⟩
            exact ⟨rfl, rfl⟩
          · skip
            exact absurd c_4 (by decide)

set_option maxHeartbeats 4000000 in
set_option maxRecDepth 100000 in
theorem sp_out {G : kt_G} {σ : kt_Y} {μ : kt_M} {p : Nat} (hp : kt_rn σ p) {x : Int32} : kt_F G yX7_output cX7_output 2 none 0 [.ref p, .int x] σ μ (fun r μ2 => r = none ∧ μ2 = r_out μ p x) := by
  refine kt_F.of (by decide) (Nat.le_of_ble_eq_true rfl) (fun X hX hr => ?_)
  have hp0 := hp
  obtain ⟨hk0, hr0, hr1, hr2, hk1, hk2, hk3⟩ := hp
  refine kr_aload_n (i := 0) hX dX7_output_0 rfl rfl ?_
  refine kr_geti (c0 := 7) (k := 6) hX ⟨_, kf_7_67⟩ dX7_output_1 rfl (by assumption) ?_
  refine kr_if_lt (tgt := 39) hX dX7_output_4 (by decide) (fun c_4 => ?_) (fun c_4 => ?_)
  · skip
    refine kr_vret hX hr dX7_output_39 ⟨rfl, ?_⟩
    refine ⟨rfl, ?_⟩
    unfold r_out
    first
    | exact (if_pos (Or.inl c_4)).symm
    | exact (if_pos (Or.inr c_16)).symm
    | exact (if_neg (fun h => h.elim c_4 c_16)).symm
  · skip
    refine kr_aload_n (i := 0) hX dX7_output_7 rfl rfl ?_
    refine kr_geti (c0 := 7) (k := 6) hX ⟨_, kf_7_67⟩ dX7_output_8 rfl (by assumption) ?_
    refine kr_aload_n (i := 0) hX dX7_output_11 rfl rfl ?_
    refine kr_getr (c0 := 7) (k := 2) hX ⟨_, kf_7_18⟩ dX7_output_12 rfl (by assumption) (by assumption) ?_
    refine kr_alen (t := 0) (n := 240) (v := 240) hX dX7_output_15 (by assumption) (by decide) (by decide) ?_
    refine kr_icmp_ge (tgt := 39) hX dX7_output_16 (by decide) (fun c_16 => ?_) (fun c_16 => ?_)
    · skip
      refine kr_vret hX hr dX7_output_39 ⟨rfl, ?_⟩
      refine ⟨rfl, ?_⟩
      unfold r_out
      first
      | exact (if_pos (Or.inl c_4)).symm
      | exact (if_pos (Or.inr c_16)).symm
      | exact (if_neg (fun h => h.elim c_4 c_16)).symm
    · skip
      refine kr_aload_n (i := 0) hX dX7_output_19 rfl rfl ?_
      refine kr_getr (c0 := 7) (k := 2) hX ⟨_, kf_7_18⟩ dX7_output_20 rfl (by assumption) (by assumption) ?_
      refine kr_aload_n (i := 0) hX dX7_output_23 rfl rfl ?_
      refine kr_geti (c0 := 7) (k := 6) hX ⟨_, kf_7_67⟩ dX7_output_24 rfl (by assumption) ?_
      refine kr_iload_n (i := 1) hX dX7_output_27 rfl rfl ?_
      refine kr_iast hX dX7_output_28 (by assumption) (by exact vp_in_iff.mpr (by have h5 := c_4; have h6 := c_16; simp only [Int32.le_iff_toInt_le, Int32.lt_iff_toInt_lt, ki_0, show (240 : Int32).toInt = 240 from by decide] at h5 h6 ⊢; omega)) ?_
      refine kr_aload_n (i := 0) hX dX7_output_29 rfl rfl ?_
      refine kr_dup hX dX7_output_30 rfl ?_
      refine kr_geti (c0 := 7) (k := 6) hX ⟨_, kf_7_67⟩ dX7_output_31 rfl (by assumption) ?_
      refine kr_rw (y := kt_i μ p 6) (by rw [kt_i_sin (by omega)]) ?_
      refine kr_iconst (v := 1) hX dX7_output_34 (by decide) ?_
      refine kr_iadd hX dX7_output_35 ?_
      refine kr_puti (c0 := 7) (k := 6) hX kf_7_67 dX7_output_36 rfl rfl rfl (by assumption) ?_
      refine kr_vret hX hr dX7_output_39 ⟨rfl, ?_⟩
      refine ⟨rfl, ?_⟩
      unfold r_out
      first
      | exact (if_pos (Or.inl c_4)).symm
      | exact (if_pos (Or.inr c_16)).symm
      | exact (if_neg (fun h => h.elim c_4 c_16)).symm

set_option maxHeartbeats 4000000 in
set_option maxRecDepth 100000 in
theorem sp_ract {G : kt_G} {σ : kt_Y} {μ : kt_M} {p : Nat} (hp : kt_rn σ p) {q : Nat} (hq : kt_k σ q = some (1, 8)) (hqp : q ≠ p) {a v n : Int32} : kt_F G yX7_doAct cX7_doAct 5 none 2 [.ref p, .int a, .int v, .int n, .ref q] σ μ (fun r μ2 => r = none ∧ μ2 = r_act μ p q a v n) := by
  refine kt_F.of (by decide) (Nat.le_of_ble_eq_true rfl) (fun X hX hr => ?_)
  have hp0 := hp
  obtain ⟨hk0, hr0, hr1, hr2, hk1, hk2, hk3⟩ := hp
  refine kr_iload_n (i := 2) hX dX7_doAct_0 rfl rfl ?_
  refine kr_dSN [_] hX km_7_73 dX7_doAct_1 (sp_isVar) rfl rfl (by decide) (Nat.le_of_ble_eq_true rfl) (Nat.le_refl _) (Nat.le_refl _) ?_
  refine kr_if_ne (tgt := 8) hX dX7_doAct_4 (by decide) (fun c_4 => ?_) (fun c_4 => ?_)
  · skip
    refine kr_aload_n (i := 0) hX dX7_doAct_8 rfl rfl ?_
    refine kr_dup hX dX7_doAct_9 rfl ?_
    refine kr_geti (c0 := 7) (k := 4) hX ⟨_, kf_7_63⟩ dX7_doAct_10 rfl (by assumption) ?_
    refine kr_iconst (v := 1) hX dX7_doAct_13 (by decide) ?_
    refine kr_iadd hX dX7_doAct_14 ?_
    refine kr_puti (c0 := 7) (k := 4) hX kf_7_63 dX7_doAct_15 rfl rfl rfl (by assumption) ?_
    refine kr_iload_n (i := 1) hX dX7_doAct_18 rfl rfl ?_
    by_cases c_19_0 : a = 0
    · skip
      refine kr_tabIn (tgt := 52) (off := 33) hX dX7_doAct_19 (by rw [c_19_0]; decide) (by rw [c_19_0]; decide) (by rw [c_19_0]; rfl) (by decide) ?_
      refine kr_aload_n (i := 0) hX dX7_doAct_52 rfl rfl ?_
      refine kr_getr (c0 := 7) (k := 0) hX ⟨_, kf_7_9⟩ dX7_doAct_53 rfl (by assumption) (by assumption) ?_
      refine kr_iload_n (i := 2) hX dX7_doAct_56 rfl rfl ?_
      refine kr_iload_n (i := 3) hX dX7_doAct_57 rfl rfl ?_
      refine kr_iast hX dX7_doAct_58 (by assumption) (by exact k_isv_in (by simp only [kt_f_0, Classical.not_not] at c_4; exact c_4)) ?_
      refine kr_goto (tgt := 209) hX dX7_doAct_59 (by decide) ?_
      refine kr_vret hX hr dX7_doAct_209 ⟨rfl, ?_⟩
      simp only [kt_f_0, Classical.not_not] at c_4
      refine ⟨rfl, ?_⟩
      unfold r_act
      first
      | rw [if_neg c_4]
      | (rw [if_pos c_4]; unfold r_act2; simp_all [r_in, k_min, k_max, -Int32.not_le, -Int32.not_lt]; done)
      | (rw [if_pos c_4]; unfold r_act2; simp_all [r_in, k_min, k_max, -Int32.not_le, -Int32.not_lt] <;> rfl)
    by_cases c_19_1 : a = 1
    · skip
      refine kr_tabIn (tgt := 62) (off := 43) hX dX7_doAct_19 (by rw [c_19_1]; decide) (by rw [c_19_1]; decide) (by rw [c_19_1]; rfl) (by decide) ?_
      refine kr_aload_n (i := 0) hX dX7_doAct_62 rfl rfl ?_
      refine kr_getr (c0 := 7) (k := 0) hX ⟨_, kf_7_9⟩ dX7_doAct_63 rfl (by assumption) (by assumption) ?_
      refine kr_iload_n (i := 2) hX dX7_doAct_66 rfl rfl ?_
      refine kr_aload_n (i := 0) hX dX7_doAct_67 rfl rfl ?_
      refine kr_getr (c0 := 7) (k := 0) hX ⟨_, kf_7_9⟩ dX7_doAct_68 rfl (by assumption) (by assumption) ?_
      refine kr_iload_n (i := 2) hX dX7_doAct_71 rfl rfl ?_
      refine kr_iald hX dX7_doAct_72 (by assumption) (by exact k_isv_in (by simp only [kt_f_0, Classical.not_not] at c_4; exact c_4)) ?_
      refine kr_bipush (v := 51) hX dX7_doAct_73 (by decide) ?_
      refine kr_icmp_ne (tgt := 83) hX dX7_doAct_75 (by decide) (fun c_75 => ?_) (fun c_75 => ?_)
      · skip
        refine kr_bipush (v := 50) hX dX7_doAct_83 (by decide) ?_
        refine kr_aload_n (i := 0) hX dX7_doAct_85 rfl rfl ?_
        refine kr_getr (c0 := 7) (k := 0) hX ⟨_, kf_7_9⟩ dX7_doAct_86 rfl (by assumption) (by assumption) ?_
        refine kr_iload_n (i := 2) hX dX7_doAct_89 rfl rfl ?_
        refine kr_iald hX dX7_doAct_90 (by assumption) (by exact k_isv_in (by simp only [kt_f_0, Classical.not_not] at c_4; exact c_4)) ?_
        refine kr_iload_n (i := 3) hX dX7_doAct_91 rfl rfl ?_
        refine kr_iadd hX dX7_doAct_92 ?_
        refine kr_mmin hX kw_884 dX7_doAct_93 (Nat.le_of_ble_eq_true rfl) (Nat.le_refl _) (Nat.le_refl _) ?_
        refine kr_iast hX dX7_doAct_96 (by assumption) (by exact k_isv_in (by simp only [kt_f_0, Classical.not_not] at c_4; exact c_4)) ?_
        refine kr_goto (tgt := 209) hX dX7_doAct_97 (by decide) ?_
        refine kr_vret hX hr dX7_doAct_209 ⟨rfl, ?_⟩
        simp only [kt_f_0, Classical.not_not] at c_4
        refine ⟨rfl, ?_⟩
        unfold r_act
        first
        | rw [if_neg c_4]
        | (rw [if_pos c_4]; unfold r_act2; simp_all [r_in, k_min, k_max, -Int32.not_le, -Int32.not_lt]; done)
        | (rw [if_pos c_4]; unfold r_act2; simp_all [r_in, k_min, k_max, -Int32.not_le, -Int32.not_lt] <;> rfl)
      · skip
        refine kr_bipush (v := 51) hX dX7_doAct_78 (by decide) ?_
        refine kr_goto (tgt := 96) hX dX7_doAct_80 (by decide) ?_
        refine kr_iast hX dX7_doAct_96 (by assumption) (by exact k_isv_in (by simp only [kt_f_0, Classical.not_not] at c_4; exact c_4)) ?_
        refine kr_goto (tgt := 209) hX dX7_doAct_97 (by decide) ?_
        refine kr_vret hX hr dX7_doAct_209 ⟨rfl, ?_⟩
        simp only [kt_f_0, Classical.not_not] at c_4
        refine ⟨rfl, ?_⟩
        unfold r_act
        first
        | rw [if_neg c_4]
        | (rw [if_pos c_4]; unfold r_act2; simp_all [r_in, k_min, k_max, -Int32.not_le, -Int32.not_lt]; done)
        | (rw [if_pos c_4]; unfold r_act2; simp_all [r_in, k_min, k_max, -Int32.not_le, -Int32.not_lt] <;> rfl)
    by_cases c_19_2 : a = 2
    · skip
      refine kr_tabIn (tgt := 100) (off := 81) hX dX7_doAct_19 (by rw [c_19_2]; decide) (by rw [c_19_2]; decide) (by rw [c_19_2]; rfl) (by decide) ?_
      refine kr_aload_n (i := 0) hX dX7_doAct_100 rfl rfl ?_
      refine kr_getr (c0 := 7) (k := 0) hX ⟨_, kf_7_9⟩ dX7_doAct_101 rfl (by assumption) (by assumption) ?_
      refine kr_iload_n (i := 2) hX dX7_doAct_104 rfl rfl ?_
      refine kr_aload_n (i := 0) hX dX7_doAct_105 rfl rfl ?_
      refine kr_getr (c0 := 7) (k := 0) hX ⟨_, kf_7_9⟩ dX7_doAct_106 rfl (by assumption) (by assumption) ?_
      refine kr_iload_n (i := 2) hX dX7_doAct_109 rfl rfl ?_
      refine kr_iald hX dX7_doAct_110 (by assumption) (by exact k_isv_in (by simp only [kt_f_0, Classical.not_not] at c_4; exact c_4)) ?_
      refine kr_bipush (v := 51) hX dX7_doAct_111 (by decide) ?_
      refine kr_icmp_ne (tgt := 121) hX dX7_doAct_113 (by decide) (fun c_113 => ?_) (fun c_113 => ?_)
      · skip
        refine kr_iconst (v := 0) hX dX7_doAct_121 (by decide) ?_
        refine kr_aload_n (i := 0) hX dX7_doAct_122 rfl rfl ?_
        refine kr_getr (c0 := 7) (k := 0) hX ⟨_, kf_7_9⟩ dX7_doAct_123 rfl (by assumption) (by assumption) ?_
        refine kr_iload_n (i := 2) hX dX7_doAct_126 rfl rfl ?_
        refine kr_iald hX dX7_doAct_127 (by assumption) (by exact k_isv_in (by simp only [kt_f_0, Classical.not_not] at c_4; exact c_4)) ?_
        refine kr_iload_n (i := 3) hX dX7_doAct_128 rfl rfl ?_
        refine kr_isub hX dX7_doAct_129 ?_
        refine kr_mmax hX kw_885 dX7_doAct_130 (Nat.le_of_ble_eq_true rfl) (Nat.le_refl _) (Nat.le_refl _) ?_
        refine kr_iast hX dX7_doAct_133 (by assumption) (by exact k_isv_in (by simp only [kt_f_0, Classical.not_not] at c_4; exact c_4)) ?_
        refine kr_goto (tgt := 209) hX dX7_doAct_134 (by decide) ?_
        refine kr_vret hX hr dX7_doAct_209 ⟨rfl, ?_⟩
        simp only [kt_f_0, Classical.not_not] at c_4
        refine ⟨rfl, ?_⟩
        unfold r_act
        first
        | rw [if_neg c_4]
        | (rw [if_pos c_4]; unfold r_act2; simp_all [r_in, k_min, k_max, -Int32.not_le, -Int32.not_lt]; done)
        | (rw [if_pos c_4]; unfold r_act2; simp_all [r_in, k_min, k_max, -Int32.not_le, -Int32.not_lt] <;> rfl)
      · skip
        refine kr_bipush (v := 51) hX dX7_doAct_116 (by decide) ?_
        refine kr_goto (tgt := 133) hX dX7_doAct_118 (by decide) ?_
        refine kr_iast hX dX7_doAct_133 (by assumption) (by exact k_isv_in (by simp only [kt_f_0, Classical.not_not] at c_4; exact c_4)) ?_
        refine kr_goto (tgt := 209) hX dX7_doAct_134 (by decide) ?_
        refine kr_vret hX hr dX7_doAct_209 ⟨rfl, ?_⟩
        simp only [kt_f_0, Classical.not_not] at c_4
        refine ⟨rfl, ?_⟩
        unfold r_act
        first
        | rw [if_neg c_4]
        | (rw [if_pos c_4]; unfold r_act2; simp_all [r_in, k_min, k_max, -Int32.not_le, -Int32.not_lt]; done)
        | (rw [if_pos c_4]; unfold r_act2; simp_all [r_in, k_min, k_max, -Int32.not_le, -Int32.not_lt] <;> rfl)
    by_cases c_19_3 : a = 3
    · skip
      refine kr_tabIn (tgt := 137) (off := 118) hX dX7_doAct_19 (by rw [c_19_3]; decide) (by rw [c_19_3]; decide) (by rw [c_19_3]; rfl) (by decide) ?_
      refine kr_aload_n (i := 0) hX dX7_doAct_137 rfl rfl ?_
      refine kr_getr (c0 := 7) (k := 0) hX ⟨_, kf_7_9⟩ dX7_doAct_138 rfl (by assumption) (by assumption) ?_
      refine kr_iload_n (i := 2) hX dX7_doAct_141 rfl rfl ?_
      refine kr_aload_n (i := 0) hX dX7_doAct_142 rfl rfl ?_
      refine kr_iload_n (i := 3) hX dX7_doAct_143 rfl rfl ?_
      refine kr_dV (c1 := 7) [_] hX km_7_86 dX7_doAct_144 (sp_val hp0) rfl rfl ⟨_, _, rfl⟩ (by decide) (Nat.le_of_ble_eq_true rfl) (Nat.le_refl _) (Nat.le_refl _) (by assumption) ?_
      refine kr_iast hX dX7_doAct_147 (by assumption) (by exact k_isv_in (by simp only [kt_f_0, Classical.not_not] at c_4; exact c_4)) ?_
      refine kr_goto (tgt := 209) hX dX7_doAct_148 (by decide) ?_
      refine kr_vret hX hr dX7_doAct_209 ⟨rfl, ?_⟩
      simp only [kt_f_0, Classical.not_not] at c_4
      refine ⟨rfl, ?_⟩
      unfold r_act
      first
      | rw [if_neg c_4]
      | (rw [if_pos c_4]; unfold r_act2; simp_all [r_in, k_min, k_max, -Int32.not_le, -Int32.not_lt]; done)
      | (rw [if_pos c_4]; unfold r_act2; simp_all [r_in, k_min, k_max, -Int32.not_le, -Int32.not_lt] <;> rfl)
    by_cases c_19_4 : a = 4
    · skip
      refine kr_tabIn (tgt := 151) (off := 132) hX dX7_doAct_19 (by rw [c_19_4]; decide) (by rw [c_19_4]; decide) (by rw [c_19_4]; rfl) (by decide) ?_
      refine kr_aload_n (i := 0) hX dX7_doAct_151 rfl rfl ?_
      refine kr_getr (c0 := 7) (k := 0) hX ⟨_, kf_7_9⟩ dX7_doAct_152 rfl (by assumption) (by assumption) ?_
      refine kr_iload_n (i := 2) hX dX7_doAct_155 rfl rfl ?_
      refine kr_aload_n (i := 0) hX dX7_doAct_156 rfl rfl ?_
      refine kr_geti (c0 := 7) (k := 7) hX ⟨_, kf_7_70⟩ dX7_doAct_157 rfl (by assumption) ?_
      refine kr_if_lt (tgt := 183) hX dX7_doAct_160 (by decide) (fun c_160 => ?_) (fun c_160 => ?_)
      · skip
        refine kr_bipush (v := 51) hX dX7_doAct_183 (by decide) ?_
        refine kr_iast hX dX7_doAct_185 (by assumption) (by exact k_isv_in (by simp only [kt_f_0, Classical.not_not] at c_4; exact c_4)) ?_
        refine kr_aload_n (i := 0) hX dX7_doAct_186 rfl rfl ?_
        refine kr_dup hX dX7_doAct_187 rfl ?_
        refine kr_geti (c0 := 7) (k := 7) hX ⟨_, kf_7_70⟩ dX7_doAct_188 rfl (by assumption) ?_
        refine kr_rw (y := kt_i (kt_si μ p 4 (kt_i μ p 4 + 1)) p 7) (by rw [kt_i_sin (by omega)]) ?_
        refine kr_iconst (v := 1) hX dX7_doAct_191 (by decide) ?_
        refine kr_iadd hX dX7_doAct_192 ?_
        refine kr_puti (c0 := 7) (k := 7) hX kf_7_70 dX7_doAct_193 rfl rfl rfl (by assumption) ?_
        refine kr_goto (tgt := 209) hX dX7_doAct_196 (by decide) ?_
        refine kr_vret hX hr dX7_doAct_209 ⟨rfl, ?_⟩
        simp only [kt_f_0, Classical.not_not] at c_4
        refine ⟨rfl, ?_⟩
        unfold r_act
        first
        | rw [if_neg c_4]
        | (rw [if_pos c_4]; unfold r_act2; simp_all [r_in, k_min, k_max, -Int32.not_le, -Int32.not_lt]; done)
        | (rw [if_pos c_4]; unfold r_act2; simp_all [r_in, k_min, k_max, -Int32.not_le, -Int32.not_lt] <;> rfl)
      · skip
        refine kr_aload_n (i := 0) hX dX7_doAct_163 rfl rfl ?_
        refine kr_geti (c0 := 7) (k := 7) hX ⟨_, kf_7_70⟩ dX7_doAct_164 rfl (by assumption) ?_
        refine kr_aload hX dX7_doAct_167 rfl ?_
        refine kr_alen (t := 0) (n := 8) (v := 8) hX dX7_doAct_169 (by assumption) (by decide) (by decide) ?_
        refine kr_icmp_ge (tgt := 183) hX dX7_doAct_170 (by decide) (fun c_170 => ?_) (fun c_170 => ?_)
        · skip
          refine kr_bipush (v := 51) hX dX7_doAct_183 (by decide) ?_
          refine kr_iast hX dX7_doAct_185 (by assumption) (by exact k_isv_in (by simp only [kt_f_0, Classical.not_not] at c_4; exact c_4)) ?_
          refine kr_aload_n (i := 0) hX dX7_doAct_186 rfl rfl ?_
          refine kr_dup hX dX7_doAct_187 rfl ?_
          refine kr_geti (c0 := 7) (k := 7) hX ⟨_, kf_7_70⟩ dX7_doAct_188 rfl (by assumption) ?_
          refine kr_rw (y := kt_i (kt_si μ p 4 (kt_i μ p 4 + 1)) p 7) (by rw [kt_i_sin (by omega)]) ?_
          refine kr_iconst (v := 1) hX dX7_doAct_191 (by decide) ?_
          refine kr_iadd hX dX7_doAct_192 ?_
          refine kr_puti (c0 := 7) (k := 7) hX kf_7_70 dX7_doAct_193 rfl rfl rfl (by assumption) ?_
          refine kr_goto (tgt := 209) hX dX7_doAct_196 (by decide) ?_
          refine kr_vret hX hr dX7_doAct_209 ⟨rfl, ?_⟩
          simp only [kt_f_0, Classical.not_not] at c_4
          refine ⟨rfl, ?_⟩
          unfold r_act
          first
          | rw [if_neg c_4]
          | (rw [if_pos c_4]; unfold r_act2; simp_all [r_in, k_min, k_max, -Int32.not_le, -Int32.not_lt]; done)
          | (rw [if_pos c_4]; unfold r_act2; simp_all [r_in, k_min, k_max, -Int32.not_le, -Int32.not_lt] <;> rfl)
        · skip
          refine kr_aload hX dX7_doAct_173 rfl ?_
          refine kr_aload_n (i := 0) hX dX7_doAct_175 rfl rfl ?_
          refine kr_geti (c0 := 7) (k := 7) hX ⟨_, kf_7_70⟩ dX7_doAct_176 rfl (by assumption) ?_
          refine kr_iald hX dX7_doAct_179 (by assumption) (by exact vp_in_iff.mpr (by have h5 := c_160; have h6 := c_170; simp only [Int32.le_iff_toInt_le, Int32.lt_iff_toInt_lt, ki_0, ki_8] at h5 h6 ⊢; omega)) ?_
          refine kr_goto (tgt := 185) hX dX7_doAct_180 (by decide) ?_
          refine kr_iast hX dX7_doAct_185 (by assumption) (by exact k_isv_in (by simp only [kt_f_0, Classical.not_not] at c_4; exact c_4)) ?_
          refine kr_aload_n (i := 0) hX dX7_doAct_186 rfl rfl ?_
          refine kr_dup hX dX7_doAct_187 rfl ?_
          refine kr_geti (c0 := 7) (k := 7) hX ⟨_, kf_7_70⟩ dX7_doAct_188 rfl (by assumption) ?_
          refine kr_rw (y := kt_i (kt_si μ p 4 (kt_i μ p 4 + 1)) p 7) (by rw [kt_i_sin (by omega)]) ?_
          refine kr_iconst (v := 1) hX dX7_doAct_191 (by decide) ?_
          refine kr_iadd hX dX7_doAct_192 ?_
          refine kr_puti (c0 := 7) (k := 7) hX kf_7_70 dX7_doAct_193 rfl rfl rfl (by assumption) ?_
          refine kr_goto (tgt := 209) hX dX7_doAct_196 (by decide) ?_
          refine kr_vret hX hr dX7_doAct_209 ⟨rfl, ?_⟩
          simp only [kt_f_0, Classical.not_not] at c_4
          refine ⟨rfl, ?_⟩
          unfold r_act
          first
          | rw [if_neg c_4]
          | (rw [if_pos c_4]; unfold r_act2; simp_all [r_in, k_min, k_max, -Int32.not_le, -Int32.not_lt]; done)
          | (rw [if_pos c_4]; unfold r_act2; simp_all [r_in, k_min, k_max, -Int32.not_le, -Int32.not_lt] <;> rfl)
    refine kr_tabOut (tgt := 199) hX dX7_doAct_19 (by have q_0 := kt_ne c_19_0 (z := 0) (by decide); have q_1 := kt_ne c_19_1 (z := 1) (by decide); have q_2 := kt_ne c_19_2 (z := 2) (by decide); have q_3 := kt_ne c_19_3 (z := 3) (by decide); have q_4 := kt_ne c_19_4 (z := 4) (by decide); omega) (by decide) ?_
    refine kr_aload_n (i := 0) hX dX7_doAct_199 rfl rfl ?_
    refine kr_aload_n (i := 0) hX dX7_doAct_200 rfl rfl ?_
    refine kr_getr (c0 := 7) (k := 0) hX ⟨_, kf_7_9⟩ dX7_doAct_201 rfl (by assumption) (by assumption) ?_
    refine kr_iload_n (i := 2) hX dX7_doAct_204 rfl rfl ?_
    refine kr_iald hX dX7_doAct_205 (by assumption) (by exact k_isv_in (by simp only [kt_f_0, Classical.not_not] at c_4; exact c_4)) ?_
    refine kr_dV (c1 := 7) [_] hX km_7_90 dX7_doAct_206 (sp_out hp0) rfl rfl ⟨_, _, rfl⟩ (by decide) (Nat.le_of_ble_eq_true rfl) (Nat.le_refl _) (Nat.le_refl _) (by assumption) ?_
    refine kr_vret hX hr dX7_doAct_209 ⟨rfl, ?_⟩
    simp only [kt_f_0, Classical.not_not] at c_4
    refine ⟨rfl, ?_⟩
    unfold r_act
    first
    | rw [if_neg c_4]
    | (rw [if_pos c_4]; unfold r_act2; simp_all [r_in, k_min, k_max, -Int32.not_le, -Int32.not_lt]; done)
    | (rw [if_pos c_4]; unfold r_act2; simp_all [r_in, k_min, k_max, -Int32.not_le, -Int32.not_lt] <;> rfl)
  · skip
    refine kr_vret hX hr dX7_doAct_7 ⟨rfl, ?_⟩
    simp only [kt_f_0, Classical.not_not] at c_4
    refine ⟨rfl, ?_⟩
    unfold r_act
    first
    | rw [if_neg c_4]
    | (rw [if_pos c_4]; unfold r_act2; simp_all [r_in, k_min, k_max, -Int32.not_le, -Int32.not_lt]; done)
    | (rw [if_pos c_4]; unfold r_act2; simp_all [r_in, k_min, k_max, -Int32.not_le, -Int32.not_lt] <;> rfl)


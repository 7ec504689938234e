/-! KnownTurns$Reader: tape at p + 1; length 1, fault 2, place 3, token 4, start 5, next 6 -/
def kt_rd (σ : kt_Y) (p : Nat) : Prop := kt_k σ p = some (0, 6) ∧ kt_r σ p 0 = some (p + 1) ∧ kt_k σ (p + 1) = some (1, 200)
abbrev k_byc (μ : kt_M) (p : Nat) (x : Int32) : Prop := 0 ≤ x ∧ x < kt_i μ p 1 ∧ x < 200
def k_by (μ : kt_M) (p : Nat) (x : Int32) : Int32 := if k_byc μ p x then kt_i μ (p + 1) x.toNatClampNeg else 0
theorem k_by_nI {μ : kt_M} {p L j : Nat} (hL : kt_i μ p 1 = nI L) (hL2 : L ≤ 200) (h : j < L) : k_by μ p (nI j) = kt_i μ (p + 1) j := by
  unfold k_by
  rw [if_pos ⟨nI_pos' (by omega), by rw [hL]; exact nI_lt h (by omega), nI_lt (b := 200) (by omega) (by decide)⟩, nI_clamp (by omega)]
def k_sort (c : Int32) : Int32 := if ¬ c < 97 ∧ ¬ 122 < c then 1 else if ¬ c < 48 ∧ ¬ 57 < c then 2 else if c = 59 ∨ c = 60 ∨ c = 61 then 3 else 4
def m_fail (μ : kt_M) (p : Nat) (f : Int32) : kt_M := kt_si (kt_si μ p 2 f) p 3 (kt_i μ p 5)
abbrev k_sign (μ : kt_M) (p : Nat) (c : Int32) : Prop := kt_i μ p 4 = 3 ∧ k_by μ p (kt_i μ p 5) = c
def k_wdL (μ : kt_M) (p i : Nat) : Nat → Nat → Bool
  | 0, _ => true
  | n + 1, j => decide (k_by μ p (kt_i μ p 5 + nI j) = kt_ch i j) && k_wdL μ p i n (j + 1)
abbrev k_word (μ : kt_M) (p i : Nat) : Prop := kt_i μ p 4 = 1 ∧ kt_i μ p 6 - kt_i μ p 5 = nI (kt_ln i) ∧ k_wdL μ p i (kt_ln i) 0 = true
def k_numL (μ : kt_M) (p : Nat) : Nat → Nat → Int32 → Int32
  | 0, _, v => v
  | n + 1, j, v => k_numL μ p n (j + 1) (10 * v + k_by μ p (nI j) - 48)
theorem k_wdL_t {μ : kt_M} {p i n j : Nat} (h : k_by μ p (kt_i μ p 5 + nI j) = kt_ch i j) : k_wdL μ p i (n + 1) j = k_wdL μ p i n (j + 1) := by
  rw [show k_wdL μ p i (n + 1) j = (decide (k_by μ p (kt_i μ p 5 + nI j) = kt_ch i j) && k_wdL μ p i n (j + 1)) from rfl, decide_eq_true h]; rfl
theorem k_wdL_f {μ : kt_M} {p i n j : Nat} (h : ¬ k_by μ p (kt_i μ p 5 + nI j) = kt_ch i j) : k_wdL μ p i (n + 1) j = false := by
  rw [show k_wdL μ p i (n + 1) j = (decide (k_by μ p (kt_i μ p 5 + nI j) = kt_ch i j) && k_wdL μ p i n (j + 1)) from rfl, decide_eq_false h]; rfl
set_option maxHeartbeats 4000000 in
set_option maxRecDepth 100000 in
theorem sp_fail {G : kt_G} {σ : kt_Y} {μ : kt_M} {p : Nat} (hp : kt_rd σ p) {f : Int32} : kt_F G yX6_fail cX6_fail 2 (some .boolean) 0 [.ref p, .int f] σ μ (fun r μ2 => r = some (.int 0) ∧ μ2 = m_fail μ p f) := by
  refine kt_F.of (by decide) (Nat.le_of_ble_eq_true rfl) (fun X hX hr => ?_)
  have hp0 := hp
  obtain ⟨hk0, hr0, hk1⟩ := hp
  refine kr_aload_n (i := 0) hX dX6_fail_0 rfl rfl ?_
  refine kr_iload_n (i := 1) hX dX6_fail_1 rfl rfl ?_
  refine kr_puti (c0 := 6) (k := 2) hX kf_6_19 dX6_fail_2 rfl rfl rfl (by assumption) ?_
  refine kr_aload_n (i := 0) hX dX6_fail_5 rfl rfl ?_
  refine kr_aload_n (i := 0) hX dX6_fail_6 rfl rfl ?_
  refine kr_geti (c0 := 6) (k := 5) hX ⟨_, kf_6_28⟩ dX6_fail_7 rfl (by assumption) ?_
  refine kr_rw (y := kt_i μ p 5) (by exact kt_i_sik (by decide)) ?_
  refine kr_puti (c0 := 6) (k := 3) hX kf_6_22 dX6_fail_10 rfl rfl rfl (by assumption) ?_
  refine kr_iconst (v := 0) hX dX6_fail_13 (by decide) ?_
  refine kr_zret hX hr (by first | exact Or.inl rfl | exact Or.inr rfl | assumption) dX6_fail_14 ⟨rfl, ?_⟩
  exact ⟨rfl, rfl⟩

set_option maxHeartbeats 4000000 in
set_option maxRecDepth 100000 in
theorem sp_append {G : kt_G} {σ : kt_Y} {μ : kt_M} {p : Nat} (hp : kt_rd σ p) {c : Int32} : kt_F G yX6_append cX6_append 2 (some .boolean) 0 [.ref p, .int c] σ μ (fun r μ2 => r = some (.int (kt_f (¬ kt_i μ p 1 < 0 ∧ kt_i μ p 1 < 200))) ∧ μ2 = if ¬ kt_i μ p 1 < 0 ∧ kt_i μ p 1 < 200 then kt_si (kt_si μ (p + 1) (kt_i μ p 1).toNatClampNeg c) p 1 (kt_i μ p 1 + 1) else μ) := by
  refine kt_F.of (by decide) (Nat.le_of_ble_eq_true rfl) (fun X hX hr => ?_)
  have hp0 := hp
  obtain ⟨hk0, hr0, hk1⟩ := hp
  refine kr_aload_n (i := 0) hX dX6_append_0 rfl rfl ?_
  refine kr_geti (c0 := 6) (k := 1) hX ⟨_, kf_6_15⟩ dX6_append_1 rfl (by assumption) ?_
  refine kr_if_lt (tgt := 17) hX dX6_append_4 (by decide) (fun c_4 => ?_) (fun c_4 => ?_)
  · skip
    refine kr_iconst (v := 0) hX dX6_append_17 (by decide) ?_
    refine kr_zret hX hr (by first | exact Or.inl rfl | exact Or.inr rfl | assumption) dX6_append_18 ⟨rfl, ?_⟩
    by_cases hh : ¬ kt_i μ p 1 < 0 ∧ kt_i μ p 1 < 200
    · rw [kt_f_t hh, if_pos hh]
      first
      | exact ⟨rfl, rfl⟩
      | exact absurd hh.2 c_14
      | exact absurd c_4 hh.1
    · rw [kt_f_f hh, if_neg hh]
      first
      | exact ⟨rfl, rfl⟩
      | exact absurd ⟨by assumption, by assumption⟩ hh
  · skip
    refine kr_aload_n (i := 0) hX dX6_append_7 rfl rfl ?_
    refine kr_geti (c0 := 6) (k := 1) hX ⟨_, kf_6_15⟩ dX6_append_8 rfl (by assumption) ?_
    refine kr_sipush (v := 200) hX dX6_append_11 (by decide) ?_
    refine kr_icmp_lt (tgt := 19) hX dX6_append_14 (by decide) (fun c_14 => ?_) (fun c_14 => ?_)
    · skip
      refine kr_aload_n (i := 0) hX dX6_append_19 rfl rfl ?_
      refine kr_getr (c0 := 6) (k := 0) hX ⟨_, kf_6_11⟩ dX6_append_20 rfl (by assumption) (by assumption) ?_
      refine kr_aload_n (i := 0) hX dX6_append_23 rfl rfl ?_
      refine kr_geti (c0 := 6) (k := 1) hX ⟨_, kf_6_15⟩ dX6_append_24 rfl (by assumption) ?_
      refine kr_iload_n (i := 1) hX dX6_append_27 rfl rfl ?_
      refine kr_iast hX dX6_append_28 (by assumption) (by exact vp_in_iff.mpr (by have h5 := c_4; have h6 := c_14; simp only [Int32.le_iff_toInt_le, Int32.lt_iff_toInt_lt, ki_0, ki_200] at h5 h6 ⊢; omega)) ?_
      refine kr_aload_n (i := 0) hX dX6_append_29 rfl rfl ?_
      refine kr_dup hX dX6_append_30 rfl ?_
      refine kr_geti (c0 := 6) (k := 1) hX ⟨_, kf_6_15⟩ dX6_append_31 rfl (by assumption) ?_
      refine kr_rw (y := kt_i μ p 1) (by exact kt_i_sin (by omega)) ?_
      refine kr_iconst (v := 1) hX dX6_append_34 (by decide) ?_
      refine kr_iadd hX dX6_append_35 ?_
      refine kr_puti (c0 := 6) (k := 1) hX kf_6_15 dX6_append_36 rfl rfl rfl (by assumption) ?_
      refine kr_iconst (v := 1) hX dX6_append_39 (by decide) ?_
      refine kr_zret hX hr (by first | exact Or.inl rfl | exact Or.inr rfl | assumption) dX6_append_40 ⟨rfl, ?_⟩
      by_cases hh : ¬ kt_i μ p 1 < 0 ∧ kt_i μ p 1 < 200
      · rw [kt_f_t hh, if_pos hh]
        first
        | exact ⟨rfl, rfl⟩
        | exact absurd hh.2 c_14
        | exact absurd c_4 hh.1
      · rw [kt_f_f hh, if_neg hh]
        first
        | exact ⟨rfl, rfl⟩
        | exact absurd ⟨by assumption, by assumption⟩ hh
    · skip
      refine kr_iconst (v := 0) hX dX6_append_17 (by decide) ?_
      refine kr_zret hX hr (by first | exact Or.inl rfl | exact Or.inr rfl | assumption) dX6_append_18 ⟨rfl, ?_⟩
      by_cases hh : ¬ kt_i μ p 1 < 0 ∧ kt_i μ p 1 < 200
      · rw [kt_f_t hh, if_pos hh]
        first
        | exact ⟨rfl, rfl⟩
        | exact absurd hh.2 c_14
        | exact absurd c_4 hh.1
      · rw [kt_f_f hh, if_neg hh]
        first
        | exact ⟨rfl, rfl⟩
        | exact absurd ⟨by assumption, by assumption⟩ hh

set_option maxHeartbeats 4000000 in
set_option maxRecDepth 100000 in
theorem sp_byte {G : kt_G} {σ : kt_Y} {μ : kt_M} {p : Nat} (hp : kt_rd σ p) {x : Int32} : kt_F G yX6_byteAt cX6_byteAt 2 (some .int) 0 [.ref p, .int x] σ μ (fun r μ2 => r = some (.int (k_by μ p x)) ∧ μ2 = μ) := by
  refine kt_F.of (by decide) (Nat.le_of_ble_eq_true rfl) (fun X hX hr => ?_)
  have hp0 := hp
  obtain ⟨hk0, hr0, hk1⟩ := hp
  refine kr_iload_n (i := 1) hX dX6_byteAt_0 rfl rfl ?_
  refine kr_if_lt (tgt := 28) hX dX6_byteAt_1 (by decide) (fun c_1 => ?_) (fun c_1 => ?_)
  · skip
    refine kr_iconst (v := 0) hX dX6_byteAt_28 (by decide) ?_
    refine kr_iret hX hr dX6_byteAt_29 ⟨rfl, ?_⟩
    refine ⟨?_, rfl⟩
    unfold k_by
    by_cases hh : k_byc μ p x
    · first
      | (rw [if_pos hh]; done)
      | exact absurd hh.2.2 (Int32.not_lt.mpr c_16)
      | exact absurd hh.2.1 (Int32.not_lt.mpr c_9)
      | exact absurd hh.1 (Int32.not_le.mpr c_1)
    · first
      | (rw [if_neg hh]; done)
      | exact absurd ⟨Int32.not_lt.mp (by assumption), Int32.not_le.mp (by assumption), Int32.not_le.mp (by assumption)⟩ hh
  · skip
    refine kr_iload_n (i := 1) hX dX6_byteAt_4 rfl rfl ?_
    refine kr_aload_n (i := 0) hX dX6_byteAt_5 rfl rfl ?_
    refine kr_geti (c0 := 6) (k := 1) hX ⟨_, kf_6_15⟩ dX6_byteAt_6 rfl (by assumption) ?_
    refine kr_icmp_ge (tgt := 28) hX dX6_byteAt_9 (by decide) (fun c_9 => ?_) (fun c_9 => ?_)
    · skip
      refine kr_iconst (v := 0) hX dX6_byteAt_28 (by decide) ?_
      refine kr_iret hX hr dX6_byteAt_29 ⟨rfl, ?_⟩
      refine ⟨?_, rfl⟩
      unfold k_by
      by_cases hh : k_byc μ p x
      · first
        | (rw [if_pos hh]; done)
        | exact absurd hh.2.2 (Int32.not_lt.mpr c_16)
        | exact absurd hh.2.1 (Int32.not_lt.mpr c_9)
        | exact absurd hh.1 (Int32.not_le.mpr c_1)
      · first
        | (rw [if_neg hh]; done)
        | exact absurd ⟨Int32.not_lt.mp (by assumption), Int32.not_le.mp (by assumption), Int32.not_le.mp (by assumption)⟩ hh
    · skip
      refine kr_iload_n (i := 1) hX dX6_byteAt_12 rfl rfl ?_
      refine kr_sipush (v := 200) hX dX6_byteAt_13 (by decide) ?_
      refine kr_icmp_ge (tgt := 28) hX dX6_byteAt_16 (by decide) (fun c_16 => ?_) (fun c_16 => ?_)
      · skip
        refine kr_iconst (v := 0) hX dX6_byteAt_28 (by decide) ?_
        refine kr_iret hX hr dX6_byteAt_29 ⟨rfl, ?_⟩
        refine ⟨?_, rfl⟩
        unfold k_by
        by_cases hh : k_byc μ p x
        · first
          | (rw [if_pos hh]; done)
          | exact absurd hh.2.2 (Int32.not_lt.mpr c_16)
          | exact absurd hh.2.1 (Int32.not_lt.mpr c_9)
          | exact absurd hh.1 (Int32.not_le.mpr c_1)
        · first
          | (rw [if_neg hh]; done)
          | exact absurd ⟨Int32.not_lt.mp (by assumption), Int32.not_le.mp (by assumption), Int32.not_le.mp (by assumption)⟩ hh
      · skip
        refine kr_aload_n (i := 0) hX dX6_byteAt_19 rfl rfl ?_
        refine kr_getr (c0 := 6) (k := 0) hX ⟨_, kf_6_11⟩ dX6_byteAt_20 rfl (by assumption) (by assumption) ?_
        refine kr_iload_n (i := 1) hX dX6_byteAt_23 rfl rfl ?_
        refine kr_iald hX dX6_byteAt_24 (by assumption) (by exact vp_in_iff.mpr (by have h5 := c_1; have h6 := c_16; simp only [Int32.le_iff_toInt_le, Int32.lt_iff_toInt_lt, ki_0, ki_200] at h5 h6 ⊢; omega)) ?_
        refine kr_goto (tgt := 29) hX dX6_byteAt_25 (by decide) ?_
        refine kr_iret hX hr dX6_byteAt_29 ⟨rfl, ?_⟩
        refine ⟨?_, rfl⟩
        unfold k_by
        by_cases hh : k_byc μ p x
        · first
          | (rw [if_pos hh]; done)
          | exact absurd hh.2.2 (Int32.not_lt.mpr c_16)
          | exact absurd hh.2.1 (Int32.not_lt.mpr c_9)
          | exact absurd hh.1 (Int32.not_le.mpr c_1)
        · first
          | (rw [if_neg hh]; done)
          | exact absurd ⟨Int32.not_lt.mp (by assumption), Int32.not_le.mp (by assumption), Int32.not_le.mp (by assumption)⟩ hh

set_option maxHeartbeats 4000000 in
set_option maxRecDepth 100000 in
theorem sp_sort {G : kt_G} {σ : kt_Y} {μ : kt_M} {c : Int32} : kt_F G yX6_sortOf cX6_sortOf 1 (some .int) 0 [.int c] σ μ (fun r μ2 => r = some (.int (k_sort c)) ∧ μ2 = μ) := by
  refine kt_F.of (by decide) (Nat.le_of_ble_eq_true rfl) (fun X hX hr => ?_)
  refine kr_iload_n (i := 0) hX dX6_sortOf_0 rfl rfl ?_
  refine kr_bipush (v := 97) hX dX6_sortOf_1 (by decide) ?_
  refine kr_icmp_lt (tgt := 14) hX dX6_sortOf_3 (by decide) (fun c_3 => ?_) (fun c_3 => ?_)
  · skip
    refine kr_iload_n (i := 0) hX dX6_sortOf_14 rfl rfl ?_
    refine kr_bipush (v := 48) hX dX6_sortOf_15 (by decide) ?_
    refine kr_icmp_lt (tgt := 28) hX dX6_sortOf_17 (by decide) (fun c_17 => ?_) (fun c_17 => ?_)
    · skip
      refine kr_iload_n (i := 0) hX dX6_sortOf_28 rfl rfl ?_
      refine kr_bipush (v := 59) hX dX6_sortOf_29 (by decide) ?_
      refine kr_icmp_eq (tgt := 46) hX dX6_sortOf_31 (by decide) (fun c_31 => ?_) (fun c_31 => ?_)
      · skip
        refine kr_iconst (v := 3) hX dX6_sortOf_46 (by decide) ?_
        refine kr_goto (tgt := 51) hX dX6_sortOf_47 (by decide) ?_
        refine kr_iret hX hr dX6_sortOf_51 ⟨rfl, ?_⟩
        refine ⟨?_, rfl⟩
        simp_all [k_sort, -Int32.not_le, -Int32.not_lt]
      · skip
        refine kr_iload_n (i := 0) hX dX6_sortOf_34 rfl rfl ?_
        refine kr_bipush (v := 60) hX dX6_sortOf_35 (by decide) ?_
        refine kr_icmp_eq (tgt := 46) hX dX6_sortOf_37 (by decide) (fun c_37 => ?_) (fun c_37 => ?_)
        · skip
          refine kr_iconst (v := 3) hX dX6_sortOf_46 (by decide) ?_
          refine kr_goto (tgt := 51) hX dX6_sortOf_47 (by decide) ?_
          refine kr_iret hX hr dX6_sortOf_51 ⟨rfl, ?_⟩
          refine ⟨?_, rfl⟩
          simp_all [k_sort, -Int32.not_le, -Int32.not_lt]
        · skip
          refine kr_iload_n (i := 0) hX dX6_sortOf_40 rfl rfl ?_
          refine kr_bipush (v := 61) hX dX6_sortOf_41 (by decide) ?_
          refine kr_icmp_ne (tgt := 50) hX dX6_sortOf_43 (by decide) (fun c_43 => ?_) (fun c_43 => ?_)
          · skip
            refine kr_iconst (v := 4) hX dX6_sortOf_50 (by decide) ?_
            refine kr_iret hX hr dX6_sortOf_51 ⟨rfl, ?_⟩
            refine ⟨?_, rfl⟩
            simp_all [k_sort, -Int32.not_le, -Int32.not_lt]
          · skip
            refine kr_iconst (v := 3) hX dX6_sortOf_46 (by decide) ?_
            refine kr_goto (tgt := 51) hX dX6_sortOf_47 (by decide) ?_
            refine kr_iret hX hr dX6_sortOf_51 ⟨rfl, ?_⟩
            refine ⟨?_, rfl⟩
            simp_all [k_sort, -Int32.not_le, -Int32.not_lt]
    · skip
      refine kr_iload_n (i := 0) hX dX6_sortOf_20 rfl rfl ?_
      refine kr_bipush (v := 57) hX dX6_sortOf_21 (by decide) ?_
      refine kr_icmp_gt (tgt := 28) hX dX6_sortOf_23 (by decide) (fun c_23 => ?_) (fun c_23 => ?_)
      · skip
        refine kr_iload_n (i := 0) hX dX6_sortOf_28 rfl rfl ?_
        refine kr_bipush (v := 59) hX dX6_sortOf_29 (by decide) ?_
        refine kr_icmp_eq (tgt := 46) hX dX6_sortOf_31 (by decide) (fun c_31 => ?_) (fun c_31 => ?_)
        · skip
          refine kr_iconst (v := 3) hX dX6_sortOf_46 (by decide) ?_
          refine kr_goto (tgt := 51) hX dX6_sortOf_47 (by decide) ?_
          refine kr_iret hX hr dX6_sortOf_51 ⟨rfl, ?_⟩
          refine ⟨?_, rfl⟩
          simp_all [k_sort, -Int32.not_le, -Int32.not_lt]
        · skip
          refine kr_iload_n (i := 0) hX dX6_sortOf_34 rfl rfl ?_
          refine kr_bipush (v := 60) hX dX6_sortOf_35 (by decide) ?_
          refine kr_icmp_eq (tgt := 46) hX dX6_sortOf_37 (by decide) (fun c_37 => ?_) (fun c_37 => ?_)
          · skip
            refine kr_iconst (v := 3) hX dX6_sortOf_46 (by decide) ?_
            refine kr_goto (tgt := 51) hX dX6_sortOf_47 (by decide) ?_
            refine kr_iret hX hr dX6_sortOf_51 ⟨rfl, ?_⟩
            refine ⟨?_, rfl⟩
            simp_all [k_sort, -Int32.not_le, -Int32.not_lt]
          · skip
            refine kr_iload_n (i := 0) hX dX6_sortOf_40 rfl rfl ?_
            refine kr_bipush (v := 61) hX dX6_sortOf_41 (by decide) ?_
            refine kr_icmp_ne (tgt := 50) hX dX6_sortOf_43 (by decide) (fun c_43 => ?_) (fun c_43 => ?_)
            · skip
              refine kr_iconst (v := 4) hX dX6_sortOf_50 (by decide) ?_
              refine kr_iret hX hr dX6_sortOf_51 ⟨rfl, ?_⟩
              refine ⟨?_, rfl⟩
              simp_all [k_sort, -Int32.not_le, -Int32.not_lt]
            · skip
              refine kr_iconst (v := 3) hX dX6_sortOf_46 (by decide) ?_
              refine kr_goto (tgt := 51) hX dX6_sortOf_47 (by decide) ?_
              refine kr_iret hX hr dX6_sortOf_51 ⟨rfl, ?_⟩
              refine ⟨?_, rfl⟩
              simp_all [k_sort, -Int32.not_le, -Int32.not_lt]
      · skip
        refine kr_iconst (v := 2) hX dX6_sortOf_26 (by decide) ?_
        refine kr_iret hX hr dX6_sortOf_27 ⟨rfl, ?_⟩
        refine ⟨?_, rfl⟩
        simp_all [k_sort, -Int32.not_le, -Int32.not_lt]
  · skip
    refine kr_iload_n (i := 0) hX dX6_sortOf_6 rfl rfl ?_
    refine kr_bipush (v := 122) hX dX6_sortOf_7 (by decide) ?_
    refine kr_icmp_gt (tgt := 14) hX dX6_sortOf_9 (by decide) (fun c_9 => ?_) (fun c_9 => ?_)
    · skip
      refine kr_iload_n (i := 0) hX dX6_sortOf_14 rfl rfl ?_
      refine kr_bipush (v := 48) hX dX6_sortOf_15 (by decide) ?_
      refine kr_icmp_lt (tgt := 28) hX dX6_sortOf_17 (by decide) (fun c_17 => ?_) (fun c_17 => ?_)
      · skip
        refine kr_iload_n (i := 0) hX dX6_sortOf_28 rfl rfl ?_
        refine kr_bipush (v := 59) hX dX6_sortOf_29 (by decide) ?_
        refine kr_icmp_eq (tgt := 46) hX dX6_sortOf_31 (by decide) (fun c_31 => ?_) (fun c_31 => ?_)
        · skip
          refine kr_iconst (v := 3) hX dX6_sortOf_46 (by decide) ?_
          refine kr_goto (tgt := 51) hX dX6_sortOf_47 (by decide) ?_
          refine kr_iret hX hr dX6_sortOf_51 ⟨rfl, ?_⟩
          refine ⟨?_, rfl⟩
          simp_all [k_sort, -Int32.not_le, -Int32.not_lt]
        · skip
          refine kr_iload_n (i := 0) hX dX6_sortOf_34 rfl rfl ?_
          refine kr_bipush (v := 60) hX dX6_sortOf_35 (by decide) ?_
          refine kr_icmp_eq (tgt := 46) hX dX6_sortOf_37 (by decide) (fun c_37 => ?_) (fun c_37 => ?_)
          · skip
            refine kr_iconst (v := 3) hX dX6_sortOf_46 (by decide) ?_
            refine kr_goto (tgt := 51) hX dX6_sortOf_47 (by decide) ?_
            refine kr_iret hX hr dX6_sortOf_51 ⟨rfl, ?_⟩
            refine ⟨?_, rfl⟩
            simp_all [k_sort, -Int32.not_le, -Int32.not_lt]
          · skip
            refine kr_iload_n (i := 0) hX dX6_sortOf_40 rfl rfl ?_
            refine kr_bipush (v := 61) hX dX6_sortOf_41 (by decide) ?_
            refine kr_icmp_ne (tgt := 50) hX dX6_sortOf_43 (by decide) (fun c_43 => ?_) (fun c_43 => ?_)
            · skip
              refine kr_iconst (v := 4) hX dX6_sortOf_50 (by decide) ?_
              refine kr_iret hX hr dX6_sortOf_51 ⟨rfl, ?_⟩
              refine ⟨?_, rfl⟩
              simp_all [k_sort, -Int32.not_le, -Int32.not_lt]
            · skip
              refine kr_iconst (v := 3) hX dX6_sortOf_46 (by decide) ?_
              refine kr_goto (tgt := 51) hX dX6_sortOf_47 (by decide) ?_
              refine kr_iret hX hr dX6_sortOf_51 ⟨rfl, ?_⟩
              refine ⟨?_, rfl⟩
              simp_all [k_sort, -Int32.not_le, -Int32.not_lt]
      · skip
        refine kr_iload_n (i := 0) hX dX6_sortOf_20 rfl rfl ?_
        refine kr_bipush (v := 57) hX dX6_sortOf_21 (by decide) ?_
        refine kr_icmp_gt (tgt := 28) hX dX6_sortOf_23 (by decide) (fun c_23 => ?_) (fun c_23 => ?_)
        · skip
          refine kr_iload_n (i := 0) hX dX6_sortOf_28 rfl rfl ?_
          refine kr_bipush (v := 59) hX dX6_sortOf_29 (by decide) ?_
          refine kr_icmp_eq (tgt := 46) hX dX6_sortOf_31 (by decide) (fun c_31 => ?_) (fun c_31 => ?_)
          · skip
            refine kr_iconst (v := 3) hX dX6_sortOf_46 (by decide) ?_
            refine kr_goto (tgt := 51) hX dX6_sortOf_47 (by decide) ?_
            refine kr_iret hX hr dX6_sortOf_51 ⟨rfl, ?_⟩
            refine ⟨?_, rfl⟩
            simp_all [k_sort, -Int32.not_le, -Int32.not_lt]
          · skip
            refine kr_iload_n (i := 0) hX dX6_sortOf_34 rfl rfl ?_
            refine kr_bipush (v := 60) hX dX6_sortOf_35 (by decide) ?_
            refine kr_icmp_eq (tgt := 46) hX dX6_sortOf_37 (by decide) (fun c_37 => ?_) (fun c_37 => ?_)
            · skip
              refine kr_iconst (v := 3) hX dX6_sortOf_46 (by decide) ?_
              refine kr_goto (tgt := 51) hX dX6_sortOf_47 (by decide) ?_
              refine kr_iret hX hr dX6_sortOf_51 ⟨rfl, ?_⟩
              refine ⟨?_, rfl⟩
              simp_all [k_sort, -Int32.not_le, -Int32.not_lt]
            · skip
              refine kr_iload_n (i := 0) hX dX6_sortOf_40 rfl rfl ?_
              refine kr_bipush (v := 61) hX dX6_sortOf_41 (by decide) ?_
              refine kr_icmp_ne (tgt := 50) hX dX6_sortOf_43 (by decide) (fun c_43 => ?_) (fun c_43 => ?_)
              · skip
                refine kr_iconst (v := 4) hX dX6_sortOf_50 (by decide) ?_
                refine kr_iret hX hr dX6_sortOf_51 ⟨rfl, ?_⟩
                refine ⟨?_, rfl⟩
                simp_all [k_sort, -Int32.not_le, -Int32.not_lt]
              · skip
                refine kr_iconst (v := 3) hX dX6_sortOf_46 (by decide) ?_
                refine kr_goto (tgt := 51) hX dX6_sortOf_47 (by decide) ?_
                refine kr_iret hX hr dX6_sortOf_51 ⟨rfl, ?_⟩
                refine ⟨?_, rfl⟩
                simp_all [k_sort, -Int32.not_le, -Int32.not_lt]
        · skip
          refine kr_iconst (v := 2) hX dX6_sortOf_26 (by decide) ?_
          refine kr_iret hX hr dX6_sortOf_27 ⟨rfl, ?_⟩
          refine ⟨?_, rfl⟩
          simp_all [k_sort, -Int32.not_le, -Int32.not_lt]
    · skip
      refine kr_iconst (v := 1) hX dX6_sortOf_12 (by decide) ?_
      refine kr_iret hX hr dX6_sortOf_13 ⟨rfl, ?_⟩
      refine ⟨?_, rfl⟩
      simp_all [k_sort, -Int32.not_le, -Int32.not_lt]

set_option maxHeartbeats 4000000 in
set_option maxRecDepth 100000 in
theorem sp_sign {G : kt_G} {σ : kt_Y} {μ : kt_M} {p : Nat} (hp : kt_rd σ p) {c : Int32} : kt_F G yX6_isSign cX6_isSign 2 (some .boolean) 1 [.ref p, .int c] σ μ (fun r μ2 => r = some (.int (kt_f (k_sign μ p c))) ∧ μ2 = μ) := by
  refine kt_F.of (by decide) (Nat.le_of_ble_eq_true rfl) (fun X hX hr => ?_)
  have hp0 := hp
  obtain ⟨hk0, hr0, hk1⟩ := hp
  refine kr_aload_n (i := 0) hX dX6_isSign_0 rfl rfl ?_
  refine kr_geti (c0 := 6) (k := 4) hX ⟨_, kf_6_25⟩ dX6_isSign_1 rfl (by assumption) ?_
  refine kr_iconst (v := 3) hX dX6_isSign_4 (by decide) ?_
  refine kr_icmp_ne (tgt := 24) hX dX6_isSign_5 (by decide) (fun c_5 => ?_) (fun c_5 => ?_)
  · skip
    refine kr_iconst (v := 0) hX dX6_isSign_24 (by decide) ?_
    refine kr_zret hX hr (by first | exact Or.inl rfl | exact Or.inr rfl | assumption) dX6_isSign_25 ⟨rfl, ?_⟩
    first
    | exact ⟨kt_ft ⟨by assumption, by assumption⟩, rfl⟩
    | exact ⟨kt_ff (fun h => absurd h.2 (by assumption)), rfl⟩
    | exact ⟨kt_ff (fun h => absurd h.1 (by assumption)), rfl⟩
  · skip
    refine kr_aload_n (i := 0) hX dX6_isSign_8 rfl rfl ?_
    refine kr_aload_n (i := 0) hX dX6_isSign_9 rfl rfl ?_
    refine kr_geti (c0 := 6) (k := 5) hX ⟨_, kf_6_28⟩ dX6_isSign_10 rfl (by assumption) ?_
    refine kr_dV (c1 := 6) [_] hX km_6_134 dX6_isSign_13 (sp_byte hp0) rfl rfl ⟨_, _, rfl⟩ (by decide) (Nat.le_of_ble_eq_true rfl) (Nat.le_refl _) (Nat.le_refl _) (by assumption) ?_
    refine kr_iload_n (i := 1) hX dX6_isSign_16 rfl rfl ?_
    refine kr_icmp_ne (tgt := 24) hX dX6_isSign_17 (by decide) (fun c_17 => ?_) (fun c_17 => ?_)
    · skip
      refine kr_iconst (v := 0) hX dX6_isSign_24 (by decide) ?_
      refine kr_zret hX hr (by first | exact Or.inl rfl | exact Or.inr rfl | assumption) dX6_isSign_25 ⟨rfl, ?_⟩
      first
      | exact ⟨kt_ft ⟨by assumption, by assumption⟩, rfl⟩
      | exact ⟨kt_ff (fun h => absurd h.2 (by assumption)), rfl⟩
      | exact ⟨kt_ff (fun h => absurd h.1 (by assumption)), rfl⟩
    · skip
      refine kr_iconst (v := 1) hX dX6_isSign_20 (by decide) ?_
      refine kr_goto (tgt := 25) hX dX6_isSign_21 (by decide) ?_
      refine kr_zret hX hr (by first | exact Or.inl rfl | exact Or.inr rfl | assumption) dX6_isSign_25 ⟨rfl, ?_⟩
      first
      | exact ⟨kt_ft ⟨by assumption, by assumption⟩, rfl⟩
      | exact ⟨kt_ff (fun h => absurd h.2 (by assumption)), rfl⟩
      | exact ⟨kt_ff (fun h => absurd h.1 (by assumption)), rfl⟩

set_option maxHeartbeats 4000000 in
set_option maxRecDepth 100000 in
theorem lp_word {G : kt_G} {σ : kt_Y} {X : kt_X} (hX : kt_ok G X RX6 cX6_isWord 3 4 0 0) (hr : kt_rt X = (some .boolean)) {Q : Option Value → kt_M → Prop} {p : Nat} (hp : kt_rd σ p) {k : Nat} (hi : k < 9) : ∀ (n i : Nat) (μ : kt_M) , i + n = kt_ln k →  (Q (some (.int (kt_f (k_wdL μ p k n i = true)))) μ) → kt_W G X 3 28 [(0, .ref p), (1, .ref (kt_aK G k)), (2, .int (nI i))] [] σ μ 0 0 (kt_Z G X (kt_q σ Q) 0 0) := by
  have hp0 := hp
  obtain ⟨hk0, hr0, hk1⟩ := hp
  have hln := kt_ln_lt k hi
  intro n
  induction n with
  | zero =>
    intro i μ hin  hQ
    have hib : i = kt_ln k := by omega
    refine kr_iload_n (i := 2) hX dX6_isWord_28 rfl rfl ?_
    refine kr_aload_n (i := 1) hX dX6_isWord_29 rfl rfl ?_
    refine kr_dVS [] hX km_6_143 dX6_isWord_30 (sj_length hi) rfl rfl rfl (by decide) (Nat.le_of_ble_eq_true rfl) (Nat.le_refl _) (Nat.le_refl _) hi ?_
    refine kr_icmp_ge (tgt := 62) hX dX6_isWord_33 (by decide) (fun c_33 => ?_) (fun c_33 => ?_)
    · skip
      refine kr_iconst (v := 1) hX dX6_isWord_62 (by decide) ?_
      refine kr_zret hX hr (by first | exact Or.inl rfl | exact Or.inr rfl | assumption) dX6_isWord_63 ⟨rfl, ?_⟩
      exact hQ
    · skip
      exact absurd (by rw [hib]; exact Int32.le_refl _) c_33
  | succ n ih =>
    intro i μ hin  hQ
    have hib : i < kt_ln k := by omega
    refine kr_iload_n (i := 2) hX dX6_isWord_28 rfl rfl ?_
    refine kr_aload_n (i := 1) hX dX6_isWord_29 rfl rfl ?_
    refine kr_dVS [] hX km_6_143 dX6_isWord_30 (sj_length hi) rfl rfl rfl (by decide) (Nat.le_of_ble_eq_true rfl) (Nat.le_refl _) (Nat.le_refl _) hi ?_
    refine kr_icmp_ge (tgt := 62) hX dX6_isWord_33 (by decide) (fun c_33 => ?_) (fun c_33 => ?_)
    · skip
      exact absurd c_33 (nI_ge hib (by omega))
    · skip
      refine kr_aload_n (i := 0) hX dX6_isWord_36 rfl rfl ?_
      refine kr_aload_n (i := 0) hX dX6_isWord_37 rfl rfl ?_
      refine kr_geti (c0 := 6) (k := 5) hX ⟨_, kf_6_28⟩ dX6_isWord_38 rfl (by assumption) ?_
      refine kr_iload_n (i := 2) hX dX6_isWord_41 rfl rfl ?_
      refine kr_iadd hX dX6_isWord_42 ?_
      refine kr_dV (c1 := 6) [_] hX km_6_134 dX6_isWord_43 (sp_byte hp0) rfl rfl ⟨_, _, rfl⟩ (by decide) (Nat.le_of_ble_eq_true rfl) (Nat.le_refl _) (Nat.le_refl _) (by assumption) ?_
      refine kr_aload_n (i := 1) hX dX6_isWord_46 rfl rfl ?_
      refine kr_iload_n (i := 2) hX dX6_isWord_47 rfl rfl ?_
      refine kr_dVS [_] hX km_6_147 dX6_isWord_48 (sj_charAt hi hib) rfl rfl rfl (by decide) (Nat.le_of_ble_eq_true rfl) (Nat.le_refl _) (Nat.le_refl _) hi ?_
      refine kr_icmp_eq (tgt := 56) hX dX6_isWord_51 (by decide) (fun c_51 => ?_) (fun c_51 => ?_)
      · skip
        refine kr_iinc (v := nI (i + 1)) hX dX6_isWord_56 rfl (by first | exact nI_1 _ | rfl) (by decide) rfl rfl ?_
        refine kr_goto (tgt := 28) hX dX6_isWord_59 (by decide) ?_
        refine ih (i + 1) _ (by omega) ?_
        rw [k_wdL_t c_51] at hQ
        exact hQ
      · skip
        refine kr_iconst (v := 0) hX dX6_isWord_54 (by decide) ?_
        refine kr_zret hX hr (by first | exact Or.inl rfl | exact Or.inr rfl | assumption) dX6_isWord_55 ⟨rfl, ?_⟩
        rw [k_wdL_f c_51, kt_f_f (by decide)] at hQ
        exact hQ

set_option maxHeartbeats 4000000 in
set_option maxRecDepth 100000 in
theorem sp_word {G : kt_G} {σ : kt_Y} {μ : kt_M} {p : Nat} (hp : kt_rd σ p) {k : Nat} (hi : k < 9) : kt_F G yX6_isWord cX6_isWord 3 (some .boolean) 4 [.ref p, .ref (kt_aK G k)] σ μ (fun r μ2 => r = some (.int (kt_f (k_word μ p k))) ∧ μ2 = μ) := by
  refine kt_F.of (by decide) (Nat.le_of_ble_eq_true rfl) (fun X hX hr => ?_)
  have hp0 := hp
  obtain ⟨hk0, hr0, hk1⟩ := hp
  refine kr_aload_n (i := 0) hX dX6_isWord_0 rfl rfl ?_
  refine kr_geti (c0 := 6) (k := 4) hX ⟨_, kf_6_25⟩ dX6_isWord_1 rfl (by assumption) ?_
  refine kr_iconst (v := 1) hX dX6_isWord_4 (by decide) ?_
  refine kr_icmp_ne (tgt := 24) hX dX6_isWord_5 (by decide) (fun c_5 => ?_) (fun c_5 => ?_)
  · skip
    refine kr_iconst (v := 0) hX dX6_isWord_24 (by decide) ?_
    refine kr_zret hX hr (by first | exact Or.inl rfl | exact Or.inr rfl | assumption) dX6_isWord_25 ⟨rfl, ?_⟩
    first
    | exact ⟨kt_ff (fun h => absurd h.2.1 (by assumption)), rfl⟩
    | exact ⟨kt_ff (fun h => absurd h.1 (by assumption)), rfl⟩
  · skip
    refine kr_aload_n (i := 0) hX dX6_isWord_8 rfl rfl ?_
    refine kr_geti (c0 := 6) (k := 6) hX ⟨_, kf_6_31⟩ dX6_isWord_9 rfl (by assumption) ?_
    refine kr_aload_n (i := 0) hX dX6_isWord_12 rfl rfl ?_
    refine kr_geti (c0 := 6) (k := 5) hX ⟨_, kf_6_28⟩ dX6_isWord_13 rfl (by assumption) ?_
    refine kr_isub hX dX6_isWord_16 ?_
    refine kr_aload_n (i := 1) hX dX6_isWord_17 rfl rfl ?_
    refine kr_dVS [] hX km_6_143 dX6_isWord_18 (sj_length hi) rfl rfl rfl (by decide) (Nat.le_of_ble_eq_true rfl) (Nat.le_refl _) (Nat.le_refl _) hi ?_
    refine kr_icmp_eq (tgt := 26) hX dX6_isWord_21 (by decide) (fun c_21 => ?_) (fun c_21 => ?_)
    · skip
      refine kr_iconst (v := 0) hX dX6_isWord_26 (by decide) ?_
      refine kr_istore_n (i := 2) hX dX6_isWord_27 rfl (by decide) rfl rfl ?_
      refine lp_word hX hr hp0 hi (kt_ln k) 0 _ (by omega) ⟨?_, rfl⟩
      by_cases hw : k_wdL μ p k (kt_ln k) 0 = true
      · rw [kt_f_t hw]; exact kt_ft ⟨by assumption, by assumption, hw⟩
      · rw [kt_f_f hw]; exact kt_ff (fun h => hw h.2.2)
    · skip
      refine kr_iconst (v := 0) hX dX6_isWord_24 (by decide) ?_
      refine kr_zret hX hr (by first | exact Or.inl rfl | exact Or.inr rfl | assumption) dX6_isWord_25 ⟨rfl, ?_⟩
      first
      | exact ⟨kt_ff (fun h => absurd h.2.1 (by assumption)), rfl⟩
      | exact ⟨kt_ff (fun h => absurd h.1 (by assumption)), rfl⟩

set_option maxHeartbeats 4000000 in
set_option maxRecDepth 100000 in
theorem lp_vah {G : kt_G} {σ : kt_Y} {X : kt_X} (hX : kt_ok G X RX6 cX6_valueAtHand 3 1 0 0) (hr : kt_rt X = (some .int)) {Q : Option Value → kt_M → Prop} {p : Nat} (hp : kt_rd σ p) {b : Nat} (hb : b < 1000) : ∀ (n i : Nat) (μ : kt_M) (v : Int32), i + n = b → kt_i μ p 6 = nI b → (Q (some (.int (k_numL μ p n i v))) μ) → kt_W G X 3 7 [(0, .ref p), (1, .int v), (2, .int (nI i))] [] σ μ 0 0 (kt_Z G X (kt_q σ Q) 0 0) := by
  have hp0 := hp
  obtain ⟨hk0, hr0, hk1⟩ := hp
  intro n
  induction n with
  | zero =>
    intro i μ v hin he hQ
    have hib : i = b := by omega
    refine kr_iload_n (i := 2) hX dX6_valueAtHand_7 rfl rfl ?_
    refine kr_aload_n (i := 0) hX dX6_valueAtHand_8 rfl rfl ?_
    refine kr_geti (c0 := 6) (k := 6) hX ⟨_, kf_6_31⟩ dX6_valueAtHand_9 rfl (by assumption) ?_
    refine kr_icmp_ge (tgt := 35) hX dX6_valueAtHand_12 (by decide) (fun c_12 => ?_) (fun c_12 => ?_)
    · skip
      refine kr_iload_n (i := 1) hX dX6_valueAtHand_35 rfl rfl ?_
      refine kr_iret hX hr dX6_valueAtHand_36 ⟨rfl, ?_⟩
      exact hQ
    · skip
      exact absurd (by rw [he, hib]; exact Int32.le_refl _) c_12
  | succ n ih =>
    intro i μ v hin he hQ
    have hib : i < b := by omega
    refine kr_iload_n (i := 2) hX dX6_valueAtHand_7 rfl rfl ?_
    refine kr_aload_n (i := 0) hX dX6_valueAtHand_8 rfl rfl ?_
    refine kr_geti (c0 := 6) (k := 6) hX ⟨_, kf_6_31⟩ dX6_valueAtHand_9 rfl (by assumption) ?_
    refine kr_icmp_ge (tgt := 35) hX dX6_valueAtHand_12 (by decide) (fun c_12 => ?_) (fun c_12 => ?_)
    · skip
      exact absurd c_12 (by rw [he]; exact nI_ge hib (by omega))
    · skip
      refine kr_bipush (v := 10) hX dX6_valueAtHand_15 (by decide) ?_
      refine kr_iload_n (i := 1) hX dX6_valueAtHand_17 rfl rfl ?_
      refine kr_imul hX dX6_valueAtHand_18 ?_
      refine kr_aload_n (i := 0) hX dX6_valueAtHand_19 rfl rfl ?_
      refine kr_iload_n (i := 2) hX dX6_valueAtHand_20 rfl rfl ?_
      refine kr_dV (c1 := 6) [_] hX km_6_134 dX6_valueAtHand_21 (sp_byte hp0) rfl rfl ⟨_, _, rfl⟩ (by decide) (Nat.le_of_ble_eq_true rfl) (Nat.le_refl _) (Nat.le_refl _) (by assumption) ?_
      refine kr_iadd hX dX6_valueAtHand_24 ?_
      refine kr_bipush (v := 48) hX dX6_valueAtHand_25 (by decide) ?_
      refine kr_isub hX dX6_valueAtHand_27 ?_
      refine kr_istore_n (i := 1) hX dX6_valueAtHand_28 rfl (by decide) rfl rfl ?_
      refine kr_iinc (v := nI (i + 1)) hX dX6_valueAtHand_29 rfl (by first | exact nI_1 _ | rfl) (by decide) rfl rfl ?_
      refine kr_goto (tgt := 7) hX dX6_valueAtHand_32 (by decide) ?_
      exact ih (i + 1) _ _ (by omega) he hQ

set_option maxHeartbeats 4000000 in
set_option maxRecDepth 100000 in
theorem sp_vah {G : kt_G} {σ : kt_Y} {μ : kt_M} {p : Nat} (hp : kt_rd σ p) {a b : Nat} (ha : kt_i μ p 5 = nI a) (hb : kt_i μ p 6 = nI b) (hab : a ≤ b) (hb2 : b < 1000) : kt_F G yX6_valueAtHand cX6_valueAtHand 3 (some .int) 1 [.ref p] σ μ (fun r μ2 => r = some (.int (k_numL μ p (b - a) a 0)) ∧ μ2 = μ) := by
  refine kt_F.of (by decide) (Nat.le_of_ble_eq_true rfl) (fun X hX hr => ?_)
  have hp0 := hp
  obtain ⟨hk0, hr0, hk1⟩ := hp
  refine kr_iconst (v := 0) hX dX6_valueAtHand_0 (by decide) ?_
  refine kr_istore_n (i := 1) hX dX6_valueAtHand_1 rfl (by decide) rfl rfl ?_
  refine kr_aload_n (i := 0) hX dX6_valueAtHand_2 rfl rfl ?_
  refine kr_geti (c0 := 6) (k := 5) hX ⟨_, kf_6_28⟩ dX6_valueAtHand_3 rfl (by assumption) ?_
  refine kr_rw (y := nI a) (by exact ha) ?_
  refine kr_istore_n (i := 2) hX dX6_valueAtHand_6 rfl (by decide) rfl rfl ?_
  exact lp_vah hX hr hp0 hb2 (b - a) a _ 0 (by omega) hb ⟨rfl, rfl⟩


/-! KnownTurns: reader o + 1, draft o + 3, original o + 42, current o + 81, images' row o + 152 (o + 372, o + 443), kept o + 153, flow o + 154, paths o + 361, run o + 364, dice o + 368, inputs o + 369, trial o + 370, sheets' row o + 371 (o + 514 + 2 k) -/
def kt_kt (σ : kt_Y) (o : Nat) : Prop := kt_k σ o = some (0, 9) ∧ kt_r σ o 0 = some (o + 1) ∧ kt_r σ o 1 = some (o + 3) ∧ kt_r σ o 2 = some (o + 42) ∧ kt_r σ o 3 = some (o + 81) ∧ kt_r σ o 4 = some (o + 152) ∧ kt_r σ o 5 = some (o + 153) ∧ kt_r σ o 6 = some (o + 154) ∧ kt_r σ o 7 = some (o + 361) ∧ kt_r σ o 8 = some (o + 364) ∧ kt_r σ o 9 = some (o + 368) ∧ kt_r σ o 10 = some (o + 369) ∧ kt_r σ o 11 = some (o + 370) ∧ kt_r σ o 12 = some (o + 371) ∧ kt_k σ (o + 152) = some (5, 2) ∧ kt_k σ (o + 153) = some (3, 2) ∧ kt_k σ (o + 369) = some (1, 8) ∧ kt_k σ (o + 370) = some (1, 8) ∧ kt_k σ (o + 371) = some (7, 4) ∧ kt_rd σ (o + 1) ∧ kt_pg σ (o + 3) 8 ∧ kt_pg σ (o + 42) 8 ∧ kt_pg σ (o + 81) 16 ∧ kt_fw σ (o + 154) ∧ kt_pt σ (o + 361) ∧ kt_rn σ (o + 364) ∧ kt_di σ (o + 368) ∧ (∀ k, k < 2 → kt_r σ (o + 152) k = some (o + 372 + 71 * k) ∧ kt_pg σ (o + 372 + 71 * k) 16) ∧ ∀ k, k < 4 → kt_r σ (o + 371) k = some (o + 514 + 2 * k) ∧ kt_sh σ (o + 514 + 2 * k)
abbrev k_wi (a b : Int32) : Prop := 0 ≤ a ∧ a ≤ b
theorem k_wi_in {a b : Int32} {n : Nat} (h : k_wi a b) (hb : b.toInt + 1 = n) : vp_in a n := vp_in_iff.mpr (by have h1 := h.1; have h2 := h.2; simp only [Int32.le_iff_toInt_le, ki_0] at h1 h2; omega)
theorem k_wi_nI {a b : Int32} {n : Nat} (h : k_wi a b) (hb : b.toInt + 1 = n) (hn : n < 2 ^ 31) : ∃ j : Nat, j < n ∧ a = nI j := vp_in_of (k_wi_in h hb) hn
def ut_feed (μ : kt_M) (o : Nat) (c : Int32) : Int32 × kt_M :=
  if k_wi c 127 then
    (let μ1 := if ¬ kt_i μ (o + 1) 1 < 0 ∧ kt_i μ (o + 1) 1 < 200 then kt_si (kt_si μ (o + 1 + 1) (kt_i μ (o + 1) 1).toNatClampNeg c) (o + 1) 1 (kt_i μ (o + 1) 1 + 1) else μ
     if ¬ kt_i μ (o + 1) 1 < 0 ∧ kt_i μ (o + 1) 1 < 200 then (kt_i μ1 (o + 1) 1, μ1) else (-3, μ1))
  else (-1, μ)
def ut_end (μ : kt_M) (o : Nat) (n : Int32) : Int32 × kt_M := if k_wi n (kt_i μ (o + 1) 1) then (kt_i μ (o + 1) 1, kt_si μ (o + 1) 1 n) else (-1, μ)
def ut_limit (μ : kt_M) (o : Nat) (v : Int32) : Int32 × kt_M := if k_wi v 4 then (kt_i μ o 13, kt_si μ o 13 v) else (-1, μ)
def ut_input (μ : kt_M) (o : Nat) (i v : Int32) : Int32 × kt_M := if k_wi i 7 ∧ k_wi v 51 then (kt_i μ (o + 369) i.toNatClampNeg, kt_si μ (o + 369) i.toNatClampNeg v) else (-1, μ)
def ut_ch (o : Nat) (p : Int32) : Nat := if p = 0 then o + 42 else o + 81
def ut_nilL (μ : kt_M) (o : Nat) : Nat → Nat → Int32 → Int32
  | 0, _, c => c
  | n + 1, i, c => ut_nilL μ o n (i + 1) (if kt_i μ (o + 369) i = 51 then c + 1 else c)
def ut_sheet (μ : kt_M) (o : Nat) (k l n : Int32) : Int32 × kt_M :=
  if k_wi k 3 ∧ k_wi l 2 ∧ n ≤ 40 then (if 0 ≤ n then (1, m_fillL (o + 514 + 2 * k.toNatClampNeg + 1) 0 40 0 (kt_si (kt_si μ (o + 514 + 2 * k.toNatClampNeg) 1 l) (o + 514 + 2 * k.toNatClampNeg) 2 n)) else (-14, μ)) else (-1, μ)
def ut_lay (μ : kt_M) (o : Nat) (k i v : Int32) : Int32 × kt_M :=
  if k_wi k 3 then
    (let q := o + 514 + 2 * k.toNatClampNeg
     if kt_i μ q 1 = -1 then (-11, μ) else if k_has μ q i then (1, kt_si μ (q + 1) i.toNatClampNeg (k_lane (kt_i μ q 1) v)) else (-12, μ))
  else (-1, μ)
set_option maxHeartbeats 4000000 in
set_option maxRecDepth 100000 in
theorem sp_feed {G : kt_G} {σ : kt_Y} {μ : kt_M} {o : Nat} (hp : kt_kt σ o) {c : Int32} : kt_F G yX9_feed cX9_feed 2 (some .int) 1 [.ref o, .int c] σ μ (fun r μ2 => r = some (.int (ut_feed μ o c).1) ∧ μ2 = (ut_feed μ o c).2) := by
  refine kt_F.of (by decide) (Nat.le_of_ble_eq_true rfl) (fun X hX hr => ?_)
  have hp0 := hp
  obtain ⟨hk0, hr0, hr1, hr2, hr3, hr4, hr5, hr6, hr7, hr8, hr9, hr10, hr11, hr12, hk152, hk153, hk369, hk370, hk371, hrd, hdr, hor, hcu, hfw, hpt, hrn, hdi, him, hsh⟩ := hp
  refine kr_iload_n (i := 1) hX dX9_feed_0 rfl rfl ?_
  refine kr_bipush (v := 127) hX dX9_feed_1 (by decide) ?_
  refine kr_dS [_, _] hX km_9_92 dX9_feed_3 (sp_within) rfl rfl (by decide) (Nat.le_of_ble_eq_true rfl) (Nat.le_refl _) (Nat.le_refl _) ?_
  refine kr_if_ne (tgt := 11) hX dX9_feed_6 (by decide) (fun c_6 => ?_) (fun c_6 => ?_)
  · skip
    refine kr_aload_n (i := 0) hX dX9_feed_11 rfl rfl ?_
    refine kr_getr (c0 := 9) (k := 0) hX ⟨_, kf_9_10⟩ dX9_feed_12 rfl (by first | exact hk0 | exact hrd.1 | exact hdr.1 | exact hor.1 | exact hcu.1 | exact hfw.1 | exact hpt.1 | exact hrn.1 | exact hdi | assumption) (by assumption) ?_
    refine kr_iload_n (i := 1) hX dX9_feed_15 rfl rfl ?_
    refine kr_dV (c1 := 6) [_] hX km_9_96 dX9_feed_16 (sp_append hrd) rfl rfl ⟨_, _, rfl⟩ (by decide) (Nat.le_of_ble_eq_true rfl) (Nat.le_refl _) (Nat.le_refl _) (by first | exact hk0 | exact hrd.1 | exact hdr.1 | exact hor.1 | exact hcu.1 | exact hfw.1 | exact hpt.1 | exact hrn.1 | exact hdi | assumption) ?_
    refine kr_if_eq (tgt := 32) hX dX9_feed_19 (by decide) (fun c_19 => ?_) (fun c_19 => ?_)
    · skip
      refine kr_bipush (v := (-3)) hX dX9_feed_32 (by decide) ?_
      refine kr_iret hX hr dX9_feed_34 ⟨rfl, ?_⟩
      simp only [kt_f_0, Classical.not_not] at c_6
      unfold ut_feed
      rw [if_pos c_6]
      dsimp only
      simp only [kt_f_0, Classical.not_not] at c_19
      rw [if_neg c_19, if_neg c_19]
      exact ⟨rfl, rfl⟩
    · skip
      refine kr_aload_n (i := 0) hX dX9_feed_22 rfl rfl ?_
      refine kr_getr (c0 := 9) (k := 0) hX ⟨_, kf_9_10⟩ dX9_feed_23 rfl (by first | exact hk0 | exact hrd.1 | exact hdr.1 | exact hor.1 | exact hcu.1 | exact hfw.1 | exact hpt.1 | exact hrn.1 | exact hdi | assumption) (by assumption) ?_
      refine kr_geti (c0 := 6) (k := 1) hX ⟨_, kf_9_100⟩ dX9_feed_26 rfl (by first | exact hk0 | exact hrd.1 | exact hdr.1 | exact hor.1 | exact hcu.1 | exact hfw.1 | exact hpt.1 | exact hrn.1 | exact hdi | assumption) ?_
      refine kr_goto (tgt := 34) hX dX9_feed_29 (by decide) ?_
      refine kr_iret hX hr dX9_feed_34 ⟨rfl, ?_⟩
      simp only [kt_f_0, Classical.not_not] at c_6
      unfold ut_feed
      rw [if_pos c_6]
      dsimp only
      simp only [kt_f_0, Classical.not_not] at c_19
      rw [if_pos c_19, if_pos c_19]
      exact ⟨rfl, rfl⟩
  · skip
    refine kr_iconst (v := (-1)) hX dX9_feed_9 (by decide) ?_
    refine kr_iret hX hr dX9_feed_10 ⟨rfl, ?_⟩
    simp only [kt_f_0, Classical.not_not] at c_6
    unfold ut_feed
    rw [if_neg c_6]
    exact ⟨rfl, rfl⟩

set_option maxHeartbeats 4000000 in
set_option maxRecDepth 100000 in
theorem sp_uend {G : kt_G} {σ : kt_Y} {μ : kt_M} {o : Nat} (hp : kt_kt σ o) {n : Int32} : kt_F G yX9_end cX9_end 3 (some .int) 1 [.ref o, .int n] σ μ (fun r μ2 => r = some (.int (ut_end μ o n).1) ∧ μ2 = (ut_end μ o n).2) := by
  refine kt_F.of (by decide) (Nat.le_of_ble_eq_true rfl) (fun X hX hr => ?_)
  have hp0 := hp
  obtain ⟨hk0, hr0, hr1, hr2, hr3, hr4, hr5, hr6, hr7, hr8, hr9, hr10, hr11, hr12, hk152, hk153, hk369, hk370, hk371, hrd, hdr, hor, hcu, hfw, hpt, hrn, hdi, him, hsh⟩ := hp
  refine kr_iload_n (i := 1) hX dX9_end_0 rfl rfl ?_
  refine kr_aload_n (i := 0) hX dX9_end_1 rfl rfl ?_
  refine kr_getr (c0 := 9) (k := 0) hX ⟨_, kf_9_10⟩ dX9_end_2 rfl (by first | exact hk0 | exact hrd.1 | exact hdr.1 | exact hor.1 | exact hcu.1 | exact hfw.1 | exact hpt.1 | exact hrn.1 | exact hdi | assumption) (by assumption) ?_
  refine kr_geti (c0 := 6) (k := 1) hX ⟨_, kf_9_100⟩ dX9_end_5 rfl (by first | exact hk0 | exact hrd.1 | exact hdr.1 | exact hor.1 | exact hcu.1 | exact hfw.1 | exact hpt.1 | exact hrn.1 | exact hdi | assumption) ?_
  refine kr_dS [_, _] hX km_9_92 dX9_end_8 (sp_within) rfl rfl (by decide) (Nat.le_of_ble_eq_true rfl) (Nat.le_refl _) (Nat.le_refl _) ?_
  refine kr_if_ne (tgt := 16) hX dX9_end_11 (by decide) (fun c_11 => ?_) (fun c_11 => ?_)
  · skip
    refine kr_aload_n (i := 0) hX dX9_end_16 rfl rfl ?_
    refine kr_getr (c0 := 9) (k := 0) hX ⟨_, kf_9_10⟩ dX9_end_17 rfl (by first | exact hk0 | exact hrd.1 | exact hdr.1 | exact hor.1 | exact hcu.1 | exact hfw.1 | exact hpt.1 | exact hrn.1 | exact hdi | assumption) (by assumption) ?_
    refine kr_geti (c0 := 6) (k := 1) hX ⟨_, kf_9_100⟩ dX9_end_20 rfl (by first | exact hk0 | exact hrd.1 | exact hdr.1 | exact hor.1 | exact hcu.1 | exact hfw.1 | exact hpt.1 | exact hrn.1 | exact hdi | assumption) ?_
    refine kr_istore_n (i := 2) hX dX9_end_23 rfl (by decide) rfl rfl ?_
    refine kr_aload_n (i := 0) hX dX9_end_24 rfl rfl ?_
    refine kr_getr (c0 := 9) (k := 0) hX ⟨_, kf_9_10⟩ dX9_end_25 rfl (by first | exact hk0 | exact hrd.1 | exact hdr.1 | exact hor.1 | exact hcu.1 | exact hfw.1 | exact hpt.1 | exact hrn.1 | exact hdi | assumption) (by assumption) ?_
    refine kr_iload_n (i := 1) hX dX9_end_28 rfl rfl ?_
    refine kr_puti (c0 := 6) (k := 1) hX kf_9_100 dX9_end_29 rfl rfl rfl (by first | exact hk0 | exact hrd.1 | exact hdr.1 | exact hor.1 | exact hcu.1 | exact hfw.1 | exact hpt.1 | exact hrn.1 | exact hdi | assumption) ?_
    refine kr_iload_n (i := 2) hX dX9_end_32 rfl rfl ?_
    refine kr_iret hX hr dX9_end_33 ⟨rfl, ?_⟩
    simp only [kt_f_0, Classical.not_not] at c_11
    unfold ut_end
    rw [if_pos c_11]
    exact ⟨rfl, rfl⟩
  · skip
    refine kr_iconst (v := (-1)) hX dX9_end_14 (by decide) ?_
    refine kr_iret hX hr dX9_end_15 ⟨rfl, ?_⟩
    simp only [kt_f_0, Classical.not_not] at c_11
    unfold ut_end
    rw [if_neg c_11]
    exact ⟨rfl, rfl⟩

set_option maxHeartbeats 4000000 in
set_option maxRecDepth 100000 in
theorem sp_fault {G : kt_G} {σ : kt_Y} {μ : kt_M} {o : Nat} (hp : kt_kt σ o) : kt_F G yX9_fault cX9_fault 1 (some .int) 0 [.ref o] σ μ (fun r μ2 => r = some (.int (kt_i μ (o + 1) 2)) ∧ μ2 = μ) := by
  refine kt_F.of (by decide) (Nat.le_of_ble_eq_true rfl) (fun X hX hr => ?_)
  have hp0 := hp
  obtain ⟨hk0, hr0, hr1, hr2, hr3, hr4, hr5, hr6, hr7, hr8, hr9, hr10, hr11, hr12, hk152, hk153, hk369, hk370, hk371, hrd, hdr, hor, hcu, hfw, hpt, hrn, hdi, him, hsh⟩ := hp
  refine kr_aload_n (i := 0) hX dX9_fault_0 rfl rfl ?_
  refine kr_getr (c0 := 9) (k := 0) hX ⟨_, kf_9_10⟩ dX9_fault_1 rfl (by first | exact hk0 | exact hrd.1 | exact hdr.1 | exact hor.1 | exact hcu.1 | exact hfw.1 | exact hpt.1 | exact hrn.1 | exact hdi | assumption) (by assumption) ?_
  refine kr_geti (c0 := 6) (k := 2) hX ⟨_, kf_9_120⟩ dX9_fault_4 rfl (by first | exact hk0 | exact hrd.1 | exact hdr.1 | exact hor.1 | exact hcu.1 | exact hfw.1 | exact hpt.1 | exact hrn.1 | exact hdi | assumption) ?_
  refine kr_iret hX hr dX9_fault_7 ⟨rfl, ?_⟩
  exact ⟨rfl, rfl⟩

set_option maxHeartbeats 4000000 in
set_option maxRecDepth 100000 in
theorem sp_torn {G : kt_G} {σ : kt_Y} {μ : kt_M} {o : Nat} (hp : kt_kt σ o) : kt_F G yX9_torn cX9_torn 1 (some .int) 0 [.ref o] σ μ (fun r μ2 => r = some (.int (kt_i μ o 14)) ∧ μ2 = μ) := by
  refine kt_F.of (by decide) (Nat.le_of_ble_eq_true rfl) (fun X hX hr => ?_)
  have hp0 := hp
  obtain ⟨hk0, hr0, hr1, hr2, hr3, hr4, hr5, hr6, hr7, hr8, hr9, hr10, hr11, hr12, hk152, hk153, hk369, hk370, hk371, hrd, hdr, hor, hcu, hfw, hpt, hrn, hdi, him, hsh⟩ := hp
  refine kr_aload_n (i := 0) hX dX9_torn_0 rfl rfl ?_
  refine kr_geti (c0 := 9) (k := 14) hX ⟨_, kf_9_84⟩ dX9_torn_1 rfl (by first | exact hk0 | exact hrd.1 | exact hdr.1 | exact hor.1 | exact hcu.1 | exact hfw.1 | exact hpt.1 | exact hrn.1 | exact hdi | assumption) ?_
  refine kr_iret hX hr dX9_torn_4 ⟨rfl, ?_⟩
  exact ⟨rfl, rfl⟩

set_option maxHeartbeats 4000000 in
set_option maxRecDepth 100000 in
theorem sp_limit {G : kt_G} {σ : kt_Y} {μ : kt_M} {o : Nat} (hp : kt_kt σ o) {v : Int32} : kt_F G yX9_limit cX9_limit 3 (some .int) 1 [.ref o, .int v] σ μ (fun r μ2 => r = some (.int (ut_limit μ o v).1) ∧ μ2 = (ut_limit μ o v).2) := by
  refine kt_F.of (by decide) (Nat.le_of_ble_eq_true rfl) (fun X hX hr => ?_)
  have hp0 := hp
  obtain ⟨hk0, hr0, hr1, hr2, hr3, hr4, hr5, hr6, hr7, hr8, hr9, hr10, hr11, hr12, hk152, hk153, hk369, hk370, hk371, hrd, hdr, hor, hcu, hfw, hpt, hrn, hdi, him, hsh⟩ := hp
  refine kr_iload_n (i := 1) hX dX9_limit_0 rfl rfl ?_
  refine kr_iconst (v := 4) hX dX9_limit_1 (by decide) ?_
  refine kr_dS [_, _] hX km_9_92 dX9_limit_2 (sp_within) rfl rfl (by decide) (Nat.le_of_ble_eq_true rfl) (Nat.le_refl _) (Nat.le_refl _) ?_
  refine kr_if_ne (tgt := 10) hX dX9_limit_5 (by decide) (fun c_5 => ?_) (fun c_5 => ?_)
  · skip
    refine kr_aload_n (i := 0) hX dX9_limit_10 rfl rfl ?_
    refine kr_geti (c0 := 9) (k := 13) hX ⟨_, kf_9_80⟩ dX9_limit_11 rfl (by first | exact hk0 | exact hrd.1 | exact hdr.1 | exact hor.1 | exact hcu.1 | exact hfw.1 | exact hpt.1 | exact hrn.1 | exact hdi | assumption) ?_
    refine kr_istore_n (i := 2) hX dX9_limit_14 rfl (by decide) rfl rfl ?_
    refine kr_aload_n (i := 0) hX dX9_limit_15 rfl rfl ?_
    refine kr_iload_n (i := 1) hX dX9_limit_16 rfl rfl ?_
    refine kr_puti (c0 := 9) (k := 13) hX kf_9_80 dX9_limit_17 rfl rfl rfl (by first | exact hk0 | exact hrd.1 | exact hdr.1 | exact hor.1 | exact hcu.1 | exact hfw.1 | exact hpt.1 | exact hrn.1 | exact hdi | assumption) ?_
    refine kr_iload_n (i := 2) hX dX9_limit_20 rfl rfl ?_
    refine kr_iret hX hr dX9_limit_21 ⟨rfl, ?_⟩
    simp only [kt_f_0, Classical.not_not] at c_5
    unfold ut_limit
    rw [if_pos c_5]
    exact ⟨rfl, rfl⟩
  · skip
    refine kr_iconst (v := (-1)) hX dX9_limit_8 (by decide) ?_
    refine kr_iret hX hr dX9_limit_9 ⟨rfl, ?_⟩
    simp only [kt_f_0, Classical.not_not] at c_5
    unfold ut_limit
    rw [if_neg c_5]
    exact ⟨rfl, rfl⟩

set_option maxHeartbeats 4000000 in
set_option maxRecDepth 100000 in
theorem sp_input {G : kt_G} {σ : kt_Y} {μ : kt_M} {o : Nat} (hp : kt_kt σ o) {i v : Int32} : kt_F G yX9_input cX9_input 4 (some .int) 1 [.ref o, .int i, .int v] σ μ (fun r μ2 => r = some (.int (ut_input μ o i v).1) ∧ μ2 = (ut_input μ o i v).2) := by
  refine kt_F.of (by decide) (Nat.le_of_ble_eq_true rfl) (fun X hX hr => ?_)
  have hp0 := hp
  obtain ⟨hk0, hr0, hr1, hr2, hr3, hr4, hr5, hr6, hr7, hr8, hr9, hr10, hr11, hr12, hk152, hk153, hk369, hk370, hk371, hrd, hdr, hor, hcu, hfw, hpt, hrn, hdi, him, hsh⟩ := hp
  refine kr_iload_n (i := 1) hX dX9_input_0 rfl rfl ?_
  refine kr_bipush (v := 7) hX dX9_input_1 (by decide) ?_
  refine kr_dS [_, _] hX km_9_92 dX9_input_3 (sp_within) rfl rfl (by decide) (Nat.le_of_ble_eq_true rfl) (Nat.le_refl _) (Nat.le_refl _) ?_
  refine kr_if_eq (tgt := 18) hX dX9_input_6 (by decide) (fun c_6 => ?_) (fun c_6 => ?_)
  · skip
    refine kr_iconst (v := (-1)) hX dX9_input_18 (by decide) ?_
    refine kr_iret hX hr dX9_input_19 ⟨rfl, ?_⟩
    simp only [kt_f_0, Classical.not_not] at c_6
    unfold ut_input
    rw [if_neg (fun h => c_6 h.1)]
    exact ⟨rfl, rfl⟩
  · skip
    refine kr_iload_n (i := 2) hX dX9_input_9 rfl rfl ?_
    refine kr_bipush (v := 51) hX dX9_input_10 (by decide) ?_
    refine kr_dS [_, _] hX km_9_92 dX9_input_12 (sp_within) rfl rfl (by decide) (Nat.le_of_ble_eq_true rfl) (Nat.le_refl _) (Nat.le_refl _) ?_
    refine kr_if_ne (tgt := 20) hX dX9_input_15 (by decide) (fun c_15 => ?_) (fun c_15 => ?_)
    · skip
      refine kr_aload_n (i := 0) hX dX9_input_20 rfl rfl ?_
      refine kr_getr (c0 := 9) (k := 10) hX ⟨_, kf_9_67⟩ dX9_input_21 rfl (by first | exact hk0 | exact hrd.1 | exact hdr.1 | exact hor.1 | exact hcu.1 | exact hfw.1 | exact hpt.1 | exact hrn.1 | exact hdi | assumption) (by assumption) ?_
      refine kr_iload_n (i := 1) hX dX9_input_24 rfl rfl ?_
      refine kr_iald hX dX9_input_25 (by first | exact hk0 | exact hrd.1 | exact hdr.1 | exact hor.1 | exact hcu.1 | exact hfw.1 | exact hpt.1 | exact hrn.1 | exact hdi | assumption) (by simp only [kt_f_0, Classical.not_not] at c_6; exact k_wi_in c_6 (by decide)) ?_
      refine kr_istore_n (i := 3) hX dX9_input_26 rfl (by decide) rfl rfl ?_
      refine kr_aload_n (i := 0) hX dX9_input_27 rfl rfl ?_
      refine kr_getr (c0 := 9) (k := 10) hX ⟨_, kf_9_67⟩ dX9_input_28 rfl (by first | exact hk0 | exact hrd.1 | exact hdr.1 | exact hor.1 | exact hcu.1 | exact hfw.1 | exact hpt.1 | exact hrn.1 | exact hdi | assumption) (by assumption) ?_
      refine kr_iload_n (i := 1) hX dX9_input_31 rfl rfl ?_
      refine kr_iload_n (i := 2) hX dX9_input_32 rfl rfl ?_
      refine kr_iast hX dX9_input_33 (by first | exact hk0 | exact hrd.1 | exact hdr.1 | exact hor.1 | exact hcu.1 | exact hfw.1 | exact hpt.1 | exact hrn.1 | exact hdi | assumption) (by simp only [kt_f_0, Classical.not_not] at c_6; exact k_wi_in c_6 (by decide)) ?_
      refine kr_iload_n (i := 3) hX dX9_input_34 rfl rfl ?_
      refine kr_iret hX hr dX9_input_35 ⟨rfl, ?_⟩
      simp only [kt_f_0, Classical.not_not] at c_6
      unfold ut_input
      simp only [kt_f_0, Classical.not_not] at c_15
      rw [if_pos ⟨c_6, c_15⟩]
      exact ⟨rfl, rfl⟩
    · skip
      refine kr_iconst (v := (-1)) hX dX9_input_18 (by decide) ?_
      refine kr_iret hX hr dX9_input_19 ⟨rfl, ?_⟩
      simp only [kt_f_0, Classical.not_not] at c_6
      unfold ut_input
      simp only [kt_f_0, Classical.not_not] at c_15
      rw [if_neg (fun h => c_15 h.2)]
      exact ⟨rfl, rfl⟩

set_option maxHeartbeats 4000000 in
set_option maxRecDepth 100000 in
theorem sp_chosen {G : kt_G} {σ : kt_Y} {μ : kt_M} {o : Nat} (hp : kt_kt σ o) {a : Int32} : kt_F G yX9_chosen cX9_chosen 2 (some (.object "KnownTurns$Program")) 0 [.ref o, .int a] σ μ (fun r μ2 => r = some (.ref (ut_ch o a)) ∧ μ2 = μ) := by
  refine kt_F.of (by decide) (Nat.le_of_ble_eq_true rfl) (fun X hX hr => ?_)
  have hp0 := hp
  obtain ⟨hk0, hr0, hr1, hr2, hr3, hr4, hr5, hr6, hr7, hr8, hr9, hr10, hr11, hr12, hk152, hk153, hk369, hk370, hk371, hrd, hdr, hor, hcu, hfw, hpt, hrn, hdi, him, hsh⟩ := hp
  refine kr_iload_n (i := 1) hX dX9_chosen_0 rfl rfl ?_
  refine kr_if_ne (tgt := 11) hX dX9_chosen_1 (by decide) (fun c_1 => ?_) (fun c_1 => ?_)
  · skip
    refine kr_aload_n (i := 0) hX dX9_chosen_11 rfl rfl ?_
    refine kr_getr (c0 := 9) (k := 3) hX ⟨_, kf_9_28⟩ dX9_chosen_12 rfl (by first | exact hk0 | exact hrd.1 | exact hdr.1 | exact hor.1 | exact hcu.1 | exact hfw.1 | exact hpt.1 | exact hrn.1 | exact hdi | assumption) (by assumption) ?_
    refine kr_aret hX hr dX9_chosen_15 ⟨rfl, ?_⟩
    unfold ut_ch
    rw [if_neg c_1]
    exact ⟨rfl, rfl⟩
  · skip
    refine kr_aload_n (i := 0) hX dX9_chosen_4 rfl rfl ?_
    refine kr_getr (c0 := 9) (k := 2) hX ⟨_, kf_9_25⟩ dX9_chosen_5 rfl (by first | exact hk0 | exact hrd.1 | exact hdr.1 | exact hor.1 | exact hcu.1 | exact hfw.1 | exact hpt.1 | exact hrn.1 | exact hdi | assumption) (by assumption) ?_
    refine kr_goto (tgt := 15) hX dX9_chosen_8 (by decide) ?_
    refine kr_aret hX hr dX9_chosen_15 ⟨rfl, ?_⟩
    unfold ut_ch
    rw [if_pos c_1]
    exact ⟨rfl, rfl⟩

set_option maxHeartbeats 4000000 in
set_option maxRecDepth 100000 in
theorem lp_nilI {G : kt_G} {σ : kt_Y} {X : kt_X} (hX : kt_ok G X RX9 cX9_nilInputs 3 0 0 0) (hr : kt_rt X = (some .int)) {Q : Option Value → kt_M → Prop} {o : Nat} (hp : kt_kt σ o) : ∀ (n i : Nat) (μ : kt_M) (c : Int32), i + n = 8 →  (Q (some (.int (ut_nilL μ o n i c))) μ) → kt_W G X 3 4 [(0, .ref o), (1, .int c), (2, .int (nI i))] [] σ μ 0 0 (kt_Z G X (kt_q σ Q) 0 0) := by
  have hp0 := hp
  obtain ⟨hk0, hr0, hr1, hr2, hr3, hr4, hr5, hr6, hr7, hr8, hr9, hr10, hr11, hr12, hk152, hk153, hk369, hk370, hk371, hrd, hdr, hor, hcu, hfw, hpt, hrn, hdi, him, hsh⟩ := hp
  intro n
  induction n with
  | zero =>
    intro i μ c hin  hQ
    have hib : i = 8 := by omega
    refine kr_iload_n (i := 2) hX dX9_nilInputs_4 rfl rfl ?_
    refine kr_bipush (v := 8) hX dX9_nilInputs_5 (by decide) ?_
    refine kr_icmp_ge (tgt := 30) hX dX9_nilInputs_7 (by decide) (fun c_7 => ?_) (fun c_7 => ?_)
    · skip
      refine kr_iload_n (i := 1) hX dX9_nilInputs_30 rfl rfl ?_
      refine kr_iret hX hr dX9_nilInputs_31 ⟨rfl, ?_⟩
      exact hQ
    · skip
      exact absurd (by rw [hib]; decide) c_7
  | succ n ih =>
    intro i μ c hin  hQ
    have hib : i < 8 := by omega
    refine kr_iload_n (i := 2) hX dX9_nilInputs_4 rfl rfl ?_
    refine kr_bipush (v := 8) hX dX9_nilInputs_5 (by decide) ?_
    refine kr_icmp_ge (tgt := 30) hX dX9_nilInputs_7 (by decide) (fun c_7 => ?_) (fun c_7 => ?_)
    · skip
      exact absurd c_7 (kt_ge (b := 8) rfl hib (by decide))
    · skip
      refine kr_aload_n (i := 0) hX dX9_nilInputs_10 rfl rfl ?_
      refine kr_getr (c0 := 9) (k := 10) hX ⟨_, kf_9_67⟩ dX9_nilInputs_11 rfl (by first | exact hk0 | exact hrd.1 | exact hdr.1 | exact hor.1 | exact hcu.1 | exact hfw.1 | exact hpt.1 | exact hrn.1 | exact hdi | assumption) (by assumption) ?_
      refine kr_iload_n (i := 2) hX dX9_nilInputs_14 rfl rfl ?_
      refine kr_ialdN hX dX9_nilInputs_15 (by first | exact hk0 | exact hrd.1 | exact hdr.1 | exact hor.1 | exact hcu.1 | exact hfw.1 | exact hpt.1 | exact hrn.1 | exact hdi | assumption) (by omega) ?_
      refine kr_bipush (v := 51) hX dX9_nilInputs_16 (by decide) ?_
      refine kr_icmp_ne (tgt := 24) hX dX9_nilInputs_18 (by decide) (fun c_18 => ?_) (fun c_18 => ?_)
      · skip
        refine kr_iinc (v := nI (i + 1)) hX dX9_nilInputs_24 rfl (by first | exact nI_1 _ | rfl) (by decide) rfl rfl ?_
        refine kr_goto (tgt := 4) hX dX9_nilInputs_27 (by decide) ?_
        refine ih (i + 1) _ _ (by omega) ?_
        rw [ut_nilL] at hQ
        rw [if_neg c_18] at hQ
        exact hQ
      · skip
        refine kr_iinc hX dX9_nilInputs_21 rfl rfl (by decide) rfl rfl ?_
        refine kr_iinc (v := nI (i + 1)) hX dX9_nilInputs_24 rfl (by first | exact nI_1 _ | rfl) (by decide) rfl rfl ?_
        refine kr_goto (tgt := 4) hX dX9_nilInputs_27 (by decide) ?_
        refine ih (i + 1) _ _ (by omega) ?_
        rw [ut_nilL] at hQ
        rw [if_pos c_18] at hQ
        exact hQ

set_option maxHeartbeats 4000000 in
set_option maxRecDepth 100000 in
theorem sp_nilI {G : kt_G} {σ : kt_Y} {μ : kt_M} {o : Nat} (hp : kt_kt σ o) : kt_F G yX9_nilInputs cX9_nilInputs 3 (some .int) 0 [.ref o] σ μ (fun r μ2 => r = some (.int (ut_nilL μ o 8 0 0)) ∧ μ2 = μ) := by
  refine kt_F.of (by decide) (Nat.le_of_ble_eq_true rfl) (fun X hX hr => ?_)
  have hp0 := hp
  obtain ⟨hk0, hr0, hr1, hr2, hr3, hr4, hr5, hr6, hr7, hr8, hr9, hr10, hr11, hr12, hk152, hk153, hk369, hk370, hk371, hrd, hdr, hor, hcu, hfw, hpt, hrn, hdi, him, hsh⟩ := hp
  refine kr_iconst (v := 0) hX dX9_nilInputs_0 (by decide) ?_
  refine kr_istore_n (i := 1) hX dX9_nilInputs_1 rfl (by decide) rfl rfl ?_
  refine kr_iconst (v := 0) hX dX9_nilInputs_2 (by decide) ?_
  refine kr_istore_n (i := 2) hX dX9_nilInputs_3 rfl (by decide) rfl rfl ?_
  exact lp_nilI hX hr hp0 8 0 _ 0 (by omega) ⟨rfl, rfl⟩

set_option maxHeartbeats 4000000 in
set_option maxRecDepth 100000 in
theorem sp_sheet {G : kt_G} {σ : kt_Y} {μ : kt_M} {o : Nat} (hp : kt_kt σ o) {k l n : Int32} : kt_F G yX9_sheet cX9_sheet 4 (some .int) 1 [.ref o, .int k, .int l, .int n] σ μ (fun r μ2 => r = some (.int (ut_sheet μ o k l n).1) ∧ μ2 = (ut_sheet μ o k l n).2) := by
  refine kt_F.of (by decide) (Nat.le_of_ble_eq_true rfl) (fun X hX hr => ?_)
  have hp0 := hp
  obtain ⟨hk0, hr0, hr1, hr2, hr3, hr4, hr5, hr6, hr7, hr8, hr9, hr10, hr11, hr12, hk152, hk153, hk369, hk370, hk371, hrd, hdr, hor, hcu, hfw, hpt, hrn, hdi, him, hsh⟩ := hp
  have hks : ∀ k : Int32, k_wi k 3 → vp_in k 4 ∧ k.toNatClampNeg < 4 := fun k h => by
    obtain ⟨j, hj, e⟩ := k_wi_nI h (n := 4) (by decide) (by decide)
    exact ⟨k_wi_in h (by decide), by rw [e, nI_clamp (by omega)]; exact hj⟩
  refine kr_iload_n (i := 1) hX dX9_sheet_0 rfl rfl ?_
  refine kr_iconst (v := 3) hX dX9_sheet_1 (by decide) ?_
  refine kr_dS [_, _] hX km_9_92 dX9_sheet_2 (sp_within) rfl rfl (by decide) (Nat.le_of_ble_eq_true rfl) (Nat.le_refl _) (Nat.le_refl _) ?_
  refine kr_if_eq (tgt := 22) hX dX9_sheet_5 (by decide) (fun c_5 => ?_) (fun c_5 => ?_)
  · skip
    refine kr_iconst (v := (-1)) hX dX9_sheet_22 (by decide) ?_
    refine kr_iret hX hr dX9_sheet_23 ⟨rfl, ?_⟩
    simp only [kt_f_0, Classical.not_not] at c_5
    unfold ut_sheet
    rw [if_neg (fun h => c_5 h.1)]
    exact ⟨rfl, rfl⟩
  · skip
    refine kr_iload_n (i := 2) hX dX9_sheet_8 rfl rfl ?_
    refine kr_iconst (v := 2) hX dX9_sheet_9 (by decide) ?_
    refine kr_dS [_, _] hX km_9_92 dX9_sheet_10 (sp_within) rfl rfl (by decide) (Nat.le_of_ble_eq_true rfl) (Nat.le_refl _) (Nat.le_refl _) ?_
    refine kr_if_eq (tgt := 22) hX dX9_sheet_13 (by decide) (fun c_13 => ?_) (fun c_13 => ?_)
    · skip
      refine kr_iconst (v := (-1)) hX dX9_sheet_22 (by decide) ?_
      refine kr_iret hX hr dX9_sheet_23 ⟨rfl, ?_⟩
      simp only [kt_f_0, Classical.not_not] at c_5
      unfold ut_sheet
      simp only [kt_f_0, Classical.not_not] at c_13
      rw [if_neg (fun h => c_13 h.2.1)]
      exact ⟨rfl, rfl⟩
    · skip
      refine kr_iload_n (i := 3) hX dX9_sheet_16 rfl rfl ?_
      refine kr_bipush (v := 40) hX dX9_sheet_17 (by decide) ?_
      refine kr_icmp_le (tgt := 24) hX dX9_sheet_19 (by decide) (fun c_19 => ?_) (fun c_19 => ?_)
      · skip
        refine kr_iload_n (i := 3) hX dX9_sheet_24 rfl rfl ?_
        refine kr_if_ge (tgt := 31) hX dX9_sheet_25 (by decide) (fun c_25 => ?_) (fun c_25 => ?_)
        · skip
          refine kr_aload_n (i := 0) hX dX9_sheet_31 rfl rfl ?_
          refine kr_getr (c0 := 9) (k := 12) hX ⟨_, kf_9_76⟩ dX9_sheet_32 rfl (by first | exact hk0 | exact hrd.1 | exact hdr.1 | exact hor.1 | exact hcu.1 | exact hfw.1 | exact hpt.1 | exact hrn.1 | exact hdi | assumption) (by assumption) ?_
          refine kr_iload_n (i := 1) hX dX9_sheet_35 rfl rfl ?_
          refine kr_aald (t := 3) hX dX9_sheet_36 (by decide) (by first | exact hk0 | exact hrd.1 | exact hdr.1 | exact hor.1 | exact hcu.1 | exact hfw.1 | exact hpt.1 | exact hrn.1 | exact hdi | assumption) (by simp only [kt_f_0, Classical.not_not] at c_5; exact (hks k c_5).1) (by simp only [kt_f_0, Classical.not_not] at c_5; exact (hsh _ (hks k c_5).2).1) ?_
          refine kr_iload_n (i := 2) hX dX9_sheet_37 rfl rfl ?_
          refine kr_iload_n (i := 3) hX dX9_sheet_38 rfl rfl ?_
          refine kr_dV (c1 := 8) [_, _] hX km_9_290 dX9_sheet_39 (sp_create (hsh _ (by simp only [kt_f_0, Classical.not_not] at c_5; exact (hks k c_5).2)).2) rfl rfl ⟨_, _, rfl⟩ (by decide) (Nat.le_of_ble_eq_true rfl) (Nat.le_refl _) (Nat.le_refl _) (by simp only [kt_f_0, Classical.not_not] at c_5; exact (hsh _ (hks k c_5).2).2.1) ?_
          refine kr_iconst (v := 1) hX dX9_sheet_42 (by decide) ?_
          refine kr_iret hX hr dX9_sheet_43 ⟨rfl, ?_⟩
          simp only [kt_f_0, Classical.not_not] at c_5
          unfold ut_sheet
          simp only [kt_f_0, Classical.not_not] at c_13
          rw [if_pos ⟨c_5, c_13, c_19⟩, if_pos c_25]
          exact ⟨rfl, rfl⟩
        · skip
          refine kr_bipush (v := (-14)) hX dX9_sheet_28 (by decide) ?_
          refine kr_iret hX hr dX9_sheet_30 ⟨rfl, ?_⟩
          simp only [kt_f_0, Classical.not_not] at c_5
          unfold ut_sheet
          simp only [kt_f_0, Classical.not_not] at c_13
          rw [if_pos ⟨c_5, c_13, c_19⟩, if_neg c_25]
          exact ⟨rfl, rfl⟩
      · skip
        refine kr_iconst (v := (-1)) hX dX9_sheet_22 (by decide) ?_
        refine kr_iret hX hr dX9_sheet_23 ⟨rfl, ?_⟩
        simp only [kt_f_0, Classical.not_not] at c_5
        unfold ut_sheet
        simp only [kt_f_0, Classical.not_not] at c_13
        rw [if_neg (fun h => c_19 h.2.2)]
        exact ⟨rfl, rfl⟩

set_option maxHeartbeats 4000000 in
set_option maxRecDepth 100000 in
theorem sp_lay {G : kt_G} {σ : kt_Y} {μ : kt_M} {o : Nat} (hp : kt_kt σ o) {k i v : Int32} : kt_F G yX9_lay cX9_lay 4 (some .int) 2 [.ref o, .int k, .int i, .int v] σ μ (fun r μ2 => r = some (.int (ut_lay μ o k i v).1) ∧ μ2 = (ut_lay μ o k i v).2) := by
  refine kt_F.of (by decide) (Nat.le_of_ble_eq_true rfl) (fun X hX hr => ?_)
  have hp0 := hp
  obtain ⟨hk0, hr0, hr1, hr2, hr3, hr4, hr5, hr6, hr7, hr8, hr9, hr10, hr11, hr12, hk152, hk153, hk369, hk370, hk371, hrd, hdr, hor, hcu, hfw, hpt, hrn, hdi, him, hsh⟩ := hp
  have hks : ∀ k : Int32, k_wi k 3 → vp_in k 4 ∧ k.toNatClampNeg < 4 := fun k h => by
    obtain ⟨j, hj, e⟩ := k_wi_nI h (n := 4) (by decide) (by decide)
    exact ⟨k_wi_in h (by decide), by rw [e, nI_clamp (by omega)]; exact hj⟩
  refine kr_iload_n (i := 1) hX dX9_lay_0 rfl rfl ?_
  refine kr_iconst (v := 3) hX dX9_lay_1 (by decide) ?_
  refine kr_dS [_, _] hX km_9_92 dX9_lay_2 (sp_within) rfl rfl (by decide) (Nat.le_of_ble_eq_true rfl) (Nat.le_refl _) (Nat.le_refl _) ?_
  refine kr_if_ne (tgt := 10) hX dX9_lay_5 (by decide) (fun c_5 => ?_) (fun c_5 => ?_)
  · skip
    refine kr_aload_n (i := 0) hX dX9_lay_10 rfl rfl ?_
    refine kr_getr (c0 := 9) (k := 12) hX ⟨_, kf_9_76⟩ dX9_lay_11 rfl (by first | exact hk0 | exact hrd.1 | exact hdr.1 | exact hor.1 | exact hcu.1 | exact hfw.1 | exact hpt.1 | exact hrn.1 | exact hdi | assumption) (by assumption) ?_
    refine kr_iload_n (i := 1) hX dX9_lay_14 rfl rfl ?_
    refine kr_aald (t := 3) hX dX9_lay_15 (by decide) (by first | exact hk0 | exact hrd.1 | exact hdr.1 | exact hor.1 | exact hcu.1 | exact hfw.1 | exact hpt.1 | exact hrn.1 | exact hdi | assumption) (by simp only [kt_f_0, Classical.not_not] at c_5; exact (hks k c_5).1) (by simp only [kt_f_0, Classical.not_not] at c_5; exact (hsh _ (hks k c_5).2).1) ?_
    refine kr_dV (c1 := 8) [] hX km_9_293 dX9_lay_16 (sp_missing (hsh _ (by simp only [kt_f_0, Classical.not_not] at c_5; exact (hks k c_5).2)).2) rfl rfl ⟨_, _, rfl⟩ (by decide) (Nat.le_of_ble_eq_true rfl) (Nat.le_refl _) (Nat.le_refl _) (by simp only [kt_f_0, Classical.not_not] at c_5; exact (hsh _ (hks k c_5).2).2.1) ?_
    refine kr_if_eq (tgt := 25) hX dX9_lay_19 (by decide) (fun c_19 => ?_) (fun c_19 => ?_)
    · skip
      refine kr_aload_n (i := 0) hX dX9_lay_25 rfl rfl ?_
      refine kr_getr (c0 := 9) (k := 12) hX ⟨_, kf_9_76⟩ dX9_lay_26 rfl (by first | exact hk0 | exact hrd.1 | exact hdr.1 | exact hor.1 | exact hcu.1 | exact hfw.1 | exact hpt.1 | exact hrn.1 | exact hdi | assumption) (by assumption) ?_
      refine kr_iload_n (i := 1) hX dX9_lay_29 rfl rfl ?_
      refine kr_aald (t := 3) hX dX9_lay_30 (by decide) (by first | exact hk0 | exact hrd.1 | exact hdr.1 | exact hor.1 | exact hcu.1 | exact hfw.1 | exact hpt.1 | exact hrn.1 | exact hdi | assumption) (by simp only [kt_f_0, Classical.not_not] at c_5; exact (hks k c_5).1) (by simp only [kt_f_0, Classical.not_not] at c_5; exact (hsh _ (hks k c_5).2).1) ?_
      refine kr_iload_n (i := 2) hX dX9_lay_31 rfl rfl ?_
      refine kr_iload_n (i := 3) hX dX9_lay_32 rfl rfl ?_
      refine kr_dV (c1 := 8) [_, _] hX km_9_296 dX9_lay_33 (sp_sput (hsh _ (by simp only [kt_f_0, Classical.not_not] at c_5; exact (hks k c_5).2)).2) rfl rfl ⟨_, _, rfl⟩ (by decide) (Nat.le_of_ble_eq_true rfl) (Nat.le_refl _) (Nat.le_refl _) (by simp only [kt_f_0, Classical.not_not] at c_5; exact (hsh _ (hks k c_5).2).2.1) ?_
      refine kr_if_eq (tgt := 43) hX dX9_lay_36 (by decide) (fun c_36 => ?_) (fun c_36 => ?_)
      · skip
        refine kr_bipush (v := (-12)) hX dX9_lay_43 (by decide) ?_
        refine kr_iret hX hr dX9_lay_45 ⟨rfl, ?_⟩
        simp only [kt_f_0, Classical.not_not] at c_5
        unfold ut_lay
        rw [if_pos c_5]
        dsimp only
        simp only [kt_f_0, Classical.not_not] at c_19
        rw [if_neg c_19]
        simp only [kt_f_0, Classical.not_not] at c_36
        rw [if_neg c_36, if_neg c_36]
        exact ⟨rfl, rfl⟩
      · skip
        refine kr_iconst (v := 1) hX dX9_lay_39 (by decide) ?_
        refine kr_goto (tgt := 45) hX dX9_lay_40 (by decide) ?_
        refine kr_iret hX hr dX9_lay_45 ⟨rfl, ?_⟩
        simp only [kt_f_0, Classical.not_not] at c_5
        unfold ut_lay
        rw [if_pos c_5]
        dsimp only
        simp only [kt_f_0, Classical.not_not] at c_19
        rw [if_neg c_19]
        simp only [kt_f_0, Classical.not_not] at c_36
        rw [if_pos c_36, if_pos c_36]
        exact ⟨rfl, rfl⟩
    · skip
      refine kr_bipush (v := (-11)) hX dX9_lay_22 (by decide) ?_
      refine kr_iret hX hr dX9_lay_24 ⟨rfl, ?_⟩
      simp only [kt_f_0, Classical.not_not] at c_5
      unfold ut_lay
      rw [if_pos c_5]
      dsimp only
      simp only [kt_f_0, Classical.not_not] at c_19
      rw [if_pos c_19]
      exact ⟨rfl, rfl⟩
  · skip
    refine kr_iconst (v := (-1)) hX dX9_lay_8 (by decide) ?_
    refine kr_iret hX hr dX9_lay_9 ⟨rfl, ?_⟩
    simp only [kt_f_0, Classical.not_not] at c_5
    unfold ut_lay
    rw [if_neg c_5]
    exact ⟨rfl, rfl⟩


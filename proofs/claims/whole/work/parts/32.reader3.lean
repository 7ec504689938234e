/-- the reader between two tokens: start and next lie within the text -/
def k_rdok (μ : kt_M) (p L : Nat) : Prop := kt_i μ p 1 = nI L ∧ L ≤ 200 ∧ ∃ s a : Nat, kt_i μ p 5 = nI s ∧ kt_i μ p 6 = nI a ∧ s ≤ a ∧ a ≤ L
theorem k_tok_le (T : Nat → Int32) (L a : Nat) (h : a ≤ L) : (k_tok T L a).1 ≤ (k_tok T L a).2.2.1 ∧ (k_tok T L a).2.2.1 ≤ L := by
  unfold k_tok
  dsimp only
  have h1 := k_skip_le T (L - a) a
  split
  · dsimp only
    split
    · have h2 := k_run_le T (k_sort (T (k_skip T (L - a) a))) (L - (k_skip T (L - a) a + 1)) (k_skip T (L - a) a + 1)
      omega
    · omega
  · dsimp only; omega
theorem m_fail_k {μ : kt_M} {p x : Nat} {f : Int32} (h : x ≠ 2 ∧ x ≠ 3) : kt_i (m_fail μ p f) p x = kt_i μ p x := by
  unfold m_fail; rw [kt_i_sik h.2, kt_i_sik h.1]
theorem m_fail_out {μ : kt_M} {p x k : Nat} {f : Int32} (h : x ≠ p) : kt_i (m_fail μ p f) x k = kt_i μ x k := by
  unfold m_fail; rw [kt_i_sin h, kt_i_sin h]
theorem k_rdok.keep {μ μ' : kt_M} {p L : Nat} (h : k_rdok μ p L) (h1 : kt_i μ' p 1 = kt_i μ p 1) (h5 : kt_i μ' p 5 = kt_i μ p 5) (h6 : kt_i μ' p 6 = kt_i μ p 6) : k_rdok μ' p L := by
  obtain ⟨a, b, s, n, c, d, e⟩ := h
  exact ⟨h1.trans a, b, s, n, h5.trans c, h6.trans d, e⟩
theorem k_rdok.fail {μ : kt_M} {p L : Nat} {f : Int32} (h : k_rdok μ p L) : k_rdok (m_fail μ p f) p L := h.keep (m_fail_k (by decide)) (m_fail_k (by decide)) (m_fail_k (by decide))
theorem k_rdok.adv {μ : kt_M} {p L : Nat} (h : k_rdok μ p L) : k_rdok (a_mem μ p) p L := by
  obtain ⟨hL, hL2, s, a, hs, ha, hsa, haL⟩ := h
  have ea : a_tok μ p = k_tok (k_T μ p) L a := by unfold a_tok; rw [hL, ha, nI_clamp (by omega), nI_clamp (by omega)]
  have hle := k_tok_le (k_T μ p) L a haL
  have h1 : k_rdok (m_tk μ p (a_tok μ p).1 (a_tok μ p).2.1 (a_tok μ p).2.2.1) p L := ⟨by rw [m_tk_k (by decide)]; exact hL, hL2, _, _, m_tk_5, m_tk_6, by rw [ea]; exact hle⟩
  unfold a_mem
  dsimp only
  split
  · exact h1
  · exact h1.fail
theorem k_rdok.far {μ : kt_M} {p L b k : Nat} {v : Int32} (h : k_rdok μ p L) (hb : b ≠ p) : k_rdok (kt_si μ b k v) p L := h.keep (kt_i_sin (Ne.symm hb)) (kt_i_sin (Ne.symm hb)) (kt_i_sin (Ne.symm hb))
theorem a_mem_out {μ : kt_M} {p x k : Nat} (h : x ≠ p) : kt_i (a_mem μ p) x k = kt_i μ x k := by
  unfold a_mem
  dsimp only
  split
  · exact m_tk_out h
  · rw [m_fail_out h, m_tk_out h]
abbrev a_ok (μ : kt_M) (p : Nat) : Prop := (a_tok μ p).2.2.2 = true
def a_let (μ : kt_M) (p : Nat) : Int32 := if kt_i μ p 4 = 1 ∧ kt_i μ p 6 - kt_i μ p 5 = 1 then k_by μ p (kt_i μ p 5) - 97 else -1
def a_var (μ : kt_M) (p : Nat) : Int32 × kt_M := if ¬ (0 ≤ a_let μ p ∧ a_let μ p < 4) then (-1, m_fail μ p 2) else (if a_ok μ p then a_let μ p else -1, a_mem μ p)
def a_val (μ : kt_M) (p : Nat) : Int32 := if kt_i μ p 4 = 2 then k_numL μ p ((kt_i μ p 6).toNatClampNeg - (kt_i μ p 5).toNatClampNeg) (kt_i μ p 5).toNatClampNeg 0 else -1
def a_num (μ : kt_M) (p : Nat) (t : Int32) : Int32 × kt_M := if a_val μ p < 0 ∨ ¬ a_val μ p ≤ t then (-1, m_fail μ p (if a_val μ p < 0 then 2 else 3)) else (if a_ok μ p then a_val μ p else -1, a_mem μ p)
def a_sgn (μ : kt_M) (p : Nat) (c : Int32) : Int32 × kt_M := if k_sign μ p c then (kt_f (a_ok μ p), a_mem μ p) else (0, m_fail μ p 2)
def k_act (μ : kt_M) (p : Nat) : Int32 := if k_word μ p 0 then 0 else if k_word μ p 1 then 1 else if k_word μ p 2 then 2 else if k_word μ p 3 then 3 else if k_word μ p 4 then 4 else if k_word μ p 5 then 5 else -1
def b_tgt (μ : kt_M) (p k : Nat) (s : Int32) : Int32 × kt_M := (kt_f (¬ (a_num μ p 7).1 < 0), kt_si (a_num μ p 7).2 k (if s = 0 then 8 else 9) (a_num μ p 7).1)
theorem k_rdok.var {μ : kt_M} {p L : Nat} (h : k_rdok μ p L) : k_rdok (a_var μ p).2 p L := by
  unfold a_var; split
  · exact h.fail
  · exact h.adv
theorem k_rdok.num {μ : kt_M} {p L : Nat} {t : Int32} (h : k_rdok μ p L) : k_rdok (a_num μ p t).2 p L := by
  unfold a_num; split
  · exact h.fail
  · exact h.adv
theorem k_rdok.sgn {μ : kt_M} {p L : Nat} {t : Int32} (h : k_rdok μ p L) : k_rdok (a_sgn μ p t).2 p L := by
  unfold a_sgn; split
  · exact h.adv
  · exact h.fail
theorem a_var_out {μ : kt_M} {p x k : Nat} (h : x ≠ p) : kt_i (a_var μ p).2 x k = kt_i μ x k := by
  unfold a_var; split
  · exact m_fail_out h
  · exact a_mem_out h
theorem a_num_out {μ : kt_M} {p x k : Nat} {t : Int32} (h : x ≠ p) : kt_i (a_num μ p t).2 x k = kt_i μ x k := by
  unfold a_num; split
  · exact m_fail_out h
  · exact a_mem_out h
theorem a_sgn_out {μ : kt_M} {p x k : Nat} {t : Int32} (h : x ≠ p) : kt_i (a_sgn μ p t).2 x k = kt_i μ x k := by
  unfold a_sgn; split
  · exact a_mem_out h
  · exact m_fail_out h
set_option maxHeartbeats 4000000 in
set_option maxRecDepth 100000 in
theorem sp_var {G : kt_G} {σ : kt_Y} {μ : kt_M} {p : Nat} (hp : kt_rd σ p) {L : Nat} (ho : k_rdok μ p L) : kt_F G yX6_takeVariable cX6_takeVariable 2 (some .int) 2 [.ref p] σ μ (fun r μ2 => r = some (.int (a_var μ p).1) ∧ μ2 = (a_var μ p).2) := by
  refine kt_F.of (by decide) (Nat.le_of_ble_eq_true rfl) (fun X hX hr => ?_)
  have hp0 := hp
  obtain ⟨hk0, hr0, hk1⟩ := hp
  obtain ⟨hL, hL2, s0, a0, hs0, ha0, hsa, haL⟩ := id ho
  have hlet : ∀ l, l = a_let μ p → kt_W G X 2 37 [(0, .ref p), (1, .int l)] [] σ μ 0 0 (kt_Z G X (kt_q σ (fun r μ2 => r = some (.int (a_var μ p).1) ∧ μ2 = (a_var μ p).2)) 0 0) := by
    intro l el
    refine kr_iload_n (i := 1) hX dX6_takeVariable_37 rfl rfl ?_
    refine kr_dSN [_] hX km_6_137 dX6_takeVariable_38 (sp_isVar) rfl rfl (by decide) (Nat.le_of_ble_eq_true rfl) (Nat.le_refl _) (Nat.le_refl _) ?_
    refine kr_if_ne (tgt := 52) hX dX6_takeVariable_41 (by decide) (fun c_41 => ?_) (fun c_41 => ?_)
    · skip
      refine kr_aload_n (i := 0) hX dX6_takeVariable_52 rfl rfl ?_
      refine kr_dV (c1 := 6) [] hX km_6_39 dX6_takeVariable_53 (sp_adv hp0 hL hL2 ha0 haL) rfl rfl ⟨_, _, rfl⟩ (by decide) (Nat.le_of_ble_eq_true rfl) (Nat.le_refl _) (Nat.le_refl _) (by assumption) ?_
      refine kr_if_eq (tgt := 63) hX dX6_takeVariable_56 (by decide) (fun c_56 => ?_) (fun c_56 => ?_)
      · skip
        refine kr_iconst (v := (-1)) hX dX6_takeVariable_63 (by decide) ?_
        refine kr_iret hX hr dX6_takeVariable_64 ⟨rfl, ?_⟩
        simp only [kt_f_0, Classical.not_not] at c_41
        (try simp only [kt_f_0, Classical.not_not] at c_56)
        unfold a_var
        rw [← el]
        first
        | (rw [if_pos c_41]; exact ⟨rfl, rfl⟩)
        | (rw [if_neg (fun h => h c_41), if_pos c_56]; exact ⟨rfl, rfl⟩)
        | (rw [if_neg (fun h => h c_41), if_neg c_56]; exact ⟨rfl, rfl⟩)
      · skip
        refine kr_iload_n (i := 1) hX dX6_takeVariable_59 rfl rfl ?_
        refine kr_goto (tgt := 64) hX dX6_takeVariable_60 (by decide) ?_
        refine kr_iret hX hr dX6_takeVariable_64 ⟨rfl, ?_⟩
        simp only [kt_f_0, Classical.not_not] at c_41
        (try simp only [kt_f_0, Classical.not_not] at c_56)
        unfold a_var
        rw [← el]
        first
        | (rw [if_pos c_41]; exact ⟨rfl, rfl⟩)
        | (rw [if_neg (fun h => h c_41), if_pos c_56]; exact ⟨rfl, rfl⟩)
        | (rw [if_neg (fun h => h c_41), if_neg c_56]; exact ⟨rfl, rfl⟩)
    · skip
      refine kr_aload_n (i := 0) hX dX6_takeVariable_44 rfl rfl ?_
      refine kr_iconst (v := 2) hX dX6_takeVariable_45 (by decide) ?_
      refine kr_dV (c1 := 6) [_] hX km_6_51 dX6_takeVariable_46 (sp_fail hp0) rfl rfl ⟨_, _, rfl⟩ (by decide) (Nat.le_of_ble_eq_true rfl) (Nat.le_refl _) (Nat.le_refl _) (by assumption) ?_
      refine kr_pop hX dX6_takeVariable_49 rfl ?_
      refine kr_iconst (v := (-1)) hX dX6_takeVariable_50 (by decide) ?_
      refine kr_iret hX hr dX6_takeVariable_51 ⟨rfl, ?_⟩
      simp only [kt_f_0, Classical.not_not] at c_41
      (try simp only [kt_f_0, Classical.not_not] at c_56)
      unfold a_var
      rw [← el]
      first
      | (rw [if_pos c_41]; exact ⟨rfl, rfl⟩)
      | (rw [if_neg (fun h => h c_41), if_pos c_56]; exact ⟨rfl, rfl⟩)
      | (rw [if_neg (fun h => h c_41), if_neg c_56]; exact ⟨rfl, rfl⟩)
  refine kr_aload_n (i := 0) hX dX6_takeVariable_0 rfl rfl ?_
  refine kr_geti (c0 := 6) (k := 4) hX ⟨_, kf_6_25⟩ dX6_takeVariable_1 rfl (by assumption) ?_
  refine kr_iconst (v := 1) hX dX6_takeVariable_4 (by decide) ?_
  refine kr_icmp_ne (tgt := 35) hX dX6_takeVariable_5 (by decide) (fun c_5 => ?_) (fun c_5 => ?_)
  · skip
    refine kr_iconst (v := (-1)) hX dX6_takeVariable_35 (by decide) ?_
    refine kr_istore_n (i := 1) hX dX6_takeVariable_36 rfl (by decide) rfl rfl ?_
    refine hlet _ ?_
    unfold a_let
    first
    | exact (if_pos ⟨by assumption, by assumption⟩).symm
    | exact (if_neg (fun h => absurd h.2 (by assumption))).symm
    | exact (if_neg (fun h => absurd h.1 (by assumption))).symm
  · skip
    refine kr_aload_n (i := 0) hX dX6_takeVariable_8 rfl rfl ?_
    refine kr_geti (c0 := 6) (k := 6) hX ⟨_, kf_6_31⟩ dX6_takeVariable_9 rfl (by assumption) ?_
    refine kr_aload_n (i := 0) hX dX6_takeVariable_12 rfl rfl ?_
    refine kr_geti (c0 := 6) (k := 5) hX ⟨_, kf_6_28⟩ dX6_takeVariable_13 rfl (by assumption) ?_
    refine kr_isub hX dX6_takeVariable_16 ?_
    refine kr_iconst (v := 1) hX dX6_takeVariable_17 (by decide) ?_
    refine kr_icmp_ne (tgt := 35) hX dX6_takeVariable_18 (by decide) (fun c_18 => ?_) (fun c_18 => ?_)
    · skip
      refine kr_iconst (v := (-1)) hX dX6_takeVariable_35 (by decide) ?_
      refine kr_istore_n (i := 1) hX dX6_takeVariable_36 rfl (by decide) rfl rfl ?_
      refine hlet _ ?_
      unfold a_let
      first
      | exact (if_pos ⟨by assumption, by assumption⟩).symm
      | exact (if_neg (fun h => absurd h.2 (by assumption))).symm
      | exact (if_neg (fun h => absurd h.1 (by assumption))).symm
    · skip
      refine kr_aload_n (i := 0) hX dX6_takeVariable_21 rfl rfl ?_
      refine kr_aload_n (i := 0) hX dX6_takeVariable_22 rfl rfl ?_
      refine kr_geti (c0 := 6) (k := 5) hX ⟨_, kf_6_28⟩ dX6_takeVariable_23 rfl (by assumption) ?_
      refine kr_dV (c1 := 6) [_] hX km_6_134 dX6_takeVariable_26 (sp_byte hp0) rfl rfl ⟨_, _, rfl⟩ (by decide) (Nat.le_of_ble_eq_true rfl) (Nat.le_refl _) (Nat.le_refl _) (by assumption) ?_
      refine kr_bipush (v := 97) hX dX6_takeVariable_29 (by decide) ?_
      refine kr_isub hX dX6_takeVariable_31 ?_
      refine kr_goto (tgt := 36) hX dX6_takeVariable_32 (by decide) ?_
      refine kr_istore_n (i := 1) hX dX6_takeVariable_36 rfl (by decide) rfl rfl ?_
      refine hlet _ ?_
      unfold a_let
      first
      | exact (if_pos ⟨by assumption, by assumption⟩).symm
      | exact (if_neg (fun h => absurd h.2 (by assumption))).symm
      | exact (if_neg (fun h => absurd h.1 (by assumption))).symm

set_option maxHeartbeats 4000000 in
set_option maxRecDepth 100000 in
theorem sp_num {G : kt_G} {σ : kt_Y} {μ : kt_M} {p : Nat} (hp : kt_rd σ p) {L : Nat} (ho : k_rdok μ p L) {t : Int32} : kt_F G yX6_takeNumber cX6_takeNumber 3 (some .int) 2 [.ref p, .int t] σ μ (fun r μ2 => r = some (.int (a_num μ p t).1) ∧ μ2 = (a_num μ p t).2) := by
  refine kt_F.of (by decide) (Nat.le_of_ble_eq_true rfl) (fun X hX hr => ?_)
  have hp0 := hp
  obtain ⟨hk0, hr0, hk1⟩ := hp
  obtain ⟨hL, hL2, s0, a0, hs0, ha0, hsa, haL⟩ := id ho
  have hval : ∀ v, v = a_val μ p → kt_W G X 3 17 [(0, .ref p), (1, .int t), (2, .int v)] [] σ μ 0 0 (kt_Z G X (kt_q σ (fun r μ2 => r = some (.int (a_num μ p t).1) ∧ μ2 = (a_num μ p t).2)) 0 0) := by
    intro v ev
    refine kr_iload_n (i := 2) hX dX6_takeNumber_17 rfl rfl ?_
    refine kr_if_lt (tgt := 26) hX dX6_takeNumber_18 (by decide) (fun c_18 => ?_) (fun c_18 => ?_)
    · skip
      refine kr_aload_n (i := 0) hX dX6_takeNumber_26 rfl rfl ?_
      refine kr_iload_n (i := 2) hX dX6_takeNumber_27 rfl rfl ?_
      refine kr_if_ge (tgt := 35) hX dX6_takeNumber_28 (by decide) (fun c_28 => ?_) (fun c_28 => ?_)
      · skip
        refine kr_iconst (v := 3) hX dX6_takeNumber_35 (by decide) ?_
        refine kr_dV (c1 := 6) [_] hX km_6_51 dX6_takeNumber_36 (sp_fail hp0) rfl rfl ⟨_, _, rfl⟩ (by decide) (Nat.le_of_ble_eq_true rfl) (Nat.le_refl _) (Nat.le_refl _) (by assumption) ?_
        refine kr_pop hX dX6_takeNumber_39 rfl ?_
        refine kr_iconst (v := (-1)) hX dX6_takeNumber_40 (by decide) ?_
        refine kr_iret hX hr dX6_takeNumber_41 ⟨rfl, ?_⟩
        (try simp only [kt_f_0, Classical.not_not] at c_46)
        unfold a_num
        rw [← ev]
        by_cases hh : v < 0 ∨ ¬ v ≤ t
        · rw [if_pos hh]
          first
          | (rw [if_pos (by assumption)]; exact ⟨rfl, rfl⟩)
          | (rw [if_neg (by assumption)]; exact ⟨rfl, rfl⟩)
          | exact absurd hh (fun h => h.elim (by assumption) (fun h2 => h2 (by assumption)))
          | exact absurd (Int32.not_lt.mpr c_28) (fun h => h c_18)
          | exact absurd c_18 (Int32.not_lt.mpr c_28)
          | exact absurd (Int32.not_le.mp c_28) c_18
        · rw [if_neg hh]
          first
          | exact absurd (Or.inl c_18) hh
          | exact absurd (Or.inr c_23) hh
          | (rw [if_pos c_46]; exact ⟨rfl, rfl⟩)
          | (rw [if_neg c_46]; exact ⟨rfl, rfl⟩)
      · skip
        refine kr_iconst (v := 2) hX dX6_takeNumber_31 (by decide) ?_
        refine kr_goto (tgt := 36) hX dX6_takeNumber_32 (by decide) ?_
        refine kr_dV (c1 := 6) [_] hX km_6_51 dX6_takeNumber_36 (sp_fail hp0) rfl rfl ⟨_, _, rfl⟩ (by decide) (Nat.le_of_ble_eq_true rfl) (Nat.le_refl _) (Nat.le_refl _) (by assumption) ?_
        refine kr_pop hX dX6_takeNumber_39 rfl ?_
        refine kr_iconst (v := (-1)) hX dX6_takeNumber_40 (by decide) ?_
        refine kr_iret hX hr dX6_takeNumber_41 ⟨rfl, ?_⟩
        (try simp only [kt_f_0, Classical.not_not] at c_46)
        unfold a_num
        rw [← ev]
        by_cases hh : v < 0 ∨ ¬ v ≤ t
        · rw [if_pos hh]
          first
          | (rw [if_pos (by assumption)]; exact ⟨rfl, rfl⟩)
          | (rw [if_neg (by assumption)]; exact ⟨rfl, rfl⟩)
          | exact absurd hh (fun h => h.elim (by assumption) (fun h2 => h2 (by assumption)))
          | exact absurd (Int32.not_lt.mpr c_28) (fun h => h c_18)
          | exact absurd c_18 (Int32.not_lt.mpr c_28)
          | exact absurd (Int32.not_le.mp c_28) c_18
        · rw [if_neg hh]
          first
          | exact absurd (Or.inl c_18) hh
          | exact absurd (Or.inr c_23) hh
          | (rw [if_pos c_46]; exact ⟨rfl, rfl⟩)
          | (rw [if_neg c_46]; exact ⟨rfl, rfl⟩)
    · skip
      refine kr_iload_n (i := 2) hX dX6_takeNumber_21 rfl rfl ?_
      refine kr_iload_n (i := 1) hX dX6_takeNumber_22 rfl rfl ?_
      refine kr_icmp_le (tgt := 42) hX dX6_takeNumber_23 (by decide) (fun c_23 => ?_) (fun c_23 => ?_)
      · skip
        refine kr_aload_n (i := 0) hX dX6_takeNumber_42 rfl rfl ?_
        refine kr_dV (c1 := 6) [] hX km_6_39 dX6_takeNumber_43 (sp_adv hp0 hL hL2 ha0 haL) rfl rfl ⟨_, _, rfl⟩ (by decide) (Nat.le_of_ble_eq_true rfl) (Nat.le_refl _) (Nat.le_refl _) (by assumption) ?_
        refine kr_if_eq (tgt := 53) hX dX6_takeNumber_46 (by decide) (fun c_46 => ?_) (fun c_46 => ?_)
        · skip
          refine kr_iconst (v := (-1)) hX dX6_takeNumber_53 (by decide) ?_
          refine kr_iret hX hr dX6_takeNumber_54 ⟨rfl, ?_⟩
          (try simp only [kt_f_0, Classical.not_not] at c_46)
          unfold a_num
          rw [← ev]
          by_cases hh : v < 0 ∨ ¬ v ≤ t
          · rw [if_pos hh]
            first
            | (rw [if_pos (by assumption)]; exact ⟨rfl, rfl⟩)
            | (rw [if_neg (by assumption)]; exact ⟨rfl, rfl⟩)
            | exact absurd hh (fun h => h.elim (by assumption) (fun h2 => h2 (by assumption)))
            | exact absurd (Int32.not_lt.mpr c_28) (fun h => h c_18)
            | exact absurd c_18 (Int32.not_lt.mpr c_28)
            | exact absurd (Int32.not_le.mp c_28) c_18
          · rw [if_neg hh]
            first
            | exact absurd (Or.inl c_18) hh
            | exact absurd (Or.inr c_23) hh
            | (rw [if_pos c_46]; exact ⟨rfl, rfl⟩)
            | (rw [if_neg c_46]; exact ⟨rfl, rfl⟩)
        · skip
          refine kr_iload_n (i := 2) hX dX6_takeNumber_49 rfl rfl ?_
          refine kr_goto (tgt := 54) hX dX6_takeNumber_50 (by decide) ?_
          refine kr_iret hX hr dX6_takeNumber_54 ⟨rfl, ?_⟩
          (try simp only [kt_f_0, Classical.not_not] at c_46)
          unfold a_num
          rw [← ev]
          by_cases hh : v < 0 ∨ ¬ v ≤ t
          · rw [if_pos hh]
            first
            | (rw [if_pos (by assumption)]; exact ⟨rfl, rfl⟩)
            | (rw [if_neg (by assumption)]; exact ⟨rfl, rfl⟩)
            | exact absurd hh (fun h => h.elim (by assumption) (fun h2 => h2 (by assumption)))
            | exact absurd (Int32.not_lt.mpr c_28) (fun h => h c_18)
            | exact absurd c_18 (Int32.not_lt.mpr c_28)
            | exact absurd (Int32.not_le.mp c_28) c_18
          · rw [if_neg hh]
            first
            | exact absurd (Or.inl c_18) hh
            | exact absurd (Or.inr c_23) hh
            | (rw [if_pos c_46]; exact ⟨rfl, rfl⟩)
            | (rw [if_neg c_46]; exact ⟨rfl, rfl⟩)
      · skip
        refine kr_aload_n (i := 0) hX dX6_takeNumber_26 rfl rfl ?_
        refine kr_iload_n (i := 2) hX dX6_takeNumber_27 rfl rfl ?_
        refine kr_if_ge (tgt := 35) hX dX6_takeNumber_28 (by decide) (fun c_28 => ?_) (fun c_28 => ?_)
        · skip
          refine kr_iconst (v := 3) hX dX6_takeNumber_35 (by decide) ?_
          refine kr_dV (c1 := 6) [_] hX km_6_51 dX6_takeNumber_36 (sp_fail hp0) rfl rfl ⟨_, _, rfl⟩ (by decide) (Nat.le_of_ble_eq_true rfl) (Nat.le_refl _) (Nat.le_refl _) (by assumption) ?_
          refine kr_pop hX dX6_takeNumber_39 rfl ?_
          refine kr_iconst (v := (-1)) hX dX6_takeNumber_40 (by decide) ?_
          refine kr_iret hX hr dX6_takeNumber_41 ⟨rfl, ?_⟩
          (try simp only [kt_f_0, Classical.not_not] at c_46)
          unfold a_num
          rw [← ev]
          by_cases hh : v < 0 ∨ ¬ v ≤ t
          · rw [if_pos hh]
            first
            | (rw [if_pos (by assumption)]; exact ⟨rfl, rfl⟩)
            | (rw [if_neg (by assumption)]; exact ⟨rfl, rfl⟩)
            | exact absurd hh (fun h => h.elim (by assumption) (fun h2 => h2 (by assumption)))
            | exact absurd (Int32.not_lt.mpr c_28) (fun h => h c_18)
            | exact absurd c_18 (Int32.not_lt.mpr c_28)
            | exact absurd (Int32.not_le.mp c_28) c_18
          · rw [if_neg hh]
            first
            | exact absurd (Or.inl c_18) hh
            | exact absurd (Or.inr c_23) hh
            | (rw [if_pos c_46]; exact ⟨rfl, rfl⟩)
            | (rw [if_neg c_46]; exact ⟨rfl, rfl⟩)
        · skip
          refine kr_iconst (v := 2) hX dX6_takeNumber_31 (by decide) ?_
          refine kr_goto (tgt := 36) hX dX6_takeNumber_32 (by decide) ?_
          refine kr_dV (c1 := 6) [_] hX km_6_51 dX6_takeNumber_36 (sp_fail hp0) rfl rfl ⟨_, _, rfl⟩ (by decide) (Nat.le_of_ble_eq_true rfl) (Nat.le_refl _) (Nat.le_refl _) (by assumption) ?_
          refine kr_pop hX dX6_takeNumber_39 rfl ?_
          refine kr_iconst (v := (-1)) hX dX6_takeNumber_40 (by decide) ?_
          refine kr_iret hX hr dX6_takeNumber_41 ⟨rfl, ?_⟩
          (try simp only [kt_f_0, Classical.not_not] at c_46)
          unfold a_num
          rw [← ev]
          by_cases hh : v < 0 ∨ ¬ v ≤ t
          · rw [if_pos hh]
            first
            | (rw [if_pos (by assumption)]; exact ⟨rfl, rfl⟩)
            | (rw [if_neg (by assumption)]; exact ⟨rfl, rfl⟩)
            | exact absurd hh (fun h => h.elim (by assumption) (fun h2 => h2 (by assumption)))
            | exact absurd (Int32.not_lt.mpr c_28) (fun h => h c_18)
            | exact absurd c_18 (Int32.not_lt.mpr c_28)
            | exact absurd (Int32.not_le.mp c_28) c_18
          · rw [if_neg hh]
            first
            | exact absurd (Or.inl c_18) hh
            | exact absurd (Or.inr c_23) hh
            | (rw [if_pos c_46]; exact ⟨rfl, rfl⟩)
            | (rw [if_neg c_46]; exact ⟨rfl, rfl⟩)
  refine kr_aload_n (i := 0) hX dX6_takeNumber_0 rfl rfl ?_
  refine kr_geti (c0 := 6) (k := 4) hX ⟨_, kf_6_25⟩ dX6_takeNumber_1 rfl (by assumption) ?_
  refine kr_iconst (v := 2) hX dX6_takeNumber_4 (by decide) ?_
  refine kr_icmp_ne (tgt := 15) hX dX6_takeNumber_5 (by decide) (fun c_5 => ?_) (fun c_5 => ?_)
  · skip
    refine kr_iconst (v := (-1)) hX dX6_takeNumber_15 (by decide) ?_
    refine kr_istore_n (i := 2) hX dX6_takeNumber_16 rfl (by decide) rfl rfl ?_
    refine hval _ ?_
    unfold a_val
    first
    | (rw [if_pos c_5, hs0, ha0, nI_clamp (by omega), nI_clamp (by omega)])
    | rw [if_neg c_5]
  · skip
    refine kr_aload_n (i := 0) hX dX6_takeNumber_8 rfl rfl ?_
    refine kr_dV (c1 := 6) [] hX km_6_140 dX6_takeNumber_9 (sp_vah hp0 hs0 ha0 hsa (by omega)) rfl rfl ⟨_, _, rfl⟩ (by decide) (Nat.le_of_ble_eq_true rfl) (Nat.le_refl _) (Nat.le_refl _) (by assumption) ?_
    refine kr_goto (tgt := 16) hX dX6_takeNumber_12 (by decide) ?_
    refine kr_istore_n (i := 2) hX dX6_takeNumber_16 rfl (by decide) rfl rfl ?_
    refine hval _ ?_
    unfold a_val
    first
    | (rw [if_pos c_5, hs0, ha0, nI_clamp (by omega), nI_clamp (by omega)])
    | rw [if_neg c_5]

set_option maxHeartbeats 4000000 in
set_option maxRecDepth 100000 in
theorem sp_sgn {G : kt_G} {σ : kt_Y} {μ : kt_M} {p : Nat} (hp : kt_rd σ p) {L : Nat} (ho : k_rdok μ p L) {c : Int32} : kt_F G yX6_takeSign cX6_takeSign 2 (some .boolean) 2 [.ref p, .int c] σ μ (fun r μ2 => r = some (.int (a_sgn μ p c).1) ∧ μ2 = (a_sgn μ p c).2) := by
  refine kt_F.of (by decide) (Nat.le_of_ble_eq_true rfl) (fun X hX hr => ?_)
  have hp0 := hp
  obtain ⟨hk0, hr0, hk1⟩ := hp
  obtain ⟨hL, hL2, s0, a0, hs0, ha0, hsa, haL⟩ := id ho
  refine kr_aload_n (i := 0) hX dX6_takeSign_0 rfl rfl ?_
  refine kr_iload_n (i := 1) hX dX6_takeSign_1 rfl rfl ?_
  refine kr_dV (c1 := 6) [_] hX km_6_112 dX6_takeSign_2 (sp_sign hp0) rfl rfl ⟨_, _, rfl⟩ (by decide) (Nat.le_of_ble_eq_true rfl) (Nat.le_refl _) (Nat.le_refl _) (by assumption) ?_
  refine kr_if_eq (tgt := 15) hX dX6_takeSign_5 (by decide) (fun c_5 => ?_) (fun c_5 => ?_)
  · skip
    refine kr_aload_n (i := 0) hX dX6_takeSign_15 rfl rfl ?_
    refine kr_iconst (v := 2) hX dX6_takeSign_16 (by decide) ?_
    refine kr_dV (c1 := 6) [_] hX km_6_51 dX6_takeSign_17 (sp_fail hp0) rfl rfl ⟨_, _, rfl⟩ (by decide) (Nat.le_of_ble_eq_true rfl) (Nat.le_refl _) (Nat.le_refl _) (by assumption) ?_
    refine kr_zret hX hr (by first | exact kt_f_01 | exact Or.inl rfl) dX6_takeSign_20 ⟨rfl, ?_⟩
    simp only [kt_f_0, Classical.not_not] at c_5
    unfold a_sgn
    first
    | (rw [if_pos c_5]; exact ⟨rfl, rfl⟩)
    | (rw [if_neg c_5]; exact ⟨rfl, rfl⟩)
  · skip
    refine kr_aload_n (i := 0) hX dX6_takeSign_8 rfl rfl ?_
    refine kr_dV (c1 := 6) [] hX km_6_39 dX6_takeSign_9 (sp_adv hp0 hL hL2 ha0 haL) rfl rfl ⟨_, _, rfl⟩ (by decide) (Nat.le_of_ble_eq_true rfl) (Nat.le_refl _) (Nat.le_refl _) (by assumption) ?_
    refine kr_goto (tgt := 20) hX dX6_takeSign_12 (by decide) ?_
    refine kr_zret hX hr (by first | exact kt_f_01 | exact Or.inl rfl) dX6_takeSign_20 ⟨rfl, ?_⟩
    simp only [kt_f_0, Classical.not_not] at c_5
    unfold a_sgn
    first
    | (rw [if_pos c_5]; exact ⟨rfl, rfl⟩)
    | (rw [if_neg c_5]; exact ⟨rfl, rfl⟩)

set_option maxHeartbeats 4000000 in
set_option maxRecDepth 100000 in
theorem sp_actH {G : kt_G} {σ : kt_Y} {μ : kt_M} {p : Nat} (hp : kt_rd σ p) : kt_F G yX6_actAtHand cX6_actAtHand 1 (some .int) 5 [.ref p] σ μ (fun r μ2 => r = some (.int (k_act μ p)) ∧ μ2 = μ) := by
  refine kt_F.of (by decide) (Nat.le_of_ble_eq_true rfl) (fun X hX hr => ?_)
  have hp0 := hp
  obtain ⟨hk0, hr0, hk1⟩ := hp
  refine kr_aload_n (i := 0) hX dX6_actAtHand_0 rfl rfl ?_
  refine kr_ldcS (i := 0) hX (by decide) dX6_actAtHand_1 ?_
  refine kr_dV (c1 := 6) [_] hX km_6_88 dX6_actAtHand_3 (sp_word hp0 (by decide)) rfl rfl ⟨_, _, rfl⟩ (by decide) (Nat.le_of_ble_eq_true rfl) (Nat.le_refl _) (Nat.le_refl _) (by assumption) ?_
  refine kr_if_eq (tgt := 11) hX dX6_actAtHand_6 (by decide) (fun c_6 => ?_) (fun c_6 => ?_)
  · skip
    refine kr_aload_n (i := 0) hX dX6_actAtHand_11 rfl rfl ?_
    refine kr_ldcS (i := 1) hX (by decide) dX6_actAtHand_12 ?_
    refine kr_dV (c1 := 6) [_] hX km_6_88 dX6_actAtHand_14 (sp_word hp0 (by decide)) rfl rfl ⟨_, _, rfl⟩ (by decide) (Nat.le_of_ble_eq_true rfl) (Nat.le_refl _) (Nat.le_refl _) (by assumption) ?_
    refine kr_if_eq (tgt := 22) hX dX6_actAtHand_17 (by decide) (fun c_17 => ?_) (fun c_17 => ?_)
    · skip
      refine kr_aload_n (i := 0) hX dX6_actAtHand_22 rfl rfl ?_
      refine kr_ldcS (i := 2) hX (by decide) dX6_actAtHand_23 ?_
      refine kr_dV (c1 := 6) [_] hX km_6_88 dX6_actAtHand_25 (sp_word hp0 (by decide)) rfl rfl ⟨_, _, rfl⟩ (by decide) (Nat.le_of_ble_eq_true rfl) (Nat.le_refl _) (Nat.le_refl _) (by assumption) ?_
      refine kr_if_eq (tgt := 33) hX dX6_actAtHand_28 (by decide) (fun c_28 => ?_) (fun c_28 => ?_)
      · skip
        refine kr_aload_n (i := 0) hX dX6_actAtHand_33 rfl rfl ?_
        refine kr_ldcS (i := 3) hX (by decide) dX6_actAtHand_34 ?_
        refine kr_dV (c1 := 6) [_] hX km_6_88 dX6_actAtHand_36 (sp_word hp0 (by decide)) rfl rfl ⟨_, _, rfl⟩ (by decide) (Nat.le_of_ble_eq_true rfl) (Nat.le_refl _) (Nat.le_refl _) (by assumption) ?_
        refine kr_if_eq (tgt := 44) hX dX6_actAtHand_39 (by decide) (fun c_39 => ?_) (fun c_39 => ?_)
        · skip
          refine kr_aload_n (i := 0) hX dX6_actAtHand_44 rfl rfl ?_
          refine kr_ldcS (i := 4) hX (by decide) dX6_actAtHand_45 ?_
          refine kr_dV (c1 := 6) [_] hX km_6_88 dX6_actAtHand_47 (sp_word hp0 (by decide)) rfl rfl ⟨_, _, rfl⟩ (by decide) (Nat.le_of_ble_eq_true rfl) (Nat.le_refl _) (Nat.le_refl _) (by assumption) ?_
          refine kr_if_eq (tgt := 55) hX dX6_actAtHand_50 (by decide) (fun c_50 => ?_) (fun c_50 => ?_)
          · skip
            refine kr_aload_n (i := 0) hX dX6_actAtHand_55 rfl rfl ?_
            refine kr_ldcS (i := 5) hX (by decide) dX6_actAtHand_56 ?_
            refine kr_dV (c1 := 6) [_] hX km_6_88 dX6_actAtHand_58 (sp_word hp0 (by decide)) rfl rfl ⟨_, _, rfl⟩ (by decide) (Nat.le_of_ble_eq_true rfl) (Nat.le_refl _) (Nat.le_refl _) (by assumption) ?_
            refine kr_if_eq (tgt := 68) hX dX6_actAtHand_61 (by decide) (fun c_61 => ?_) (fun c_61 => ?_)
            · skip
              refine kr_iconst (v := (-1)) hX dX6_actAtHand_68 (by decide) ?_
              refine kr_iret hX hr dX6_actAtHand_69 ⟨rfl, ?_⟩
              refine ⟨?_, rfl⟩
              (try simp only [kt_f_0, Classical.not_not] at c_6)
              (try simp only [kt_f_0, Classical.not_not] at c_17)
              (try simp only [kt_f_0, Classical.not_not] at c_28)
              (try simp only [kt_f_0, Classical.not_not] at c_39)
              (try simp only [kt_f_0, Classical.not_not] at c_50)
              (try simp only [kt_f_0, Classical.not_not] at c_61)
              unfold k_act
              first
              | rw [if_pos c_6]
              | rw [if_neg c_6, if_pos c_17]
              | rw [if_neg c_6, if_neg c_17, if_pos c_28]
              | rw [if_neg c_6, if_neg c_17, if_neg c_28, if_pos c_39]
              | rw [if_neg c_6, if_neg c_17, if_neg c_28, if_neg c_39, if_pos c_50]
              | rw [if_neg c_6, if_neg c_17, if_neg c_28, if_neg c_39, if_neg c_50, if_pos c_61]
              | rw [if_neg c_6, if_neg c_17, if_neg c_28, if_neg c_39, if_neg c_50, if_neg c_61]
            · skip
              refine kr_iconst (v := 5) hX dX6_actAtHand_64 (by decide) ?_
              refine kr_goto (tgt := 69) hX dX6_actAtHand_65 (by decide) ?_
              refine kr_iret hX hr dX6_actAtHand_69 ⟨rfl, ?_⟩
              refine ⟨?_, rfl⟩
              (try simp only [kt_f_0, Classical.not_not] at c_6)
              (try simp only [kt_f_0, Classical.not_not] at c_17)
              (try simp only [kt_f_0, Classical.not_not] at c_28)
              (try simp only [kt_f_0, Classical.not_not] at c_39)
              (try simp only [kt_f_0, Classical.not_not] at c_50)
              (try simp only [kt_f_0, Classical.not_not] at c_61)
              unfold k_act
              first
              | rw [if_pos c_6]
              | rw [if_neg c_6, if_pos c_17]
              | rw [if_neg c_6, if_neg c_17, if_pos c_28]
              | rw [if_neg c_6, if_neg c_17, if_neg c_28, if_pos c_39]
              | rw [if_neg c_6, if_neg c_17, if_neg c_28, if_neg c_39, if_pos c_50]
              | rw [if_neg c_6, if_neg c_17, if_neg c_28, if_neg c_39, if_neg c_50, if_pos c_61]
              | rw [if_neg c_6, if_neg c_17, if_neg c_28, if_neg c_39, if_neg c_50, if_neg c_61]
          · skip
            refine kr_iconst (v := 4) hX dX6_actAtHand_53 (by decide) ?_
            refine kr_iret hX hr dX6_actAtHand_54 ⟨rfl, ?_⟩
            refine ⟨?_, rfl⟩
            (try simp only [kt_f_0, Classical.not_not] at c_6)
            (try simp only [kt_f_0, Classical.not_not] at c_17)
            (try simp only [kt_f_0, Classical.not_not] at c_28)
            (try simp only [kt_f_0, Classical.not_not] at c_39)
            (try simp only [kt_f_0, Classical.not_not] at c_50)
            (try simp only [kt_f_0, Classical.not_not] at c_61)
            unfold k_act
            first
            | rw [if_pos c_6]
            | rw [if_neg c_6, if_pos c_17]
            | rw [if_neg c_6, if_neg c_17, if_pos c_28]
            | rw [if_neg c_6, if_neg c_17, if_neg c_28, if_pos c_39]
            | rw [if_neg c_6, if_neg c_17, if_neg c_28, if_neg c_39, if_pos c_50]
            | rw [if_neg c_6, if_neg c_17, if_neg c_28, if_neg c_39, if_neg c_50, if_pos c_61]
            | rw [if_neg c_6, if_neg c_17, if_neg c_28, if_neg c_39, if_neg c_50, if_neg c_61]
        · skip
          refine kr_iconst (v := 3) hX dX6_actAtHand_42 (by decide) ?_
          refine kr_iret hX hr dX6_actAtHand_43 ⟨rfl, ?_⟩
          refine ⟨?_, rfl⟩
          (try simp only [kt_f_0, Classical.not_not] at c_6)
          (try simp only [kt_f_0, Classical.not_not] at c_17)
          (try simp only [kt_f_0, Classical.not_not] at c_28)
          (try simp only [kt_f_0, Classical.not_not] at c_39)
          (try simp only [kt_f_0, Classical.not_not] at c_50)
          (try simp only [kt_f_0, Classical.not_not] at c_61)
          unfold k_act
          first
          | rw [if_pos c_6]
          | rw [if_neg c_6, if_pos c_17]
          | rw [if_neg c_6, if_neg c_17, if_pos c_28]
          | rw [if_neg c_6, if_neg c_17, if_neg c_28, if_pos c_39]
          | rw [if_neg c_6, if_neg c_17, if_neg c_28, if_neg c_39, if_pos c_50]
          | rw [if_neg c_6, if_neg c_17, if_neg c_28, if_neg c_39, if_neg c_50, if_pos c_61]
          | rw [if_neg c_6, if_neg c_17, if_neg c_28, if_neg c_39, if_neg c_50, if_neg c_61]
      · skip
        refine kr_iconst (v := 2) hX dX6_actAtHand_31 (by decide) ?_
        refine kr_iret hX hr dX6_actAtHand_32 ⟨rfl, ?_⟩
        refine ⟨?_, rfl⟩
        (try simp only [kt_f_0, Classical.not_not] at c_6)
        (try simp only [kt_f_0, Classical.not_not] at c_17)
        (try simp only [kt_f_0, Classical.not_not] at c_28)
        (try simp only [kt_f_0, Classical.not_not] at c_39)
        (try simp only [kt_f_0, Classical.not_not] at c_50)
        (try simp only [kt_f_0, Classical.not_not] at c_61)
        unfold k_act
        first
        | rw [if_pos c_6]
        | rw [if_neg c_6, if_pos c_17]
        | rw [if_neg c_6, if_neg c_17, if_pos c_28]
        | rw [if_neg c_6, if_neg c_17, if_neg c_28, if_pos c_39]
        | rw [if_neg c_6, if_neg c_17, if_neg c_28, if_neg c_39, if_pos c_50]
        | rw [if_neg c_6, if_neg c_17, if_neg c_28, if_neg c_39, if_neg c_50, if_pos c_61]
        | rw [if_neg c_6, if_neg c_17, if_neg c_28, if_neg c_39, if_neg c_50, if_neg c_61]
    · skip
      refine kr_iconst (v := 1) hX dX6_actAtHand_20 (by decide) ?_
      refine kr_iret hX hr dX6_actAtHand_21 ⟨rfl, ?_⟩
      refine ⟨?_, rfl⟩
      (try simp only [kt_f_0, Classical.not_not] at c_6)
      (try simp only [kt_f_0, Classical.not_not] at c_17)
      (try simp only [kt_f_0, Classical.not_not] at c_28)
      (try simp only [kt_f_0, Classical.not_not] at c_39)
      (try simp only [kt_f_0, Classical.not_not] at c_50)
      (try simp only [kt_f_0, Classical.not_not] at c_61)
      unfold k_act
      first
      | rw [if_pos c_6]
      | rw [if_neg c_6, if_pos c_17]
      | rw [if_neg c_6, if_neg c_17, if_pos c_28]
      | rw [if_neg c_6, if_neg c_17, if_neg c_28, if_pos c_39]
      | rw [if_neg c_6, if_neg c_17, if_neg c_28, if_neg c_39, if_pos c_50]
      | rw [if_neg c_6, if_neg c_17, if_neg c_28, if_neg c_39, if_neg c_50, if_pos c_61]
      | rw [if_neg c_6, if_neg c_17, if_neg c_28, if_neg c_39, if_neg c_50, if_neg c_61]
  · skip
    refine kr_iconst (v := 0) hX dX6_actAtHand_9 (by decide) ?_
    refine kr_iret hX hr dX6_actAtHand_10 ⟨rfl, ?_⟩
    refine ⟨?_, rfl⟩
    (try simp only [kt_f_0, Classical.not_not] at c_6)
    (try simp only [kt_f_0, Classical.not_not] at c_17)
    (try simp only [kt_f_0, Classical.not_not] at c_28)
    (try simp only [kt_f_0, Classical.not_not] at c_39)
    (try simp only [kt_f_0, Classical.not_not] at c_50)
    (try simp only [kt_f_0, Classical.not_not] at c_61)
    unfold k_act
    first
    | rw [if_pos c_6]
    | rw [if_neg c_6, if_pos c_17]
    | rw [if_neg c_6, if_neg c_17, if_pos c_28]
    | rw [if_neg c_6, if_neg c_17, if_neg c_28, if_pos c_39]
    | rw [if_neg c_6, if_neg c_17, if_neg c_28, if_neg c_39, if_pos c_50]
    | rw [if_neg c_6, if_neg c_17, if_neg c_28, if_neg c_39, if_neg c_50, if_pos c_61]
    | rw [if_neg c_6, if_neg c_17, if_neg c_28, if_neg c_39, if_neg c_50, if_neg c_61]

set_option maxHeartbeats 4000000 in
set_option maxRecDepth 100000 in
theorem sp_tgt {G : kt_G} {σ : kt_Y} {μ : kt_M} {p : Nat} (hp : kt_rd σ p) {L : Nat} (ho : k_rdok μ p L) {k : Nat} (hb : kt_blk σ k) (hkp : k + 4 ≤ p ∨ p + 2 ≤ k) {s : Int32} : kt_F G yX6_parseTarget cX6_parseTarget 4 (some .boolean) 3 [.ref p, .ref k, .int s] σ μ (fun r μ2 => r = some (.int (b_tgt μ p k s).1) ∧ μ2 = (b_tgt μ p k s).2) := by
  refine kt_F.of (by decide) (Nat.le_of_ble_eq_true rfl) (fun X hX hr => ?_)
  have hp0 := hp
  obtain ⟨hk0, hr0, hk1⟩ := hp
  obtain ⟨hL, hL2, s0, a0, hs0, ha0, hsa, haL⟩ := id ho
  refine kr_aload_n (i := 0) hX dX6_parseTarget_0 rfl rfl ?_
  refine kr_bipush (v := 7) hX dX6_parseTarget_1 (by decide) ?_
  refine kr_dV (c1 := 6) [_] hX km_6_76 dX6_parseTarget_3 (sp_num hp0 ho) rfl rfl ⟨_, _, rfl⟩ (by decide) (Nat.le_of_ble_eq_true rfl) (Nat.le_refl _) (Nat.le_refl _) (by assumption) ?_
  refine kr_istore_n (i := 3) hX dX6_parseTarget_6 rfl (by decide) rfl rfl ?_
  refine kr_aload_n (i := 1) hX dX6_parseTarget_7 rfl rfl ?_
  refine kr_iload_n (i := 2) hX dX6_parseTarget_8 rfl rfl ?_
  refine kr_iload_n (i := 3) hX dX6_parseTarget_9 rfl rfl ?_
  refine kr_dV (c1 := 0) [_, _] hX km_6_105 dX6_parseTarget_10 (sp_aim hb) rfl rfl ⟨_, _, rfl⟩ (by decide) (Nat.le_of_ble_eq_true rfl) (Nat.le_refl _) (Nat.le_refl _) (by exact hb.1) ?_
  refine kr_iload_n (i := 3) hX dX6_parseTarget_13 rfl rfl ?_
  refine kr_if_lt (tgt := 21) hX dX6_parseTarget_14 (by decide) (fun c_14 => ?_) (fun c_14 => ?_)
  · skip
    refine kr_iconst (v := 0) hX dX6_parseTarget_21 (by decide) ?_
    refine kr_zret hX hr (by first | exact Or.inl rfl | exact Or.inr rfl | assumption) dX6_parseTarget_22 ⟨rfl, ?_⟩
    unfold b_tgt
    first
    | (rw [kt_f_t c_14]; exact ⟨rfl, rfl⟩)
    | (rw [kt_f_f (fun h => h c_14)]; exact ⟨rfl, rfl⟩)
  · skip
    refine kr_iconst (v := 1) hX dX6_parseTarget_17 (by decide) ?_
    refine kr_goto (tgt := 22) hX dX6_parseTarget_18 (by decide) ?_
    refine kr_zret hX hr (by first | exact Or.inl rfl | exact Or.inr rfl | assumption) dX6_parseTarget_22 ⟨rfl, ?_⟩
    unfold b_tgt
    first
    | (rw [kt_f_t c_14]; exact ⟨rfl, rfl⟩)
    | (rw [kt_f_f (fun h => h c_14)]; exact ⟨rfl, rfl⟩)


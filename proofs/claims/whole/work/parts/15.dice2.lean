theorem k_dr_nI (s : Int32) : ∃ j : Nat, j < 32768 ∧ k_dr s = nI j := pk_andE _ 15 (by decide)
theorem k_rem_nI {j k : Nat} (hj : j < 2 ^ 31) (h0 : 0 < k) (hk : k < 2 ^ 31) : k_rem (nI j) (nI k) = nI (j % k) := pk_rem hj h0 hk
theorem d_val_nI {μ : kt_M} {p k : Nat} (h0 : 0 < k) (hk : k < 2 ^ 31) : ∃ m : Nat, m < k ∧ d_val μ p (nI k) = nI m := by
  obtain ⟨j, hj, e⟩ := k_dr_nI (k_sd (kt_i μ p 0))
  refine ⟨j % k, Nat.mod_lt _ h0, ?_⟩
  unfold d_val
  rw [if_neg (nI_nle h0 hk), e, k_rem_nI (by omega) h0 hk]
theorem kb_edges_nI (e : Int32) : ∃ m : Nat, m ≤ 2 ∧ kb_edges e = nI m := by
  rcases kb_edges_le e with h | h | h
  · exact ⟨0, by omega, h⟩
  · exact ⟨1, by omega, h⟩
  · exact ⟨2, by omega, h⟩
theorem d_act_acts {μ : kt_M} {p b : Nat} (hne : p + 1 ≤ b ∨ b + 4 ≤ p) : kt_i (d_act μ p b) b 0 = kt_i μ b 0 + 1 := by
  unfold d_act m_add
  rw [kt_i_sie, d_opn_out (by omega), d_nx_out (by omega), d_nx_out (by omega)]
set_option maxHeartbeats 4000000 in
set_option maxRecDepth 100000 in
theorem lp_aim {G : kt_G} {σ : kt_Y} {X : kt_X} (hX : kt_ok G X RX1 cX1_makeBlock 5 2 0 0) (hr : kt_rt X = none) {Q : Option Value → kt_M → Prop} {p : Nat} (hp : kt_di σ p) {b : Nat} (hb : kt_blk σ b) (hne : p + 1 ≤ b ∨ b + 4 ≤ p) {m c : Int32} {e : Nat} (he : e ≤ 2) : ∀ (n i : Nat) (μ : kt_M) , i + n = e → kb_edges (kt_i μ b 4) = nI e → (Q none (d_aimL p b m n i μ)) → kt_W G X 5 34 [(0, .ref p), (1, .ref b), (2, .int m), (3, .int c), (4, .int (nI i))] [] σ μ 0 0 (kt_Z G X (kt_q σ Q) 0 0) := by
  have hp0 := hp
  unfold kt_di at hp
  have hb0 := hb
  obtain ⟨gk0, gr1, gr2, gr3, gk1, gk2, gk3⟩ := hb
  intro n
  induction n with
  | zero =>
    intro i μ hin hE hQ
    have hib : i = e := by omega
    refine kr_iload hX dX1_makeBlock_34 rfl ?_
    refine kr_aload_n (i := 1) hX dX1_makeBlock_36 rfl rfl ?_
    refine kr_dV (c1 := 0) [] hX km_1_27 dX1_makeBlock_37 (sp_edges hb0) rfl rfl ⟨_, _, rfl⟩ (by decide) (Nat.le_of_ble_eq_true rfl) (Nat.le_refl _) (Nat.le_refl _) (by assumption) ?_
    refine kr_icmp_ge (tgt := 60) hX dX1_makeBlock_40 (by decide) (fun c_40 => ?_) (fun c_40 => ?_)
    · skip
      refine kr_vret hX hr dX1_makeBlock_60 ⟨rfl, ?_⟩
      exact hQ
    · skip
      exact absurd (by rw [hE, hib]; exact Int32.le_refl _) c_40
  | succ n ih =>
    intro i μ hin hE hQ
    have hib : i < e := by omega
    refine kr_iload hX dX1_makeBlock_34 rfl ?_
    refine kr_aload_n (i := 1) hX dX1_makeBlock_36 rfl rfl ?_
    refine kr_dV (c1 := 0) [] hX km_1_27 dX1_makeBlock_37 (sp_edges hb0) rfl rfl ⟨_, _, rfl⟩ (by decide) (Nat.le_of_ble_eq_true rfl) (Nat.le_refl _) (Nat.le_refl _) (by assumption) ?_
    refine kr_icmp_ge (tgt := 60) hX dX1_makeBlock_40 (by decide) (fun c_40 => ?_) (fun c_40 => ?_)
    · skip
      exact absurd c_40 (by rw [hE]; exact nI_ge hib (by omega))
    · skip
      refine kr_aload_n (i := 1) hX dX1_makeBlock_43 rfl rfl ?_
      refine kr_iload hX dX1_makeBlock_44 rfl ?_
      refine kr_aload_n (i := 0) hX dX1_makeBlock_46 rfl rfl ?_
      refine kr_iload_n (i := 2) hX dX1_makeBlock_47 rfl rfl ?_
      refine kr_dV (c1 := 1) [_] hX km_1_16 dX1_makeBlock_48 (sp_next hp0) rfl rfl ⟨_, _, rfl⟩ (by decide) (Nat.le_of_ble_eq_true rfl) (Nat.le_refl _) (Nat.le_refl _) (by assumption) ?_
      refine kr_dV (c1 := 0) [_, _] hX km_1_33 dX1_makeBlock_51 (sp_aim hb0) rfl rfl ⟨_, _, rfl⟩ (by decide) (Nat.le_of_ble_eq_true rfl) (Nat.le_refl _) (Nat.le_refl _) (by assumption) ?_
      refine kr_iinc (v := nI (i + 1)) hX dX1_makeBlock_54 rfl (by first | exact nI_1 _ | rfl) (by decide) rfl rfl ?_
      refine kr_goto (tgt := 34) hX dX1_makeBlock_57 (by decide) ?_
      refine ih (i + 1) _ (by omega) ?_ hQ
      rw [kt_i_sik (by split <;> decide), d_nx_out (by omega)]
      exact hE

set_option maxHeartbeats 4000000 in
set_option maxRecDepth 100000 in
theorem lp_dacts {G : kt_G} {σ : kt_Y} {X : kt_X} (hX : kt_ok G X RX1 cX1_makeBlock 5 2 0 0) (hr : kt_rt X = none) {Q : Option Value → kt_M → Prop} {p : Nat} (hp : kt_di σ p) {b : Nat} (hb : kt_blk σ b) (hne : p + 1 ≤ b ∨ b + 4 ≤ p) {m : Int32} {j : Nat} (hj : j ≤ 4) : ∀ (n i : Nat) (μ : kt_M) , i + n = j → kt_i μ b 0 = nI i → (∀ e : Nat, e ≤ 2 → kb_edges (kt_i (d_end (d_actsL p b n μ) p b) b 4) = nI e → Q none (d_aimL p b m e 0 (d_end (d_actsL p b n μ) p b))) → kt_W G X 5 9 [(0, .ref p), (1, .ref b), (2, .int m), (3, .int (nI j)), (4, .int (nI i))] [] σ μ 0 0 (kt_Z G X (kt_q σ Q) 0 0) := by
  have hp0 := hp
  unfold kt_di at hp
  have hb0 := hb
  obtain ⟨gk0, gr1, gr2, gr3, gk1, gk2, gk3⟩ := hb
  intro n
  induction n with
  | zero =>
    intro i μ hin ha hQ
    have hib : i = j := by omega
    refine kr_iload hX dX1_makeBlock_9 rfl ?_
    refine kr_iload_n (i := 3) hX dX1_makeBlock_11 rfl rfl ?_
    refine kr_icmp_ge (tgt := 26) hX dX1_makeBlock_12 (by decide) (fun c_12 => ?_) (fun c_12 => ?_)
    · skip
      refine kr_aload_n (i := 0) hX dX1_makeBlock_26 rfl rfl ?_
      refine kr_aload_n (i := 1) hX dX1_makeBlock_27 rfl rfl ?_
      refine kr_dV (c1 := 1) [_] hX km_1_24 dX1_makeBlock_28 (sp_dend hp0 hb0 hne) rfl rfl ⟨_, _, rfl⟩ (by decide) (Nat.le_of_ble_eq_true rfl) (Nat.le_refl _) (Nat.le_refl _) (by assumption) ?_
      refine kr_iconst (v := 0) hX dX1_makeBlock_31 (by decide) ?_
      refine kr_istore hX dX1_makeBlock_32 (by decide) rfl rfl ?_
      obtain ⟨e, he, hE⟩ := kb_edges_nI (kt_i (d_end μ p b) b 4)
      exact lp_aim hX hr hp0 hb0 hne he e 0 _ (by omega) hE (hQ e he hE)
    · skip
      exact absurd (by rw [hib]; exact Int32.le_refl _) c_12
  | succ n ih =>
    intro i μ hin ha hQ
    have hib : i < j := by omega
    refine kr_iload hX dX1_makeBlock_9 rfl ?_
    refine kr_iload_n (i := 3) hX dX1_makeBlock_11 rfl rfl ?_
    refine kr_icmp_ge (tgt := 26) hX dX1_makeBlock_12 (by decide) (fun c_12 => ?_) (fun c_12 => ?_)
    · skip
      exact absurd c_12 (nI_ge hib (by omega))
    · skip
      refine kr_aload_n (i := 0) hX dX1_makeBlock_15 rfl rfl ?_
      refine kr_aload_n (i := 1) hX dX1_makeBlock_16 rfl rfl ?_
      refine kr_dV (c1 := 1) [_] hX km_1_20 dX1_makeBlock_17 (sp_dact hp0 hb0 hne (by rw [ha]; exact vp_in_nI (by omega) (by decide))) rfl rfl ⟨_, _, rfl⟩ (by decide) (Nat.le_of_ble_eq_true rfl) (Nat.le_refl _) (Nat.le_refl _) (by assumption) ?_
      refine kr_iinc (v := nI (i + 1)) hX dX1_makeBlock_20 rfl (by first | exact nI_1 _ | rfl) (by decide) rfl rfl ?_
      refine kr_goto (tgt := 9) hX dX1_makeBlock_23 (by decide) ?_
      refine ih (i + 1) _ (by omega) ?_ hQ
      rw [d_act_acts hne, ha]
      exact nI_1 i

set_option maxHeartbeats 4000000 in
set_option maxRecDepth 100000 in
theorem sp_dblock {G : kt_G} {σ : kt_Y} {μ : kt_M} {p : Nat} (hp : kt_di σ p) {b : Nat} (hb : kt_blk σ b) (hne : p + 1 ≤ b ∨ b + 4 ≤ p) {m : Int32} (ha : kt_i μ b 0 = 0) : kt_F G yX1_makeBlock cX1_makeBlock 5 none 2 [.ref p, .ref b, .int m] σ μ (fun r μ2 => r = none ∧ ∃ j e : Nat, j < 4 ∧ d_val μ p 4 = nI j ∧ e ≤ 2 ∧ kb_edges (kt_i (d_end (d_actsL p b j (d_nx μ p)) p b) b 4) = nI e ∧ μ2 = d_aimL p b m e 0 (d_end (d_actsL p b j (d_nx μ p)) p b)) := by
  refine kt_F.of (by decide) (Nat.le_of_ble_eq_true rfl) (fun X hX hr => ?_)
  have hp0 := hp
  unfold kt_di at hp
  have hb0 := hb
  obtain ⟨gk0, gr1, gr2, gr3, gk1, gk2, gk3⟩ := hb
  refine kr_aload_n (i := 0) hX dX1_makeBlock_0 rfl rfl ?_
  refine kr_iconst (v := 4) hX dX1_makeBlock_1 (by decide) ?_
  refine kr_cV (c1 := 1) [_] hX km_1_16 dX1_makeBlock_2 (sp_next hp0) rfl rfl ⟨_, _, rfl⟩ (by decide) (Nat.le_of_ble_eq_true rfl) (Nat.le_refl _) (Nat.le_refl _) (by assumption) ?_
  rintro _ _ ⟨rfl, rfl⟩
  obtain ⟨j, hj, ej⟩ := d_val_nI (μ := μ) (p := p) (k := 4) (by decide) (by decide)
  refine kr_rw (y := nI j) ej ?_
  refine kr_istore_n (i := 3) hX dX1_makeBlock_5 rfl (by decide) rfl rfl ?_
  refine kr_iconst (v := 0) hX dX1_makeBlock_6 (by decide) ?_
  refine kr_istore hX dX1_makeBlock_7 (by decide) rfl rfl ?_
  exact lp_dacts hX hr hp0 hb0 hne (by omega) j 0 _ (by omega) (by rw [d_nx_out (by omega)]; exact ha) (fun e he hE => ⟨rfl, j, e, hj, ej, he, hE, rfl⟩)


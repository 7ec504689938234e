abbrev k_he (μ : kt_M) (q : Nat) (b t : Int32) : Prop := k_hs μ q b ∧ 0 ≤ t ∧ t < kb_edges (kt_i μ (k_at μ q b) 4)
theorem k_hs16 {μ : kt_M} {q N s : Nat} (h : kp μ q N s) (hN : N ≤ 16) {b : Int32} (hb : k_hs μ q b) : vp_in b 16 := by
  obtain ⟨j, hj, e⟩ := k_hs_nI h.1 (by have := h.2.1; omega) hb
  rw [e]; exact vp_in_nI (by have := h.2.1; omega) (by decide)
noncomputable def ut_range (μ : kt_M) (o : Nat) (b v w : Int32) : Int32 × kt_M := if k_hs μ (o + 81) b ∧ (0 ≤ v ∧ v < 4) ∧ k_wi w 2 then (if f_rch (ut_ref μ o) (o + 154) b then m_prop (ut_ref μ o) (o + 154 + 7 + 4 * (2 + b.toNatClampNeg)) v w else -2, ut_ref μ o) else (-1, μ)
noncomputable def ut_along (μ : kt_M) (o : Nat) (b t v w : Int32) : Int32 × kt_M := if k_he μ (o + 81) b t ∧ (0 ≤ v ∧ v < 4) ∧ k_wi w 2 then (if f_opn (ut_ref μ o) (o + 154) b t then m_prop (ut_ref μ o) (o + 154 + 7 + 4 * (18 + (2 * b + t).toNatClampNeg)) v w else -2, ut_ref μ o) else (-1, μ)
noncomputable def ut_outc (μ : kt_M) (o : Nat) (b : Int32) : Int32 × kt_M := if k_hs μ (o + 81) b then (if f_rch (ut_ref μ o) (o + 154) b then (if kb_test (kt_i (ut_ref μ o) (k_at (ut_ref μ o) (o + 81) b) 4) then f_oat (ut_ref μ o) (o + 154) b else -4) else -2, ut_ref μ o) else (-1, μ)
def k_nxt (μ : kt_M) (q : Nat) (b t : Int32) : Nat := k_at μ q (k_tg μ (k_at μ q b) t)
noncomputable def ut_known (μ : kt_M) (o : Nat) (b t : Int32) : Int32 × kt_M := if k_he μ (o + 81) b t then (if f_opn (ut_ref μ o) (o + 154) b t then (if kb_test (kt_i (ut_ref μ o) (k_nxt (ut_ref μ o) (o + 81) b t) 4) then f_oal (ut_ref μ o) (o + 154) b t else -4) else -2, ut_ref μ o) else (-1, μ)
noncomputable def ut_dom (μ : kt_M) (o : Nat) (a b : Int32) : Int32 × kt_M := if k_hs μ (o + 81) a ∧ k_hs μ (o + 81) b then (kt_f (0 ≤ b ∧ b < 16 ∧ k_bt (kt_i (ut_ref μ o) (o + 361 + 2) b.toNatClampNeg) a), ut_ref μ o) else (-1, μ)
noncomputable def ut_loop (μ : kt_M) (o : Nat) (b w : Int32) : Int32 × kt_M := if k_hs μ (o + 81) b ∧ k_wi w 1 then (if w = 0 then kt_f (k_bt (kt_i (ut_ref μ o) (o + 361) 3) b) else k_idL (ut_ref μ o) (o + 361) (k_oth (ut_ref μ o) (o + 361) b) 16 0, ut_ref μ o) else (-1, μ)
def ut_rsn (μ : kt_M) (o : Nat) (b t : Int32) : Int32 :=
  if ¬ f_opn μ (o + 154) b t then 1 else if ¬ kb_test (kt_i μ (k_nxt μ (o + 81) b t) 4) then 2 else if f_oal μ (o + 154) b t = 0 then 3
  else if k_bt (kt_i μ (o + 361) 3) (k_tg μ (k_at μ (o + 81) b) t) then 4 else if ¬ kt_i μ (k_nxt μ (o + 81) b t) 0 ≤ kt_i μ o 13 then 5 else if ¬ kt_i μ (o + 81) 3 < nI 16 then 6 else 0
noncomputable def ut_why (μ : kt_M) (o : Nat) (b t : Int32) : Int32 × kt_M := if k_he μ (o + 81) b t then (ut_rsn (ut_ref μ o) o b t, ut_ref μ o) else (-1, μ)
set_option maxHeartbeats 4000000 in
set_option maxRecDepth 100000 in
theorem sp_range {G : kt_G} {σ : kt_Y} {μ : kt_M} {o : Nat} (hp : kt_kt σ o) {s : Nat} (hc : kp μ (o + 81) 16 s) (hn : kf_n μ (o + 154)) {b v w : Int32} : kt_F G yX9_range cX9_range 4 (some .int) 7 [.ref o, .int b, .int v, .int w] σ μ (fun r μ2 => r = some (.int (ut_range μ o b v w).1) ∧ μ2 = (ut_range μ o b v w).2) := by
  refine kt_F.of (by decide) (Nat.le_of_ble_eq_true rfl) (fun X hX hr => ?_)
  have hp0 := hp
  obtain ⟨hk0, hr0, hr1, hr2, hr3, hr4, hr5, hr6, hr7, hr8, hr9, hr10, hr11, hr12, hk152, hk153, hk369, hk370, hk371, hrd, hdr, hor, hcu, hfw, hpt, hrn, hdi, him, hsh⟩ := hp
  have hc1 : kp (ut_ref μ o) (o + 81) 16 s := hc.ref (by decide) (by omega)
  have hn1 := ut_ref_n hn
  obtain ⟨fk0, fr0, fr1, fr2, fr3, fr4, fr5, fr6, fr7, fk1, fk2, fk3, fk4, fk5, fk6, frg, frb, fra⟩ := id hfw
  refine kr_aload_n (i := 0) hX dX9_range_0 rfl rfl ?_
  refine kr_getr (c0 := 9) (k := 3) hX ⟨_, kf_9_28⟩ dX9_range_1 rfl (by first | exact hk0 | exact hrd.1 | exact hdr.1 | exact hor.1 | exact hcu.1 | exact hfw.1 | exact hpt.1 | exact hrn.1 | exact hdi | assumption) (by assumption) ?_
  refine kr_iload_n (i := 1) hX dX9_range_4 rfl rfl ?_
  refine kr_dV (c1 := 4) [_] hX km_9_156 dX9_range_5 (sp_has hcu (by decide) hc.1 hc.2.1) rfl rfl ⟨_, _, rfl⟩ (by decide) (Nat.le_of_ble_eq_true rfl) (Nat.le_refl _) (Nat.le_refl _) (by first | exact hk0 | exact hrd.1 | exact hdr.1 | exact hor.1 | exact hcu.1 | exact hfw.1 | exact hpt.1 | exact hrn.1 | exact hdi | assumption) ?_
  refine kr_if_eq (tgt := 26) hX dX9_range_8 (by decide) (fun c_8 => ?_) (fun c_8 => ?_)
  · skip
    refine kr_iconst (v := (-1)) hX dX9_range_26 (by decide) ?_
    refine kr_iret hX hr dX9_range_27 ⟨rfl, ?_⟩
    simp only [kt_f_0, Classical.not_not] at c_8
    rw [show ut_range μ o b v w = _ from if_neg (fun h => c_8 h.1)]
    exact ⟨rfl, rfl⟩
  · skip
    refine kr_iload_n (i := 2) hX dX9_range_11 rfl rfl ?_
    refine kr_dS [_] hX km_9_191 dX9_range_12 (sp_isVar) rfl rfl (by decide) (Nat.le_of_ble_eq_true rfl) (Nat.le_refl _) (Nat.le_refl _) ?_
    refine kr_if_eq (tgt := 26) hX dX9_range_15 (by decide) (fun c_15 => ?_) (fun c_15 => ?_)
    · skip
      refine kr_iconst (v := (-1)) hX dX9_range_26 (by decide) ?_
      refine kr_iret hX hr dX9_range_27 ⟨rfl, ?_⟩
      simp only [kt_f_0, Classical.not_not] at c_15
      rw [show ut_range μ o b v w = _ from if_neg (fun h => c_15 h.2.1)]
      exact ⟨rfl, rfl⟩
    · skip
      refine kr_iload_n (i := 3) hX dX9_range_18 rfl rfl ?_
      refine kr_iconst (v := 2) hX dX9_range_19 (by decide) ?_
      refine kr_dS [_, _] hX km_9_92 dX9_range_20 (sp_within) rfl rfl (by decide) (Nat.le_of_ble_eq_true rfl) (Nat.le_refl _) (Nat.le_refl _) ?_
      refine kr_if_ne (tgt := 28) hX dX9_range_23 (by decide) (fun c_23 => ?_) (fun c_23 => ?_)
      · skip
        refine kr_aload_n (i := 0) hX dX9_range_28 rfl rfl ?_
        refine kr_dV (c1 := 9) [] hX km_9_131 dX9_range_29 (sp_ref hp0 hc hn) rfl rfl ⟨_, _, rfl⟩ (by decide) (Nat.le_of_ble_eq_true rfl) (Nat.le_refl _) (Nat.le_refl _) (by first | exact hk0 | exact hrd.1 | exact hdr.1 | exact hor.1 | exact hcu.1 | exact hfw.1 | exact hpt.1 | exact hrn.1 | exact hdi | assumption) ?_
        refine kr_aload_n (i := 0) hX dX9_range_32 rfl rfl ?_
        refine kr_getr (c0 := 9) (k := 6) hX ⟨_, kf_9_42⟩ dX9_range_33 rfl (by first | exact hk0 | exact hrd.1 | exact hdr.1 | exact hor.1 | exact hcu.1 | exact hfw.1 | exact hpt.1 | exact hrn.1 | exact hdi | assumption) (by assumption) ?_
        refine kr_iload_n (i := 1) hX dX9_range_36 rfl rfl ?_
        refine kr_dV (c1 := 2) [_] hX km_9_194 dX9_range_37 (sp_rch hfw) rfl rfl ⟨_, _, rfl⟩ (by decide) (Nat.le_of_ble_eq_true rfl) (Nat.le_refl _) (Nat.le_refl _) (by first | exact hk0 | exact hrd.1 | exact hdr.1 | exact hor.1 | exact hcu.1 | exact hfw.1 | exact hpt.1 | exact hrn.1 | exact hdi | assumption) ?_
        refine kr_if_eq (tgt := 60) hX dX9_range_40 (by decide) (fun c_40 => ?_) (fun c_40 => ?_)
        · skip
          refine kr_bipush (v := (-2)) hX dX9_range_60 (by decide) ?_
          refine kr_iret hX hr dX9_range_62 ⟨rfl, ?_⟩
          simp only [kt_f_0, Classical.not_not] at c_8 c_15 c_23
          rw [show ut_range μ o b v w = _ from if_pos ⟨c_8, c_15, c_23⟩]
          simp only [kt_f_0, Classical.not_not] at c_40
          rw [if_neg c_40]
          exact ⟨rfl, rfl⟩
        · skip
          refine kr_aload_n (i := 0) hX dX9_range_43 rfl rfl ?_
          refine kr_getr (c0 := 9) (k := 6) hX ⟨_, kf_9_42⟩ dX9_range_44 rfl (by first | exact hk0 | exact hrd.1 | exact hdr.1 | exact hor.1 | exact hcu.1 | exact hfw.1 | exact hpt.1 | exact hrn.1 | exact hdi | assumption) (by assumption) ?_
          refine kr_getr (c0 := 2) (k := 0) hX ⟨_, kf_9_197⟩ dX9_range_47 rfl (by first | exact hk0 | exact hrd.1 | exact hdr.1 | exact hor.1 | exact hcu.1 | exact hfw.1 | exact hpt.1 | exact hrn.1 | exact hdi | assumption) (by assumption) ?_
          refine kr_iload_n (i := 1) hX dX9_range_50 rfl rfl ?_
          refine kr_aald (t := 2) hX dX9_range_51 (by decide) (by first | exact hk0 | exact hrd.1 | exact hdr.1 | exact hor.1 | exact hcu.1 | exact hfw.1 | exact hpt.1 | exact hrn.1 | exact hdi | assumption) (by simp only [kt_f_0, Classical.not_not] at c_40; exact vp_in_iff.mpr (by have h5 := c_40.1; have h6 := c_40.2.1; simp only [Int32.le_iff_toInt_le, Int32.lt_iff_toInt_lt, ki_0, ki_16] at h5 h6 ⊢; omega)) (by exact frb _ (by simp only [kt_f_0, Classical.not_not] at c_40; obtain ⟨j, hj, e⟩ := k_in16 c_40.1 c_40.2.1; rw [e, nI_clamp (by omega)]; omega)) ?_
          refine kr_iload_n (i := 2) hX dX9_range_52 rfl rfl ?_
          refine kr_iload_n (i := 3) hX dX9_range_53 rfl rfl ?_
          refine kr_dV (c1 := 5) [_, _] hX km_9_201 dX9_range_54 (sp_rprop (frg _ (by simp only [kt_f_0, Classical.not_not] at c_40; obtain ⟨j, hj, e⟩ := k_in16 c_40.1 c_40.2.1; rw [e, nI_clamp (by omega)]; omega)) (hn1 _ (by simp only [kt_f_0, Classical.not_not] at c_40; obtain ⟨j, hj, e⟩ := k_in16 c_40.1 c_40.2.1; rw [e, nI_clamp (by omega)]; omega))) rfl rfl ⟨_, _, rfl⟩ (by decide) (Nat.le_of_ble_eq_true rfl) (Nat.le_refl _) (Nat.le_refl _) (by exact (frg _ (by simp only [kt_f_0, Classical.not_not] at c_40; obtain ⟨j, hj, e⟩ := k_in16 c_40.1 c_40.2.1; rw [e, nI_clamp (by omega)]; omega)).1) ?_
          refine kr_goto (tgt := 62) hX dX9_range_57 (by decide) ?_
          refine kr_iret hX hr dX9_range_62 ⟨rfl, ?_⟩
          simp only [kt_f_0, Classical.not_not] at c_8 c_15 c_23
          rw [show ut_range μ o b v w = _ from if_pos ⟨c_8, c_15, c_23⟩]
          simp only [kt_f_0, Classical.not_not] at c_40
          rw [if_pos c_40]
          exact ⟨rfl, rfl⟩
      · skip
        refine kr_iconst (v := (-1)) hX dX9_range_26 (by decide) ?_
        refine kr_iret hX hr dX9_range_27 ⟨rfl, ?_⟩
        simp only [kt_f_0, Classical.not_not] at c_23
        rw [show ut_range μ o b v w = _ from if_neg (fun h => c_23 h.2.2)]
        exact ⟨rfl, rfl⟩

set_option maxHeartbeats 4000000 in
set_option maxRecDepth 100000 in
theorem sp_along {G : kt_G} {σ : kt_Y} {μ : kt_M} {o : Nat} (hp : kt_kt σ o) {s : Nat} (hc : kp μ (o + 81) 16 s) (hn : kf_n μ (o + 154)) {b t v w : Int32} : kt_F G yX9_along cX9_along 5 (some .int) 7 [.ref o, .int b, .int t, .int v, .int w] σ μ (fun r μ2 => r = some (.int (ut_along μ o b t v w).1) ∧ μ2 = (ut_along μ o b t v w).2) := by
  refine kt_F.of (by decide) (Nat.le_of_ble_eq_true rfl) (fun X hX hr => ?_)
  have hp0 := hp
  obtain ⟨hk0, hr0, hr1, hr2, hr3, hr4, hr5, hr6, hr7, hr8, hr9, hr10, hr11, hr12, hk152, hk153, hk369, hk370, hk371, hrd, hdr, hor, hcu, hfw, hpt, hrn, hdi, him, hsh⟩ := hp
  have hc1 : kp (ut_ref μ o) (o + 81) 16 s := hc.ref (by decide) (by omega)
  have hn1 := ut_ref_n hn
  obtain ⟨fk0, fr0, fr1, fr2, fr3, fr4, fr5, fr6, fr7, fk1, fk2, fk3, fk4, fk5, fk6, frg, frb, fra⟩ := id hfw
  refine kr_aload_n (i := 0) hX dX9_along_0 rfl rfl ?_
  refine kr_getr (c0 := 9) (k := 3) hX ⟨_, kf_9_28⟩ dX9_along_1 rfl (by first | exact hk0 | exact hrd.1 | exact hdr.1 | exact hor.1 | exact hcu.1 | exact hfw.1 | exact hpt.1 | exact hrn.1 | exact hdi | assumption) (by assumption) ?_
  refine kr_iload_n (i := 1) hX dX9_along_4 rfl rfl ?_
  refine kr_iload_n (i := 2) hX dX9_along_5 rfl rfl ?_
  refine kr_dV (c1 := 4) [_, _] hX km_9_206 dX9_along_6 (sp_pEdge hcu (by decide) hc.1 hc.2.1) rfl rfl ⟨_, _, rfl⟩ (by decide) (Nat.le_of_ble_eq_true rfl) (Nat.le_refl _) (Nat.le_refl _) (by first | exact hk0 | exact hrd.1 | exact hdr.1 | exact hor.1 | exact hcu.1 | exact hfw.1 | exact hpt.1 | exact hrn.1 | exact hdi | assumption) ?_
  refine kr_if_eq (tgt := 28) hX dX9_along_9 (by decide) (fun c_9 => ?_) (fun c_9 => ?_)
  · skip
    refine kr_iconst (v := (-1)) hX dX9_along_28 (by decide) ?_
    refine kr_iret hX hr dX9_along_29 ⟨rfl, ?_⟩
    simp only [kt_f_0, Classical.not_not] at c_9
    rw [show ut_along μ o b t v w = _ from if_neg (fun h => c_9 h.1)]
    exact ⟨rfl, rfl⟩
  · skip
    refine kr_iload_n (i := 3) hX dX9_along_12 rfl rfl ?_
    refine kr_dS [_] hX km_9_191 dX9_along_13 (sp_isVar) rfl rfl (by decide) (Nat.le_of_ble_eq_true rfl) (Nat.le_refl _) (Nat.le_refl _) ?_
    refine kr_if_eq (tgt := 28) hX dX9_along_16 (by decide) (fun c_16 => ?_) (fun c_16 => ?_)
    · skip
      refine kr_iconst (v := (-1)) hX dX9_along_28 (by decide) ?_
      refine kr_iret hX hr dX9_along_29 ⟨rfl, ?_⟩
      simp only [kt_f_0, Classical.not_not] at c_16
      rw [show ut_along μ o b t v w = _ from if_neg (fun h => c_16 h.2.1)]
      exact ⟨rfl, rfl⟩
    · skip
      refine kr_iload hX dX9_along_19 rfl ?_
      refine kr_iconst (v := 2) hX dX9_along_21 (by decide) ?_
      refine kr_dS [_, _] hX km_9_92 dX9_along_22 (sp_within) rfl rfl (by decide) (Nat.le_of_ble_eq_true rfl) (Nat.le_refl _) (Nat.le_refl _) ?_
      refine kr_if_ne (tgt := 30) hX dX9_along_25 (by decide) (fun c_25 => ?_) (fun c_25 => ?_)
      · skip
        refine kr_aload_n (i := 0) hX dX9_along_30 rfl rfl ?_
        refine kr_dV (c1 := 9) [] hX km_9_131 dX9_along_31 (sp_ref hp0 hc hn) rfl rfl ⟨_, _, rfl⟩ (by decide) (Nat.le_of_ble_eq_true rfl) (Nat.le_refl _) (Nat.le_refl _) (by first | exact hk0 | exact hrd.1 | exact hdr.1 | exact hor.1 | exact hcu.1 | exact hfw.1 | exact hpt.1 | exact hrn.1 | exact hdi | assumption) ?_
        refine kr_aload_n (i := 0) hX dX9_along_34 rfl rfl ?_
        refine kr_getr (c0 := 9) (k := 6) hX ⟨_, kf_9_42⟩ dX9_along_35 rfl (by first | exact hk0 | exact hrd.1 | exact hdr.1 | exact hor.1 | exact hcu.1 | exact hfw.1 | exact hpt.1 | exact hrn.1 | exact hdi | assumption) (by assumption) ?_
        refine kr_iload_n (i := 1) hX dX9_along_38 rfl rfl ?_
        refine kr_iload_n (i := 2) hX dX9_along_39 rfl rfl ?_
        refine kr_dV (c1 := 2) [_, _] hX km_9_208 dX9_along_40 (sp_opn hfw) rfl rfl ⟨_, _, rfl⟩ (by decide) (Nat.le_of_ble_eq_true rfl) (Nat.le_refl _) (Nat.le_refl _) (by first | exact hk0 | exact hrd.1 | exact hdr.1 | exact hor.1 | exact hcu.1 | exact hfw.1 | exact hpt.1 | exact hrn.1 | exact hdi | assumption) ?_
        refine kr_if_eq (tgt := 68) hX dX9_along_43 (by decide) (fun c_43 => ?_) (fun c_43 => ?_)
        · skip
          refine kr_bipush (v := (-2)) hX dX9_along_68 (by decide) ?_
          refine kr_iret hX hr dX9_along_70 ⟨rfl, ?_⟩
          simp only [kt_f_0, Classical.not_not] at c_9 c_16 c_25
          rw [show ut_along μ o b t v w = _ from if_pos ⟨c_9, c_16, c_25⟩]
          simp only [kt_f_0, Classical.not_not] at c_43
          rw [if_neg c_43]
          exact ⟨rfl, rfl⟩
        · skip
          refine kr_aload_n (i := 0) hX dX9_along_46 rfl rfl ?_
          refine kr_getr (c0 := 9) (k := 6) hX ⟨_, kf_9_42⟩ dX9_along_47 rfl (by first | exact hk0 | exact hrd.1 | exact hdr.1 | exact hor.1 | exact hcu.1 | exact hfw.1 | exact hpt.1 | exact hrn.1 | exact hdi | assumption) (by assumption) ?_
          refine kr_getr (c0 := 2) (k := 1) hX ⟨_, kf_9_211⟩ dX9_along_50 rfl (by first | exact hk0 | exact hrd.1 | exact hdr.1 | exact hor.1 | exact hcu.1 | exact hfw.1 | exact hpt.1 | exact hrn.1 | exact hdi | assumption) (by assumption) ?_
          refine kr_iconst (v := 2) hX dX9_along_53 (by decide) ?_
          refine kr_iload_n (i := 1) hX dX9_along_54 rfl rfl ?_
          refine kr_imul hX dX9_along_55 ?_
          refine kr_iload_n (i := 2) hX dX9_along_56 rfl rfl ?_
          refine kr_iadd hX dX9_along_57 ?_
          refine kr_aald (t := 2) hX dX9_along_58 (by decide) (by first | exact hk0 | exact hrd.1 | exact hdr.1 | exact hor.1 | exact hcu.1 | exact hfw.1 | exact hpt.1 | exact hrn.1 | exact hdi | assumption) (by simp only [kt_f_0, Classical.not_not] at c_43; exact k_e_in c_43.1.1 c_43.1.2.1 c_43.2.1 c_43.2.2.1) (by exact fra _ (by simp only [kt_f_0, Classical.not_not] at c_43; obtain ⟨j, hj, e⟩ := k_in16 c_43.1.1 c_43.1.2.1; obtain ⟨u, hu, e2⟩ := k_in2 c_43.2.1 c_43.2.2.1; rw [e, e2, k_e2, nI_clamp (by omega)]; omega)) ?_
          refine kr_iload_n (i := 3) hX dX9_along_59 rfl rfl ?_
          refine kr_iload hX dX9_along_60 rfl ?_
          refine kr_dV (c1 := 5) [_, _] hX km_9_201 dX9_along_62 (sp_rprop (frg _ (by simp only [kt_f_0, Classical.not_not] at c_43; obtain ⟨j, hj, e⟩ := k_in16 c_43.1.1 c_43.1.2.1; obtain ⟨u, hu, e2⟩ := k_in2 c_43.2.1 c_43.2.2.1; rw [e, e2, k_e2, nI_clamp (by omega)]; omega)) (hn1 _ (by simp only [kt_f_0, Classical.not_not] at c_43; obtain ⟨j, hj, e⟩ := k_in16 c_43.1.1 c_43.1.2.1; obtain ⟨u, hu, e2⟩ := k_in2 c_43.2.1 c_43.2.2.1; rw [e, e2, k_e2, nI_clamp (by omega)]; omega))) rfl rfl ⟨_, _, rfl⟩ (by decide) (Nat.le_of_ble_eq_true rfl) (Nat.le_refl _) (Nat.le_refl _) (by exact (frg _ (by simp only [kt_f_0, Classical.not_not] at c_43; obtain ⟨j, hj, e⟩ := k_in16 c_43.1.1 c_43.1.2.1; obtain ⟨u, hu, e2⟩ := k_in2 c_43.2.1 c_43.2.2.1; rw [e, e2, k_e2, nI_clamp (by omega)]; omega)).1) ?_
          refine kr_goto (tgt := 70) hX dX9_along_65 (by decide) ?_
          refine kr_iret hX hr dX9_along_70 ⟨rfl, ?_⟩
          simp only [kt_f_0, Classical.not_not] at c_9 c_16 c_25
          rw [show ut_along μ o b t v w = _ from if_pos ⟨c_9, c_16, c_25⟩]
          simp only [kt_f_0, Classical.not_not] at c_43
          rw [if_pos c_43]
          exact ⟨rfl, rfl⟩
      · skip
        refine kr_iconst (v := (-1)) hX dX9_along_28 (by decide) ?_
        refine kr_iret hX hr dX9_along_29 ⟨rfl, ?_⟩
        simp only [kt_f_0, Classical.not_not] at c_25
        rw [show ut_along μ o b t v w = _ from if_neg (fun h => c_25 h.2.2)]
        exact ⟨rfl, rfl⟩

set_option maxHeartbeats 4000000 in
set_option maxRecDepth 100000 in
theorem sp_outc {G : kt_G} {σ : kt_Y} {μ : kt_M} {o : Nat} (hp : kt_kt σ o) {s : Nat} (hc : kp μ (o + 81) 16 s) (hn : kf_n μ (o + 154)) {b : Int32} : kt_F G yX9_outcome cX9_outcome 2 (some .int) 7 [.ref o, .int b] σ μ (fun r μ2 => r = some (.int (ut_outc μ o b).1) ∧ μ2 = (ut_outc μ o b).2) := by
  refine kt_F.of (by decide) (Nat.le_of_ble_eq_true rfl) (fun X hX hr => ?_)
  have hp0 := hp
  obtain ⟨hk0, hr0, hr1, hr2, hr3, hr4, hr5, hr6, hr7, hr8, hr9, hr10, hr11, hr12, hk152, hk153, hk369, hk370, hk371, hrd, hdr, hor, hcu, hfw, hpt, hrn, hdi, him, hsh⟩ := hp
  have hc1 : kp (ut_ref μ o) (o + 81) 16 s := hc.ref (by decide) (by omega)
  have hn1 := ut_ref_n hn
  refine kr_aload_n (i := 0) hX dX9_outcome_0 rfl rfl ?_
  refine kr_getr (c0 := 9) (k := 3) hX ⟨_, kf_9_28⟩ dX9_outcome_1 rfl (by first | exact hk0 | exact hrd.1 | exact hdr.1 | exact hor.1 | exact hcu.1 | exact hfw.1 | exact hpt.1 | exact hrn.1 | exact hdi | assumption) (by assumption) ?_
  refine kr_iload_n (i := 1) hX dX9_outcome_4 rfl rfl ?_
  refine kr_dV (c1 := 4) [_] hX km_9_156 dX9_outcome_5 (sp_has hcu (by decide) hc.1 hc.2.1) rfl rfl ⟨_, _, rfl⟩ (by decide) (Nat.le_of_ble_eq_true rfl) (Nat.le_refl _) (Nat.le_refl _) (by first | exact hk0 | exact hrd.1 | exact hdr.1 | exact hor.1 | exact hcu.1 | exact hfw.1 | exact hpt.1 | exact hrn.1 | exact hdi | assumption) ?_
  refine kr_if_ne (tgt := 13) hX dX9_outcome_8 (by decide) (fun c_8 => ?_) (fun c_8 => ?_)
  · skip
    refine kr_aload_n (i := 0) hX dX9_outcome_13 rfl rfl ?_
    refine kr_dV (c1 := 9) [] hX km_9_131 dX9_outcome_14 (sp_ref hp0 hc hn) rfl rfl ⟨_, _, rfl⟩ (by decide) (Nat.le_of_ble_eq_true rfl) (Nat.le_refl _) (Nat.le_refl _) (by first | exact hk0 | exact hrd.1 | exact hdr.1 | exact hor.1 | exact hcu.1 | exact hfw.1 | exact hpt.1 | exact hrn.1 | exact hdi | assumption) ?_
    refine kr_aload_n (i := 0) hX dX9_outcome_17 rfl rfl ?_
    refine kr_getr (c0 := 9) (k := 6) hX ⟨_, kf_9_42⟩ dX9_outcome_18 rfl (by first | exact hk0 | exact hrd.1 | exact hdr.1 | exact hor.1 | exact hcu.1 | exact hfw.1 | exact hpt.1 | exact hrn.1 | exact hdi | assumption) (by assumption) ?_
    refine kr_iload_n (i := 1) hX dX9_outcome_21 rfl rfl ?_
    refine kr_dV (c1 := 2) [_] hX km_9_194 dX9_outcome_22 (sp_rch hfw) rfl rfl ⟨_, _, rfl⟩ (by decide) (Nat.le_of_ble_eq_true rfl) (Nat.le_refl _) (Nat.le_refl _) (by first | exact hk0 | exact hrd.1 | exact hdr.1 | exact hor.1 | exact hcu.1 | exact hfw.1 | exact hpt.1 | exact hrn.1 | exact hdi | assumption) ?_
    refine kr_if_ne (tgt := 31) hX dX9_outcome_25 (by decide) (fun c_25 => ?_) (fun c_25 => ?_)
    · skip
      refine kr_aload_n (i := 0) hX dX9_outcome_31 rfl rfl ?_
      refine kr_getr (c0 := 9) (k := 3) hX ⟨_, kf_9_28⟩ dX9_outcome_32 rfl (by first | exact hk0 | exact hrd.1 | exact hdr.1 | exact hor.1 | exact hcu.1 | exact hfw.1 | exact hpt.1 | exact hrn.1 | exact hdi | assumption) (by assumption) ?_
      refine kr_iload_n (i := 1) hX dX9_outcome_35 rfl rfl ?_
      refine kr_dV (c1 := 4) [_] hX km_9_159 dX9_outcome_36 (sp_at hcu (by decide) hc1.1 hc1.2.1) rfl rfl ⟨_, _, rfl⟩ (by decide) (Nat.le_of_ble_eq_true rfl) (Nat.le_refl _) (Nat.le_refl _) (by first | exact hk0 | exact hrd.1 | exact hdr.1 | exact hor.1 | exact hcu.1 | exact hfw.1 | exact hpt.1 | exact hrn.1 | exact hdi | assumption) ?_
      refine kr_dV (c1 := 0) [] hX km_9_180 dX9_outcome_39 (sp_isTest (hcu.at_ hc1.1 hc1.2.1 (by decide) _)) rfl rfl ⟨_, _, rfl⟩ (by decide) (Nat.le_of_ble_eq_true rfl) (Nat.le_refl _) (Nat.le_refl _) (by exact (hcu.at_ hc1.1 hc1.2.1 (by decide) _).1) ?_
      refine kr_if_eq (tgt := 56) hX dX9_outcome_42 (by decide) (fun c_42 => ?_) (fun c_42 => ?_)
      · skip
        refine kr_bipush (v := (-4)) hX dX9_outcome_56 (by decide) ?_
        refine kr_iret hX hr dX9_outcome_58 ⟨rfl, ?_⟩
        simp only [kt_f_0, Classical.not_not] at c_8
        rw [show ut_outc μ o b = _ from if_pos c_8]
        simp only [kt_f_0, Classical.not_not] at c_25
        rw [if_pos c_25]
        simp only [kt_f_0, Classical.not_not] at c_42
        rw [if_neg c_42]
        exact ⟨rfl, rfl⟩
      · skip
        refine kr_aload_n (i := 0) hX dX9_outcome_45 rfl rfl ?_
        refine kr_getr (c0 := 9) (k := 6) hX ⟨_, kf_9_42⟩ dX9_outcome_46 rfl (by first | exact hk0 | exact hrd.1 | exact hdr.1 | exact hor.1 | exact hcu.1 | exact hfw.1 | exact hpt.1 | exact hrn.1 | exact hdi | assumption) (by assumption) ?_
        refine kr_iload_n (i := 1) hX dX9_outcome_49 rfl rfl ?_
        refine kr_dV (c1 := 2) [_] hX km_9_214 dX9_outcome_50 (sp_oat hfw) rfl rfl ⟨_, _, rfl⟩ (by decide) (Nat.le_of_ble_eq_true rfl) (Nat.le_refl _) (Nat.le_refl _) (by first | exact hk0 | exact hrd.1 | exact hdr.1 | exact hor.1 | exact hcu.1 | exact hfw.1 | exact hpt.1 | exact hrn.1 | exact hdi | assumption) ?_
        refine kr_goto (tgt := 58) hX dX9_outcome_53 (by decide) ?_
        refine kr_iret hX hr dX9_outcome_58 ⟨rfl, ?_⟩
        simp only [kt_f_0, Classical.not_not] at c_8
        rw [show ut_outc μ o b = _ from if_pos c_8]
        simp only [kt_f_0, Classical.not_not] at c_25
        rw [if_pos c_25]
        simp only [kt_f_0, Classical.not_not] at c_42
        rw [if_pos c_42]
        exact ⟨rfl, rfl⟩
    · skip
      refine kr_bipush (v := (-2)) hX dX9_outcome_28 (by decide) ?_
      refine kr_iret hX hr dX9_outcome_30 ⟨rfl, ?_⟩
      simp only [kt_f_0, Classical.not_not] at c_8
      rw [show ut_outc μ o b = _ from if_pos c_8]
      simp only [kt_f_0, Classical.not_not] at c_25
      rw [if_neg c_25]
      exact ⟨rfl, rfl⟩
  · skip
    refine kr_iconst (v := (-1)) hX dX9_outcome_11 (by decide) ?_
    refine kr_iret hX hr dX9_outcome_12 ⟨rfl, ?_⟩
    simp only [kt_f_0, Classical.not_not] at c_8
    rw [show ut_outc μ o b = _ from if_neg (fun h => c_8 h)]
    exact ⟨rfl, rfl⟩

set_option maxHeartbeats 4000000 in
set_option maxRecDepth 100000 in
theorem sp_known {G : kt_G} {σ : kt_Y} {μ : kt_M} {o : Nat} (hp : kt_kt σ o) {s : Nat} (hc : kp μ (o + 81) 16 s) (hn : kf_n μ (o + 154)) {b t : Int32} : kt_F G yX9_known cX9_known 4 (some .int) 7 [.ref o, .int b, .int t] σ μ (fun r μ2 => r = some (.int (ut_known μ o b t).1) ∧ μ2 = (ut_known μ o b t).2) := by
  refine kt_F.of (by decide) (Nat.le_of_ble_eq_true rfl) (fun X hX hr => ?_)
  have hp0 := hp
  obtain ⟨hk0, hr0, hr1, hr2, hr3, hr4, hr5, hr6, hr7, hr8, hr9, hr10, hr11, hr12, hk152, hk153, hk369, hk370, hk371, hrd, hdr, hor, hcu, hfw, hpt, hrn, hdi, him, hsh⟩ := hp
  have hc1 : kp (ut_ref μ o) (o + 81) 16 s := hc.ref (by decide) (by omega)
  have hn1 := ut_ref_n hn
  refine kr_aload_n (i := 0) hX dX9_known_0 rfl rfl ?_
  refine kr_getr (c0 := 9) (k := 3) hX ⟨_, kf_9_28⟩ dX9_known_1 rfl (by first | exact hk0 | exact hrd.1 | exact hdr.1 | exact hor.1 | exact hcu.1 | exact hfw.1 | exact hpt.1 | exact hrn.1 | exact hdi | assumption) (by assumption) ?_
  refine kr_iload_n (i := 1) hX dX9_known_4 rfl rfl ?_
  refine kr_iload_n (i := 2) hX dX9_known_5 rfl rfl ?_
  refine kr_dV (c1 := 4) [_, _] hX km_9_206 dX9_known_6 (sp_pEdge hcu (by decide) hc.1 hc.2.1) rfl rfl ⟨_, _, rfl⟩ (by decide) (Nat.le_of_ble_eq_true rfl) (Nat.le_refl _) (Nat.le_refl _) (by first | exact hk0 | exact hrd.1 | exact hdr.1 | exact hor.1 | exact hcu.1 | exact hfw.1 | exact hpt.1 | exact hrn.1 | exact hdi | assumption) ?_
  refine kr_if_ne (tgt := 14) hX dX9_known_9 (by decide) (fun c_9 => ?_) (fun c_9 => ?_)
  · skip
    refine kr_aload_n (i := 0) hX dX9_known_14 rfl rfl ?_
    refine kr_dV (c1 := 9) [] hX km_9_131 dX9_known_15 (sp_ref hp0 hc hn) rfl rfl ⟨_, _, rfl⟩ (by decide) (Nat.le_of_ble_eq_true rfl) (Nat.le_refl _) (Nat.le_refl _) (by first | exact hk0 | exact hrd.1 | exact hdr.1 | exact hor.1 | exact hcu.1 | exact hfw.1 | exact hpt.1 | exact hrn.1 | exact hdi | assumption) ?_
    refine kr_aload_n (i := 0) hX dX9_known_18 rfl rfl ?_
    refine kr_getr (c0 := 9) (k := 6) hX ⟨_, kf_9_42⟩ dX9_known_19 rfl (by first | exact hk0 | exact hrd.1 | exact hdr.1 | exact hor.1 | exact hcu.1 | exact hfw.1 | exact hpt.1 | exact hrn.1 | exact hdi | assumption) (by assumption) ?_
    refine kr_iload_n (i := 1) hX dX9_known_22 rfl rfl ?_
    refine kr_iload_n (i := 2) hX dX9_known_23 rfl rfl ?_
    refine kr_dV (c1 := 2) [_, _] hX km_9_208 dX9_known_24 (sp_opn hfw) rfl rfl ⟨_, _, rfl⟩ (by decide) (Nat.le_of_ble_eq_true rfl) (Nat.le_refl _) (Nat.le_refl _) (by first | exact hk0 | exact hrd.1 | exact hdr.1 | exact hor.1 | exact hcu.1 | exact hfw.1 | exact hpt.1 | exact hrn.1 | exact hdi | assumption) ?_
    refine kr_if_ne (tgt := 33) hX dX9_known_27 (by decide) (fun c_27 => ?_) (fun c_27 => ?_)
    · skip
      refine kr_aload_n (i := 0) hX dX9_known_33 rfl rfl ?_
      refine kr_getr (c0 := 9) (k := 3) hX ⟨_, kf_9_28⟩ dX9_known_34 rfl (by first | exact hk0 | exact hrd.1 | exact hdr.1 | exact hor.1 | exact hcu.1 | exact hfw.1 | exact hpt.1 | exact hrn.1 | exact hdi | assumption) (by assumption) ?_
      refine kr_aload_n (i := 0) hX dX9_known_37 rfl rfl ?_
      refine kr_getr (c0 := 9) (k := 3) hX ⟨_, kf_9_28⟩ dX9_known_38 rfl (by first | exact hk0 | exact hrd.1 | exact hdr.1 | exact hor.1 | exact hcu.1 | exact hfw.1 | exact hpt.1 | exact hrn.1 | exact hdi | assumption) (by assumption) ?_
      refine kr_iload_n (i := 1) hX dX9_known_41 rfl rfl ?_
      refine kr_dV (c1 := 4) [_] hX km_9_159 dX9_known_42 (sp_at hcu (by decide) hc1.1 hc1.2.1) rfl rfl ⟨_, _, rfl⟩ (by decide) (Nat.le_of_ble_eq_true rfl) (Nat.le_refl _) (Nat.le_refl _) (by first | exact hk0 | exact hrd.1 | exact hdr.1 | exact hor.1 | exact hcu.1 | exact hfw.1 | exact hpt.1 | exact hrn.1 | exact hdi | assumption) ?_
      refine kr_iload_n (i := 2) hX dX9_known_45 rfl rfl ?_
      refine kr_dV (c1 := 0) [_] hX km_9_174 dX9_known_46 (sp_target (hcu.at_ hc1.1 hc1.2.1 (by decide) _)) rfl rfl ⟨_, _, rfl⟩ (by decide) (Nat.le_of_ble_eq_true rfl) (Nat.le_refl _) (Nat.le_refl _) (by exact (hcu.at_ hc1.1 hc1.2.1 (by decide) _).1) ?_
      refine kr_dV (c1 := 4) [_] hX km_9_159 dX9_known_49 (sp_at hcu (by decide) hc1.1 hc1.2.1) rfl rfl ⟨_, _, rfl⟩ (by decide) (Nat.le_of_ble_eq_true rfl) (Nat.le_refl _) (Nat.le_refl _) (by first | exact hk0 | exact hrd.1 | exact hdr.1 | exact hor.1 | exact hcu.1 | exact hfw.1 | exact hpt.1 | exact hrn.1 | exact hdi | assumption) ?_
      refine kr_astore_n (i := 3) hX dX9_known_52 rfl (by decide) rfl rfl ?_
      refine kr_aload_n (i := 3) hX dX9_known_53 rfl rfl ?_
      refine kr_dV (c1 := 0) [] hX km_9_180 dX9_known_54 (sp_isTest (hcu.at_ hc1.1 hc1.2.1 (by decide) _)) rfl rfl ⟨_, _, rfl⟩ (by decide) (Nat.le_of_ble_eq_true rfl) (Nat.le_refl _) (Nat.le_refl _) (by exact (hcu.at_ hc1.1 hc1.2.1 (by decide) _).1) ?_
      refine kr_if_eq (tgt := 72) hX dX9_known_57 (by decide) (fun c_57 => ?_) (fun c_57 => ?_)
      · skip
        refine kr_bipush (v := (-4)) hX dX9_known_72 (by decide) ?_
        refine kr_iret hX hr dX9_known_74 ⟨rfl, ?_⟩
        simp only [kt_f_0, Classical.not_not] at c_9
        rw [show ut_known μ o b t = _ from if_pos c_9]
        simp only [kt_f_0, Classical.not_not] at c_27
        rw [if_pos c_27]
        simp only [kt_f_0, Classical.not_not] at c_57
        rw [if_neg (show ¬ kb_test (kt_i (ut_ref μ o) (k_nxt (ut_ref μ o) (o + 81) b t) 4) from c_57)]
        exact ⟨rfl, rfl⟩
      · skip
        refine kr_aload_n (i := 0) hX dX9_known_60 rfl rfl ?_
        refine kr_getr (c0 := 9) (k := 6) hX ⟨_, kf_9_42⟩ dX9_known_61 rfl (by first | exact hk0 | exact hrd.1 | exact hdr.1 | exact hor.1 | exact hcu.1 | exact hfw.1 | exact hpt.1 | exact hrn.1 | exact hdi | assumption) (by assumption) ?_
        refine kr_iload_n (i := 1) hX dX9_known_64 rfl rfl ?_
        refine kr_iload_n (i := 2) hX dX9_known_65 rfl rfl ?_
        refine kr_dV (c1 := 2) [_, _] hX km_9_217 dX9_known_66 (sp_oal hfw) rfl rfl ⟨_, _, rfl⟩ (by decide) (Nat.le_of_ble_eq_true rfl) (Nat.le_refl _) (Nat.le_refl _) (by first | exact hk0 | exact hrd.1 | exact hdr.1 | exact hor.1 | exact hcu.1 | exact hfw.1 | exact hpt.1 | exact hrn.1 | exact hdi | assumption) ?_
        refine kr_goto (tgt := 74) hX dX9_known_69 (by decide) ?_
        refine kr_iret hX hr dX9_known_74 ⟨rfl, ?_⟩
        simp only [kt_f_0, Classical.not_not] at c_9
        rw [show ut_known μ o b t = _ from if_pos c_9]
        simp only [kt_f_0, Classical.not_not] at c_27
        rw [if_pos c_27]
        simp only [kt_f_0, Classical.not_not] at c_57
        rw [if_pos (show kb_test (kt_i (ut_ref μ o) (k_nxt (ut_ref μ o) (o + 81) b t) 4) from c_57)]
        exact ⟨rfl, rfl⟩
    · skip
      refine kr_bipush (v := (-2)) hX dX9_known_30 (by decide) ?_
      refine kr_iret hX hr dX9_known_32 ⟨rfl, ?_⟩
      simp only [kt_f_0, Classical.not_not] at c_9
      rw [show ut_known μ o b t = _ from if_pos c_9]
      simp only [kt_f_0, Classical.not_not] at c_27
      rw [if_neg c_27]
      exact ⟨rfl, rfl⟩
  · skip
    refine kr_iconst (v := (-1)) hX dX9_known_12 (by decide) ?_
    refine kr_iret hX hr dX9_known_13 ⟨rfl, ?_⟩
    simp only [kt_f_0, Classical.not_not] at c_9
    rw [show ut_known μ o b t = _ from if_neg (fun h => c_9 h)]
    exact ⟨rfl, rfl⟩

set_option maxHeartbeats 4000000 in
set_option maxRecDepth 100000 in
theorem sp_dom {G : kt_G} {σ : kt_Y} {μ : kt_M} {o : Nat} (hp : kt_kt σ o) {s : Nat} (hc : kp μ (o + 81) 16 s) (hn : kf_n μ (o + 154)) {a b : Int32} : kt_F G yX9_dominates cX9_dominates 3 (some .int) 7 [.ref o, .int a, .int b] σ μ (fun r μ2 => r = some (.int (ut_dom μ o a b).1) ∧ μ2 = (ut_dom μ o a b).2) := by
  refine kt_F.of (by decide) (Nat.le_of_ble_eq_true rfl) (fun X hX hr => ?_)
  have hp0 := hp
  obtain ⟨hk0, hr0, hr1, hr2, hr3, hr4, hr5, hr6, hr7, hr8, hr9, hr10, hr11, hr12, hk152, hk153, hk369, hk370, hk371, hrd, hdr, hor, hcu, hfw, hpt, hrn, hdi, him, hsh⟩ := hp
  have hc1 : kp (ut_ref μ o) (o + 81) 16 s := hc.ref (by decide) (by omega)
  have hn1 := ut_ref_n hn
  refine kr_aload_n (i := 0) hX dX9_dominates_0 rfl rfl ?_
  refine kr_getr (c0 := 9) (k := 3) hX ⟨_, kf_9_28⟩ dX9_dominates_1 rfl (by first | exact hk0 | exact hrd.1 | exact hdr.1 | exact hor.1 | exact hcu.1 | exact hfw.1 | exact hpt.1 | exact hrn.1 | exact hdi | assumption) (by assumption) ?_
  refine kr_iload_n (i := 1) hX dX9_dominates_4 rfl rfl ?_
  refine kr_dV (c1 := 4) [_] hX km_9_156 dX9_dominates_5 (sp_has hcu (by decide) hc.1 hc.2.1) rfl rfl ⟨_, _, rfl⟩ (by decide) (Nat.le_of_ble_eq_true rfl) (Nat.le_refl _) (Nat.le_refl _) (by first | exact hk0 | exact hrd.1 | exact hdr.1 | exact hor.1 | exact hcu.1 | exact hfw.1 | exact hpt.1 | exact hrn.1 | exact hdi | assumption) ?_
  refine kr_if_eq (tgt := 22) hX dX9_dominates_8 (by decide) (fun c_8 => ?_) (fun c_8 => ?_)
  · skip
    refine kr_iconst (v := (-1)) hX dX9_dominates_22 (by decide) ?_
    refine kr_iret hX hr dX9_dominates_23 ⟨rfl, ?_⟩
    simp only [kt_f_0, Classical.not_not] at c_8
    rw [show ut_dom μ o a b = _ from if_neg (fun h => c_8 h.1)]
    exact ⟨rfl, rfl⟩
  · skip
    refine kr_aload_n (i := 0) hX dX9_dominates_11 rfl rfl ?_
    refine kr_getr (c0 := 9) (k := 3) hX ⟨_, kf_9_28⟩ dX9_dominates_12 rfl (by first | exact hk0 | exact hrd.1 | exact hdr.1 | exact hor.1 | exact hcu.1 | exact hfw.1 | exact hpt.1 | exact hrn.1 | exact hdi | assumption) (by assumption) ?_
    refine kr_iload_n (i := 2) hX dX9_dominates_15 rfl rfl ?_
    refine kr_dV (c1 := 4) [_] hX km_9_156 dX9_dominates_16 (sp_has hcu (by decide) hc.1 hc.2.1) rfl rfl ⟨_, _, rfl⟩ (by decide) (Nat.le_of_ble_eq_true rfl) (Nat.le_refl _) (Nat.le_refl _) (by first | exact hk0 | exact hrd.1 | exact hdr.1 | exact hor.1 | exact hcu.1 | exact hfw.1 | exact hpt.1 | exact hrn.1 | exact hdi | assumption) ?_
    refine kr_if_ne (tgt := 24) hX dX9_dominates_19 (by decide) (fun c_19 => ?_) (fun c_19 => ?_)
    · skip
      refine kr_aload_n (i := 0) hX dX9_dominates_24 rfl rfl ?_
      refine kr_dV (c1 := 9) [] hX km_9_131 dX9_dominates_25 (sp_ref hp0 hc hn) rfl rfl ⟨_, _, rfl⟩ (by decide) (Nat.le_of_ble_eq_true rfl) (Nat.le_refl _) (Nat.le_refl _) (by first | exact hk0 | exact hrd.1 | exact hdr.1 | exact hor.1 | exact hcu.1 | exact hfw.1 | exact hpt.1 | exact hrn.1 | exact hdi | assumption) ?_
      refine kr_aload_n (i := 0) hX dX9_dominates_28 rfl rfl ?_
      refine kr_getr (c0 := 9) (k := 7) hX ⟨_, kf_9_49⟩ dX9_dominates_29 rfl (by first | exact hk0 | exact hrd.1 | exact hdr.1 | exact hor.1 | exact hcu.1 | exact hfw.1 | exact hpt.1 | exact hrn.1 | exact hdi | assumption) (by assumption) ?_
      refine kr_iload_n (i := 2) hX dX9_dominates_32 rfl rfl ?_
      refine kr_iload_n (i := 1) hX dX9_dominates_33 rfl rfl ?_
      refine kr_dV (c1 := 3) [_, _] hX km_9_223 dX9_dominates_34 (sp_isDom hpt) rfl rfl ⟨_, _, rfl⟩ (by decide) (Nat.le_of_ble_eq_true rfl) (Nat.le_refl _) (Nat.le_refl _) (by first | exact hk0 | exact hrd.1 | exact hdr.1 | exact hor.1 | exact hcu.1 | exact hfw.1 | exact hpt.1 | exact hrn.1 | exact hdi | assumption) ?_
      refine kr_if_eq (tgt := 44) hX dX9_dominates_37 (by decide) (fun c_37 => ?_) (fun c_37 => ?_)
      · skip
        refine kr_iconst (v := 0) hX dX9_dominates_44 (by decide) ?_
        refine kr_iret hX hr dX9_dominates_45 ⟨rfl, ?_⟩
        simp only [kt_f_0, Classical.not_not] at c_8 c_19
        rw [show ut_dom μ o a b = _ from if_pos ⟨c_8, c_19⟩]
        simp only [kt_f_0, Classical.not_not] at c_37
        rw [kt_f_f c_37]
        exact ⟨rfl, rfl⟩
      · skip
        refine kr_iconst (v := 1) hX dX9_dominates_40 (by decide) ?_
        refine kr_goto (tgt := 45) hX dX9_dominates_41 (by decide) ?_
        refine kr_iret hX hr dX9_dominates_45 ⟨rfl, ?_⟩
        simp only [kt_f_0, Classical.not_not] at c_8 c_19
        rw [show ut_dom μ o a b = _ from if_pos ⟨c_8, c_19⟩]
        simp only [kt_f_0, Classical.not_not] at c_37
        rw [kt_f_t c_37]
        exact ⟨rfl, rfl⟩
    · skip
      refine kr_iconst (v := (-1)) hX dX9_dominates_22 (by decide) ?_
      refine kr_iret hX hr dX9_dominates_23 ⟨rfl, ?_⟩
      simp only [kt_f_0, Classical.not_not] at c_19
      rw [show ut_dom μ o a b = _ from if_neg (fun h => c_19 h.2)]
      exact ⟨rfl, rfl⟩

set_option maxHeartbeats 4000000 in
set_option maxRecDepth 100000 in
theorem sp_loop {G : kt_G} {σ : kt_Y} {μ : kt_M} {o : Nat} (hp : kt_kt σ o) {s : Nat} (hc : kp μ (o + 81) 16 s) (hn : kf_n μ (o + 154)) {b w : Int32} : kt_F G yX9_loop cX9_loop 3 (some .int) 7 [.ref o, .int b, .int w] σ μ (fun r μ2 => r = some (.int (ut_loop μ o b w).1) ∧ μ2 = (ut_loop μ o b w).2) := by
  refine kt_F.of (by decide) (Nat.le_of_ble_eq_true rfl) (fun X hX hr => ?_)
  have hp0 := hp
  obtain ⟨hk0, hr0, hr1, hr2, hr3, hr4, hr5, hr6, hr7, hr8, hr9, hr10, hr11, hr12, hk152, hk153, hk369, hk370, hk371, hrd, hdr, hor, hcu, hfw, hpt, hrn, hdi, him, hsh⟩ := hp
  have hc1 : kp (ut_ref μ o) (o + 81) 16 s := hc.ref (by decide) (by omega)
  have hn1 := ut_ref_n hn
  refine kr_aload_n (i := 0) hX dX9_loop_0 rfl rfl ?_
  refine kr_getr (c0 := 9) (k := 3) hX ⟨_, kf_9_28⟩ dX9_loop_1 rfl (by first | exact hk0 | exact hrd.1 | exact hdr.1 | exact hor.1 | exact hcu.1 | exact hfw.1 | exact hpt.1 | exact hrn.1 | exact hdi | assumption) (by assumption) ?_
  refine kr_iload_n (i := 1) hX dX9_loop_4 rfl rfl ?_
  refine kr_dV (c1 := 4) [_] hX km_9_156 dX9_loop_5 (sp_has hcu (by decide) hc.1 hc.2.1) rfl rfl ⟨_, _, rfl⟩ (by decide) (Nat.le_of_ble_eq_true rfl) (Nat.le_refl _) (Nat.le_refl _) (by first | exact hk0 | exact hrd.1 | exact hdr.1 | exact hor.1 | exact hcu.1 | exact hfw.1 | exact hpt.1 | exact hrn.1 | exact hdi | assumption) ?_
  refine kr_if_eq (tgt := 19) hX dX9_loop_8 (by decide) (fun c_8 => ?_) (fun c_8 => ?_)
  · skip
    refine kr_iconst (v := (-1)) hX dX9_loop_19 (by decide) ?_
    refine kr_iret hX hr dX9_loop_20 ⟨rfl, ?_⟩
    simp only [kt_f_0, Classical.not_not] at c_8
    rw [show ut_loop μ o b w = _ from if_neg (fun h => c_8 h.1)]
    exact ⟨rfl, rfl⟩
  · skip
    refine kr_iload_n (i := 2) hX dX9_loop_11 rfl rfl ?_
    refine kr_iconst (v := 1) hX dX9_loop_12 (by decide) ?_
    refine kr_dS [_, _] hX km_9_92 dX9_loop_13 (sp_within) rfl rfl (by decide) (Nat.le_of_ble_eq_true rfl) (Nat.le_refl _) (Nat.le_refl _) ?_
    refine kr_if_ne (tgt := 21) hX dX9_loop_16 (by decide) (fun c_16 => ?_) (fun c_16 => ?_)
    · skip
      refine kr_aload_n (i := 0) hX dX9_loop_21 rfl rfl ?_
      refine kr_dV (c1 := 9) [] hX km_9_131 dX9_loop_22 (sp_ref hp0 hc hn) rfl rfl ⟨_, _, rfl⟩ (by decide) (Nat.le_of_ble_eq_true rfl) (Nat.le_refl _) (Nat.le_refl _) (by first | exact hk0 | exact hrd.1 | exact hdr.1 | exact hor.1 | exact hcu.1 | exact hfw.1 | exact hpt.1 | exact hrn.1 | exact hdi | assumption) ?_
      refine kr_iload_n (i := 2) hX dX9_loop_25 rfl rfl ?_
      refine kr_if_ne (tgt := 46) hX dX9_loop_26 (by decide) (fun c_26 => ?_) (fun c_26 => ?_)
      · skip
        refine kr_aload_n (i := 0) hX dX9_loop_46 rfl rfl ?_
        refine kr_getr (c0 := 9) (k := 7) hX ⟨_, kf_9_49⟩ dX9_loop_47 rfl (by first | exact hk0 | exact hrd.1 | exact hdr.1 | exact hor.1 | exact hcu.1 | exact hfw.1 | exact hpt.1 | exact hrn.1 | exact hdi | assumption) (by assumption) ?_
        refine kr_iload_n (i := 1) hX dX9_loop_50 rfl rfl ?_
        refine kr_dV (c1 := 3) [_] hX km_9_229 dX9_loop_51 (sp_idom hpt (k_hs16 hc (by decide) (by simp only [kt_f_0, Classical.not_not] at c_8; exact c_8))) rfl rfl ⟨_, _, rfl⟩ (by decide) (Nat.le_of_ble_eq_true rfl) (Nat.le_refl _) (Nat.le_refl _) (by first | exact hk0 | exact hrd.1 | exact hdr.1 | exact hor.1 | exact hcu.1 | exact hfw.1 | exact hpt.1 | exact hrn.1 | exact hdi | assumption) ?_
        refine kr_iret hX hr dX9_loop_54 ⟨rfl, ?_⟩
        simp only [kt_f_0, Classical.not_not] at c_8 c_16
        rw [show ut_loop μ o b w = _ from if_pos ⟨c_8, c_16⟩]
        rw [if_neg c_26]
        exact ⟨rfl, rfl⟩
      · skip
        refine kr_aload_n (i := 0) hX dX9_loop_29 rfl rfl ?_
        refine kr_getr (c0 := 9) (k := 7) hX ⟨_, kf_9_49⟩ dX9_loop_30 rfl (by first | exact hk0 | exact hrd.1 | exact hdr.1 | exact hor.1 | exact hcu.1 | exact hfw.1 | exact hpt.1 | exact hrn.1 | exact hdi | assumption) (by assumption) ?_
        refine kr_iload_n (i := 1) hX dX9_loop_33 rfl rfl ?_
        refine kr_dV (c1 := 3) [_] hX km_9_226 dX9_loop_34 (sp_isHead hpt) rfl rfl ⟨_, _, rfl⟩ (by decide) (Nat.le_of_ble_eq_true rfl) (Nat.le_refl _) (Nat.le_refl _) (by first | exact hk0 | exact hrd.1 | exact hdr.1 | exact hor.1 | exact hcu.1 | exact hfw.1 | exact hpt.1 | exact hrn.1 | exact hdi | assumption) ?_
        refine kr_if_eq (tgt := 44) hX dX9_loop_37 (by decide) (fun c_37 => ?_) (fun c_37 => ?_)
        · skip
          refine kr_iconst (v := 0) hX dX9_loop_44 (by decide) ?_
          refine kr_iret hX hr dX9_loop_45 ⟨rfl, ?_⟩
          simp only [kt_f_0, Classical.not_not] at c_8 c_16
          rw [show ut_loop μ o b w = _ from if_pos ⟨c_8, c_16⟩]
          rw [if_pos c_26]
          simp only [kt_f_0, Classical.not_not] at c_37
          rw [kt_f_f (fun h => h c_37)]
          exact ⟨rfl, rfl⟩
        · skip
          refine kr_iconst (v := 1) hX dX9_loop_40 (by decide) ?_
          refine kr_goto (tgt := 45) hX dX9_loop_41 (by decide) ?_
          refine kr_iret hX hr dX9_loop_45 ⟨rfl, ?_⟩
          simp only [kt_f_0, Classical.not_not] at c_8 c_16
          rw [show ut_loop μ o b w = _ from if_pos ⟨c_8, c_16⟩]
          rw [if_pos c_26]
          simp only [kt_f_0, Classical.not_not] at c_37
          rw [kt_f_t c_37]
          exact ⟨rfl, rfl⟩
    · skip
      refine kr_iconst (v := (-1)) hX dX9_loop_19 (by decide) ?_
      refine kr_iret hX hr dX9_loop_20 ⟨rfl, ?_⟩
      simp only [kt_f_0, Classical.not_not] at c_16
      rw [show ut_loop μ o b w = _ from if_neg (fun h => c_16 h.2)]
      exact ⟨rfl, rfl⟩

set_option maxHeartbeats 4000000 in
set_option maxRecDepth 100000 in
theorem sp_rsn {G : kt_G} {σ : kt_Y} {μ : kt_M} {o : Nat} (hp : kt_kt σ o) {s : Nat} (hc : kp μ (o + 81) 16 s) {b t : Int32} : kt_F G yX9_reasonAgainst cX9_reasonAgainst 5 (some .int) 3 [.ref o, .int b, .int t] σ μ (fun r μ2 => r = some (.int (ut_rsn μ o b t)) ∧ μ2 = μ) := by
  refine kt_F.of (by decide) (Nat.le_of_ble_eq_true rfl) (fun X hX hr => ?_)
  have hp0 := hp
  obtain ⟨hk0, hr0, hr1, hr2, hr3, hr4, hr5, hr6, hr7, hr8, hr9, hr10, hr11, hr12, hk152, hk153, hk369, hk370, hk371, hrd, hdr, hor, hcu, hfw, hpt, hrn, hdi, him, hsh⟩ := hp
  refine kr_aload_n (i := 0) hX dX9_reasonAgainst_0 rfl rfl ?_
  refine kr_getr (c0 := 9) (k := 6) hX ⟨_, kf_9_42⟩ dX9_reasonAgainst_1 rfl (by first | exact hk0 | exact hrd.1 | exact hdr.1 | exact hor.1 | exact hcu.1 | exact hfw.1 | exact hpt.1 | exact hrn.1 | exact hdi | assumption) (by assumption) ?_
  refine kr_iload_n (i := 1) hX dX9_reasonAgainst_4 rfl rfl ?_
  refine kr_iload_n (i := 2) hX dX9_reasonAgainst_5 rfl rfl ?_
  refine kr_dV (c1 := 2) [_, _] hX km_9_208 dX9_reasonAgainst_6 (sp_opn hfw) rfl rfl ⟨_, _, rfl⟩ (by decide) (Nat.le_of_ble_eq_true rfl) (Nat.le_refl _) (Nat.le_refl _) (by first | exact hk0 | exact hrd.1 | exact hdr.1 | exact hor.1 | exact hcu.1 | exact hfw.1 | exact hpt.1 | exact hrn.1 | exact hdi | assumption) ?_
  refine kr_if_ne (tgt := 14) hX dX9_reasonAgainst_9 (by decide) (fun c_9 => ?_) (fun c_9 => ?_)
  · skip
    refine kr_aload_n (i := 0) hX dX9_reasonAgainst_14 rfl rfl ?_
    refine kr_getr (c0 := 9) (k := 3) hX ⟨_, kf_9_28⟩ dX9_reasonAgainst_15 rfl (by first | exact hk0 | exact hrd.1 | exact hdr.1 | exact hor.1 | exact hcu.1 | exact hfw.1 | exact hpt.1 | exact hrn.1 | exact hdi | assumption) (by assumption) ?_
    refine kr_iload_n (i := 1) hX dX9_reasonAgainst_18 rfl rfl ?_
    refine kr_dV (c1 := 4) [_] hX km_9_159 dX9_reasonAgainst_19 (sp_at hcu (by decide) hc.1 hc.2.1) rfl rfl ⟨_, _, rfl⟩ (by decide) (Nat.le_of_ble_eq_true rfl) (Nat.le_refl _) (Nat.le_refl _) (by first | exact hk0 | exact hrd.1 | exact hdr.1 | exact hor.1 | exact hcu.1 | exact hfw.1 | exact hpt.1 | exact hrn.1 | exact hdi | assumption) ?_
    refine kr_iload_n (i := 2) hX dX9_reasonAgainst_22 rfl rfl ?_
    refine kr_dV (c1 := 0) [_] hX km_9_174 dX9_reasonAgainst_23 (sp_target (hcu.at_ hc.1 hc.2.1 (by decide) _)) rfl rfl ⟨_, _, rfl⟩ (by decide) (Nat.le_of_ble_eq_true rfl) (Nat.le_refl _) (Nat.le_refl _) (by exact (hcu.at_ hc.1 hc.2.1 (by decide) _).1) ?_
    refine kr_istore_n (i := 3) hX dX9_reasonAgainst_26 rfl (by decide) rfl rfl ?_
    refine kr_aload_n (i := 0) hX dX9_reasonAgainst_27 rfl rfl ?_
    refine kr_getr (c0 := 9) (k := 3) hX ⟨_, kf_9_28⟩ dX9_reasonAgainst_28 rfl (by first | exact hk0 | exact hrd.1 | exact hdr.1 | exact hor.1 | exact hcu.1 | exact hfw.1 | exact hpt.1 | exact hrn.1 | exact hdi | assumption) (by assumption) ?_
    refine kr_iload_n (i := 3) hX dX9_reasonAgainst_31 rfl rfl ?_
    refine kr_dV (c1 := 4) [_] hX km_9_159 dX9_reasonAgainst_32 (sp_at hcu (by decide) hc.1 hc.2.1) rfl rfl ⟨_, _, rfl⟩ (by decide) (Nat.le_of_ble_eq_true rfl) (Nat.le_refl _) (Nat.le_refl _) (by first | exact hk0 | exact hrd.1 | exact hdr.1 | exact hor.1 | exact hcu.1 | exact hfw.1 | exact hpt.1 | exact hrn.1 | exact hdi | assumption) ?_
    refine kr_astore hX dX9_reasonAgainst_35 (by decide) rfl rfl ?_
    refine kr_aload hX dX9_reasonAgainst_37 rfl ?_
    refine kr_dV (c1 := 0) [] hX km_9_180 dX9_reasonAgainst_39 (sp_isTest (hcu.at_ hc.1 hc.2.1 (by decide) _)) rfl rfl ⟨_, _, rfl⟩ (by decide) (Nat.le_of_ble_eq_true rfl) (Nat.le_refl _) (Nat.le_refl _) (by exact (hcu.at_ hc.1 hc.2.1 (by decide) _).1) ?_
    refine kr_if_ne (tgt := 47) hX dX9_reasonAgainst_42 (by decide) (fun c_42 => ?_) (fun c_42 => ?_)
    · skip
      refine kr_aload_n (i := 0) hX dX9_reasonAgainst_47 rfl rfl ?_
      refine kr_getr (c0 := 9) (k := 6) hX ⟨_, kf_9_42⟩ dX9_reasonAgainst_48 rfl (by first | exact hk0 | exact hrd.1 | exact hdr.1 | exact hor.1 | exact hcu.1 | exact hfw.1 | exact hpt.1 | exact hrn.1 | exact hdi | assumption) (by assumption) ?_
      refine kr_iload_n (i := 1) hX dX9_reasonAgainst_51 rfl rfl ?_
      refine kr_iload_n (i := 2) hX dX9_reasonAgainst_52 rfl rfl ?_
      refine kr_dV (c1 := 2) [_, _] hX km_9_217 dX9_reasonAgainst_53 (sp_oal hfw) rfl rfl ⟨_, _, rfl⟩ (by decide) (Nat.le_of_ble_eq_true rfl) (Nat.le_refl _) (Nat.le_refl _) (by first | exact hk0 | exact hrd.1 | exact hdr.1 | exact hor.1 | exact hcu.1 | exact hfw.1 | exact hpt.1 | exact hrn.1 | exact hdi | assumption) ?_
      refine kr_if_ne (tgt := 61) hX dX9_reasonAgainst_56 (by decide) (fun c_56 => ?_) (fun c_56 => ?_)
      · skip
        refine kr_aload_n (i := 0) hX dX9_reasonAgainst_61 rfl rfl ?_
        refine kr_getr (c0 := 9) (k := 7) hX ⟨_, kf_9_49⟩ dX9_reasonAgainst_62 rfl (by first | exact hk0 | exact hrd.1 | exact hdr.1 | exact hor.1 | exact hcu.1 | exact hfw.1 | exact hpt.1 | exact hrn.1 | exact hdi | assumption) (by assumption) ?_
        refine kr_iload_n (i := 3) hX dX9_reasonAgainst_65 rfl rfl ?_
        refine kr_dV (c1 := 3) [_] hX km_9_226 dX9_reasonAgainst_66 (sp_isHead hpt) rfl rfl ⟨_, _, rfl⟩ (by decide) (Nat.le_of_ble_eq_true rfl) (Nat.le_refl _) (Nat.le_refl _) (by first | exact hk0 | exact hrd.1 | exact hdr.1 | exact hor.1 | exact hcu.1 | exact hfw.1 | exact hpt.1 | exact hrn.1 | exact hdi | assumption) ?_
        refine kr_if_eq (tgt := 74) hX dX9_reasonAgainst_69 (by decide) (fun c_69 => ?_) (fun c_69 => ?_)
        · skip
          refine kr_aload hX dX9_reasonAgainst_74 rfl ?_
          refine kr_geti (c0 := 0) (k := 0) hX ⟨_, kf_9_163⟩ dX9_reasonAgainst_76 rfl (by exact (hcu.at_ hc.1 hc.2.1 (by decide) _).1) ?_
          refine kr_aload_n (i := 0) hX dX9_reasonAgainst_79 rfl rfl ?_
          refine kr_geti (c0 := 9) (k := 13) hX ⟨_, kf_9_80⟩ dX9_reasonAgainst_80 rfl (by first | exact hk0 | exact hrd.1 | exact hdr.1 | exact hor.1 | exact hcu.1 | exact hfw.1 | exact hpt.1 | exact hrn.1 | exact hdi | assumption) ?_
          refine kr_icmp_le (tgt := 88) hX dX9_reasonAgainst_83 (by decide) (fun c_83 => ?_) (fun c_83 => ?_)
          · skip
            refine kr_aload_n (i := 0) hX dX9_reasonAgainst_88 rfl rfl ?_
            refine kr_getr (c0 := 9) (k := 3) hX ⟨_, kf_9_28⟩ dX9_reasonAgainst_89 rfl (by first | exact hk0 | exact hrd.1 | exact hdr.1 | exact hor.1 | exact hcu.1 | exact hfw.1 | exact hpt.1 | exact hrn.1 | exact hdi | assumption) (by assumption) ?_
            refine kr_dV (c1 := 4) [] hX km_9_325 dX9_reasonAgainst_92 (sp_isFull hcu (by decide)) rfl rfl ⟨_, _, rfl⟩ (by decide) (Nat.le_of_ble_eq_true rfl) (Nat.le_refl _) (Nat.le_refl _) (by first | exact hk0 | exact hrd.1 | exact hdr.1 | exact hor.1 | exact hcu.1 | exact hfw.1 | exact hpt.1 | exact hrn.1 | exact hdi | assumption) ?_
            refine kr_if_eq (tgt := 103) hX dX9_reasonAgainst_95 (by decide) (fun c_95 => ?_) (fun c_95 => ?_)
            · skip
              refine kr_iconst (v := 0) hX dX9_reasonAgainst_103 (by decide) ?_
              refine kr_iret hX hr dX9_reasonAgainst_104 ⟨rfl, ?_⟩
              refine ⟨?_, rfl⟩
              simp only [kt_f_0, Classical.not_not] at c_9
              unfold ut_rsn
              rw [if_neg (fun h => h c_9)]
              simp only [kt_f_0, Classical.not_not] at c_42
              rw [if_neg (fun h => h c_42)]
              rw [if_neg c_56]
              simp only [kt_f_0, Classical.not_not] at c_69
              rw [if_neg (fun h => h c_69)]
              rw [if_neg (fun h => h c_83)]
              simp only [kt_f_0, Classical.not_not] at c_95
              rw [if_neg (fun h => h c_95)]
            · skip
              refine kr_bipush (v := 6) hX dX9_reasonAgainst_98 (by decide) ?_
              refine kr_goto (tgt := 104) hX dX9_reasonAgainst_100 (by decide) ?_
              refine kr_iret hX hr dX9_reasonAgainst_104 ⟨rfl, ?_⟩
              refine ⟨?_, rfl⟩
              simp only [kt_f_0, Classical.not_not] at c_9
              unfold ut_rsn
              rw [if_neg (fun h => h c_9)]
              simp only [kt_f_0, Classical.not_not] at c_42
              rw [if_neg (fun h => h c_42)]
              rw [if_neg c_56]
              simp only [kt_f_0, Classical.not_not] at c_69
              rw [if_neg (fun h => h c_69)]
              rw [if_neg (fun h => h c_83)]
              simp only [kt_f_0, Classical.not_not] at c_95
              rw [if_pos c_95]
          · skip
            refine kr_iconst (v := 5) hX dX9_reasonAgainst_86 (by decide) ?_
            refine kr_iret hX hr dX9_reasonAgainst_87 ⟨rfl, ?_⟩
            refine ⟨?_, rfl⟩
            simp only [kt_f_0, Classical.not_not] at c_9
            unfold ut_rsn
            rw [if_neg (fun h => h c_9)]
            simp only [kt_f_0, Classical.not_not] at c_42
            rw [if_neg (fun h => h c_42)]
            rw [if_neg c_56]
            simp only [kt_f_0, Classical.not_not] at c_69
            rw [if_neg (fun h => h c_69)]
            rw [if_pos (show ¬ kt_i μ (k_nxt μ (o + 81) b t) 0 ≤ kt_i μ o 13 from c_83)]
        · skip
          refine kr_iconst (v := 4) hX dX9_reasonAgainst_72 (by decide) ?_
          refine kr_iret hX hr dX9_reasonAgainst_73 ⟨rfl, ?_⟩
          refine ⟨?_, rfl⟩
          simp only [kt_f_0, Classical.not_not] at c_9
          unfold ut_rsn
          rw [if_neg (fun h => h c_9)]
          simp only [kt_f_0, Classical.not_not] at c_42
          rw [if_neg (fun h => h c_42)]
          rw [if_neg c_56]
          simp only [kt_f_0, Classical.not_not] at c_69
          rw [if_pos c_69]
      · skip
        refine kr_iconst (v := 3) hX dX9_reasonAgainst_59 (by decide) ?_
        refine kr_iret hX hr dX9_reasonAgainst_60 ⟨rfl, ?_⟩
        refine ⟨?_, rfl⟩
        simp only [kt_f_0, Classical.not_not] at c_9
        unfold ut_rsn
        rw [if_neg (fun h => h c_9)]
        simp only [kt_f_0, Classical.not_not] at c_42
        rw [if_neg (fun h => h c_42)]
        rw [if_pos c_56]
    · skip
      refine kr_iconst (v := 2) hX dX9_reasonAgainst_45 (by decide) ?_
      refine kr_iret hX hr dX9_reasonAgainst_46 ⟨rfl, ?_⟩
      refine ⟨?_, rfl⟩
      simp only [kt_f_0, Classical.not_not] at c_9
      unfold ut_rsn
      rw [if_neg (fun h => h c_9)]
      simp only [kt_f_0, Classical.not_not] at c_42
      rw [if_pos (show ¬ kb_test (kt_i μ (k_nxt μ (o + 81) b t) 4) from c_42)]
  · skip
    refine kr_iconst (v := 1) hX dX9_reasonAgainst_12 (by decide) ?_
    refine kr_iret hX hr dX9_reasonAgainst_13 ⟨rfl, ?_⟩
    refine ⟨?_, rfl⟩
    simp only [kt_f_0, Classical.not_not] at c_9
    unfold ut_rsn
    rw [if_pos c_9]

set_option maxHeartbeats 4000000 in
set_option maxRecDepth 100000 in
theorem sp_why {G : kt_G} {σ : kt_Y} {μ : kt_M} {o : Nat} (hp : kt_kt σ o) {s : Nat} (hc : kp μ (o + 81) 16 s) (hn : kf_n μ (o + 154)) {b t : Int32} : kt_F G yX9_why cX9_why 3 (some .int) 7 [.ref o, .int b, .int t] σ μ (fun r μ2 => r = some (.int (ut_why μ o b t).1) ∧ μ2 = (ut_why μ o b t).2) := by
  refine kt_F.of (by decide) (Nat.le_of_ble_eq_true rfl) (fun X hX hr => ?_)
  have hp0 := hp
  obtain ⟨hk0, hr0, hr1, hr2, hr3, hr4, hr5, hr6, hr7, hr8, hr9, hr10, hr11, hr12, hk152, hk153, hk369, hk370, hk371, hrd, hdr, hor, hcu, hfw, hpt, hrn, hdi, him, hsh⟩ := hp
  have hc1 : kp (ut_ref μ o) (o + 81) 16 s := hc.ref (by decide) (by omega)
  have hn1 := ut_ref_n hn
  refine kr_aload_n (i := 0) hX dX9_why_0 rfl rfl ?_
  refine kr_getr (c0 := 9) (k := 3) hX ⟨_, kf_9_28⟩ dX9_why_1 rfl (by first | exact hk0 | exact hrd.1 | exact hdr.1 | exact hor.1 | exact hcu.1 | exact hfw.1 | exact hpt.1 | exact hrn.1 | exact hdi | assumption) (by assumption) ?_
  refine kr_iload_n (i := 1) hX dX9_why_4 rfl rfl ?_
  refine kr_iload_n (i := 2) hX dX9_why_5 rfl rfl ?_
  refine kr_dV (c1 := 4) [_, _] hX km_9_206 dX9_why_6 (sp_pEdge hcu (by decide) hc.1 hc.2.1) rfl rfl ⟨_, _, rfl⟩ (by decide) (Nat.le_of_ble_eq_true rfl) (Nat.le_refl _) (Nat.le_refl _) (by first | exact hk0 | exact hrd.1 | exact hdr.1 | exact hor.1 | exact hcu.1 | exact hfw.1 | exact hpt.1 | exact hrn.1 | exact hdi | assumption) ?_
  refine kr_if_ne (tgt := 14) hX dX9_why_9 (by decide) (fun c_9 => ?_) (fun c_9 => ?_)
  · skip
    refine kr_aload_n (i := 0) hX dX9_why_14 rfl rfl ?_
    refine kr_dV (c1 := 9) [] hX km_9_131 dX9_why_15 (sp_ref hp0 hc hn) rfl rfl ⟨_, _, rfl⟩ (by decide) (Nat.le_of_ble_eq_true rfl) (Nat.le_refl _) (Nat.le_refl _) (by first | exact hk0 | exact hrd.1 | exact hdr.1 | exact hor.1 | exact hcu.1 | exact hfw.1 | exact hpt.1 | exact hrn.1 | exact hdi | assumption) ?_
    refine kr_aload_n (i := 0) hX dX9_why_18 rfl rfl ?_
    refine kr_iload_n (i := 1) hX dX9_why_19 rfl rfl ?_
    refine kr_iload_n (i := 2) hX dX9_why_20 rfl rfl ?_
    refine kr_dV (c1 := 9) [_, _] hX km_9_220 dX9_why_21 (sp_rsn hp0 hc1) rfl rfl ⟨_, _, rfl⟩ (by decide) (Nat.le_of_ble_eq_true rfl) (Nat.le_refl _) (Nat.le_refl _) (by first | exact hk0 | exact hrd.1 | exact hdr.1 | exact hor.1 | exact hcu.1 | exact hfw.1 | exact hpt.1 | exact hrn.1 | exact hdi | assumption) ?_
    refine kr_iret hX hr dX9_why_24 ⟨rfl, ?_⟩
    simp only [kt_f_0, Classical.not_not] at c_9
    rw [show ut_why μ o b t = _ from if_pos c_9]
    exact ⟨rfl, rfl⟩
  · skip
    refine kr_iconst (v := (-1)) hX dX9_why_12 (by decide) ?_
    refine kr_iret hX hr dX9_why_13 ⟨rfl, ?_⟩
    simp only [kt_f_0, Classical.not_not] at c_9
    rw [show ut_why μ o b t = _ from if_neg (fun h => c_9 h)]
    exact ⟨rfl, rfl⟩


/-- what the current program and the flow keep to -/
def kc (μ : kt_M) (o s : Nat) : Prop := kp μ (o + 81) 16 s ∧ kf_n μ (o + 154) ∧ kt_i μ (o + 81 + 1) 4 = 0
theorem kc.ref {μ : kt_M} {o s : Nat} (h : kc μ o s) : kc (ut_ref μ o) o s := ⟨h.1.ref (by decide) (by omega), ut_ref_n h.2.1, by rw [ut_ref_out (by omega)]; exact h.2.2⟩
abbrev ut_can (μ : kt_M) (o i : Nat) : Prop := k_he μ (o + 81) (nI (i / 2)) (nI (i % 2)) ∧ ut_rsn μ o (nI (i / 2)) (nI (i % 2)) = 0
def ut_canL (μ : kt_M) (o : Nat) : Nat → Nat → Int32 → Int32
  | 0, _, c => c
  | n + 1, i, c => ut_canL μ o n (i + 1) (c + kt_f (ut_can μ o i))
/-- the copy of a block for an edge -/
def ut_cpy (μ : kt_M) (o s : Nat) (b t : Int32) : kt_M := kt_cpB (kt_si (m_wipe μ (o + 81 + 7 + 4 * s)) (o + 81) 3 (nI (s + 1))) (o + 81 + 7 + 4 * s) (k_nxt μ (o + 81) b t)
def ut_thr (μ : kt_M) (o s : Nat) (b t : Int32) : kt_M := kt_si (kt_si (kt_si (kt_si (ut_cpy μ o s b t) (o + 81 + 7 + 4 * s) 4 1) (o + 81 + 7 + 4 * s) 8 (k_tg (ut_cpy μ o s b t) (k_nxt μ (o + 81) b t) (f_oal μ (o + 154) b t - 1))) (k_at μ (o + 81) b) (if t = 0 then 8 else 9) (nI s)) o 15 0
def ut_tfL (μ : kt_M) (o s : Nat) : Nat → Nat → Int32 × kt_M
  | 0, _ => (0, μ)
  | n + 1, i => if ut_can μ o i then (1, ut_thr μ o s (nI (i / 2)) (nI (i % 2))) else ut_tfL μ o s n (i + 1)
theorem ut_rsn_0 {μ : kt_M} {o : Nat} {b t : Int32} (h : ut_rsn μ o b t = 0) : f_opn μ (o + 154) b t ∧ kb_test (kt_i μ (k_nxt μ (o + 81) b t) 4) ∧ ¬ f_oal μ (o + 154) b t = 0 ∧ ¬ k_bt (kt_i μ (o + 361) 3) (k_tg μ (k_at μ (o + 81) b) t) ∧ kt_i μ (k_nxt μ (o + 81) b t) 0 ≤ kt_i μ o 13 ∧ kt_i μ (o + 81) 3 < nI 16 := by
  unfold ut_rsn at h
  split at h
  · exact absurd h (by decide)
  · rename_i h1
    split at h
    · exact absurd h (by decide)
    · rename_i h2
      split at h
      · exact absurd h (by decide)
      · rename_i h3
        split at h
        · exact absurd h (by decide)
        · rename_i h4
          split at h
          · exact absurd h (by decide)
          · rename_i h5
            split at h
            · exact absurd h (by decide)
            · rename_i h6
              exact ⟨Classical.not_not.mp h1, Classical.not_not.mp h2, h3, h4, Classical.not_not.mp h5, Classical.not_not.mp h6⟩
theorem k_nxt_hs {μ : kt_M} {o s : Nat} (hw : kt_i μ (o + 81 + 1) 4 = 0) {b t : Int32} (h : kb_test (kt_i μ (k_nxt μ (o + 81) b t) 4)) : k_hs μ (o + 81) (k_tg μ (k_at μ (o + 81) b) t) := by
  by_cases h1 : k_hs μ (o + 81) (k_tg μ (k_at μ (o + 81) b) t)
  · exact h1
  · rw [show k_nxt μ (o + 81) b t = o + 81 + 1 from if_neg h1, hw] at h
    exact absurd h (by decide)
theorem k_sz_lt {μ : kt_M} {q s : Nat} (hs : kt_i μ q 3 = nI s) (hs16 : s ≤ 16) (h : kt_i μ q 3 < nI 16) : s < 16 := by
  rw [hs, Int32.lt_iff_toInt_lt, nI_toInt' (by omega), nI_toInt' (by omega)] at h; omega
theorem kt_cpB_0 {μ : kt_M} {p q : Nat} : kt_i (kt_cpB μ p q) p 0 = kt_i μ q 0 := by
  unfold kt_cpB
  repeat (first | rw [kt_i_sie] | rw [kt_i_sik (by decide)] | rw [kt_i_sin (by omega)])
theorem ut_cpy_out {μ : kt_M} {o s x k : Nat} {b t : Int32} (h : x ≠ o + 81 ∧ ¬ (o + 81 + 7 + 4 * s ≤ x ∧ x < o + 81 + 7 + 4 * s + 4)) : kt_i (ut_cpy μ o s b t) x k = kt_i μ x k := by
  unfold ut_cpy; rw [kt_cpB_out (by omega), kt_i_sin h.1, m_wipe_out (by omega)]
theorem ut_cpy_q {μ : kt_M} {o s k : Nat} {b t : Int32} (h : k ≠ 3) : kt_i (ut_cpy μ o s b t) (o + 81) k = kt_i μ (o + 81) k := by
  unfold ut_cpy; rw [kt_cpB_out (by omega), kt_i_sik h, m_wipe_out (by omega)]
theorem ut_cpy_3 {μ : kt_M} {o s : Nat} {b t : Int32} : kt_i (ut_cpy μ o s b t) (o + 81) 3 = nI (s + 1) := by
  unfold ut_cpy; rw [kt_cpB_out (by omega), kt_i_sie]
theorem k_nxt_in {μ : kt_M} {o s : Nat} (hc : kp μ (o + 81) 16 s) (b t : Int32) : o + 81 + 1 ≤ k_nxt μ (o + 81) b t ∧ (k_nxt μ (o + 81) b t = o + 81 + 1 ∨ ∃ j, j < s ∧ k_nxt μ (o + 81) b t = o + 81 + 7 + 4 * j) := k_at_in hc.1 hc.2.1 _
theorem k_nxt_ne {μ : kt_M} {o s : Nat} (hc : kp μ (o + 81) 16 s) (b t : Int32) : o + 81 + 1 ≤ k_nxt μ (o + 81) b t ∧ k_nxt μ (o + 81) b t + 4 ≤ o + 81 + 7 + 4 * s := by
  obtain ⟨h1, h2 | ⟨j, hj, h2⟩⟩ := k_nxt_in hc b t <;> omega
theorem ut_thr_out {μ : kt_M} {o s x k : Nat} {b t : Int32} (hb : o + 81 + 7 ≤ k_at μ (o + 81) b ∧ k_at μ (o + 81) b < o + 81 + 7 + 4 * 16) (hs : s < 16) (h : x < o ∨ (o < x ∧ x < o + 81) ∨ (o + 81 < x ∧ x < o + 81 + 7) ∨ o + 81 + 7 + 4 * 16 ≤ x) : kt_i (ut_thr μ o s b t) x k = kt_i μ x k := by
  unfold ut_thr
  rw [kt_i_sin (by omega), kt_i_sin (by omega), kt_i_sin (by omega), kt_i_sin (by omega), ut_cpy_out (by omega)]
theorem k_hs_blk {μ : kt_M} {q N s : Nat} (hc : kp μ q N s) (hN : N ≤ 16) {b : Int32} (hb : k_hs μ q b) : q + 7 ≤ k_at μ q b ∧ k_at μ q b < q + 7 + 4 * s := by
  obtain ⟨j, hj, e⟩ := k_hs_nI hc.1 (by have := hc.2.1; omega) hb
  rw [e, k_at_nI hc.1 (by have := hc.2.1; omega) hj]; omega
/-- a field but the end and the targets, in a block there was -/
theorem ut_thr_old {μ : kt_M} {o s j k : Nat} {b t : Int32} (hj : j < s) (hk : k ≠ 8 ∧ k ≠ 9) : kt_i (ut_thr μ o s b t) (o + 81 + 7 + 4 * j) k = kt_i μ (o + 81 + 7 + 4 * j) k := by
  unfold ut_thr
  rw [kt_i_sin (by omega), kt_i_sik (by split <;> omega), kt_i_sin (by omega), kt_i_sin (by omega), ut_cpy_out (by omega)]
theorem ut_thr_fresh {μ : kt_M} {o s k : Nat} {b t : Int32} (hk : k = 0 ∨ k = 6) (hn : k_nxt μ (o + 81) b t + 4 ≤ o + 81 + 7 + 4 * s ∧ o + 81 + 1 ≤ k_nxt μ (o + 81) b t) : kt_i (ut_thr μ o s b t) (o + 81 + 7 + 4 * s) k = kt_i μ (k_nxt μ (o + 81) b t) k := by
  unfold ut_thr
  rw [kt_i_sin (by omega), kt_i_sik (by split <;> omega), kt_i_sik (by omega), kt_i_sik (by omega)]
  unfold ut_cpy
  rcases hk with h | h <;> rw [h]
  · rw [kt_cpB_0, kt_i_sin (by omega), m_wipe_out (by omega)]
  · rw [kt_cpB_6, kt_i_sin (by omega), m_wipe_out (by omega)]
theorem ut_thr_3 {μ : kt_M} {o s : Nat} {b t : Int32} (hb : o + 81 + 7 ≤ k_at μ (o + 81) b) : kt_i (ut_thr μ o s b t) (o + 81) 3 = nI (s + 1) := by
  unfold ut_thr
  rw [kt_i_sin (by omega), kt_i_sin (by omega), kt_i_sin (by omega), kt_i_sin (by omega), ut_cpy_3]
theorem kp.thr {μ : kt_M} {o s : Nat} (hc : kp μ (o + 81) 16 s) (hs : s < 16) {b t : Int32} (hb : k_hs μ (o + 81) b) (hz : kt_i μ (k_nxt μ (o + 81) b t) 6 = 0 ∨ kt_i μ (k_nxt μ (o + 81) b t) 6 = 1) : kp (ut_thr μ o s b t) (o + 81) 16 (s + 1) := by
  have hbk := k_hs_blk hc (by decide) hb
  have hn := k_nxt_ne hc b t
  have h3 := ut_thr_3 (s := s) (t := t) hbk.1
  have hnow : ∀ k, kt_i (ut_thr μ o s b t) (o + 81 + 1) k = kt_i μ (o + 81 + 1) k := fun k => ut_thr_out ⟨hbk.1, by omega⟩ hs (by omega)
  refine ⟨h3, by omega, fun b2 => ?_, fun j hj => ?_⟩
  · by_cases h : k_hs (ut_thr μ o s b t) (o + 81) b2
    · obtain ⟨j, hj, e⟩ := k_hs_nI h3 (by omega) h
      rw [e, k_at_nI h3 (by omega) hj]
      by_cases hjs : j < s
      · rw [ut_thr_old hjs (by decide), ← k_at_nI hc.1 (by omega) hjs]
        exact hc.2.2.1 _
      · rw [show j = s from by omega, ut_thr_fresh (Or.inl rfl) ⟨hn.2, hn.1⟩]
        exact hc.2.2.1 _
    · rw [show k_at (ut_thr μ o s b t) (o + 81) b2 = o + 81 + 1 from if_neg h, hnow]
      have h9 := hc.2.2.1 (nI s)
      rw [show k_at μ (o + 81) (nI s) = o + 81 + 1 from if_neg (fun h2 => by obtain ⟨j, hj, e⟩ := k_hs_nI hc.1 (by omega) h2; have := congrArg Int32.toInt e; rw [nI_toInt' (by omega), nI_toInt' (by omega)] at this; omega)] at h9
      exact h9
  · by_cases hjs : j < s
    · rw [ut_thr_old hjs (by decide)]; exact hc.2.2.2 j hjs
    · rw [show j = s from by omega, ut_thr_fresh (Or.inr rfl) ⟨hn.2, hn.1⟩]; exact hz
theorem kc.thr {μ : kt_M} {o s : Nat} (h : kc μ o s) {b t : Int32} (hb : k_hs μ (o + 81) b) (h0 : ut_rsn μ o b t = 0) : s < 16 ∧ (kt_i μ (k_nxt μ (o + 81) b t) 6 = 0 ∨ kt_i μ (k_nxt μ (o + 81) b t) 6 = 1) ∧ kc (ut_thr μ o s b t) o (s + 1) := by
  obtain ⟨r1, r2, r3, r4, r5, r6⟩ := ut_rsn_0 h0
  have hs := k_sz_lt h.1.1 h.1.2.1 r6
  have hz := k_riv_at h.1 (by decide) (k_nxt_hs (s := s) h.2.2 r2)
  have hbk := k_hs_blk h.1 (by decide) hb
  refine ⟨hs, hz, h.1.thr hs hb hz, h.2.1.far (fun x k h1 h2 => ut_thr_out ⟨hbk.1, by omega⟩ hs (by omega)), ?_⟩
  rw [ut_thr_out ⟨hbk.1, by omega⟩ hs (by omega)]; exact h.2.2
noncomputable def ut_thread (μ : kt_M) (o : Nat) (b t : Int32) : Int32 × kt_M := if k_he μ (o + 81) b t then (if ut_rsn (ut_ref μ o) o b t = 0 then (kt_i (ut_ref μ o) (o + 81) 3, ut_thr (ut_ref μ o) o (kt_i (ut_ref μ o) (o + 81) 3).toNatClampNeg b t) else (-2, ut_ref μ o)) else (-1, μ)
noncomputable def ut_tf (μ : kt_M) (o : Nat) : Int32 × kt_M := ut_tfL μ o (kt_i μ (o + 81) 3).toNatClampNeg (2 * (kt_i μ (o + 81) 3).toNatClampNeg) 0
noncomputable def ut_thsL (o : Nat) : Nat → Nat → kt_M → Int32 × kt_M
  | 0, i, μ => (nI i, μ)
  | n + 1, i, μ => if (ut_tf (ut_ref μ o) o).1 = 0 then (nI i, (ut_tf (ut_ref μ o) o).2) else ut_thsL o n (i + 1) (ut_tf (ut_ref μ o) o).2
noncomputable def ut_ths (μ : kt_M) (o : Nat) (n : Int32) : Int32 × kt_M := if ¬ n < 1 ∧ n ≤ 16 then ut_thsL o n.toNatClampNeg 0 μ else (-1, μ)
theorem ut_tfL_c {μ : kt_M} {o s : Nat} (h : kc μ o s) : ∀ n i, ∃ s2, kc (ut_tfL μ o s n i).2 o s2
  | 0, _ => ⟨s, h⟩
  | n + 1, i => by
    rw [ut_tfL]; split
    · rename_i h1
      exact ⟨s + 1, (h.thr h1.1.1 h1.2).2.2⟩
    · exact ut_tfL_c h n (i + 1)
def ut_fo1 (μ : kt_M) (o i : Nat) : kt_M := kt_si (kt_si μ (o + 81 + 7 + 4 * i) 4 1) (o + 81 + 7 + 4 * i) 8 (k_tg μ (o + 81 + 7 + 4 * i) (f_oat μ (o + 154) (nI i) - 1))
def ut_foL (o : Nat) : Nat → Nat → kt_M → Int32 → kt_M × Int32
  | 0, _, μ, c => (μ, c)
  | n + 1, i, μ, c => if f_kn μ (o + 154) (o + 81) (nI i) then ut_foL o n (i + 1) (ut_fo1 μ o i) (c + 1) else ut_foL o n (i + 1) μ c
def ut_set15 (μ : kt_M) (o : Nat) (c : Int32) : kt_M := kt_si μ o 15 (kt_f (¬ kt_i μ o 15 = 0 ∧ c = 0))
noncomputable def ut_fold (μ : kt_M) (o : Nat) : Int32 × kt_M :=
  let r := ut_foL o (kt_i (ut_ref μ o) (o + 81) 3).toNatClampNeg 0 (ut_ref μ o) 0
  (r.2, ut_set15 r.1 o r.2)
theorem kp.fo1 {μ : kt_M} {o s i : Nat} (hc : kp μ (o + 81) 16 s) : kp (ut_fo1 μ o i) (o + 81) 16 s := by
  have hq : ∀ k, kt_i (ut_fo1 μ o i) (o + 81) k = kt_i μ (o + 81) k := fun k => by unfold ut_fo1; rw [kt_i_sin (by omega), kt_i_sin (by omega)]
  have hf : ∀ x k, k ≠ 4 → k ≠ 8 → kt_i (ut_fo1 μ o i) x k = kt_i μ x k := fun x k h1 h2 => by unfold ut_fo1; rw [kt_i_sik h2, kt_i_sik h1]
  refine ⟨by rw [hq]; exact hc.1, hc.2.1, fun b => ?_, fun b hb => ?_⟩
  · rw [k_at_eq (hq 3), hf _ _ (by decide) (by decide)]; exact hc.2.2.1 b
  · rw [hf _ _ (by decide) (by decide)]; exact hc.2.2.2 b hb
def ut_kpn (μ : kt_M) (o s : Nat) (m : Int32) : Nat := (m_kpL (o + 81) m s 0 0 μ).2
def ut_kpm (μ : kt_M) (o s : Nat) (m : Int32) : kt_M := kt_si (m_anL (o + 81) (m_kpL (o + 81) m s 0 0 μ).2 0 (m_kpL (o + 81) m s 0 0 μ).1) (o + 81) 3 (nI (m_kpL (o + 81) m s 0 0 μ).2)
noncomputable def ut_sweep (μ : kt_M) (o : Nat) : Int32 × kt_M :=
  let s := (kt_i (ut_ref μ o) (o + 81) 3).toNatClampNeg
  let m := kt_i (ut_ref μ o) (o + 361) 2
  let c := nI s - nI (ut_kpn (ut_ref μ o) o s m)
  (c, ut_set15 (ut_kpm (ut_ref μ o) o s m) o c)
set_option maxHeartbeats 4000000 in
set_option maxRecDepth 100000 in
theorem sp_can {G : kt_G} {σ : kt_Y} {μ : kt_M} {o : Nat} (hp : kt_kt σ o) {s : Nat} (hc : kp μ (o + 81) 16 s) {i : Nat} (hi : i < 32) : kt_F G yX9_canThread cX9_canThread 2 (some .boolean) 4 [.ref o, .int (nI i)] σ μ (fun r μ2 => r = some (.int (kt_f (ut_can μ o i))) ∧ μ2 = μ) := by
  refine kt_F.of (by decide) (Nat.le_of_ble_eq_true rfl) (fun X hX hr => ?_)
  have hp0 := hp
  obtain ⟨hk0, hr0, hr1, hr2, hr3, hr4, hr5, hr6, hr7, hr8, hr9, hr10, hr11, hr12, hk152, hk153, hk369, hk370, hk371, hrd, hdr, hor, hcu, hfw, hpt, hrn, hdi, him, hsh⟩ := hp
  refine kr_aload_n (i := 0) hX dX9_canThread_0 rfl rfl ?_
  refine kr_getr (c0 := 9) (k := 3) hX ⟨_, kf_9_28⟩ dX9_canThread_1 rfl (by first | exact hk0 | exact hrd.1 | exact hdr.1 | exact hor.1 | exact hcu.1 | exact hfw.1 | exact hpt.1 | exact hrn.1 | exact hdi | assumption) (by assumption) ?_
  refine kr_iload_n (i := 1) hX dX9_canThread_4 rfl rfl ?_
  refine kr_iconst (v := 2) hX dX9_canThread_5 (by decide) ?_
  refine kr_idiv hX dX9_canThread_6 (by decide) ?_
  refine kr_rw (y := nI (i / 2)) (by exact pk_div (by omega) (by decide) (by decide)) ?_
  refine kr_iload_n (i := 1) hX dX9_canThread_7 rfl rfl ?_
  refine kr_iconst (v := 2) hX dX9_canThread_8 (by decide) ?_
  refine kr_irem hX dX9_canThread_9 (by decide) ?_
  refine kr_rw (y := nI (i % 2)) (by exact pk_rem (by omega) (by decide) (by decide)) ?_
  refine kr_dV (c1 := 4) [_, _] hX km_9_206 dX9_canThread_10 (sp_pEdge hcu (by decide) hc.1 hc.2.1) rfl rfl ⟨_, _, rfl⟩ (by decide) (Nat.le_of_ble_eq_true rfl) (Nat.le_refl _) (Nat.le_refl _) (by first | exact hk0 | exact hrd.1 | exact hdr.1 | exact hor.1 | exact hcu.1 | exact hfw.1 | exact hpt.1 | exact hrn.1 | exact hdi | assumption) ?_
  refine kr_if_eq (tgt := 33) hX dX9_canThread_13 (by decide) (fun c_13 => ?_) (fun c_13 => ?_)
  · skip
    refine kr_iconst (v := 0) hX dX9_canThread_33 (by decide) ?_
    refine kr_zret hX hr (by first | exact Or.inl rfl | exact Or.inr rfl | assumption) dX9_canThread_34 ⟨rfl, ?_⟩
    refine ⟨?_, rfl⟩
    simp only [kt_f_0, Classical.not_not] at c_13
    rw [kt_f_f (fun h => c_13 h.1)]
  · skip
    refine kr_aload_n (i := 0) hX dX9_canThread_16 rfl rfl ?_
    refine kr_iload_n (i := 1) hX dX9_canThread_17 rfl rfl ?_
    refine kr_iconst (v := 2) hX dX9_canThread_18 (by decide) ?_
    refine kr_idiv hX dX9_canThread_19 (by decide) ?_
    refine kr_rw (y := nI (i / 2)) (by exact pk_div (by omega) (by decide) (by decide)) ?_
    refine kr_iload_n (i := 1) hX dX9_canThread_20 rfl rfl ?_
    refine kr_iconst (v := 2) hX dX9_canThread_21 (by decide) ?_
    refine kr_irem hX dX9_canThread_22 (by decide) ?_
    refine kr_rw (y := nI (i % 2)) (by exact pk_rem (by omega) (by decide) (by decide)) ?_
    refine kr_dV (c1 := 9) [_, _] hX km_9_220 dX9_canThread_23 (sp_rsn hp0 hc) rfl rfl ⟨_, _, rfl⟩ (by decide) (Nat.le_of_ble_eq_true rfl) (Nat.le_refl _) (Nat.le_refl _) (by first | exact hk0 | exact hrd.1 | exact hdr.1 | exact hor.1 | exact hcu.1 | exact hfw.1 | exact hpt.1 | exact hrn.1 | exact hdi | assumption) ?_
    refine kr_if_ne (tgt := 33) hX dX9_canThread_26 (by decide) (fun c_26 => ?_) (fun c_26 => ?_)
    · skip
      refine kr_iconst (v := 0) hX dX9_canThread_33 (by decide) ?_
      refine kr_zret hX hr (by first | exact Or.inl rfl | exact Or.inr rfl | assumption) dX9_canThread_34 ⟨rfl, ?_⟩
      refine ⟨?_, rfl⟩
      simp only [kt_f_0, Classical.not_not] at c_13
      rw [kt_f_f (fun h => c_26 h.2)]
    · skip
      refine kr_iconst (v := 1) hX dX9_canThread_29 (by decide) ?_
      refine kr_goto (tgt := 34) hX dX9_canThread_30 (by decide) ?_
      refine kr_zret hX hr (by first | exact Or.inl rfl | exact Or.inr rfl | assumption) dX9_canThread_34 ⟨rfl, ?_⟩
      refine ⟨?_, rfl⟩
      simp only [kt_f_0, Classical.not_not] at c_13
      rw [kt_f_t ⟨c_13, c_26⟩]

set_option maxHeartbeats 4000000 in
set_option maxRecDepth 100000 in
theorem lp_edg {G : kt_G} {σ : kt_Y} {X : kt_X} (hX : kt_ok G X RX9 cX9_edgesToThread 3 5 0 0) (hr : kt_rt X = (some .int)) {Q : Option Value → kt_M → Prop} {o : Nat} (hp : kt_kt σ o) {s : Nat} {μ : kt_M} (hc : kp μ (o + 81) 16 s) : ∀ (n i : Nat) (c : Int32), i + n = 2 * s →  (Q (some (.int (ut_canL μ o n i c))) μ) → kt_W G X 3 4 [(0, .ref o), (1, .int c), (2, .int (nI i))] [] σ μ 0 0 (kt_Z G X (kt_q σ Q) 0 0) := by
  have hp0 := hp
  obtain ⟨hk0, hr0, hr1, hr2, hr3, hr4, hr5, hr6, hr7, hr8, hr9, hr10, hr11, hr12, hk152, hk153, hk369, hk370, hk371, hrd, hdr, hor, hcu, hfw, hpt, hrn, hdi, him, hsh⟩ := hp
  have hs16 := hc.2.1
  have h2s : (2 : Int32) * kt_i μ (o + 81) 3 = nI (2 * s) := by
    rw [hc.1]; have := k_e2 s 0; rw [show (nI 0 : Int32) = 0 from rfl, Int32.add_zero] at this; exact this
  intro n
  induction n with
  | zero =>
    intro i c hin  hQ
    have hib : i = 2 * s := by omega
    refine kr_iload_n (i := 2) hX dX9_edgesToThread_4 rfl rfl ?_
    refine kr_iconst (v := 2) hX dX9_edgesToThread_5 (by decide) ?_
    refine kr_aload_n (i := 0) hX dX9_edgesToThread_6 rfl rfl ?_
    refine kr_getr (c0 := 9) (k := 3) hX ⟨_, kf_9_28⟩ dX9_edgesToThread_7 rfl (by first | exact hk0 | exact hrd.1 | exact hdr.1 | exact hor.1 | exact hcu.1 | exact hfw.1 | exact hpt.1 | exact hrn.1 | exact hdi | assumption) (by assumption) ?_
    refine kr_geti (c0 := 4) (k := 3) hX ⟨_, kf_9_117⟩ dX9_edgesToThread_10 rfl (by first | exact hk0 | exact hrd.1 | exact hdr.1 | exact hor.1 | exact hcu.1 | exact hfw.1 | exact hpt.1 | exact hrn.1 | exact hdi | assumption) ?_
    refine kr_imul hX dX9_edgesToThread_13 ?_
    refine kr_icmp_ge (tgt := 39) hX dX9_edgesToThread_14 (by decide) (fun c_14 => ?_) (fun c_14 => ?_)
    · skip
      refine kr_iload_n (i := 1) hX dX9_edgesToThread_39 rfl rfl ?_
      refine kr_iret hX hr dX9_edgesToThread_40 ⟨rfl, ?_⟩
      exact hQ
    · skip
      exact absurd (by rw [h2s, hib]; exact Int32.le_refl _) c_14
  | succ n ih =>
    intro i c hin  hQ
    have hib : i < 2 * s := by omega
    refine kr_iload_n (i := 2) hX dX9_edgesToThread_4 rfl rfl ?_
    refine kr_iconst (v := 2) hX dX9_edgesToThread_5 (by decide) ?_
    refine kr_aload_n (i := 0) hX dX9_edgesToThread_6 rfl rfl ?_
    refine kr_getr (c0 := 9) (k := 3) hX ⟨_, kf_9_28⟩ dX9_edgesToThread_7 rfl (by first | exact hk0 | exact hrd.1 | exact hdr.1 | exact hor.1 | exact hcu.1 | exact hfw.1 | exact hpt.1 | exact hrn.1 | exact hdi | assumption) (by assumption) ?_
    refine kr_geti (c0 := 4) (k := 3) hX ⟨_, kf_9_117⟩ dX9_edgesToThread_10 rfl (by first | exact hk0 | exact hrd.1 | exact hdr.1 | exact hor.1 | exact hcu.1 | exact hfw.1 | exact hpt.1 | exact hrn.1 | exact hdi | assumption) ?_
    refine kr_imul hX dX9_edgesToThread_13 ?_
    refine kr_icmp_ge (tgt := 39) hX dX9_edgesToThread_14 (by decide) (fun c_14 => ?_) (fun c_14 => ?_)
    · skip
      exact absurd c_14 (by rw [h2s]; exact nI_ge hib (by omega))
    · skip
      refine kr_iload_n (i := 1) hX dX9_edgesToThread_17 rfl rfl ?_
      refine kr_aload_n (i := 0) hX dX9_edgesToThread_18 rfl rfl ?_
      refine kr_iload_n (i := 2) hX dX9_edgesToThread_19 rfl rfl ?_
      refine kr_dV (c1 := 9) [_] hX km_9_328 dX9_edgesToThread_20 (sp_can hp0 hc (by omega)) rfl rfl ⟨_, _, rfl⟩ (by decide) (Nat.le_of_ble_eq_true rfl) (Nat.le_refl _) (Nat.le_refl _) (by first | exact hk0 | exact hrd.1 | exact hdr.1 | exact hor.1 | exact hcu.1 | exact hfw.1 | exact hpt.1 | exact hrn.1 | exact hdi | assumption) ?_
      refine kr_if_eq (tgt := 30) hX dX9_edgesToThread_23 (by decide) (fun c_23 => ?_) (fun c_23 => ?_)
      · skip
        refine kr_iconst (v := 0) hX dX9_edgesToThread_30 (by decide) ?_
        refine kr_iadd hX dX9_edgesToThread_31 ?_
        refine kr_istore_n (i := 1) hX dX9_edgesToThread_32 rfl (by decide) rfl rfl ?_
        refine kr_iinc (v := nI (i + 1)) hX dX9_edgesToThread_33 rfl (by first | exact nI_1 _ | rfl) (by decide) rfl rfl ?_
        refine kr_goto (tgt := 4) hX dX9_edgesToThread_36 (by decide) ?_
        refine ih (i + 1) _ (by omega) ?_
        rw [ut_canL] at hQ
        simp only [kt_f_0, Classical.not_not] at c_23
        rw [kt_f_f c_23] at hQ
        exact hQ
      · skip
        refine kr_iconst (v := 1) hX dX9_edgesToThread_26 (by decide) ?_
        refine kr_goto (tgt := 31) hX dX9_edgesToThread_27 (by decide) ?_
        refine kr_iadd hX dX9_edgesToThread_31 ?_
        refine kr_istore_n (i := 1) hX dX9_edgesToThread_32 rfl (by decide) rfl rfl ?_
        refine kr_iinc (v := nI (i + 1)) hX dX9_edgesToThread_33 rfl (by first | exact nI_1 _ | rfl) (by decide) rfl rfl ?_
        refine kr_goto (tgt := 4) hX dX9_edgesToThread_36 (by decide) ?_
        refine ih (i + 1) _ (by omega) ?_
        rw [ut_canL] at hQ
        simp only [kt_f_0, Classical.not_not] at c_23
        rw [kt_f_t c_23] at hQ
        exact hQ

set_option maxHeartbeats 4000000 in
set_option maxRecDepth 100000 in
theorem sp_edg {G : kt_G} {σ : kt_Y} {μ : kt_M} {o : Nat} (hp : kt_kt σ o) {s : Nat} (hc : kp μ (o + 81) 16 s) : kt_F G yX9_edgesToThread cX9_edgesToThread 3 (some .int) 5 [.ref o] σ μ (fun r μ2 => r = some (.int (ut_canL μ o (2 * s) 0 0)) ∧ μ2 = μ) := by
  refine kt_F.of (by decide) (Nat.le_of_ble_eq_true rfl) (fun X hX hr => ?_)
  have hp0 := hp
  obtain ⟨hk0, hr0, hr1, hr2, hr3, hr4, hr5, hr6, hr7, hr8, hr9, hr10, hr11, hr12, hk152, hk153, hk369, hk370, hk371, hrd, hdr, hor, hcu, hfw, hpt, hrn, hdi, him, hsh⟩ := hp
  refine kr_iconst (v := 0) hX dX9_edgesToThread_0 (by decide) ?_
  refine kr_istore_n (i := 1) hX dX9_edgesToThread_1 rfl (by decide) rfl rfl ?_
  refine kr_iconst (v := 0) hX dX9_edgesToThread_2 (by decide) ?_
  refine kr_istore_n (i := 2) hX dX9_edgesToThread_3 rfl (by decide) rfl rfl ?_
  exact lp_edg hX hr hp0 hc (2 * s) 0 0 (by omega) ⟨rfl, rfl⟩

set_option maxHeartbeats 4000000 in
set_option maxRecDepth 100000 in
theorem sp_thr {G : kt_G} {σ : kt_Y} {μ : kt_M} {o : Nat} (hp : kt_kt σ o) {s : Nat} (hc : kp μ (o + 81) 16 s) (hs : s < 16) {b t : Int32} (hz : kt_i μ (k_nxt μ (o + 81) b t) 6 = 0 ∨ kt_i μ (k_nxt μ (o + 81) b t) 6 = 1) : kt_F G yX9_threadEdge cX9_threadEdge 8 (some .int) 3 [.ref o, .int b, .int t] σ μ (fun r μ2 => r = some (.int (nI s)) ∧ μ2 = ut_thr μ o s b t) := by
  refine kt_F.of (by decide) (Nat.le_of_ble_eq_true rfl) (fun X hX hr => ?_)
  have hp0 := hp
  obtain ⟨hk0, hr0, hr1, hr2, hr3, hr4, hr5, hr6, hr7, hr8, hr9, hr10, hr11, hr12, hk152, hk153, hk369, hk370, hk371, hrd, hdr, hor, hcu, hfw, hpt, hrn, hdi, him, hsh⟩ := hp
  have hs16 := hc.2.1
  have hbl := hcu.2.2.2.2.2.2.2
  have hnn := k_nxt_ne hc b t
  have hat := k_at_in hc.1 hc.2.1 b
  refine kr_aload_n (i := 0) hX dX9_threadEdge_0 rfl rfl ?_
  refine kr_getr (c0 := 9) (k := 3) hX ⟨_, kf_9_28⟩ dX9_threadEdge_1 rfl (by first | exact hk0 | exact hrd.1 | exact hdr.1 | exact hor.1 | exact hcu.1 | exact hfw.1 | exact hpt.1 | exact hrn.1 | exact hdi | assumption) (by assumption) ?_
  refine kr_iload_n (i := 1) hX dX9_threadEdge_4 rfl rfl ?_
  refine kr_dV (c1 := 4) [_] hX km_9_159 dX9_threadEdge_5 (sp_at hcu (by decide) hc.1 hc.2.1) rfl rfl ⟨_, _, rfl⟩ (by decide) (Nat.le_of_ble_eq_true rfl) (Nat.le_refl _) (Nat.le_refl _) (by first | exact hk0 | exact hrd.1 | exact hdr.1 | exact hor.1 | exact hcu.1 | exact hfw.1 | exact hpt.1 | exact hrn.1 | exact hdi | assumption) ?_
  refine kr_astore_n (i := 3) hX dX9_threadEdge_8 rfl (by decide) rfl rfl ?_
  refine kr_aload_n (i := 0) hX dX9_threadEdge_9 rfl rfl ?_
  refine kr_getr (c0 := 9) (k := 3) hX ⟨_, kf_9_28⟩ dX9_threadEdge_10 rfl (by first | exact hk0 | exact hrd.1 | exact hdr.1 | exact hor.1 | exact hcu.1 | exact hfw.1 | exact hpt.1 | exact hrn.1 | exact hdi | assumption) (by assumption) ?_
  refine kr_aload_n (i := 3) hX dX9_threadEdge_13 rfl rfl ?_
  refine kr_iload_n (i := 2) hX dX9_threadEdge_14 rfl rfl ?_
  refine kr_dV (c1 := 0) [_] hX km_9_174 dX9_threadEdge_15 (sp_target (hcu.at_ hc.1 hc.2.1 (by decide) _)) rfl rfl ⟨_, _, rfl⟩ (by decide) (Nat.le_of_ble_eq_true rfl) (Nat.le_refl _) (Nat.le_refl _) (by first | exact (hcu.at_ hc.1 hc.2.1 (by decide) _).1 | exact (hbl s hs).2.1) ?_
  refine kr_dV (c1 := 4) [_] hX km_9_159 dX9_threadEdge_18 (sp_at hcu (by decide) hc.1 hc.2.1) rfl rfl ⟨_, _, rfl⟩ (by decide) (Nat.le_of_ble_eq_true rfl) (Nat.le_refl _) (Nat.le_refl _) (by first | exact hk0 | exact hrd.1 | exact hdr.1 | exact hor.1 | exact hcu.1 | exact hfw.1 | exact hpt.1 | exact hrn.1 | exact hdi | assumption) ?_
  refine kr_astore hX dX9_threadEdge_21 (by decide) rfl rfl ?_
  refine kr_aload_n (i := 0) hX dX9_threadEdge_23 rfl rfl ?_
  refine kr_getr (c0 := 9) (k := 6) hX ⟨_, kf_9_42⟩ dX9_threadEdge_24 rfl (by first | exact hk0 | exact hrd.1 | exact hdr.1 | exact hor.1 | exact hcu.1 | exact hfw.1 | exact hpt.1 | exact hrn.1 | exact hdi | assumption) (by assumption) ?_
  refine kr_iload_n (i := 1) hX dX9_threadEdge_27 rfl rfl ?_
  refine kr_iload_n (i := 2) hX dX9_threadEdge_28 rfl rfl ?_
  refine kr_dV (c1 := 2) [_, _] hX km_9_217 dX9_threadEdge_29 (sp_oal hfw) rfl rfl ⟨_, _, rfl⟩ (by decide) (Nat.le_of_ble_eq_true rfl) (Nat.le_refl _) (Nat.le_refl _) (by first | exact hk0 | exact hrd.1 | exact hdr.1 | exact hor.1 | exact hcu.1 | exact hfw.1 | exact hpt.1 | exact hrn.1 | exact hdi | assumption) ?_
  refine kr_istore hX dX9_threadEdge_32 (by decide) rfl rfl ?_
  refine kr_aload_n (i := 0) hX dX9_threadEdge_34 rfl rfl ?_
  refine kr_getr (c0 := 9) (k := 3) hX ⟨_, kf_9_28⟩ dX9_threadEdge_35 rfl (by first | exact hk0 | exact hrd.1 | exact hdr.1 | exact hor.1 | exact hcu.1 | exact hfw.1 | exact hpt.1 | exact hrn.1 | exact hdi | assumption) (by assumption) ?_
  refine kr_geti (c0 := 4) (k := 3) hX ⟨_, kf_9_117⟩ dX9_threadEdge_38 rfl (by first | exact hk0 | exact hrd.1 | exact hdr.1 | exact hor.1 | exact hcu.1 | exact hfw.1 | exact hpt.1 | exact hrn.1 | exact hdi | assumption) ?_
  refine kr_rw (y := nI s) (by exact hc.1) ?_
  refine kr_istore hX dX9_threadEdge_41 (by decide) rfl rfl ?_
  refine kr_aload_n (i := 0) hX dX9_threadEdge_43 rfl rfl ?_
  refine kr_getr (c0 := 9) (k := 3) hX ⟨_, kf_9_28⟩ dX9_threadEdge_44 rfl (by first | exact hk0 | exact hrd.1 | exact hdr.1 | exact hor.1 | exact hcu.1 | exact hfw.1 | exact hpt.1 | exact hrn.1 | exact hdi | assumption) (by assumption) ?_
  refine kr_dV (c1 := 4) [] hX km_9_282 dX9_threadEdge_47 (sp_grow hcu (by decide) hc.1 hs) rfl rfl ⟨_, _, rfl⟩ (by decide) (Nat.le_of_ble_eq_true rfl) (Nat.le_refl _) (Nat.le_refl _) (by first | exact hk0 | exact hrd.1 | exact hdr.1 | exact hor.1 | exact hcu.1 | exact hfw.1 | exact hpt.1 | exact hrn.1 | exact hdi | assumption) ?_
  refine kr_astore hX dX9_threadEdge_50 (by decide) rfl rfl ?_
  refine kr_aload hX dX9_threadEdge_52 rfl ?_
  refine kr_aload hX dX9_threadEdge_54 rfl ?_
  refine kr_dV (c1 := 0) [_] hX km_9_331 dX9_threadEdge_56 (sp_bcopy (hbl s hs).2 (show kt_blk σ (k_nxt μ (o + 81) b t) from (hcu.at_ hc.1 hc.2.1 (by decide) _)) (by omega) (by rw [kt_i_sin (by omega), m_wipe_out (by omega)]; exact hz)) rfl rfl ⟨_, _, rfl⟩ (by decide) (Nat.le_of_ble_eq_true rfl) (Nat.le_refl _) (Nat.le_refl _) (by first | exact (hcu.at_ hc.1 hc.2.1 (by decide) _).1 | exact (hbl s hs).2.1) ?_
  refine kr_aload hX dX9_threadEdge_59 rfl ?_
  refine kr_aload hX dX9_threadEdge_61 rfl ?_
  refine kr_iload hX dX9_threadEdge_63 rfl ?_
  refine kr_iconst (v := 1) hX dX9_threadEdge_65 (by decide) ?_
  refine kr_isub hX dX9_threadEdge_66 ?_
  refine kr_dV (c1 := 0) [_] hX km_9_174 dX9_threadEdge_67 (sp_target (hcu.at_ hc.1 hc.2.1 (by decide) _)) rfl rfl ⟨_, _, rfl⟩ (by decide) (Nat.le_of_ble_eq_true rfl) (Nat.le_refl _) (Nat.le_refl _) (by first | exact (hcu.at_ hc.1 hc.2.1 (by decide) _).1 | exact (hbl s hs).2.1) ?_
  refine kr_dV (c1 := 0) [_] hX km_9_242 dX9_threadEdge_70 (sp_becomeGo (hbl s hs).2) rfl rfl ⟨_, _, rfl⟩ (by decide) (Nat.le_of_ble_eq_true rfl) (Nat.le_refl _) (Nat.le_refl _) (by first | exact (hcu.at_ hc.1 hc.2.1 (by decide) _).1 | exact (hbl s hs).2.1) ?_
  refine kr_aload_n (i := 3) hX dX9_threadEdge_73 rfl rfl ?_
  refine kr_iload_n (i := 2) hX dX9_threadEdge_74 rfl rfl ?_
  refine kr_iload hX dX9_threadEdge_75 rfl ?_
  refine kr_dV (c1 := 0) [_, _] hX km_9_278 dX9_threadEdge_77 (sp_aim (hcu.at_ hc.1 hc.2.1 (by decide) _)) rfl rfl ⟨_, _, rfl⟩ (by decide) (Nat.le_of_ble_eq_true rfl) (Nat.le_refl _) (Nat.le_refl _) (by first | exact (hcu.at_ hc.1 hc.2.1 (by decide) _).1 | exact (hbl s hs).2.1) ?_
  refine kr_aload_n (i := 0) hX dX9_threadEdge_80 rfl rfl ?_
  refine kr_iconst (v := 0) hX dX9_threadEdge_81 (by decide) ?_
  refine kr_puti (c0 := 9) (k := 15) hX kf_9_87 dX9_threadEdge_82 rfl (kt_bz (by first | exact Or.inl rfl | exact Or.inr rfl | assumption)).1 (kt_bz (by first | exact Or.inl rfl | exact Or.inr rfl | assumption)).2 (by first | exact hk0 | exact hrd.1 | exact hdr.1 | exact hor.1 | exact hcu.1 | exact hfw.1 | exact hpt.1 | exact hrn.1 | exact hdi | assumption) ?_
  refine kr_iload hX dX9_threadEdge_85 rfl ?_
  refine kr_iret hX hr dX9_threadEdge_87 ⟨rfl, ?_⟩
  exact ⟨rfl, rfl⟩

set_option maxHeartbeats 4000000 in
set_option maxRecDepth 100000 in
theorem lp_tf {G : kt_G} {σ : kt_Y} {X : kt_X} (hX : kt_ok G X RX9 cX9_threadFirst 2 5 0 0) (hr : kt_rt X = (some .boolean)) {Q : Option Value → kt_M → Prop} {o : Nat} (hp : kt_kt σ o) {s : Nat} {μ : kt_M} (h9 : kc μ o s) : ∀ (n i : Nat), i + n = 2 * s →  (Q (some (.int (ut_tfL μ o s n i).1)) (ut_tfL μ o s n i).2) → kt_W G X 2 2 [(0, .ref o), (1, .int (nI i))] [] σ μ 0 0 (kt_Z G X (kt_q σ Q) 0 0) := by
  have hp0 := hp
  obtain ⟨hk0, hr0, hr1, hr2, hr3, hr4, hr5, hr6, hr7, hr8, hr9, hr10, hr11, hr12, hk152, hk153, hk369, hk370, hk371, hrd, hdr, hor, hcu, hfw, hpt, hrn, hdi, him, hsh⟩ := hp
  have hc := h9.1
  have hs16 := hc.2.1
  have h2s : (2 : Int32) * kt_i μ (o + 81) 3 = nI (2 * s) := by
    rw [hc.1]; have := k_e2 s 0; rw [show (nI 0 : Int32) = 0 from rfl, Int32.add_zero] at this; exact this
  intro n
  induction n with
  | zero =>
    intro i hin  hQ
    have hib : i = 2 * s := by omega
    refine kr_iload_n (i := 1) hX dX9_threadFirst_2 rfl rfl ?_
    refine kr_iconst (v := 2) hX dX9_threadFirst_3 (by decide) ?_
    refine kr_aload_n (i := 0) hX dX9_threadFirst_4 rfl rfl ?_
    refine kr_getr (c0 := 9) (k := 3) hX ⟨_, kf_9_28⟩ dX9_threadFirst_5 rfl (by first | exact hk0 | exact hrd.1 | exact hdr.1 | exact hor.1 | exact hcu.1 | exact hfw.1 | exact hpt.1 | exact hrn.1 | exact hdi | assumption) (by assumption) ?_
    refine kr_geti (c0 := 4) (k := 3) hX ⟨_, kf_9_117⟩ dX9_threadFirst_8 rfl (by first | exact hk0 | exact hrd.1 | exact hdr.1 | exact hor.1 | exact hcu.1 | exact hfw.1 | exact hpt.1 | exact hrn.1 | exact hdi | assumption) ?_
    refine kr_imul hX dX9_threadFirst_11 ?_
    refine kr_icmp_ge (tgt := 42) hX dX9_threadFirst_12 (by decide) (fun c_12 => ?_) (fun c_12 => ?_)
    · skip
      refine kr_iconst (v := 0) hX dX9_threadFirst_42 (by decide) ?_
      refine kr_zret hX hr (by first | exact Or.inl rfl | exact Or.inr rfl | assumption) dX9_threadFirst_43 ⟨rfl, ?_⟩
      exact hQ
    · skip
      exact absurd (by rw [h2s, hib]; exact Int32.le_refl _) c_12
  | succ n ih =>
    intro i hin  hQ
    have hib : i < 2 * s := by omega
    refine kr_iload_n (i := 1) hX dX9_threadFirst_2 rfl rfl ?_
    refine kr_iconst (v := 2) hX dX9_threadFirst_3 (by decide) ?_
    refine kr_aload_n (i := 0) hX dX9_threadFirst_4 rfl rfl ?_
    refine kr_getr (c0 := 9) (k := 3) hX ⟨_, kf_9_28⟩ dX9_threadFirst_5 rfl (by first | exact hk0 | exact hrd.1 | exact hdr.1 | exact hor.1 | exact hcu.1 | exact hfw.1 | exact hpt.1 | exact hrn.1 | exact hdi | assumption) (by assumption) ?_
    refine kr_geti (c0 := 4) (k := 3) hX ⟨_, kf_9_117⟩ dX9_threadFirst_8 rfl (by first | exact hk0 | exact hrd.1 | exact hdr.1 | exact hor.1 | exact hcu.1 | exact hfw.1 | exact hpt.1 | exact hrn.1 | exact hdi | assumption) ?_
    refine kr_imul hX dX9_threadFirst_11 ?_
    refine kr_icmp_ge (tgt := 42) hX dX9_threadFirst_12 (by decide) (fun c_12 => ?_) (fun c_12 => ?_)
    · skip
      exact absurd c_12 (by rw [h2s]; exact nI_ge hib (by omega))
    · skip
      refine kr_aload_n (i := 0) hX dX9_threadFirst_15 rfl rfl ?_
      refine kr_iload_n (i := 1) hX dX9_threadFirst_16 rfl rfl ?_
      refine kr_dV (c1 := 9) [_] hX km_9_328 dX9_threadFirst_17 (sp_can hp0 hc (by omega)) rfl rfl ⟨_, _, rfl⟩ (by decide) (Nat.le_of_ble_eq_true rfl) (Nat.le_refl _) (Nat.le_refl _) (by first | exact hk0 | exact hrd.1 | exact hdr.1 | exact hor.1 | exact hcu.1 | exact hfw.1 | exact hpt.1 | exact hrn.1 | exact hdi | assumption) ?_
      refine kr_if_eq (tgt := 36) hX dX9_threadFirst_20 (by decide) (fun c_20 => ?_) (fun c_20 => ?_)
      · skip
        refine kr_iinc (v := nI (i + 1)) hX dX9_threadFirst_36 rfl (by first | exact nI_1 _ | rfl) (by decide) rfl rfl ?_
        refine kr_goto (tgt := 2) hX dX9_threadFirst_39 (by decide) ?_
        simp only [kt_f_0, Classical.not_not] at c_20
        rw [show ut_tfL μ o s (n + 1) i = _ from if_neg c_20] at hQ
        exact ih (i + 1) (by omega) hQ
      · skip
        simp only [kt_f_0, Classical.not_not] at c_20
        obtain ⟨hs1, hz1, hc1⟩ := h9.thr c_20.1.1 c_20.2
        rw [show ut_tfL μ o s (n + 1) i = _ from if_pos c_20] at hQ
        refine kr_aload_n (i := 0) hX dX9_threadFirst_23 rfl rfl ?_
        refine kr_iload_n (i := 1) hX dX9_threadFirst_24 rfl rfl ?_
        refine kr_iconst (v := 2) hX dX9_threadFirst_25 (by decide) ?_
        refine kr_idiv hX dX9_threadFirst_26 (by decide) ?_
        refine kr_rw (y := nI (i / 2)) (by exact pk_div (by omega) (by decide) (by decide)) ?_
        refine kr_iload_n (i := 1) hX dX9_threadFirst_27 rfl rfl ?_
        refine kr_iconst (v := 2) hX dX9_threadFirst_28 (by decide) ?_
        refine kr_irem hX dX9_threadFirst_29 (by decide) ?_
        refine kr_rw (y := nI (i % 2)) (by exact pk_rem (by omega) (by decide) (by decide)) ?_
        refine kr_dV (c1 := 9) [_, _] hX km_9_232 dX9_threadFirst_30 (sp_thr hp0 hc hs1 hz1) rfl rfl ⟨_, _, rfl⟩ (by decide) (Nat.le_of_ble_eq_true rfl) (Nat.le_refl _) (Nat.le_refl _) (by first | exact hk0 | exact hrd.1 | exact hdr.1 | exact hor.1 | exact hcu.1 | exact hfw.1 | exact hpt.1 | exact hrn.1 | exact hdi | assumption) ?_
        refine kr_pop hX dX9_threadFirst_33 rfl ?_
        refine kr_iconst (v := 1) hX dX9_threadFirst_34 (by decide) ?_
        refine kr_zret hX hr (by first | exact Or.inl rfl | exact Or.inr rfl | assumption) dX9_threadFirst_35 ⟨rfl, ?_⟩
        exact hQ

set_option maxHeartbeats 4000000 in
set_option maxRecDepth 100000 in
theorem sp_tf {G : kt_G} {σ : kt_Y} {μ : kt_M} {o : Nat} (hp : kt_kt σ o) {s : Nat} (h9 : kc μ o s) : kt_F G yX9_threadFirst cX9_threadFirst 2 (some .boolean) 5 [.ref o] σ μ (fun r μ2 => r = some (.int (ut_tf μ o).1) ∧ μ2 = (ut_tf μ o).2) := by
  refine kt_F.of (by decide) (Nat.le_of_ble_eq_true rfl) (fun X hX hr => ?_)
  have hp0 := hp
  obtain ⟨hk0, hr0, hr1, hr2, hr3, hr4, hr5, hr6, hr7, hr8, hr9, hr10, hr11, hr12, hk152, hk153, hk369, hk370, hk371, hrd, hdr, hor, hcu, hfw, hpt, hrn, hdi, him, hsh⟩ := hp
  have es : (kt_i μ (o + 81) 3).toNatClampNeg = s := by rw [h9.1.1]; exact nI_clamp (by have := h9.1.2.1; omega)
  refine kr_iconst (v := 0) hX dX9_threadFirst_0 (by decide) ?_
  refine kr_istore_n (i := 1) hX dX9_threadFirst_1 rfl (by decide) rfl rfl ?_
  refine lp_tf hX hr hp0 h9 (2 * s) 0 (by omega) ?_
  unfold ut_tf
  rw [es]
  exact ⟨rfl, rfl⟩

set_option maxHeartbeats 4000000 in
set_option maxRecDepth 100000 in
theorem sp_thread {G : kt_G} {σ : kt_Y} {μ : kt_M} {o : Nat} (hp : kt_kt σ o) {s : Nat} (h9 : kc μ o s) {b t : Int32} : kt_F G yX9_thread cX9_thread 3 (some .int) 7 [.ref o, .int b, .int t] σ μ (fun r μ2 => r = some (.int (ut_thread μ o b t).1) ∧ μ2 = (ut_thread μ o b t).2) := by
  refine kt_F.of (by decide) (Nat.le_of_ble_eq_true rfl) (fun X hX hr => ?_)
  have hp0 := hp
  obtain ⟨hk0, hr0, hr1, hr2, hr3, hr4, hr5, hr6, hr7, hr8, hr9, hr10, hr11, hr12, hk152, hk153, hk369, hk370, hk371, hrd, hdr, hor, hcu, hfw, hpt, hrn, hdi, him, hsh⟩ := hp
  have hc := h9.1
  have h91 := h9.ref
  have hc1 := h91.1
  have es : (kt_i (ut_ref μ o) (o + 81) 3).toNatClampNeg = s := by rw [hc1.1]; exact nI_clamp (by have := hc1.2.1; omega)
  refine kr_aload_n (i := 0) hX dX9_thread_0 rfl rfl ?_
  refine kr_getr (c0 := 9) (k := 3) hX ⟨_, kf_9_28⟩ dX9_thread_1 rfl (by first | exact hk0 | exact hrd.1 | exact hdr.1 | exact hor.1 | exact hcu.1 | exact hfw.1 | exact hpt.1 | exact hrn.1 | exact hdi | assumption) (by assumption) ?_
  refine kr_iload_n (i := 1) hX dX9_thread_4 rfl rfl ?_
  refine kr_iload_n (i := 2) hX dX9_thread_5 rfl rfl ?_
  refine kr_dV (c1 := 4) [_, _] hX km_9_206 dX9_thread_6 (sp_pEdge hcu (by decide) hc.1 hc.2.1) rfl rfl ⟨_, _, rfl⟩ (by decide) (Nat.le_of_ble_eq_true rfl) (Nat.le_refl _) (Nat.le_refl _) (by first | exact hk0 | exact hrd.1 | exact hdr.1 | exact hor.1 | exact hcu.1 | exact hfw.1 | exact hpt.1 | exact hrn.1 | exact hdi | assumption) ?_
  refine kr_if_ne (tgt := 14) hX dX9_thread_9 (by decide) (fun c_9 => ?_) (fun c_9 => ?_)
  · skip
    refine kr_aload_n (i := 0) hX dX9_thread_14 rfl rfl ?_
    refine kr_dV (c1 := 9) [] hX km_9_131 dX9_thread_15 (sp_ref hp0 hc h9.2.1) rfl rfl ⟨_, _, rfl⟩ (by decide) (Nat.le_of_ble_eq_true rfl) (Nat.le_refl _) (Nat.le_refl _) (by first | exact hk0 | exact hrd.1 | exact hdr.1 | exact hor.1 | exact hcu.1 | exact hfw.1 | exact hpt.1 | exact hrn.1 | exact hdi | assumption) ?_
    refine kr_aload_n (i := 0) hX dX9_thread_18 rfl rfl ?_
    refine kr_iload_n (i := 1) hX dX9_thread_19 rfl rfl ?_
    refine kr_iload_n (i := 2) hX dX9_thread_20 rfl rfl ?_
    refine kr_dV (c1 := 9) [_, _] hX km_9_220 dX9_thread_21 (sp_rsn hp0 hc1) rfl rfl ⟨_, _, rfl⟩ (by decide) (Nat.le_of_ble_eq_true rfl) (Nat.le_refl _) (Nat.le_refl _) (by first | exact hk0 | exact hrd.1 | exact hdr.1 | exact hor.1 | exact hcu.1 | exact hfw.1 | exact hpt.1 | exact hrn.1 | exact hdi | assumption) ?_
    refine kr_if_eq (tgt := 30) hX dX9_thread_24 (by decide) (fun c_24 => ?_) (fun c_24 => ?_)
    · skip
      have hhb : k_hs (ut_ref μ o) (o + 81) b := by
        simp only [kt_f_0, Classical.not_not] at c_9
        have := c_9.1; unfold k_hs at this ⊢; rw [ut_ref_out (by omega)]; exact this
      obtain ⟨hs1, hz1, hc2⟩ := h91.thr hhb c_24
      refine kr_aload_n (i := 0) hX dX9_thread_30 rfl rfl ?_
      refine kr_iload_n (i := 1) hX dX9_thread_31 rfl rfl ?_
      refine kr_iload_n (i := 2) hX dX9_thread_32 rfl rfl ?_
      refine kr_dV (c1 := 9) [_, _] hX km_9_232 dX9_thread_33 (sp_thr hp0 hc1 hs1 hz1) rfl rfl ⟨_, _, rfl⟩ (by decide) (Nat.le_of_ble_eq_true rfl) (Nat.le_refl _) (Nat.le_refl _) (by first | exact hk0 | exact hrd.1 | exact hdr.1 | exact hor.1 | exact hcu.1 | exact hfw.1 | exact hpt.1 | exact hrn.1 | exact hdi | assumption) ?_
      refine kr_iret hX hr dX9_thread_36 ⟨rfl, ?_⟩
      simp only [kt_f_0, Classical.not_not] at c_9
      rw [show ut_thread μ o b t = _ from (if_pos c_9).trans (if_pos c_24), es, hc1.1]
      exact ⟨rfl, rfl⟩
    · skip
      refine kr_bipush (v := (-2)) hX dX9_thread_27 (by decide) ?_
      refine kr_iret hX hr dX9_thread_29 ⟨rfl, ?_⟩
      simp only [kt_f_0, Classical.not_not] at c_9
      rw [show ut_thread μ o b t = _ from (if_pos c_9).trans (if_neg c_24)]
      exact ⟨rfl, rfl⟩
  · skip
    refine kr_iconst (v := (-1)) hX dX9_thread_12 (by decide) ?_
    refine kr_iret hX hr dX9_thread_13 ⟨rfl, ?_⟩
    simp only [kt_f_0, Classical.not_not] at c_9
    rw [show ut_thread μ o b t = _ from if_neg c_9]
    exact ⟨rfl, rfl⟩

set_option maxHeartbeats 4000000 in
set_option maxRecDepth 100000 in
theorem lp_ths {G : kt_G} {σ : kt_Y} {X : kt_X} (hX : kt_ok G X RX9 cX9_threads 3 7 0 0) (hr : kt_rt X = (some .int)) {Q : Option Value → kt_M → Prop} {o : Nat} (hp : kt_kt σ o) {m : Nat} (hm : m ≤ 16) : ∀ (n i : Nat) (μ : kt_M) (s : Nat), i + n = m → kc μ o s → (Q (some (.int (ut_thsL o n i μ).1)) (ut_thsL o n i μ).2) → kt_W G X 3 15 [(0, .ref o), (1, .int (nI m)), (2, .int (nI i))] [] σ μ 0 0 (kt_Z G X (kt_q σ Q) 0 0) := by
  have hp0 := hp
  obtain ⟨hk0, hr0, hr1, hr2, hr3, hr4, hr5, hr6, hr7, hr8, hr9, hr10, hr11, hr12, hk152, hk153, hk369, hk370, hk371, hrd, hdr, hor, hcu, hfw, hpt, hrn, hdi, him, hsh⟩ := hp
  intro n
  induction n with
  | zero =>
    intro i μ s hin h9 hQ
    have hib : i = m := by omega
    refine kr_iload_n (i := 2) hX dX9_threads_15 rfl rfl ?_
    refine kr_iload_n (i := 1) hX dX9_threads_16 rfl rfl ?_
    refine kr_icmp_ge (tgt := 39) hX dX9_threads_17 (by decide) (fun c_17 => ?_) (fun c_17 => ?_)
    · skip
      refine kr_iload_n (i := 1) hX dX9_threads_39 rfl rfl ?_
      refine kr_iret hX hr dX9_threads_40 ⟨rfl, ?_⟩
      rw [hib] at hQ; exact hQ
    · skip
      exact absurd (by rw [hib]; exact Int32.le_refl _) c_17
  | succ n ih =>
    intro i μ s hin h9 hQ
    have hib : i < m := by omega
    refine kr_iload_n (i := 2) hX dX9_threads_15 rfl rfl ?_
    refine kr_iload_n (i := 1) hX dX9_threads_16 rfl rfl ?_
    refine kr_icmp_ge (tgt := 39) hX dX9_threads_17 (by decide) (fun c_17 => ?_) (fun c_17 => ?_)
    · skip
      exact absurd c_17 (nI_ge hib (by omega))
    · skip
      refine kr_aload_n (i := 0) hX dX9_threads_20 rfl rfl ?_
      refine kr_dV (c1 := 9) [] hX km_9_131 dX9_threads_21 (sp_ref hp0 h9.1 h9.2.1) rfl rfl ⟨_, _, rfl⟩ (by decide) (Nat.le_of_ble_eq_true rfl) (Nat.le_refl _) (Nat.le_refl _) (by first | exact hk0 | exact hrd.1 | exact hdr.1 | exact hor.1 | exact hcu.1 | exact hfw.1 | exact hpt.1 | exact hrn.1 | exact hdi | assumption) ?_
      refine kr_aload_n (i := 0) hX dX9_threads_24 rfl rfl ?_
      refine kr_dV (c1 := 9) [] hX km_9_235 dX9_threads_25 (sp_tf hp0 h9.ref) rfl rfl ⟨_, _, rfl⟩ (by decide) (Nat.le_of_ble_eq_true rfl) (Nat.le_refl _) (Nat.le_refl _) (by first | exact hk0 | exact hrd.1 | exact hdr.1 | exact hor.1 | exact hcu.1 | exact hfw.1 | exact hpt.1 | exact hrn.1 | exact hdi | assumption) ?_
      refine kr_if_ne (tgt := 33) hX dX9_threads_28 (by decide) (fun c_28 => ?_) (fun c_28 => ?_)
      · skip
        refine kr_iinc (v := nI (i + 1)) hX dX9_threads_33 rfl (by first | exact nI_1 _ | rfl) (by decide) rfl rfl ?_
        refine kr_goto (tgt := 15) hX dX9_threads_36 (by decide) ?_
        rw [show ut_thsL o (n + 1) i μ = _ from if_neg c_28] at hQ
        obtain ⟨s2, h92⟩ := ut_tfL_c h9.ref (2 * (kt_i (ut_ref μ o) (o + 81) 3).toNatClampNeg) 0
        rw [show s = (kt_i (ut_ref μ o) (o + 81) 3).toNatClampNeg from by rw [h9.ref.1.1]; exact (nI_clamp (by have := h9.1.2.1; omega)).symm] at h92
        exact ih (i + 1) _ s2 (by omega) h92 hQ
      · skip
        refine kr_iload_n (i := 2) hX dX9_threads_31 rfl rfl ?_
        refine kr_iret hX hr dX9_threads_32 ⟨rfl, ?_⟩
        rw [show ut_thsL o (n + 1) i μ = _ from if_pos c_28] at hQ; exact hQ

set_option maxHeartbeats 4000000 in
set_option maxRecDepth 100000 in
theorem sp_ths {G : kt_G} {σ : kt_Y} {μ : kt_M} {o : Nat} (hp : kt_kt σ o) {s : Nat} (h9 : kc μ o s) {n : Int32} : kt_F G yX9_threads cX9_threads 3 (some .int) 7 [.ref o, .int n] σ μ (fun r μ2 => r = some (.int (ut_ths μ o n).1) ∧ μ2 = (ut_ths μ o n).2) := by
  refine kt_F.of (by decide) (Nat.le_of_ble_eq_true rfl) (fun X hX hr => ?_)
  have hp0 := hp
  obtain ⟨hk0, hr0, hr1, hr2, hr3, hr4, hr5, hr6, hr7, hr8, hr9, hr10, hr11, hr12, hk152, hk153, hk369, hk370, hk371, hrd, hdr, hor, hcu, hfw, hpt, hrn, hdi, him, hsh⟩ := hp
  refine kr_iload_n (i := 1) hX dX9_threads_0 rfl rfl ?_
  refine kr_iconst (v := 1) hX dX9_threads_1 (by decide) ?_
  refine kr_icmp_lt (tgt := 11) hX dX9_threads_2 (by decide) (fun c_2 => ?_) (fun c_2 => ?_)
  · skip
    refine kr_iconst (v := (-1)) hX dX9_threads_11 (by decide) ?_
    refine kr_iret hX hr dX9_threads_12 ⟨rfl, ?_⟩
    rw [show ut_ths μ o n = _ from if_neg (fun h => h.1 c_2)]
    exact ⟨rfl, rfl⟩
  · skip
    refine kr_iload_n (i := 1) hX dX9_threads_5 rfl rfl ?_
    refine kr_bipush (v := 16) hX dX9_threads_6 (by decide) ?_
    refine kr_icmp_le (tgt := 13) hX dX9_threads_8 (by decide) (fun c_8 => ?_) (fun c_8 => ?_)
    · skip
      refine kr_iconst (v := 0) hX dX9_threads_13 (by decide) ?_
      refine kr_istore_n (i := 2) hX dX9_threads_14 rfl (by decide) rfl rfl ?_
      have hm : ∃ m : Nat, m ≤ 16 ∧ n = nI m := by
        have h1 := c_2; have h2 := c_8
        obtain ⟨m, hm, e⟩ := vp_in_of (x := n) (n := 17) (vp_in_iff.mpr (by simp only [Int32.le_iff_toInt_le, Int32.lt_iff_toInt_lt, show (1 : Int32).toInt = 1 from by decide, ki_16] at h1 h2; omega)) (by decide)
        exact ⟨m, by omega, e⟩
      obtain ⟨m, hm, e⟩ := hm
      have e2 : ut_ths μ o n = ut_thsL o m 0 μ := by
        rw [show ut_ths μ o n = _ from if_pos ⟨c_2, c_8⟩, e, nI_clamp (by omega)]
      rw [e2, e]
      exact lp_ths hX hr hp0 hm m 0 _ s (by omega) h9 ⟨rfl, rfl⟩
    · skip
      refine kr_iconst (v := (-1)) hX dX9_threads_11 (by decide) ?_
      refine kr_iret hX hr dX9_threads_12 ⟨rfl, ?_⟩
      rw [show ut_ths μ o n = _ from if_neg (fun h => c_8 h.2)]
      exact ⟨rfl, rfl⟩

set_option maxHeartbeats 4000000 in
set_option maxRecDepth 100000 in
theorem lp_fold {G : kt_G} {σ : kt_Y} {X : kt_X} (hX : kt_ok G X RX9 cX9_fold 5 7 0 0) (hr : kt_rt X = (some .int)) {Q : Option Value → kt_M → Prop} {o : Nat} (hp : kt_kt σ o) {s : Nat} : ∀ (n i : Nat) (μ : kt_M) (c : Int32), i + n = s → kp μ (o + 81) 16 s → (Q (some (.int (ut_foL o n i μ c).2)) (ut_set15 (ut_foL o n i μ c).1 o (ut_foL o n i μ c).2)) → kt_W G X 5 8 [(0, .ref o), (1, .int c), (2, .int (nI i))] [] σ μ 0 0 (kt_Z G X (kt_q σ Q) 0 0) := by
  have hp0 := hp
  obtain ⟨hk0, hr0, hr1, hr2, hr3, hr4, hr5, hr6, hr7, hr8, hr9, hr10, hr11, hr12, hk152, hk153, hk369, hk370, hk371, hrd, hdr, hor, hcu, hfw, hpt, hrn, hdi, him, hsh⟩ := hp
  have hbl := hcu.2.2.2.2.2.2.2
  intro n
  induction n with
  | zero =>
    intro i μ c hin hc hQ
    have hs16 := hc.2.1
    have hib : i = s := by omega
    refine kr_iload_n (i := 2) hX dX9_fold_8 rfl rfl ?_
    refine kr_aload_n (i := 0) hX dX9_fold_9 rfl rfl ?_
    refine kr_getr (c0 := 9) (k := 3) hX ⟨_, kf_9_28⟩ dX9_fold_10 rfl (by first | exact hk0 | exact hrd.1 | exact hdr.1 | exact hor.1 | exact hcu.1 | exact hfw.1 | exact hpt.1 | exact hrn.1 | exact hdi | assumption) (by assumption) ?_
    refine kr_geti (c0 := 4) (k := 3) hX ⟨_, kf_9_117⟩ dX9_fold_13 rfl (by first | exact hk0 | exact hrd.1 | exact hdr.1 | exact hor.1 | exact hcu.1 | exact hfw.1 | exact hpt.1 | exact hrn.1 | exact hdi | assumption) ?_
    refine kr_icmp_ge (tgt := 83) hX dX9_fold_16 (by decide) (fun c_16 => ?_) (fun c_16 => ?_)
    · skip
      refine kr_aload_n (i := 0) hX dX9_fold_83 rfl rfl ?_
      refine kr_aload_n (i := 0) hX dX9_fold_84 rfl rfl ?_
      refine kr_geti (c0 := 9) (k := 15) hX ⟨_, kf_9_87⟩ dX9_fold_85 rfl (by first | exact hk0 | exact hrd.1 | exact hdr.1 | exact hor.1 | exact hcu.1 | exact hfw.1 | exact hpt.1 | exact hrn.1 | exact hdi | assumption) ?_
      refine kr_if_eq (tgt := 99) hX dX9_fold_88 (by decide) (fun c_88 => ?_) (fun c_88 => ?_)
      · skip
        refine kr_iconst (v := 0) hX dX9_fold_99 (by decide) ?_
        refine kr_puti (c0 := 9) (k := 15) hX kf_9_87 dX9_fold_100 rfl (kt_bz (by first | exact Or.inl rfl | exact Or.inr rfl | assumption)).1 (kt_bz (by first | exact Or.inl rfl | exact Or.inr rfl | assumption)).2 (by first | exact hk0 | exact hrd.1 | exact hdr.1 | exact hor.1 | exact hcu.1 | exact hfw.1 | exact hpt.1 | exact hrn.1 | exact hdi | assumption) ?_
        refine kr_iload_n (i := 1) hX dX9_fold_103 rfl rfl ?_
        refine kr_iret hX hr dX9_fold_104 ⟨rfl, ?_⟩
        rw [show ut_foL o 0 i μ c = (μ, c) from rfl] at hQ
        dsimp only at hQ
        unfold ut_set15 at hQ
        rw [kt_f_f (fun h => h.1 c_88)] at hQ
        exact hQ
      · skip
        refine kr_iload_n (i := 1) hX dX9_fold_91 rfl rfl ?_
        refine kr_if_ne (tgt := 99) hX dX9_fold_92 (by decide) (fun c_92 => ?_) (fun c_92 => ?_)
        · skip
          refine kr_iconst (v := 0) hX dX9_fold_99 (by decide) ?_
          refine kr_puti (c0 := 9) (k := 15) hX kf_9_87 dX9_fold_100 rfl (kt_bz (by first | exact Or.inl rfl | exact Or.inr rfl | assumption)).1 (kt_bz (by first | exact Or.inl rfl | exact Or.inr rfl | assumption)).2 (by first | exact hk0 | exact hrd.1 | exact hdr.1 | exact hor.1 | exact hcu.1 | exact hfw.1 | exact hpt.1 | exact hrn.1 | exact hdi | assumption) ?_
          refine kr_iload_n (i := 1) hX dX9_fold_103 rfl rfl ?_
          refine kr_iret hX hr dX9_fold_104 ⟨rfl, ?_⟩
          rw [show ut_foL o 0 i μ c = (μ, c) from rfl] at hQ
          dsimp only at hQ
          unfold ut_set15 at hQ
          rw [kt_f_f (fun h => c_92 h.2)] at hQ
          exact hQ
        · skip
          refine kr_iconst (v := 1) hX dX9_fold_95 (by decide) ?_
          refine kr_goto (tgt := 100) hX dX9_fold_96 (by decide) ?_
          refine kr_puti (c0 := 9) (k := 15) hX kf_9_87 dX9_fold_100 rfl (kt_bz (by first | exact Or.inl rfl | exact Or.inr rfl | assumption)).1 (kt_bz (by first | exact Or.inl rfl | exact Or.inr rfl | assumption)).2 (by first | exact hk0 | exact hrd.1 | exact hdr.1 | exact hor.1 | exact hcu.1 | exact hfw.1 | exact hpt.1 | exact hrn.1 | exact hdi | assumption) ?_
          refine kr_iload_n (i := 1) hX dX9_fold_103 rfl rfl ?_
          refine kr_iret hX hr dX9_fold_104 ⟨rfl, ?_⟩
          rw [show ut_foL o 0 i μ c = (μ, c) from rfl] at hQ
          dsimp only at hQ
          unfold ut_set15 at hQ
          rw [kt_f_t ⟨c_88, c_92⟩] at hQ
          exact hQ
    · skip
      exact absurd (by rw [hc.1, hib]; exact Int32.le_refl _) c_16
  | succ n ih =>
    intro i μ c hin hc hQ
    have hs16 := hc.2.1
    have hib : i < s := by omega
    refine kr_iload_n (i := 2) hX dX9_fold_8 rfl rfl ?_
    refine kr_aload_n (i := 0) hX dX9_fold_9 rfl rfl ?_
    refine kr_getr (c0 := 9) (k := 3) hX ⟨_, kf_9_28⟩ dX9_fold_10 rfl (by first | exact hk0 | exact hrd.1 | exact hdr.1 | exact hor.1 | exact hcu.1 | exact hfw.1 | exact hpt.1 | exact hrn.1 | exact hdi | assumption) (by assumption) ?_
    refine kr_geti (c0 := 4) (k := 3) hX ⟨_, kf_9_117⟩ dX9_fold_13 rfl (by first | exact hk0 | exact hrd.1 | exact hdr.1 | exact hor.1 | exact hcu.1 | exact hfw.1 | exact hpt.1 | exact hrn.1 | exact hdi | assumption) ?_
    refine kr_icmp_ge (tgt := 83) hX dX9_fold_16 (by decide) (fun c_16 => ?_) (fun c_16 => ?_)
    · skip
      exact absurd c_16 (by rw [hc.1]; exact nI_ge hib (by omega))
    · skip
      refine kr_aload_n (i := 0) hX dX9_fold_19 rfl rfl ?_
      refine kr_getr (c0 := 9) (k := 6) hX ⟨_, kf_9_42⟩ dX9_fold_20 rfl (by first | exact hk0 | exact hrd.1 | exact hdr.1 | exact hor.1 | exact hcu.1 | exact hfw.1 | exact hpt.1 | exact hrn.1 | exact hdi | assumption) (by assumption) ?_
      refine kr_aload_n (i := 0) hX dX9_fold_23 rfl rfl ?_
      refine kr_getr (c0 := 9) (k := 3) hX ⟨_, kf_9_28⟩ dX9_fold_24 rfl (by first | exact hk0 | exact hrd.1 | exact hdr.1 | exact hor.1 | exact hcu.1 | exact hfw.1 | exact hpt.1 | exact hrn.1 | exact hdi | assumption) (by assumption) ?_
      refine kr_iload_n (i := 2) hX dX9_fold_27 rfl rfl ?_
      refine kr_dV (c1 := 2) [_, _] hX km_9_238 dX9_fold_28 (sp_kn hfw hcu (by decide) hc.1 hc.2.1) rfl rfl ⟨_, _, rfl⟩ (by decide) (Nat.le_of_ble_eq_true rfl) (Nat.le_refl _) (Nat.le_refl _) (by first | exact hk0 | exact hrd.1 | exact hdr.1 | exact hor.1 | exact hcu.1 | exact hfw.1 | exact hpt.1 | exact hrn.1 | exact hdi | assumption) ?_
      refine kr_if_eq (tgt := 45) hX dX9_fold_31 (by decide) (fun c_31 => ?_) (fun c_31 => ?_)
      · skip
        refine kr_iconst (v := 0) hX dX9_fold_45 (by decide) ?_
        refine kr_istore_n (i := 3) hX dX9_fold_46 rfl (by decide) rfl rfl ?_
        refine kr_iload_n (i := 3) hX dX9_fold_47 rfl rfl ?_
        refine kr_if_eq (tgt := 77) hX dX9_fold_48 (by decide) (fun c_48 => ?_) (fun c_48 => ?_)
        · skip
          refine kr_iinc (v := nI (i + 1)) hX dX9_fold_77 rfl (by first | exact nI_1 _ | rfl) (by decide) rfl rfl ?_
          refine kr_goto (tgt := 8) hX dX9_fold_80 (by decide) ?_
          simp only [kt_f_0, Classical.not_not] at c_31
          rw [show ut_foL o (n + 1) i μ c = _ from if_neg c_31] at hQ
          refine kr_keep [0, 1, 2] rfl ?_
          exact ih (i + 1) _ _ (by omega) hc hQ
        · skip
          refine kr_aload_n (i := 0) hX dX9_fold_51 rfl rfl ?_
          refine kr_getr (c0 := 9) (k := 3) hX ⟨_, kf_9_28⟩ dX9_fold_52 rfl (by first | exact hk0 | exact hrd.1 | exact hdr.1 | exact hor.1 | exact hcu.1 | exact hfw.1 | exact hpt.1 | exact hrn.1 | exact hdi | assumption) (by assumption) ?_
          refine kr_iload_n (i := 2) hX dX9_fold_55 rfl rfl ?_
          refine kr_dV (c1 := 4) [_] hX km_9_159 dX9_fold_56 (sp_atN hcu (by decide) hc.1 hc.2.1 hib) rfl rfl ⟨_, _, rfl⟩ (by decide) (Nat.le_of_ble_eq_true rfl) (Nat.le_refl _) (Nat.le_refl _) (by first | exact hk0 | exact hrd.1 | exact hdr.1 | exact hor.1 | exact hcu.1 | exact hfw.1 | exact hpt.1 | exact hrn.1 | exact hdi | assumption) ?_
          refine kr_astore hX dX9_fold_59 (by decide) rfl rfl ?_
          refine kr_aload hX dX9_fold_61 rfl ?_
          refine kr_aload hX dX9_fold_63 rfl ?_
          refine kr_iload_n (i := 3) hX dX9_fold_65 rfl rfl ?_
          refine kr_iconst (v := 1) hX dX9_fold_66 (by decide) ?_
          refine kr_isub hX dX9_fold_67 ?_
          refine kr_dV (c1 := 0) [_] hX km_9_174 dX9_fold_68 (sp_target (hbl i (by omega)).2) rfl rfl ⟨_, _, rfl⟩ (by decide) (Nat.le_of_ble_eq_true rfl) (Nat.le_refl _) (Nat.le_refl _) (by exact (hbl i (by omega)).2.1) ?_
          refine kr_dV (c1 := 0) [_] hX km_9_242 dX9_fold_71 (sp_becomeGo (hbl i (by omega)).2) rfl rfl ⟨_, _, rfl⟩ (by decide) (Nat.le_of_ble_eq_true rfl) (Nat.le_refl _) (Nat.le_refl _) (by exact (hbl i (by omega)).2.1) ?_
          refine kr_iinc hX dX9_fold_74 rfl rfl (by decide) rfl rfl ?_
          refine kr_iinc (v := nI (i + 1)) hX dX9_fold_77 rfl (by first | exact nI_1 _ | rfl) (by decide) rfl rfl ?_
          refine kr_goto (tgt := 8) hX dX9_fold_80 (by decide) ?_
          simp only [kt_f_0, Classical.not_not] at c_31
          exact absurd rfl c_48
      · skip
        refine kr_aload_n (i := 0) hX dX9_fold_34 rfl rfl ?_
        refine kr_getr (c0 := 9) (k := 6) hX ⟨_, kf_9_42⟩ dX9_fold_35 rfl (by first | exact hk0 | exact hrd.1 | exact hdr.1 | exact hor.1 | exact hcu.1 | exact hfw.1 | exact hpt.1 | exact hrn.1 | exact hdi | assumption) (by assumption) ?_
        refine kr_iload_n (i := 2) hX dX9_fold_38 rfl rfl ?_
        refine kr_dV (c1 := 2) [_] hX km_9_214 dX9_fold_39 (sp_oat hfw) rfl rfl ⟨_, _, rfl⟩ (by decide) (Nat.le_of_ble_eq_true rfl) (Nat.le_refl _) (Nat.le_refl _) (by first | exact hk0 | exact hrd.1 | exact hdr.1 | exact hor.1 | exact hcu.1 | exact hfw.1 | exact hpt.1 | exact hrn.1 | exact hdi | assumption) ?_
        refine kr_goto (tgt := 46) hX dX9_fold_42 (by decide) ?_
        refine kr_istore_n (i := 3) hX dX9_fold_46 rfl (by decide) rfl rfl ?_
        refine kr_iload_n (i := 3) hX dX9_fold_47 rfl rfl ?_
        refine kr_if_eq (tgt := 77) hX dX9_fold_48 (by decide) (fun c_48 => ?_) (fun c_48 => ?_)
        · skip
          refine kr_iinc (v := nI (i + 1)) hX dX9_fold_77 rfl (by first | exact nI_1 _ | rfl) (by decide) rfl rfl ?_
          refine kr_goto (tgt := 8) hX dX9_fold_80 (by decide) ?_
          simp only [kt_f_0, Classical.not_not] at c_31
          exact absurd c_48 c_31.2.2
        · skip
          refine kr_aload_n (i := 0) hX dX9_fold_51 rfl rfl ?_
          refine kr_getr (c0 := 9) (k := 3) hX ⟨_, kf_9_28⟩ dX9_fold_52 rfl (by first | exact hk0 | exact hrd.1 | exact hdr.1 | exact hor.1 | exact hcu.1 | exact hfw.1 | exact hpt.1 | exact hrn.1 | exact hdi | assumption) (by assumption) ?_
          refine kr_iload_n (i := 2) hX dX9_fold_55 rfl rfl ?_
          refine kr_dV (c1 := 4) [_] hX km_9_159 dX9_fold_56 (sp_atN hcu (by decide) hc.1 hc.2.1 hib) rfl rfl ⟨_, _, rfl⟩ (by decide) (Nat.le_of_ble_eq_true rfl) (Nat.le_refl _) (Nat.le_refl _) (by first | exact hk0 | exact hrd.1 | exact hdr.1 | exact hor.1 | exact hcu.1 | exact hfw.1 | exact hpt.1 | exact hrn.1 | exact hdi | assumption) ?_
          refine kr_astore hX dX9_fold_59 (by decide) rfl rfl ?_
          refine kr_aload hX dX9_fold_61 rfl ?_
          refine kr_aload hX dX9_fold_63 rfl ?_
          refine kr_iload_n (i := 3) hX dX9_fold_65 rfl rfl ?_
          refine kr_iconst (v := 1) hX dX9_fold_66 (by decide) ?_
          refine kr_isub hX dX9_fold_67 ?_
          refine kr_dV (c1 := 0) [_] hX km_9_174 dX9_fold_68 (sp_target (hbl i (by omega)).2) rfl rfl ⟨_, _, rfl⟩ (by decide) (Nat.le_of_ble_eq_true rfl) (Nat.le_refl _) (Nat.le_refl _) (by exact (hbl i (by omega)).2.1) ?_
          refine kr_dV (c1 := 0) [_] hX km_9_242 dX9_fold_71 (sp_becomeGo (hbl i (by omega)).2) rfl rfl ⟨_, _, rfl⟩ (by decide) (Nat.le_of_ble_eq_true rfl) (Nat.le_refl _) (Nat.le_refl _) (by exact (hbl i (by omega)).2.1) ?_
          refine kr_iinc hX dX9_fold_74 rfl rfl (by decide) rfl rfl ?_
          refine kr_iinc (v := nI (i + 1)) hX dX9_fold_77 rfl (by first | exact nI_1 _ | rfl) (by decide) rfl rfl ?_
          refine kr_goto (tgt := 8) hX dX9_fold_80 (by decide) ?_
          simp only [kt_f_0, Classical.not_not] at c_31
          rw [show ut_foL o (n + 1) i μ c = _ from if_pos c_31] at hQ
          refine kr_keep [0, 1, 2] rfl ?_
          exact ih (i + 1) _ _ (by omega) hc.fo1 hQ

set_option maxHeartbeats 4000000 in
set_option maxRecDepth 100000 in
theorem sp_fold {G : kt_G} {σ : kt_Y} {μ : kt_M} {o : Nat} (hp : kt_kt σ o) {s : Nat} (h9 : kc μ o s) : kt_F G yX9_fold cX9_fold 5 (some .int) 7 [.ref o] σ μ (fun r μ2 => r = some (.int (ut_fold μ o).1) ∧ μ2 = (ut_fold μ o).2) := by
  refine kt_F.of (by decide) (Nat.le_of_ble_eq_true rfl) (fun X hX hr => ?_)
  have hp0 := hp
  obtain ⟨hk0, hr0, hr1, hr2, hr3, hr4, hr5, hr6, hr7, hr8, hr9, hr10, hr11, hr12, hk152, hk153, hk369, hk370, hk371, hrd, hdr, hor, hcu, hfw, hpt, hrn, hdi, him, hsh⟩ := hp
  have hc := h9.1
  have h91 := h9.ref
  have hc1 := h91.1
  have es : (kt_i (ut_ref μ o) (o + 81) 3).toNatClampNeg = s := by rw [hc1.1]; exact nI_clamp (by have := hc1.2.1; omega)
  refine kr_aload_n (i := 0) hX dX9_fold_0 rfl rfl ?_
  refine kr_dV (c1 := 9) [] hX km_9_131 dX9_fold_1 (sp_ref hp0 hc h9.2.1) rfl rfl ⟨_, _, rfl⟩ (by decide) (Nat.le_of_ble_eq_true rfl) (Nat.le_refl _) (Nat.le_refl _) (by first | exact hk0 | exact hrd.1 | exact hdr.1 | exact hor.1 | exact hcu.1 | exact hfw.1 | exact hpt.1 | exact hrn.1 | exact hdi | assumption) ?_
  refine kr_iconst (v := 0) hX dX9_fold_4 (by decide) ?_
  refine kr_istore_n (i := 1) hX dX9_fold_5 rfl (by decide) rfl rfl ?_
  refine kr_iconst (v := 0) hX dX9_fold_6 (by decide) ?_
  refine kr_istore_n (i := 2) hX dX9_fold_7 rfl (by decide) rfl rfl ?_
  refine lp_fold hX hr hp0 s 0 _ 0 (by omega) hc1 ?_
  unfold ut_fold
  rw [es]
  exact ⟨rfl, rfl⟩

set_option maxHeartbeats 4000000 in
set_option maxRecDepth 100000 in
theorem sp_sweep {G : kt_G} {σ : kt_Y} {μ : kt_M} {o : Nat} (hp : kt_kt σ o) {s : Nat} (h9 : kc μ o s) : kt_F G yX9_sweep cX9_sweep 2 (some .int) 7 [.ref o] σ μ (fun r μ2 => r = some (.int (ut_sweep μ o).1) ∧ μ2 = (ut_sweep μ o).2) := by
  refine kt_F.of (by decide) (Nat.le_of_ble_eq_true rfl) (fun X hX hr => ?_)
  have hp0 := hp
  obtain ⟨hk0, hr0, hr1, hr2, hr3, hr4, hr5, hr6, hr7, hr8, hr9, hr10, hr11, hr12, hk152, hk153, hk369, hk370, hk371, hrd, hdr, hor, hcu, hfw, hpt, hrn, hdi, him, hsh⟩ := hp
  have hc := h9.1
  have h91 := h9.ref
  have hc1 := h91.1
  have es : (kt_i (ut_ref μ o) (o + 81) 3).toNatClampNeg = s := by rw [hc1.1]; exact nI_clamp (by have := hc1.2.1; omega)
  refine kr_aload_n (i := 0) hX dX9_sweep_0 rfl rfl ?_
  refine kr_dV (c1 := 9) [] hX km_9_131 dX9_sweep_1 (sp_ref hp0 hc h9.2.1) rfl rfl ⟨_, _, rfl⟩ (by decide) (Nat.le_of_ble_eq_true rfl) (Nat.le_refl _) (Nat.le_refl _) (by first | exact hk0 | exact hrd.1 | exact hdr.1 | exact hor.1 | exact hcu.1 | exact hfw.1 | exact hpt.1 | exact hrn.1 | exact hdi | assumption) ?_
  refine kr_aload_n (i := 0) hX dX9_sweep_4 rfl rfl ?_
  refine kr_getr (c0 := 9) (k := 3) hX ⟨_, kf_9_28⟩ dX9_sweep_5 rfl (by first | exact hk0 | exact hrd.1 | exact hdr.1 | exact hor.1 | exact hcu.1 | exact hfw.1 | exact hpt.1 | exact hrn.1 | exact hdi | assumption) (by assumption) ?_
  refine kr_aload_n (i := 0) hX dX9_sweep_8 rfl rfl ?_
  refine kr_getr (c0 := 9) (k := 7) hX ⟨_, kf_9_49⟩ dX9_sweep_9 rfl (by first | exact hk0 | exact hrd.1 | exact hdr.1 | exact hor.1 | exact hcu.1 | exact hfw.1 | exact hpt.1 | exact hrn.1 | exact hdi | assumption) (by assumption) ?_
  refine kr_geti (c0 := 3) (k := 2) hX ⟨_, kf_9_245⟩ dX9_sweep_12 rfl (by first | exact hk0 | exact hrd.1 | exact hdr.1 | exact hor.1 | exact hcu.1 | exact hfw.1 | exact hpt.1 | exact hrn.1 | exact hdi | assumption) ?_
  refine kr_dV (c1 := 4) [_] hX km_9_248 dX9_sweep_15 (sp_keep hcu (by decide) hc1.1 hc1.2.1 hc1.2.2.2) rfl rfl ⟨_, _, rfl⟩ (by decide) (Nat.le_of_ble_eq_true rfl) (Nat.le_refl _) (Nat.le_refl _) (by first | exact hk0 | exact hrd.1 | exact hdr.1 | exact hor.1 | exact hcu.1 | exact hfw.1 | exact hpt.1 | exact hrn.1 | exact hdi | assumption) ?_
  refine kr_istore_n (i := 1) hX dX9_sweep_18 rfl (by decide) rfl rfl ?_
  refine kr_aload_n (i := 0) hX dX9_sweep_19 rfl rfl ?_
  refine kr_aload_n (i := 0) hX dX9_sweep_20 rfl rfl ?_
  refine kr_geti (c0 := 9) (k := 15) hX ⟨_, kf_9_87⟩ dX9_sweep_21 rfl (by first | exact hk0 | exact hrd.1 | exact hdr.1 | exact hor.1 | exact hcu.1 | exact hfw.1 | exact hpt.1 | exact hrn.1 | exact hdi | assumption) ?_
  refine kr_if_eq (tgt := 35) hX dX9_sweep_24 (by decide) (fun c_24 => ?_) (fun c_24 => ?_)
  · skip
    refine kr_iconst (v := 0) hX dX9_sweep_35 (by decide) ?_
    refine kr_puti (c0 := 9) (k := 15) hX kf_9_87 dX9_sweep_36 rfl (kt_bz (by first | exact Or.inl rfl | exact Or.inr rfl | assumption)).1 (kt_bz (by first | exact Or.inl rfl | exact Or.inr rfl | assumption)).2 (by first | exact hk0 | exact hrd.1 | exact hdr.1 | exact hor.1 | exact hcu.1 | exact hfw.1 | exact hpt.1 | exact hrn.1 | exact hdi | assumption) ?_
    refine kr_iload_n (i := 1) hX dX9_sweep_39 rfl rfl ?_
    refine kr_iret hX hr dX9_sweep_40 ⟨rfl, ?_⟩
    unfold ut_sweep
    rw [es]
    refine ⟨rfl, ?_⟩
    unfold ut_set15
    dsimp only
    rw [kt_f_f (fun h => h.1 c_24)]
    rfl
  · skip
    refine kr_iload_n (i := 1) hX dX9_sweep_27 rfl rfl ?_
    refine kr_if_ne (tgt := 35) hX dX9_sweep_28 (by decide) (fun c_28 => ?_) (fun c_28 => ?_)
    · skip
      refine kr_iconst (v := 0) hX dX9_sweep_35 (by decide) ?_
      refine kr_puti (c0 := 9) (k := 15) hX kf_9_87 dX9_sweep_36 rfl (kt_bz (by first | exact Or.inl rfl | exact Or.inr rfl | assumption)).1 (kt_bz (by first | exact Or.inl rfl | exact Or.inr rfl | assumption)).2 (by first | exact hk0 | exact hrd.1 | exact hdr.1 | exact hor.1 | exact hcu.1 | exact hfw.1 | exact hpt.1 | exact hrn.1 | exact hdi | assumption) ?_
      refine kr_iload_n (i := 1) hX dX9_sweep_39 rfl rfl ?_
      refine kr_iret hX hr dX9_sweep_40 ⟨rfl, ?_⟩
      unfold ut_sweep
      rw [es]
      refine ⟨rfl, ?_⟩
      unfold ut_set15
      dsimp only
      rw [kt_f_f (fun h => c_28 h.2)]
      rfl
    · skip
      refine kr_iconst (v := 1) hX dX9_sweep_31 (by decide) ?_
      refine kr_goto (tgt := 36) hX dX9_sweep_32 (by decide) ?_
      refine kr_puti (c0 := 9) (k := 15) hX kf_9_87 dX9_sweep_36 rfl (kt_bz (by first | exact Or.inl rfl | exact Or.inr rfl | assumption)).1 (kt_bz (by first | exact Or.inl rfl | exact Or.inr rfl | assumption)).2 (by first | exact hk0 | exact hrd.1 | exact hdr.1 | exact hor.1 | exact hcu.1 | exact hfw.1 | exact hpt.1 | exact hrn.1 | exact hdi | assumption) ?_
      refine kr_iload_n (i := 1) hX dX9_sweep_39 rfl rfl ?_
      refine kr_iret hX hr dX9_sweep_40 ⟨rfl, ?_⟩
      unfold ut_sweep
      rw [es]
      refine ⟨rfl, ?_⟩
      unfold ut_set15
      dsimp only
      rw [kt_f_t ⟨c_24, c_28⟩]
      rfl


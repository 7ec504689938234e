/-- a program that is in order: its size, its acts, its 0s and 1s -/
def kp (μ : kt_M) (q N s : Nat) : Prop := kt_i μ q 3 = nI s ∧ s ≤ N ∧ kt_ac μ q ∧ k_riv μ q s
theorem kp.keep {μ μ' : kt_M} {q N s : Nat} (h : kp μ q N s) (hN : N ≤ 16) (ho : ∀ x k, q ≤ x → x < q + 7 + 4 * N → kt_i μ' x k = kt_i μ x k) : kp μ' q N s := by
  obtain ⟨h1, h2, h3, h4⟩ := h
  refine ⟨by rw [ho q 3 (by omega) (by omega)]; exact h1, h2, h3.keep h1 h2 hN ho, fun b hb => ?_⟩
  rw [ho _ _ (by omega) (by omega)]; exact h4 b hb
theorem m_orgL_out {q x k : Nat} (h : k ≠ 10) : ∀ (n i : Nat) (μ : kt_M), kt_i (m_orgL q n i μ) x k = kt_i μ x k
  | 0, _, _ => rfl
  | n + 1, i, μ => by rw [m_orgL, m_orgL_out h n, kt_i_sik h]
theorem m_orgL_far {q x k : Nat} : ∀ (n i : Nat) (μ : kt_M), (∀ b, i ≤ b → b < i + n → x ≠ q + 7 + 4 * b) → kt_i (m_orgL q n i μ) x k = kt_i μ x k
  | 0, _, _, _ => rfl
  | n + 1, i, μ, h => by rw [m_orgL, m_orgL_far n (i + 1) _ (fun b h1 h2 => h b (by omega) (by omega)), kt_i_sin (h i (by omega) (by omega))]
theorem k_at_org {μ : kt_M} {q n i : Nat} (b : Int32) : k_at (m_orgL q n i μ) q b = k_at μ q b := k_at_eq (m_orgL_out (by decide) n i μ) b
theorem kp.org {μ : kt_M} {q N s : Nat} (h : kp μ q N s) (n i : Nat) : kp (m_orgL q n i μ) q N s := by
  obtain ⟨h1, h2, h3, h4⟩ := h
  refine ⟨by rw [m_orgL_out (by decide)]; exact h1, h2, fun b => ?_, fun b hb => by rw [m_orgL_out (by decide)]; exact h4 b hb⟩
  rw [k_at_org, m_orgL_out (by decide)]
  exact h3 b
theorem m_pcpL_out {p q x k : Nat} : ∀ (n i : Nat) (μ : kt_M), (x < p ∨ p + 7 + 4 * (i + n) ≤ x) → kt_i (m_pcpL p q n i μ) x k = kt_i μ x k
  | 0, _, _, _ => rfl
  | n + 1, i, μ, h => by rw [m_pcpL, m_pcpL_out n (i + 1) _ (by omega), kt_i_sin (by omega), kt_cpB_out (by omega)]
theorem m_s1L_out {p q x k : Nat} (h : x ≠ p + 1 ∧ x ≠ p + 2) : ∀ (n i : Nat) (μ : kt_M), kt_i (m_s1L p q n i μ) x k = kt_i μ x k
  | 0, _, _ => rfl
  | n + 1, i, μ => by rw [m_s1L, m_s1L_out h n, kt_i_sin h.2, kt_i_sin h.1]
theorem m_dmL_out {p x k : Nat} {a c : Int32} (h : x ≠ p + 2) : ∀ (n i : Nat) (μ : kt_M), kt_i (m_dmL p a c n i μ) x k = kt_i μ x k
  | 0, _, _ => rfl
  | n + 1, i, μ => by
    rw [m_dmL, m_dmL_out h n]; split
    · rfl
    · rw [kt_i_sin h]
theorem m_s2L_out {p x k : Nat} (h : x ≠ p + 2) : ∀ (n i : Nat) (μ : kt_M), kt_i (m_s2L p n i μ) x k = kt_i μ x k
  | 0, _, _ => rfl
  | n + 1, i, μ => by rw [m_s2L, m_s2L_out h n, m_dmL_out h]
theorem m_s3L_out {p x k : Nat} (h : x ≠ p) : ∀ (n i : Nat) (μ : kt_M), kt_i (m_s3L p n i μ) x k = kt_i μ x k
  | 0, _, _ => rfl
  | n + 1, i, μ => by rw [m_s3L, m_s3L_out h n, kt_i_sin h]
noncomputable def q_psolve (μ : kt_M) (p q : Nat) : kt_M := kt_seal (m_psolve μ p q)
theorem q_psolve_out {μ : kt_M} {p q x k : Nat} (h : x < p ∨ p + 3 ≤ x) : kt_i (q_psolve μ p q) x k = kt_i μ x k := by
  unfold q_psolve m_psolve m_s2
  rw [kt_seal_eq, m_s3L_out (by omega), kt_i_sin (by omega), m_s2L_out (by omega), kt_i_sin (by omega), m_s1L_out (by omega)]
noncomputable def ut_ref (μ : kt_M) (o : Nat) : kt_M := if ¬ kt_i μ o 15 = 0 then μ else kt_si (q_psolve (f_la (f_solve μ (o + 154) (o + 81)) (o + 154) (o + 81)) (o + 361) (o + 81)) o 15 1
theorem ut_ref_out {μ : kt_M} {o x k : Nat} (h : x ≠ o ∧ (x < o + 154 ∨ o + 364 ≤ x)) : kt_i (ut_ref μ o) x k = kt_i μ x k := by
  unfold ut_ref; split
  · rfl
  · rw [kt_i_sin h.1, q_psolve_out (by omega), f_la_out (by omega), f_solve_out (by omega)]
theorem ut_ref_o {μ : kt_M} {o k : Nat} (h : k ≠ 15) : kt_i (ut_ref μ o) o k = kt_i μ o k := by
  unfold ut_ref; split
  · rfl
  · rw [kt_i_sik h, q_psolve_out (by omega), f_la_out (by omega), f_solve_out (by omega)]
theorem ut_ref_n {μ : kt_M} {o : Nat} (h : kf_n μ (o + 154)) : kf_n (ut_ref μ o) (o + 154) := by
  unfold ut_ref; split
  · exact h
  · exact (f_la_n (f_solve_n h)).far (fun x k h1 h2 => by rw [kt_i_sin (by omega), q_psolve_out (by omega)])
theorem kp.ref {μ : kt_M} {o q N s : Nat} (h : kp μ q N s) (hN : N ≤ 16) (hq : o + 1 ≤ q ∧ q + 7 + 4 * N ≤ o + 154 ∨ o + 364 ≤ q) : kp (ut_ref μ o) q N s := h.keep hN (fun x k h1 h2 => ut_ref_out (by omega))
def ut_new (μ : kt_M) (o s : Nat) : kt_M := kt_si (kt_si (kt_si (m_pcpL (o + 81) (o + 42) s 0 (kt_si (m_orgL (o + 42) s 0 μ) (o + 81) 3 0)) (o + 153) 0 0) (o + 153) 1 0) o 15 0
theorem sp_psolveS {G : kt_G} {σ : kt_Y} {μ : kt_M} {p : Nat} (hp : kt_pt σ p) {q N s : Nat} (hq : kt_pg σ q N) (hN : N ≤ 16) (hsN : s ≤ N) (hsep : p + 3 ≤ q ∨ q + 7 + 4 * N ≤ p) (hs : kt_i μ q 3 = nI s) : kt_F G yX3_solve cX3_solve 3 none 3 [.ref p, .ref q] σ μ (fun r μ2 => r = none ∧ μ2 = q_psolve μ p q) := by
  unfold q_psolve
  rw [kt_seal_eq]
  exact sp_psolve hp hq hN hsN hsep hs
set_option maxHeartbeats 4000000 in
set_option maxRecDepth 100000 in
theorem sp_ref {G : kt_G} {σ : kt_Y} {μ : kt_M} {o : Nat} (hp : kt_kt σ o) {s : Nat} (hc : kp μ (o + 81) 16 s) (hn : kf_n μ (o + 154)) : kt_F G yX9_refresh cX9_refresh 1 none 6 [.ref o] σ μ (fun r μ2 => r = none ∧ μ2 = ut_ref μ o) := by
  refine kt_F.of (by decide) (Nat.le_of_ble_eq_true rfl) (fun X hX hr => ?_)
  have hp0 := hp
  obtain ⟨hk0, hr0, hr1, hr2, hr3, hr4, hr5, hr6, hr7, hr8, hr9, hr10, hr11, hr12, hk152, hk153, hk369, hk370, hk371, hrd, hdr, hor, hcu, hfw, hpt, hrn, hdi, him, hsh⟩ := hp
  have hc1 : kp (f_solve μ (o + 154) (o + 81)) (o + 81) 16 s := hc.keep (by decide) (fun x k h1 h2 => f_solve_out (by omega))
  have hn1 := f_solve_n (q := o + 81) hn
  have hc2 : kp (f_la (f_solve μ (o + 154) (o + 81)) (o + 154) (o + 81)) (o + 81) 16 s := hc1.keep (by decide) (fun x k h1 h2 => f_la_out (by omega))
  refine kr_aload_n (i := 0) hX dX9_refresh_0 rfl rfl ?_
  refine kr_geti (c0 := 9) (k := 15) hX ⟨_, kf_9_87⟩ dX9_refresh_1 rfl (by first | exact hk0 | exact hrd.1 | exact hdr.1 | exact hor.1 | exact hcu.1 | exact hfw.1 | exact hpt.1 | exact hrn.1 | exact hdi | assumption) ?_
  refine kr_if_ne (tgt := 45) hX dX9_refresh_4 (by decide) (fun c_4 => ?_) (fun c_4 => ?_)
  · skip
    refine kr_vret hX hr dX9_refresh_45 ⟨rfl, ?_⟩
    refine ⟨rfl, ?_⟩
    unfold ut_ref
    rw [if_pos c_4]
  · skip
    refine kr_aload_n (i := 0) hX dX9_refresh_7 rfl rfl ?_
    refine kr_getr (c0 := 9) (k := 6) hX ⟨_, kf_9_42⟩ dX9_refresh_8 rfl (by first | exact hk0 | exact hrd.1 | exact hdr.1 | exact hor.1 | exact hcu.1 | exact hfw.1 | exact hpt.1 | exact hrn.1 | exact hdi | assumption) (by assumption) ?_
    refine kr_aload_n (i := 0) hX dX9_refresh_11 rfl rfl ?_
    refine kr_getr (c0 := 9) (k := 3) hX ⟨_, kf_9_28⟩ dX9_refresh_12 rfl (by first | exact hk0 | exact hrd.1 | exact hdr.1 | exact hor.1 | exact hcu.1 | exact hfw.1 | exact hpt.1 | exact hrn.1 | exact hdi | assumption) (by assumption) ?_
    refine kr_dV (c1 := 2) [_] hX km_9_318 dX9_refresh_15 (sp_solve hfw hcu (by decide) hc.2.1 (by omega) hc.1 hc.2.2.1 hn) rfl rfl ⟨_, _, rfl⟩ (by decide) (Nat.le_of_ble_eq_true rfl) (Nat.le_refl _) (Nat.le_refl _) (by first | exact hk0 | exact hrd.1 | exact hdr.1 | exact hor.1 | exact hcu.1 | exact hfw.1 | exact hpt.1 | exact hrn.1 | exact hdi | assumption) ?_
    refine kr_aload_n (i := 0) hX dX9_refresh_18 rfl rfl ?_
    refine kr_getr (c0 := 9) (k := 6) hX ⟨_, kf_9_42⟩ dX9_refresh_19 rfl (by first | exact hk0 | exact hrd.1 | exact hdr.1 | exact hor.1 | exact hcu.1 | exact hfw.1 | exact hpt.1 | exact hrn.1 | exact hdi | assumption) (by assumption) ?_
    refine kr_aload_n (i := 0) hX dX9_refresh_22 rfl rfl ?_
    refine kr_getr (c0 := 9) (k := 3) hX ⟨_, kf_9_28⟩ dX9_refresh_23 rfl (by first | exact hk0 | exact hrd.1 | exact hdr.1 | exact hor.1 | exact hcu.1 | exact hfw.1 | exact hpt.1 | exact hrn.1 | exact hdi | assumption) (by assumption) ?_
    refine kr_dV (c1 := 2) [_] hX km_9_321 dX9_refresh_26 (sp_la hfw hcu (by decide) hc.2.1 (by omega) hc1.1 hc1.2.2.1 hn1) rfl rfl ⟨_, _, rfl⟩ (by decide) (Nat.le_of_ble_eq_true rfl) (Nat.le_refl _) (Nat.le_refl _) (by first | exact hk0 | exact hrd.1 | exact hdr.1 | exact hor.1 | exact hcu.1 | exact hfw.1 | exact hpt.1 | exact hrn.1 | exact hdi | assumption) ?_
    refine kr_aload_n (i := 0) hX dX9_refresh_29 rfl rfl ?_
    refine kr_getr (c0 := 9) (k := 7) hX ⟨_, kf_9_49⟩ dX9_refresh_30 rfl (by first | exact hk0 | exact hrd.1 | exact hdr.1 | exact hor.1 | exact hcu.1 | exact hfw.1 | exact hpt.1 | exact hrn.1 | exact hdi | assumption) (by assumption) ?_
    refine kr_aload_n (i := 0) hX dX9_refresh_33 rfl rfl ?_
    refine kr_getr (c0 := 9) (k := 3) hX ⟨_, kf_9_28⟩ dX9_refresh_34 rfl (by first | exact hk0 | exact hrd.1 | exact hdr.1 | exact hor.1 | exact hcu.1 | exact hfw.1 | exact hpt.1 | exact hrn.1 | exact hdi | assumption) (by assumption) ?_
    refine kr_dV (c1 := 3) [_] hX km_9_324 dX9_refresh_37 (sp_psolveS hpt hcu (by decide) hc.2.1 (by omega) hc2.1) rfl rfl ⟨_, _, rfl⟩ (by decide) (Nat.le_of_ble_eq_true rfl) (Nat.le_refl _) (Nat.le_refl _) (by first | exact hk0 | exact hrd.1 | exact hdr.1 | exact hor.1 | exact hcu.1 | exact hfw.1 | exact hpt.1 | exact hrn.1 | exact hdi | assumption) ?_
    refine kr_aload_n (i := 0) hX dX9_refresh_40 rfl rfl ?_
    refine kr_iconst (v := 1) hX dX9_refresh_41 (by decide) ?_
    refine kr_puti (c0 := 9) (k := 15) hX kf_9_87 dX9_refresh_42 rfl (kt_bz (by first | exact Or.inl rfl | exact Or.inr rfl | assumption)).1 (kt_bz (by first | exact Or.inl rfl | exact Or.inr rfl | assumption)).2 (by first | exact hk0 | exact hrd.1 | exact hdr.1 | exact hor.1 | exact hcu.1 | exact hfw.1 | exact hpt.1 | exact hrn.1 | exact hdi | assumption) ?_
    refine kr_vret hX hr dX9_refresh_45 ⟨rfl, ?_⟩
    refine ⟨rfl, ?_⟩
    unfold ut_ref
    rw [if_neg (fun h => h c_4)]

set_option maxHeartbeats 4000000 in
set_option maxRecDepth 100000 in
theorem sp_new {G : kt_G} {σ : kt_Y} {μ : kt_M} {o : Nat} (hp : kt_kt σ o) {s : Nat} (hg : kp μ (o + 42) 8 s) : kt_F G yX9_startAnew cX9_startAnew 2 none 3 [.ref o] σ μ (fun r μ2 => r = none ∧ μ2 = ut_new μ o s) := by
  refine kt_F.of (by decide) (Nat.le_of_ble_eq_true rfl) (fun X hX hr => ?_)
  have hp0 := hp
  obtain ⟨hk0, hr0, hr1, hr2, hr3, hr4, hr5, hr6, hr7, hr8, hr9, hr10, hr11, hr12, hk152, hk153, hk369, hk370, hk371, hrd, hdr, hor, hcu, hfw, hpt, hrn, hdi, him, hsh⟩ := hp
  have hg1 := hg.org s 0
  refine kr_aload_n (i := 0) hX dX9_startAnew_0 rfl rfl ?_
  refine kr_getr (c0 := 9) (k := 2) hX ⟨_, kf_9_25⟩ dX9_startAnew_1 rfl (by first | exact hk0 | exact hrd.1 | exact hdr.1 | exact hor.1 | exact hcu.1 | exact hfw.1 | exact hpt.1 | exact hrn.1 | exact hdi | assumption) (by assumption) ?_
  refine kr_dV (c1 := 4) [] hX km_9_315 dX9_startAnew_4 (sp_orig hor (by decide) hg.1 hg.2.1) rfl rfl ⟨_, _, rfl⟩ (by decide) (Nat.le_of_ble_eq_true rfl) (Nat.le_refl _) (Nat.le_refl _) (by first | exact hk0 | exact hrd.1 | exact hdr.1 | exact hor.1 | exact hcu.1 | exact hfw.1 | exact hpt.1 | exact hrn.1 | exact hdi | assumption) ?_
  refine kr_aload_n (i := 0) hX dX9_startAnew_7 rfl rfl ?_
  refine kr_getr (c0 := 9) (k := 3) hX ⟨_, kf_9_28⟩ dX9_startAnew_8 rfl (by first | exact hk0 | exact hrd.1 | exact hdr.1 | exact hor.1 | exact hcu.1 | exact hfw.1 | exact hpt.1 | exact hrn.1 | exact hdi | assumption) (by assumption) ?_
  refine kr_aload_n (i := 0) hX dX9_startAnew_11 rfl rfl ?_
  refine kr_getr (c0 := 9) (k := 2) hX ⟨_, kf_9_25⟩ dX9_startAnew_12 rfl (by first | exact hk0 | exact hrd.1 | exact hdr.1 | exact hor.1 | exact hcu.1 | exact hfw.1 | exact hpt.1 | exact hrn.1 | exact hdi | assumption) (by assumption) ?_
  refine kr_dV (c1 := 4) [_] hX km_9_110 dX9_startAnew_15 (sp_pcopy hcu (by decide) hor (by decide) hg1.2.1 (by have := hg1.2.1; omega) (by omega) hg1.1 hg1.2.2.2) rfl rfl ⟨_, _, rfl⟩ (by decide) (Nat.le_of_ble_eq_true rfl) (Nat.le_refl _) (Nat.le_refl _) (by first | exact hk0 | exact hrd.1 | exact hdr.1 | exact hor.1 | exact hcu.1 | exact hfw.1 | exact hpt.1 | exact hrn.1 | exact hdi | assumption) ?_
  refine kr_iconst (v := 0) hX dX9_startAnew_18 (by decide) ?_
  refine kr_istore_n (i := 1) hX dX9_startAnew_19 rfl (by decide) rfl rfl ?_
  refine kr_iload_n (i := 1) hX dX9_startAnew_20 rfl rfl ?_
  refine kr_iconst (v := 2) hX dX9_startAnew_21 (by decide) ?_
  refine kr_icmp_ge (tgt := 38) hX dX9_startAnew_22 (by decide) (fun c_22 => ?_) (fun c_22 => ?_)
  · skip
    exact absurd c_22 (by decide)
  · skip
    refine kr_aload_n (i := 0) hX dX9_startAnew_25 rfl rfl ?_
    refine kr_getr (c0 := 9) (k := 5) hX ⟨_, kf_9_35⟩ dX9_startAnew_26 rfl (by first | exact hk0 | exact hrd.1 | exact hdr.1 | exact hor.1 | exact hcu.1 | exact hfw.1 | exact hpt.1 | exact hrn.1 | exact hdi | assumption) (by assumption) ?_
    refine kr_iload_n (i := 1) hX dX9_startAnew_29 rfl rfl ?_
    refine kr_iconst (v := 0) hX dX9_startAnew_30 (by decide) ?_
    refine kr_bast hX dX9_startAnew_31 (by first | exact Or.inl rfl | exact Or.inr rfl | assumption) (by first | exact hk0 | exact hrd.1 | exact hdr.1 | exact hor.1 | exact hcu.1 | exact hfw.1 | exact hpt.1 | exact hrn.1 | exact hdi | assumption) (by unfold vp_in; decide) ?_
    refine kr_iinc (v := 1) hX dX9_startAnew_32 rfl (by decide) (by decide) rfl rfl ?_
    refine kr_goto (tgt := 20) hX dX9_startAnew_35 (by decide) ?_
    refine kr_iload_n (i := 1) hX dX9_startAnew_20 rfl rfl ?_
    refine kr_iconst (v := 2) hX dX9_startAnew_21 (by decide) ?_
    refine kr_icmp_ge (tgt := 38) hX dX9_startAnew_22 (by decide) (fun c_22 => ?_) (fun c_22 => ?_)
    · skip
      exact absurd c_22 (by decide)
    · skip
      refine kr_aload_n (i := 0) hX dX9_startAnew_25 rfl rfl ?_
      refine kr_getr (c0 := 9) (k := 5) hX ⟨_, kf_9_35⟩ dX9_startAnew_26 rfl (by first | exact hk0 | exact hrd.1 | exact hdr.1 | exact hor.1 | exact hcu.1 | exact hfw.1 | exact hpt.1 | exact hrn.1 | exact hdi | assumption) (by assumption) ?_
      refine kr_iload_n (i := 1) hX dX9_startAnew_29 rfl rfl ?_
      refine kr_iconst (v := 0) hX dX9_startAnew_30 (by decide) ?_
      refine kr_bast hX dX9_startAnew_31 (by first | exact Or.inl rfl | exact Or.inr rfl | assumption) (by first | exact hk0 | exact hrd.1 | exact hdr.1 | exact hor.1 | exact hcu.1 | exact hfw.1 | exact hpt.1 | exact hrn.1 | exact hdi | assumption) (by unfold vp_in; decide) ?_
      refine kr_iinc (v := 2) hX dX9_startAnew_32 rfl (by decide) (by decide) rfl rfl ?_
      refine kr_goto (tgt := 20) hX dX9_startAnew_35 (by decide) ?_
      refine kr_iload_n (i := 1) hX dX9_startAnew_20 rfl rfl ?_
      refine kr_iconst (v := 2) hX dX9_startAnew_21 (by decide) ?_
      refine kr_icmp_ge (tgt := 38) hX dX9_startAnew_22 (by decide) (fun c_22 => ?_) (fun c_22 => ?_)
      · skip
        refine kr_aload_n (i := 0) hX dX9_startAnew_38 rfl rfl ?_
        refine kr_iconst (v := 0) hX dX9_startAnew_39 (by decide) ?_
        refine kr_puti (c0 := 9) (k := 15) hX kf_9_87 dX9_startAnew_40 rfl (kt_bz (by first | exact Or.inl rfl | exact Or.inr rfl | assumption)).1 (kt_bz (by first | exact Or.inl rfl | exact Or.inr rfl | assumption)).2 (by first | exact hk0 | exact hrd.1 | exact hdr.1 | exact hor.1 | exact hcu.1 | exact hfw.1 | exact hpt.1 | exact hrn.1 | exact hdi | assumption) ?_
        refine kr_vret hX hr dX9_startAnew_43 ⟨rfl, ?_⟩
        exact ⟨rfl, rfl⟩
      · skip
        exact absurd c_22 (by decide)


/-- the cells of a block -/
def k_cell (d k : Nat) : Prop := (d = 0 ∧ (k = 0 ∨ (4 ≤ k ∧ k ≤ 10))) ∨ (1 ≤ d ∧ d ≤ 3 ∧ k < 4)
def k_same (μ : kt_M) (a : Nat) (μ' : kt_M) (b : Nat) : Prop := ∀ d k, k_cell d k → kt_i μ (a + d) k = kt_i μ' (b + d) k
theorem k_same.trans {μ μ' μ'' : kt_M} {a b c : Nat} (h : k_same μ a μ' b) (h2 : k_same μ' b μ'' c) : k_same μ a μ'' c := fun d k hc => (h d k hc).trans (h2 d k hc)
theorem k_same.keep {μ μ' μ2 : kt_M} {a b : Nat} (h : k_same μ a μ' b) (ho : ∀ d k, d ≤ 3 → kt_i μ2 (a + d) k = kt_i μ (a + d) k) : k_same μ2 a μ' b := fun d k hc => (ho d k (by unfold k_cell at hc; omega)).trans (h d k hc)
theorem k_same.of {μ μ' : kt_M} {a : Nat} (ho : ∀ d k, d ≤ 3 → kt_i μ' (a + d) k = kt_i μ (a + d) k) : k_same μ' a μ a := fun d k hc => ho d k (by unfold k_cell at hc; omega)
set_option maxHeartbeats 4000000 in
theorem kt_cpB_same {μ : kt_M} {p q : Nat} (hne : p + 4 ≤ q ∨ q + 4 ≤ p) : k_same (kt_cpB μ p q) p μ q := by
  intro d k hc
  have g : ∀ d' k', d = d' → k = k' → kt_i (kt_cpB μ p q) (p + d') k' = kt_i μ (q + d') k' → kt_i (kt_cpB μ p q) (p + d) k = kt_i μ (q + d) k := fun d' k' h1 h2 h => by rw [h1, h2]; exact h
  rcases hc with ⟨h1, h2⟩ | ⟨h1, h2, h3⟩
  · have h3 : k = 0 ∨ k = 4 ∨ k = 5 ∨ k = 6 ∨ k = 7 ∨ k = 8 ∨ k = 9 ∨ k = 10 := by omega
    clear h2
    rcases h3 with h | h | h | h | h | h | h | h <;> refine g _ _ h1 h ?_ <;> unfold kt_cpB <;> simp only [Nat.add_zero] <;> repeat (first | rw [kt_i_sie] | rw [kt_i_sik (by decide)] | rw [kt_i_sin (by omega)])
  · have h4 : k = 0 ∨ k = 1 ∨ k = 2 ∨ k = 3 := by omega
    have h5 : d = 1 ∨ d = 2 ∨ d = 3 := by omega
    clear h1 h2 h3
    rcases h5 with h5 | h5 | h5 <;> rcases h4 with h | h | h | h <;> refine g _ _ h5 h ?_ <;> unfold kt_cpB <;> repeat (first | rw [kt_i_sie] | rw [kt_i_sik (by decide)] | rw [kt_i_sin (by omega)])
theorem m_pcpL_3 {p q : Nat} : ∀ (n i : Nat) (μ : kt_M), kt_i μ p 3 = nI i → kt_i (m_pcpL p q n i μ) p 3 = nI (i + n)
  | 0, _, _, h => h
  | n + 1, i, μ, h => by rw [m_pcpL, m_pcpL_3 n (i + 1) _ kt_i_sie]; congr 1; omega
theorem m_pcpL_30 {p q n : Nat} {μ : kt_M} : kt_i (m_pcpL p q n 0 (kt_si μ p 3 0)) p 3 = nI n := by
  have := m_pcpL_3 (q := q) n 0 (kt_si μ p 3 0) (kt_i_sie.trans rfl)
  rw [Nat.zero_add] at this; exact this
theorem m_pcpL_far {p q x k : Nat} : ∀ (n i : Nat) (μ : kt_M), x ≠ p → (x < p + 7 + 4 * i ∨ p + 7 + 4 * (i + n) ≤ x) → kt_i (m_pcpL p q n i μ) x k = kt_i μ x k
  | 0, _, _, _, _ => rfl
  | n + 1, i, μ, h0, h => by rw [m_pcpL, m_pcpL_far n (i + 1) _ h0 (by omega), kt_i_sin (by omega), kt_cpB_out (by omega)]
theorem m_pcpL_same {p q N M : Nat} (hsep : p + 7 + 4 * N ≤ q ∨ q + 7 + 4 * M ≤ p) : ∀ (n i : Nat) (μ : kt_M) (b : Nat), i + n ≤ N → i + n ≤ M → i ≤ b → b < i + n → k_same (m_pcpL p q n i μ) (p + 7 + 4 * b) μ (q + 7 + 4 * b)
  | 0, _, _, _, _, _, _, _ => by omega
  | n + 1, i, μ, b, h1, h2, h3, h4 => by
    rw [m_pcpL]
    by_cases hb : b = i
    · rw [hb]
      refine k_same.keep (k_same.keep (kt_cpB_same (by omega)) (fun d k hd => kt_i_sin (a := p) (k := 3) (v := nI (i + 1)) (by omega))) (fun d k hd => ?_)
      rw [m_pcpL_far n (i + 1) _ (by omega) (by omega)]
    · refine (m_pcpL_same hsep n (i + 1) _ b (by omega) (by omega) (by omega) (by omega)).trans (k_same.of (fun d k hd => ?_))
      rw [kt_i_sin (by omega), kt_cpB_out (by omega)]
/-- a program, copied -/
theorem kp.cp {μ : kt_M} {p N q M t : Nat} (hc : kp μ q M t) (hN : N ≤ 16) (hM : M ≤ 16) (htN : t ≤ N) (hsep : p + 7 + 4 * N ≤ q ∨ q + 7 + 4 * M ≤ p) (hw : kt_i μ (p + 1) 0 = 0) : kp (m_pcpL p q t 0 (kt_si μ p 3 0)) p N t := by
  have h3 : kt_i (m_pcpL p q t 0 (kt_si μ p 3 0)) p 3 = nI t := m_pcpL_30
  have ht := hc.2.1
  have hs : ∀ b, b < t → ∀ k, k_cell 0 k → kt_i (m_pcpL p q t 0 (kt_si μ p 3 0)) (p + 7 + 4 * b) k = kt_i μ (q + 7 + 4 * b) k := fun b hb k hk => by
    have := m_pcpL_same hsep t 0 (kt_si μ p 3 0) b (by omega) (by omega) (by omega) (by omega) 0 k hk
    rw [Nat.add_zero, Nat.add_zero, kt_i_sin (by omega)] at this
    exact this
  refine ⟨h3, htN, fun b => ?_, fun b hb => ?_⟩
  · by_cases h : k_hs (m_pcpL p q t 0 (kt_si μ p 3 0)) p b
    · obtain ⟨j, hj, e⟩ := k_hs_nI h3 (by omega) h
      rw [e, k_at_nI h3 (by omega) hj, hs j hj 0 (Or.inl ⟨rfl, Or.inl rfl⟩), ← k_at_nI hc.1 (by omega) hj]
      exact hc.2.2.1 _
    · rw [show k_at (m_pcpL p q t 0 (kt_si μ p 3 0)) p b = p + 1 from if_neg h, m_pcpL_far t 0 _ (by omega) (by omega), kt_i_sin (by omega), hw]
      exact ⟨0, by omega, rfl⟩
  · rw [hs b hb 6 (Or.inl ⟨rfl, by omega⟩)]; exact hc.2.2.2 b hb
/-- a block in the making: its number of acts, its flag -/
def kb_p (μ : kt_M) (k m : Nat) : Prop := kt_i μ k 0 = nI m ∧ (kt_i μ k 6 = 0 ∨ kt_i μ k 6 = 1)
theorem kb_p.far {μ μ' : kt_M} {k m : Nat} (h : kb_p μ k m) (ho : ∀ j, kt_i μ' k j = kt_i μ k j) : kb_p μ' k m := by unfold kb_p; rw [ho 0, ho 6]; exact h
theorem kb_p.put {μ : kt_M} {k m j : Nat} {v : Int32} (h : kb_p μ k m) (h0 : j ≠ 0) (h6 : j ≠ 6) : kb_p (kt_si μ k j v) k m := by unfold kb_p; rw [kt_i_sik (Ne.symm h0), kt_i_sik (Ne.symm h6)]; exact h
theorem kb_p.put6 {μ : kt_M} {k m : Nat} {v : Int32} (h : kb_p μ k m) (hv : v = 0 ∨ v = 1) : kb_p (kt_si μ k 6 v) k m := by unfold kb_p; rw [kt_i_sik (by decide), kt_i_sie]; exact ⟨h.1, hv⟩
theorem kb_p.tgt {μ : kt_M} {p k m : Nat} {s : Int32} (h : kb_p μ k m) (hk : k ≠ p) : kb_p (q_tgt μ p k s).2 k m := by
  unfold q_tgt; rw [kt_seal_eq]; unfold b_tgt
  exact (h.far (fun j => a_num_out hk)).put (by split <;> decide) (by split <;> decide)
theorem kb_p.test4 {μ : kt_M} {p k m : Nat} (h : kb_p μ k m) (hk : k ≠ p) : kb_p (b_test4 μ p k).2 k m := by
  unfold b_test4; dsimp only
  refine kb_p.put (h.far (fun j => ?_)) (by decide) (by decide)
  split
  · exact a_num_out hk
  · exact a_var_out hk
theorem kb_p.test3 {μ : kt_M} {p k m : Nat} {c : Int32} (h : kb_p μ k m) (hk : k ≠ p) : kb_p (b_test3 μ p k c).2 k m := by
  unfold b_test3; dsimp only
  have h1 : kb_p (a_sgn μ p c).2 k m := h.far (fun j => a_sgn_out hk)
  split
  · exact h1
  · refine kb_p.test4 (h1.put6 ?_) hk
    split
    · exact Or.inr rfl
    · exact Or.inl rfl
theorem kb_p.test {μ : kt_M} {p k m : Nat} (h : kb_p μ k m) (hk : k ≠ p) : kb_p (q_test μ p k).2 k m := by
  unfold q_test; rw [kt_seal_eq]; unfold b_test; dsimp only
  have h1 : kb_p (kt_si (a_var μ p).2 k 5 (a_var μ p).1) k m := (h.far (fun j => a_var_out hk)).put (by decide) (by decide)
  split
  · unfold b_test2; dsimp only
    exact (h1.put (by decide) (by decide)).test3 hk
  · exact h1
theorem kb_p.adv {μ : kt_M} {p k m : Nat} (h : kb_p μ k m) (hk : k ≠ p) : kb_p (a_adv μ p).2 k m := h.far (fun j => a_adv_out hk)
theorem kb_p.and {a : Int32 × kt_M} {f : kt_M → Int32 × kt_M} {k m : Nat} (h : kb_p a.2 k m) (hf : kb_p (f a.2).2 k m) : kb_p (b_and a f).2 k m := by
  unfold b_and; split
  · exact h
  · exact hf
theorem kb_p.last {μ : kt_M} {p k m : Nat} (h : kb_p μ k m) (hk : k ≠ p) : kb_p (b_last μ p k).2 k m := by
  have h1 : kb_p (q_end μ p k).2 k m := by
    unfold q_end; rw [kt_seal_eq]; unfold b_end
    split
    · exact (h.put (by decide) (by decide)).adv hk
    · split
      · exact kb_p.and ((h.put (by decide) (by decide)).adv hk) (((h.put (by decide) (by decide)).adv hk).tgt hk)
      · split
        · exact kb_p.and (h.adv hk) (kb_p.and ((h.adv hk).test hk) (kb_p.and (((h.adv hk).test hk).tgt hk) ((((h.adv hk).test hk).tgt hk).tgt hk)))
        · exact h.far (fun j => m_fail_out hk)
  exact kb_p.and h1 (h1.far (fun j => q_sgn_out hk))
theorem m_add_6 {μ : kt_M} {k m : Nat} {a b c : Int32} : kt_i (m_add μ k a b c) k 6 = kt_i μ k 6 := by
  unfold m_add; rw [kt_i_sik (by decide), kt_i_sin (by omega), kt_i_sin (by omega), kt_i_sin (by omega)]
theorem b_act_6 {μ : kt_M} {p k : Nat} {a : Int32} (hk : k ≠ p) : kt_i (q_bact μ p k a).2 k 6 = kt_i μ k 6 := by
  unfold q_bact; rw [kt_seal_eq]; unfold b_act
  split
  · exact a_adv_out hk
  · unfold b_act2
    split
    · unfold b_act3
      split
      · show kt_i (m_add _ k _ _ _) k 6 = _
        rw [m_add_6 (m := 0), b_opn_out hk, q_var_out hk, a_adv_out hk]
      · rw [b_opn_out hk, q_var_out hk, a_adv_out hk]
    · rw [q_var_out hk, a_adv_out hk]
theorem b_blkL_p {p k : Nat} (hk : k + 4 ≤ p ∨ p + 2 ≤ k) : ∀ (n m : Nat) (μ : kt_M), kb_p μ k m → ¬ (b_blkL p k n μ).1 = 0 → ∃ m2, m2 ≤ m + n ∧ kb_p (b_blkL p k n μ).2 k m2
  | 0, m, μ, h, h0 => by
    rw [b_blkL] at h0 ⊢
    split
    · exact ⟨m, by omega, h.last (by omega)⟩
    · rename_i hh; rw [if_neg hh] at h0; exact absurd rfl h0
  | n + 1, m, μ, h, h0 => by
    rw [b_blkL] at h0 ⊢
    split
    · rename_i h1
      rw [if_pos h1] at h0
      split
      · rename_i h2; rw [if_pos h2] at h0; exact absurd rfl h0
      · rename_i h2
        rw [if_neg h2] at h0
        have h3 : kb_p (q_bact μ p k (q_act μ p)).2 k (m + 1) := ⟨by rw [q_bact_0 hk h2, h.1]; exact nI_1 m, by rw [b_act_6 (by omega)]; exact h.2⟩
        obtain ⟨m2, hm, h4⟩ := b_blkL_p hk n (m + 1) _ h3 h0
        exact ⟨m2, by omega, h4⟩
    · exact ⟨m, by omega, h.last (by omega)⟩
theorem q_blk_p {μ : kt_M} {p k : Nat} (hk : k + 4 ≤ p ∨ p + 2 ≤ k) (h : kb_p μ k 0) (h0 : ¬ (q_blk μ p k).1 = 0) : ∃ m2, m2 ≤ 4 ∧ kb_p (q_blk μ p k).2 k m2 := by
  unfold q_blk at h0 ⊢
  rw [kt_seal_eq] at h0 ⊢
  obtain ⟨m2, hm, h4⟩ := b_blkL_p hk 4 0 μ h h0
  exact ⟨m2, by omega, h4⟩
theorem m_wipe_6 {μ : kt_M} {k : Nat} : kt_i (m_wipe μ k) k 6 = 0 := by
  unfold m_wipe; rw [kt_i_sik (by decide), kt_i_sik (by decide), kt_i_sik (by decide), kt_i_sik (by decide), kt_i_sie]
/-- the draft in the making -/
def kd_p (μ : kt_M) (q s : Nat) : Prop := kt_i μ q 3 = nI s ∧ kt_i μ (q + 1) 0 = 0 ∧ ∀ b, b < s → ∃ m, m ≤ 4 ∧ kb_p μ (q + 7 + 4 * b) m
theorem kd_p.kp {μ : kt_M} {q N s : Nat} (h : kd_p μ q s) (hs : s ≤ N) (hN : N ≤ 16) : kp μ q N s := by
  refine ⟨h.1, hs, fun b => ?_, fun b hb => ?_⟩
  · by_cases hb : k_hs μ q b
    · obtain ⟨j, hj, e⟩ := k_hs_nI h.1 (by omega) hb
      rw [e, k_at_nI h.1 (by omega) hj]
      obtain ⟨m, hm, h2⟩ := h.2.2 j hj
      exact ⟨m, hm, h2.1⟩
    · rw [show k_at μ q b = q + 1 from if_neg hb, h.2.1]; exact ⟨0, by omega, rfl⟩
  · obtain ⟨m, hm, h2⟩ := h.2.2 b hb
    exact h2.2
theorem p_fin_d {μ : kt_M} {p q s : Nat} (hsep : q + 39 ≤ p ∨ p + 2 ≤ q) (h : kd_p μ q s) (h0 : ¬ (p_fin μ p q s).1 = 0) : (p_fin μ p q s).2 = μ := by
  unfold p_fin at h0 ⊢
  split
  · rename_i h1; rw [if_pos h1] at h0
    split
    · rfl
    · rename_i h2; rw [if_neg h2] at h0; exact absurd rfl h0
  · rename_i h1; rw [if_neg h1] at h0; exact absurd rfl h0
theorem p_prL_d {p q : Nat} (hsep : q + 39 ≤ p ∨ p + 2 ≤ q) : ∀ (n i : Nat) (μ : kt_M), i + n = 8 → kd_p μ q i → ¬ (p_prL p q n i μ).1 = 0 → ∃ s, s ≤ 8 ∧ kd_p (p_prL p q n i μ).2 q s
  | 0, i, μ, hi, h, h0 => by
    rw [p_prL] at h0 ⊢
    rw [p_fin_d hsep h h0]; exact ⟨i, by omega, h⟩
  | n + 1, i, μ, hi, h, h0 => by
    rw [p_prL] at h0 ⊢
    split
    · rename_i h1; rw [if_pos h1] at h0
      rw [p_fin_d hsep h h0]; exact ⟨i, by omega, h⟩
    · rename_i h1; rw [if_neg h1] at h0
      split
      · rename_i h2; rw [if_pos h2] at h0; exact absurd rfl h0
      · rename_i h2; rw [if_neg h2] at h0
        have hg : kb_p (p_grw μ q i) (q + 7 + 4 * i) 0 := by
          unfold p_grw kb_p
          rw [kt_i_sin (by omega), kt_i_sin (by omega), m_wipe_0, m_wipe_6]; exact ⟨rfl, Or.inl rfl⟩
        obtain ⟨m2, hm2, hk2⟩ := q_blk_p (by omega) hg h2
        refine p_prL_d hsep n (i + 1) _ (by omega) ⟨?_, ?_, fun b hb => ?_⟩ h0
        · rw [q_blk_out (by omega)]; unfold p_grw; rw [kt_i_sie]
        · rw [q_blk_out (by omega), p_grw_out (by omega)]; exact h.2.1
        · by_cases hbi : b = i
          · rw [hbi]; exact ⟨m2, hm2, hk2⟩
          · obtain ⟨m, hm, hk⟩ := h.2.2 b (by omega)
            exact ⟨m, hm, hk.far (fun j => by rw [q_blk_out (by omega), p_grw_out (by omega)])⟩
noncomputable def q_prs (μ : kt_M) (p q : Nat) : Int32 × kt_M := kt_seal (p_prs μ p q)
theorem q_prs_d {μ : kt_M} {p q : Nat} (hsep : q + 39 ≤ p ∨ p + 2 ≤ q) (hw : kt_i μ (q + 1) 0 = 0) (h0 : ¬ (q_prs μ p q).1 = 0) : ∃ s, s ≤ 8 ∧ kd_p (q_prs μ p q).2 q s := by
  unfold q_prs at h0 ⊢
  rw [kt_seal_eq] at h0 ⊢
  unfold p_prs at h0 ⊢
  split
  · rename_i h1; rw [if_pos h1] at h0; exact absurd rfl h0
  · rename_i h1; rw [if_neg h1] at h0
    refine p_prL_d hsep 8 0 _ (by omega) ⟨?_, ?_, fun b hb => by omega⟩ h0
    · rw [a_adv_out (by omega)]; unfold p_ini; rw [kt_i_sin (by omega), kt_i_sin (by omega), kt_i_sie]; rfl
    · rw [a_adv_out (by omega)]; unfold p_ini; rw [kt_i_sin (by omega), kt_i_sin (by omega), kt_i_sin (by omega)]; exact hw
theorem p_fin_out {μ : kt_M} {p q s x k : Nat} (h : x ≠ p) : kt_i (p_fin μ p q s).2 x k = kt_i μ x k := by
  unfold p_fin
  split
  · split
    · rfl
    · exact m_fail_out h
  · exact m_fail_out h
theorem p_prL_out {p q x k : Nat} (h : x ≠ p ∧ (x < q ∨ q + 39 ≤ x)) : ∀ (n i : Nat) (μ : kt_M), i + n = 8 → kt_i (p_prL p q n i μ).2 x k = kt_i μ x k
  | 0, _, _, _ => p_fin_out h.1
  | n + 1, i, μ, hi => by
    rw [p_prL]
    split
    · exact p_fin_out h.1
    · split
      · rw [q_blk_out (by omega), p_grw_out (by omega)]
      · rw [p_prL_out h n (i + 1) _ (by omega), q_blk_out (by omega), p_grw_out (by omega)]
theorem q_prs_out {μ : kt_M} {p q x k : Nat} (h : x ≠ p ∧ (x < q ∨ q + 39 ≤ x)) : kt_i (q_prs μ p q).2 x k = kt_i μ x k := by
  unfold q_prs
  rw [kt_seal_eq]
  unfold p_prs
  have h1 : kt_i (a_adv (p_ini μ p q) p).2 x k = kt_i μ x k := by
    rw [a_adv_out h.1]; unfold p_ini; rw [kt_i_sin h.1, kt_i_sin h.1, kt_i_sin (by omega)]
  split
  · exact h1
  · rw [p_prL_out h 8 0 _ (by omega)]; exact h1
noncomputable def ut_tx1 (μ : kt_M) (o : Nat) : kt_M := kt_si (q_prs μ (o + 1) (o + 3)).2 (o + 1) 1 0
noncomputable def ut_cpo (μ : kt_M) (o t : Nat) : kt_M := m_pcpL (o + 42) (o + 3) t 0 (kt_si μ (o + 42) 3 0)
noncomputable def ut_text (μ : kt_M) (o : Nat) : Int32 × kt_M :=
  if (q_prs μ (o + 1) (o + 3)).1 = 0 then (-10 - kt_i (ut_tx1 μ o) (o + 1) 3, ut_tx1 μ o)
  else (kt_i (ut_tx1 μ o) (o + 3) 3, ut_new (ut_cpo (ut_tx1 μ o) o (kt_i (ut_tx1 μ o) (o + 3) 3).toNatClampNeg) o (kt_i (ut_tx1 μ o) (o + 3) 3).toNatClampNeg)
theorem ut_new_o3 {μ : kt_M} {o s : Nat} (hs : s ≤ 8) : kt_i (ut_new μ o s) (o + 42) 3 = kt_i μ (o + 42) 3 := by
  unfold ut_new; rw [kt_i_sin (by omega), kt_i_sin (by omega), kt_i_sin (by omega), m_pcpL_out _ _ _ (by omega), kt_i_sin (by omega), m_orgL_out (by decide)]
def ut_im (o : Nat) (k : Int32) : Nat := o + 372 + 71 * k.toNatClampNeg
noncomputable def ut_keep (μ : kt_M) (o : Nat) (k : Int32) : Int32 × kt_M :=
  if k_wi k 1 then (kt_i μ (o + 153) k.toNatClampNeg, kt_si (m_pcpL (ut_im o k) (o + 81) (kt_i μ (o + 81) 3).toNatClampNeg 0 (kt_si μ (ut_im o k) 3 0)) (o + 153) k.toNatClampNeg 1) else (-1, μ)
noncomputable def ut_back (μ : kt_M) (o : Nat) (k : Int32) : Int32 × kt_M :=
  if k_wi k 1 then (if kt_i μ (o + 153) k.toNatClampNeg = 0 then (-2, μ) else (kt_i μ (ut_im o k) 3, kt_si (m_pcpL (o + 81) (ut_im o k) (kt_i μ (ut_im o k) 3).toNatClampNeg 0 (kt_si μ (o + 81) 3 0)) o 15 0)) else (-1, μ)
def ut_lead (μ : kt_M) (o : Nat) (b t x : Int32) : Int32 × kt_M :=
  if k_he μ (o + 42) b t ∧ k_hs μ (o + 42) x then (k_tg μ (k_at μ (o + 42) b) t, ut_new (kt_si μ (k_at μ (o + 42) b) (if t = 0 then 8 else 9) x) o (kt_i μ (o + 42) 3).toNatClampNeg) else (-1, μ)
theorem kp.aim {μ : kt_M} {q N s a : Nat} {t x : Int32} (hc : kp μ q N s) (ha : a ≠ q) : kp (kt_si μ a (if t = 0 then 8 else 9) x) q N s := by
  have hq : ∀ k, kt_i (kt_si μ a (if t = 0 then 8 else 9) x) q k = kt_i μ q k := fun k => kt_i_sin (Ne.symm ha)
  have hf : ∀ y k, k ≠ 8 → k ≠ 9 → kt_i (kt_si μ a (if t = 0 then 8 else 9) x) y k = kt_i μ y k := fun y k h1 h2 => kt_i_sik (by split <;> assumption)
  refine ⟨by rw [hq]; exact hc.1, hc.2.1, fun b => ?_, fun b hb => ?_⟩
  · rw [k_at_eq (hq 3), hf _ _ (by decide) (by decide)]; exact hc.2.2.1 b
  · rw [hf _ _ (by decide) (by decide)]; exact hc.2.2.2 b hb
/-- a block that the dice make -/
def d_blk0 (μ : kt_M) (p b : Nat) : kt_M := d_end (d_actsL p b (d_val μ p 4).toNatClampNeg (d_nx μ p)) p b
noncomputable def d_blk (μ : kt_M) (p b : Nat) (m : Int32) : kt_M := kt_seal (d_aimL p b m (k_ne (d_blk0 μ p b) b) 0 (d_blk0 μ p b))
theorem sp_parseS {G : kt_G} {σ : kt_Y} {μ : kt_M} {p : Nat} (hp : kt_rd σ p) {q : Nat} (hq : kt_pg σ q 8) (hsep : q + 39 ≤ p ∨ p + 2 ≤ q) {L : Nat} (hL : kt_i μ p 1 = nI L) (hL2 : L ≤ 200) : kt_F G yX6_parse cX6_parse 3 (some .boolean) 7 [.ref p, .ref q] σ μ (fun r μ2 => r = some (.int (q_prs μ p q).1) ∧ μ2 = (q_prs μ p q).2) := by
  unfold q_prs
  rw [kt_seal_eq]
  exact sp_parse hp hq hsep hL hL2
set_option maxHeartbeats 4000000 in
set_option maxRecDepth 100000 in
theorem sp_text {G : kt_G} {σ : kt_Y} {μ : kt_M} {o : Nat} (hp : kt_kt σ o) {L : Nat} (hL : kt_i μ (o + 1) 1 = nI L) (hL2 : L ≤ 200) (hd : kt_i μ (o + 3 + 1) 0 = 0) (hw : kt_i μ (o + 42 + 1) 0 = 0) : kt_F G yX9_text cX9_text 2 (some .int) 8 [.ref o] σ μ (fun r μ2 => r = some (.int (ut_text μ o).1) ∧ μ2 = (ut_text μ o).2) := by
  refine kt_F.of (by decide) (Nat.le_of_ble_eq_true rfl) (fun X hX hr => ?_)
  have hp0 := hp
  obtain ⟨hk0, hr0, hr1, hr2, hr3, hr4, hr5, hr6, hr7, hr8, hr9, hr10, hr11, hr12, hk152, hk153, hk369, hk370, hk371, hrd, hdr, hor, hcu, hfw, hpt, hrn, hdi, him, hsh⟩ := hp
  have hkd : ¬ (q_prs μ (o + 1) (o + 3)).1 = 0 → ∃ s, (kt_i (ut_tx1 μ o) (o + 3) 3).toNatClampNeg = s ∧ kt_i (ut_tx1 μ o) (o + 3) 3 = nI s ∧ s ≤ 8 ∧ kp (ut_tx1 μ o) (o + 3) 8 s ∧ kp (ut_cpo (ut_tx1 μ o) o s) (o + 42) 8 s := fun h0 => by
    obtain ⟨s, hs, h⟩ := q_prs_d (by omega) hd h0
    have e3 : ∀ k, kt_i (ut_tx1 μ o) (o + 3) k = kt_i (q_prs μ (o + 1) (o + 3)).2 (o + 3) k := fun k => kt_i_sin (by omega)
    have hk : kp (ut_tx1 μ o) (o + 3) 8 s := (h.kp hs (by decide)).keep (by decide) (fun x k h1 h2 => kt_i_sin (by omega))
    refine ⟨s, by rw [hk.1]; exact nI_clamp (by omega), hk.1, hs, hk, ?_⟩
    exact hk.cp (by decide) (by decide) hs (by omega) (by unfold ut_tx1; rw [kt_i_sin (by omega), q_prs_out (by omega)]; exact hw)
  refine kr_aload_n (i := 0) hX dX9_text_0 rfl rfl ?_
  refine kr_getr (c0 := 9) (k := 0) hX ⟨_, kf_9_10⟩ dX9_text_1 rfl (by first | exact hk0 | exact hrd.1 | exact hdr.1 | exact hor.1 | exact hcu.1 | exact hfw.1 | exact hpt.1 | exact hrn.1 | exact hdi | assumption) (by assumption) ?_
  refine kr_aload_n (i := 0) hX dX9_text_4 rfl rfl ?_
  refine kr_getr (c0 := 9) (k := 1) hX ⟨_, kf_9_21⟩ dX9_text_5 rfl (by first | exact hk0 | exact hrd.1 | exact hdr.1 | exact hor.1 | exact hcu.1 | exact hfw.1 | exact hpt.1 | exact hrn.1 | exact hdi | assumption) (by assumption) ?_
  refine kr_dV (c1 := 6) [_] hX km_9_103 dX9_text_8 (sp_parseS hrd hdr (by omega) hL hL2) rfl rfl ⟨_, _, rfl⟩ (by decide) (Nat.le_of_ble_eq_true rfl) (Nat.le_refl _) (Nat.le_refl _) (by first | exact hk0 | exact hrd.1 | exact hdr.1 | exact hor.1 | exact hcu.1 | exact hfw.1 | exact hpt.1 | exact hrn.1 | exact hdi | assumption) ?_
  refine kr_istore_n (i := 1) hX dX9_text_11 rfl (by decide) rfl rfl ?_
  refine kr_aload_n (i := 0) hX dX9_text_12 rfl rfl ?_
  refine kr_getr (c0 := 9) (k := 0) hX ⟨_, kf_9_10⟩ dX9_text_13 rfl (by first | exact hk0 | exact hrd.1 | exact hdr.1 | exact hor.1 | exact hcu.1 | exact hfw.1 | exact hpt.1 | exact hrn.1 | exact hdi | assumption) (by assumption) ?_
  refine kr_iconst (v := 0) hX dX9_text_16 (by decide) ?_
  refine kr_puti (c0 := 6) (k := 1) hX kf_9_100 dX9_text_17 rfl rfl rfl (by first | exact hk0 | exact hrd.1 | exact hdr.1 | exact hor.1 | exact hcu.1 | exact hfw.1 | exact hpt.1 | exact hrn.1 | exact hdi | assumption) ?_
  refine kr_iload_n (i := 1) hX dX9_text_20 rfl rfl ?_
  refine kr_if_ne (tgt := 35) hX dX9_text_21 (by decide) (fun c_21 => ?_) (fun c_21 => ?_)
  · skip
    obtain ⟨s, es, hs3, hs8, hskp, hs42⟩ := hkd c_21
    refine kr_aload_n (i := 0) hX dX9_text_35 rfl rfl ?_
    refine kr_getr (c0 := 9) (k := 2) hX ⟨_, kf_9_25⟩ dX9_text_36 rfl (by first | exact hk0 | exact hrd.1 | exact hdr.1 | exact hor.1 | exact hcu.1 | exact hfw.1 | exact hpt.1 | exact hrn.1 | exact hdi | assumption) (by assumption) ?_
    refine kr_aload_n (i := 0) hX dX9_text_39 rfl rfl ?_
    refine kr_getr (c0 := 9) (k := 1) hX ⟨_, kf_9_21⟩ dX9_text_40 rfl (by first | exact hk0 | exact hrd.1 | exact hdr.1 | exact hor.1 | exact hcu.1 | exact hfw.1 | exact hpt.1 | exact hrn.1 | exact hdi | assumption) (by assumption) ?_
    refine kr_dV (c1 := 4) [_] hX km_9_110 dX9_text_43 (sp_pcopy hor (by decide) hdr (by decide) hs8 hs8 (by omega) hs3 hskp.2.2.2) rfl rfl ⟨_, _, rfl⟩ (by decide) (Nat.le_of_ble_eq_true rfl) (Nat.le_refl _) (Nat.le_refl _) (by first | exact hk0 | exact hrd.1 | exact hdr.1 | exact hor.1 | exact hcu.1 | exact hfw.1 | exact hpt.1 | exact hrn.1 | exact hdi | assumption) ?_
    refine kr_aload_n (i := 0) hX dX9_text_46 rfl rfl ?_
    refine kr_dV (c1 := 9) [] hX km_9_114 dX9_text_47 (sp_new hp0 hs42) rfl rfl ⟨_, _, rfl⟩ (by decide) (Nat.le_of_ble_eq_true rfl) (Nat.le_refl _) (Nat.le_refl _) (by first | exact hk0 | exact hrd.1 | exact hdr.1 | exact hor.1 | exact hcu.1 | exact hfw.1 | exact hpt.1 | exact hrn.1 | exact hdi | assumption) ?_
    refine kr_aload_n (i := 0) hX dX9_text_50 rfl rfl ?_
    refine kr_getr (c0 := 9) (k := 2) hX ⟨_, kf_9_25⟩ dX9_text_51 rfl (by first | exact hk0 | exact hrd.1 | exact hdr.1 | exact hor.1 | exact hcu.1 | exact hfw.1 | exact hpt.1 | exact hrn.1 | exact hdi | assumption) (by assumption) ?_
    refine kr_geti (c0 := 4) (k := 3) hX ⟨_, kf_9_117⟩ dX9_text_54 rfl (by first | exact hk0 | exact hrd.1 | exact hdr.1 | exact hor.1 | exact hcu.1 | exact hfw.1 | exact hpt.1 | exact hrn.1 | exact hdi | assumption) ?_
    refine kr_iret hX hr dX9_text_57 ⟨rfl, ?_⟩
    rw [show ut_text μ o = _ from if_neg c_21, es]
    refine ⟨?_, rfl⟩
    have h42 := hs42.1
    unfold ut_cpo ut_tx1 at h42
    rw [ut_new_o3 hs8, h42]
    show some (Value.int (nI s)) = some (Value.int (kt_i (ut_tx1 μ o) (o + 3) 3))
    rw [hs3]
  · skip
    refine kr_bipush (v := (-10)) hX dX9_text_24 (by decide) ?_
    refine kr_aload_n (i := 0) hX dX9_text_26 rfl rfl ?_
    refine kr_getr (c0 := 9) (k := 0) hX ⟨_, kf_9_10⟩ dX9_text_27 rfl (by first | exact hk0 | exact hrd.1 | exact hdr.1 | exact hor.1 | exact hcu.1 | exact hfw.1 | exact hpt.1 | exact hrn.1 | exact hdi | assumption) (by assumption) ?_
    refine kr_geti (c0 := 6) (k := 3) hX ⟨_, kf_9_107⟩ dX9_text_30 rfl (by first | exact hk0 | exact hrd.1 | exact hdr.1 | exact hor.1 | exact hcu.1 | exact hfw.1 | exact hpt.1 | exact hrn.1 | exact hdi | assumption) ?_
    refine kr_isub hX dX9_text_33 ?_
    refine kr_iret hX hr dX9_text_34 ⟨rfl, ?_⟩
    rw [show ut_text μ o = _ from if_pos c_21]
    exact ⟨rfl, rfl⟩

set_option maxHeartbeats 4000000 in
set_option maxRecDepth 100000 in
theorem sp_ukeep {G : kt_G} {σ : kt_Y} {μ : kt_M} {o : Nat} (hp : kt_kt σ o) {s : Nat} (hc : kp μ (o + 81) 16 s) (hkk : kt_01 μ (o + 153)) {k : Int32} : kt_F G yX9_keep cX9_keep 3 (some .int) 3 [.ref o, .int k] σ μ (fun r μ2 => r = some (.int (ut_keep μ o k).1) ∧ μ2 = (ut_keep μ o k).2) := by
  refine kt_F.of (by decide) (Nat.le_of_ble_eq_true rfl) (fun X hX hr => ?_)
  have hp0 := hp
  obtain ⟨hk0, hr0, hr1, hr2, hr3, hr4, hr5, hr6, hr7, hr8, hr9, hr10, hr11, hr12, hk152, hk153, hk369, hk370, hk371, hrd, hdr, hor, hcu, hfw, hpt, hrn, hdi, him, hsh⟩ := hp
  have hki : ∀ k : Int32, k_wi k 1 → vp_in k 2 ∧ k.toNatClampNeg < 2 := fun k h => by
    obtain ⟨j, hj, e⟩ := k_wi_nI h (n := 2) (by decide) (by decide)
    exact ⟨k_wi_in h (by decide), by rw [e, nI_clamp (by omega)]; exact hj⟩
  have es : (kt_i μ (o + 81) 3).toNatClampNeg = s := by rw [hc.1]; exact nI_clamp (by have := hc.2.1; omega)
  have hlt : k_wi k 1 → k.toNatClampNeg < 2 := fun h => (hki k h).2
  refine kr_iload_n (i := 1) hX dX9_keep_0 rfl rfl ?_
  refine kr_iconst (v := 1) hX dX9_keep_1 (by decide) ?_
  refine kr_dS [_, _] hX km_9_92 dX9_keep_2 (sp_within) rfl rfl (by decide) (Nat.le_of_ble_eq_true rfl) (Nat.le_refl _) (Nat.le_refl _) ?_
  refine kr_if_ne (tgt := 10) hX dX9_keep_5 (by decide) (fun c_5 => ?_) (fun c_5 => ?_)
  · skip
    refine kr_aload_n (i := 0) hX dX9_keep_10 rfl rfl ?_
    refine kr_getr (c0 := 9) (k := 5) hX ⟨_, kf_9_35⟩ dX9_keep_11 rfl (by first | exact hk0 | exact hrd.1 | exact hdr.1 | exact hor.1 | exact hcu.1 | exact hfw.1 | exact hpt.1 | exact hrn.1 | exact hdi | assumption) (by assumption) ?_
    refine kr_iload_n (i := 1) hX dX9_keep_14 rfl rfl ?_
    refine kr_bald hX dX9_keep_15 (by first | exact hk0 | exact hrd.1 | exact hdr.1 | exact hor.1 | exact hcu.1 | exact hfw.1 | exact hpt.1 | exact hrn.1 | exact hdi | assumption) (by simp only [kt_f_0, Classical.not_not] at c_5; exact (hki k c_5).1) ?_
    refine kr_if_eq (tgt := 23) hX dX9_keep_16 (by decide) (fun c_16 => ?_) (fun c_16 => ?_)
    · skip
      refine kr_iconst (v := 0) hX dX9_keep_23 (by decide) ?_
      refine kr_istore_n (i := 2) hX dX9_keep_24 rfl (by decide) rfl rfl ?_
      refine kr_aload_n (i := 0) hX dX9_keep_25 rfl rfl ?_
      refine kr_getr (c0 := 9) (k := 4) hX ⟨_, kf_9_31⟩ dX9_keep_26 rfl (by first | exact hk0 | exact hrd.1 | exact hdr.1 | exact hor.1 | exact hcu.1 | exact hfw.1 | exact hpt.1 | exact hrn.1 | exact hdi | assumption) (by assumption) ?_
      refine kr_iload_n (i := 1) hX dX9_keep_29 rfl rfl ?_
      refine kr_aald (t := 1) hX dX9_keep_30 (by decide) (by first | exact hk0 | exact hrd.1 | exact hdr.1 | exact hor.1 | exact hcu.1 | exact hfw.1 | exact hpt.1 | exact hrn.1 | exact hdi | assumption) (by simp only [kt_f_0, Classical.not_not] at c_5; exact (hki k c_5).1) (by simp only [kt_f_0, Classical.not_not] at c_5; exact (him _ (hki k c_5).2).1) ?_
      refine kr_aload_n (i := 0) hX dX9_keep_31 rfl rfl ?_
      refine kr_getr (c0 := 9) (k := 3) hX ⟨_, kf_9_28⟩ dX9_keep_32 rfl (by first | exact hk0 | exact hrd.1 | exact hdr.1 | exact hor.1 | exact hcu.1 | exact hfw.1 | exact hpt.1 | exact hrn.1 | exact hdi | assumption) (by assumption) ?_
      refine kr_dV (c1 := 4) [_] hX km_9_110 dX9_keep_35 (sp_pcopy (him _ (by simp only [kt_f_0, Classical.not_not] at c_5; exact (hki k c_5).2)).2 (by decide) hcu (by decide) hc.2.1 hc.2.1 (by omega) hc.1 hc.2.2.2) rfl rfl ⟨_, _, rfl⟩ (by decide) (Nat.le_of_ble_eq_true rfl) (Nat.le_refl _) (Nat.le_refl _) (by simp only [kt_f_0, Classical.not_not] at c_5; exact (him _ (hki k c_5).2).2.1) ?_
      refine kr_aload_n (i := 0) hX dX9_keep_38 rfl rfl ?_
      refine kr_getr (c0 := 9) (k := 5) hX ⟨_, kf_9_35⟩ dX9_keep_39 rfl (by first | exact hk0 | exact hrd.1 | exact hdr.1 | exact hor.1 | exact hcu.1 | exact hfw.1 | exact hpt.1 | exact hrn.1 | exact hdi | assumption) (by assumption) ?_
      refine kr_iload_n (i := 1) hX dX9_keep_42 rfl rfl ?_
      refine kr_iconst (v := 1) hX dX9_keep_43 (by decide) ?_
      refine kr_bast hX dX9_keep_44 (by first | exact Or.inl rfl | exact Or.inr rfl | assumption) (by first | exact hk0 | exact hrd.1 | exact hdr.1 | exact hor.1 | exact hcu.1 | exact hfw.1 | exact hpt.1 | exact hrn.1 | exact hdi | assumption) (by simp only [kt_f_0, Classical.not_not] at c_5; exact (hki k c_5).1) ?_
      refine kr_iload_n (i := 2) hX dX9_keep_45 rfl rfl ?_
      refine kr_iret hX hr dX9_keep_46 ⟨rfl, ?_⟩
      simp only [kt_f_0, Classical.not_not] at c_5
      rw [show ut_keep μ o k = _ from if_pos c_5, es]
      refine ⟨?_, rfl⟩
      rw [c_16]
    · skip
      refine kr_iconst (v := 1) hX dX9_keep_19 (by decide) ?_
      refine kr_goto (tgt := 24) hX dX9_keep_20 (by decide) ?_
      refine kr_istore_n (i := 2) hX dX9_keep_24 rfl (by decide) rfl rfl ?_
      refine kr_aload_n (i := 0) hX dX9_keep_25 rfl rfl ?_
      refine kr_getr (c0 := 9) (k := 4) hX ⟨_, kf_9_31⟩ dX9_keep_26 rfl (by first | exact hk0 | exact hrd.1 | exact hdr.1 | exact hor.1 | exact hcu.1 | exact hfw.1 | exact hpt.1 | exact hrn.1 | exact hdi | assumption) (by assumption) ?_
      refine kr_iload_n (i := 1) hX dX9_keep_29 rfl rfl ?_
      refine kr_aald (t := 1) hX dX9_keep_30 (by decide) (by first | exact hk0 | exact hrd.1 | exact hdr.1 | exact hor.1 | exact hcu.1 | exact hfw.1 | exact hpt.1 | exact hrn.1 | exact hdi | assumption) (by simp only [kt_f_0, Classical.not_not] at c_5; exact (hki k c_5).1) (by simp only [kt_f_0, Classical.not_not] at c_5; exact (him _ (hki k c_5).2).1) ?_
      refine kr_aload_n (i := 0) hX dX9_keep_31 rfl rfl ?_
      refine kr_getr (c0 := 9) (k := 3) hX ⟨_, kf_9_28⟩ dX9_keep_32 rfl (by first | exact hk0 | exact hrd.1 | exact hdr.1 | exact hor.1 | exact hcu.1 | exact hfw.1 | exact hpt.1 | exact hrn.1 | exact hdi | assumption) (by assumption) ?_
      refine kr_dV (c1 := 4) [_] hX km_9_110 dX9_keep_35 (sp_pcopy (him _ (by simp only [kt_f_0, Classical.not_not] at c_5; exact (hki k c_5).2)).2 (by decide) hcu (by decide) hc.2.1 hc.2.1 (by omega) hc.1 hc.2.2.2) rfl rfl ⟨_, _, rfl⟩ (by decide) (Nat.le_of_ble_eq_true rfl) (Nat.le_refl _) (Nat.le_refl _) (by simp only [kt_f_0, Classical.not_not] at c_5; exact (him _ (hki k c_5).2).2.1) ?_
      refine kr_aload_n (i := 0) hX dX9_keep_38 rfl rfl ?_
      refine kr_getr (c0 := 9) (k := 5) hX ⟨_, kf_9_35⟩ dX9_keep_39 rfl (by first | exact hk0 | exact hrd.1 | exact hdr.1 | exact hor.1 | exact hcu.1 | exact hfw.1 | exact hpt.1 | exact hrn.1 | exact hdi | assumption) (by assumption) ?_
      refine kr_iload_n (i := 1) hX dX9_keep_42 rfl rfl ?_
      refine kr_iconst (v := 1) hX dX9_keep_43 (by decide) ?_
      refine kr_bast hX dX9_keep_44 (by first | exact Or.inl rfl | exact Or.inr rfl | assumption) (by first | exact hk0 | exact hrd.1 | exact hdr.1 | exact hor.1 | exact hcu.1 | exact hfw.1 | exact hpt.1 | exact hrn.1 | exact hdi | assumption) (by simp only [kt_f_0, Classical.not_not] at c_5; exact (hki k c_5).1) ?_
      refine kr_iload_n (i := 2) hX dX9_keep_45 rfl rfl ?_
      refine kr_iret hX hr dX9_keep_46 ⟨rfl, ?_⟩
      simp only [kt_f_0, Classical.not_not] at c_5
      rw [show ut_keep μ o k = _ from if_pos c_5, es]
      refine ⟨?_, rfl⟩
      rw [(hkk k.toNatClampNeg).resolve_left c_16]
  · skip
    refine kr_iconst (v := (-1)) hX dX9_keep_8 (by decide) ?_
    refine kr_iret hX hr dX9_keep_9 ⟨rfl, ?_⟩
    simp only [kt_f_0, Classical.not_not] at c_5
    rw [show ut_keep μ o k = _ from if_neg c_5]
    exact ⟨rfl, rfl⟩

set_option maxHeartbeats 4000000 in
set_option maxRecDepth 100000 in
theorem sp_uback {G : kt_G} {σ : kt_Y} {μ : kt_M} {o : Nat} (hp : kt_kt σ o) {s : Nat} {k : Int32} (himk : k_wi k 1 → kp μ (ut_im o k) 16 s) : kt_F G yX9_back cX9_back 2 (some .int) 3 [.ref o, .int k] σ μ (fun r μ2 => r = some (.int (ut_back μ o k).1) ∧ μ2 = (ut_back μ o k).2) := by
  refine kt_F.of (by decide) (Nat.le_of_ble_eq_true rfl) (fun X hX hr => ?_)
  have hp0 := hp
  obtain ⟨hk0, hr0, hr1, hr2, hr3, hr4, hr5, hr6, hr7, hr8, hr9, hr10, hr11, hr12, hk152, hk153, hk369, hk370, hk371, hrd, hdr, hor, hcu, hfw, hpt, hrn, hdi, him, hsh⟩ := hp
  have hki : ∀ k : Int32, k_wi k 1 → vp_in k 2 ∧ k.toNatClampNeg < 2 := fun k h => by
    obtain ⟨j, hj, e⟩ := k_wi_nI h (n := 2) (by decide) (by decide)
    exact ⟨k_wi_in h (by decide), by rw [e, nI_clamp (by omega)]; exact hj⟩
  refine kr_iload_n (i := 1) hX dX9_back_0 rfl rfl ?_
  refine kr_iconst (v := 1) hX dX9_back_1 (by decide) ?_
  refine kr_dS [_, _] hX km_9_92 dX9_back_2 (sp_within) rfl rfl (by decide) (Nat.le_of_ble_eq_true rfl) (Nat.le_refl _) (Nat.le_refl _) ?_
  refine kr_if_ne (tgt := 10) hX dX9_back_5 (by decide) (fun c_5 => ?_) (fun c_5 => ?_)
  · skip
    refine kr_aload_n (i := 0) hX dX9_back_10 rfl rfl ?_
    refine kr_getr (c0 := 9) (k := 5) hX ⟨_, kf_9_35⟩ dX9_back_11 rfl (by first | exact hk0 | exact hrd.1 | exact hdr.1 | exact hor.1 | exact hcu.1 | exact hfw.1 | exact hpt.1 | exact hrn.1 | exact hdi | assumption) (by assumption) ?_
    refine kr_iload_n (i := 1) hX dX9_back_14 rfl rfl ?_
    refine kr_bald hX dX9_back_15 (by first | exact hk0 | exact hrd.1 | exact hdr.1 | exact hor.1 | exact hcu.1 | exact hfw.1 | exact hpt.1 | exact hrn.1 | exact hdi | assumption) (by simp only [kt_f_0, Classical.not_not] at c_5; exact (hki k c_5).1) ?_
    refine kr_if_ne (tgt := 22) hX dX9_back_16 (by decide) (fun c_16 => ?_) (fun c_16 => ?_)
    · skip
      have c5 := c_5
      simp only [kt_f_0, Classical.not_not] at c5
      have himk := himk c5
      have hlt := (hki k c5).2
      have es : (kt_i μ (ut_im o k) 3).toNatClampNeg = s := by rw [himk.1]; exact nI_clamp (by have := himk.2.1; omega)
      refine kr_aload_n (i := 0) hX dX9_back_22 rfl rfl ?_
      refine kr_getr (c0 := 9) (k := 3) hX ⟨_, kf_9_28⟩ dX9_back_23 rfl (by first | exact hk0 | exact hrd.1 | exact hdr.1 | exact hor.1 | exact hcu.1 | exact hfw.1 | exact hpt.1 | exact hrn.1 | exact hdi | assumption) (by assumption) ?_
      refine kr_aload_n (i := 0) hX dX9_back_26 rfl rfl ?_
      refine kr_getr (c0 := 9) (k := 4) hX ⟨_, kf_9_31⟩ dX9_back_27 rfl (by first | exact hk0 | exact hrd.1 | exact hdr.1 | exact hor.1 | exact hcu.1 | exact hfw.1 | exact hpt.1 | exact hrn.1 | exact hdi | assumption) (by assumption) ?_
      refine kr_iload_n (i := 1) hX dX9_back_30 rfl rfl ?_
      refine kr_aald (t := 1) hX dX9_back_31 (by decide) (by first | exact hk0 | exact hrd.1 | exact hdr.1 | exact hor.1 | exact hcu.1 | exact hfw.1 | exact hpt.1 | exact hrn.1 | exact hdi | assumption) (by simp only [kt_f_0, Classical.not_not] at c_5; exact (hki k c_5).1) (by simp only [kt_f_0, Classical.not_not] at c_5; exact (him _ (hki k c_5).2).1) ?_
      refine kr_dV (c1 := 4) [_] hX km_9_110 dX9_back_32 (sp_pcopy hcu (by decide) (him _ (by simp only [kt_f_0, Classical.not_not] at c_5; exact (hki k c_5).2)).2 (by decide) himk.2.1 himk.2.1 (by omega) himk.1 himk.2.2.2) rfl rfl ⟨_, _, rfl⟩ (by decide) (Nat.le_of_ble_eq_true rfl) (Nat.le_refl _) (Nat.le_refl _) (by first | exact hk0 | exact hrd.1 | exact hdr.1 | exact hor.1 | exact hcu.1 | exact hfw.1 | exact hpt.1 | exact hrn.1 | exact hdi | assumption) ?_
      refine kr_aload_n (i := 0) hX dX9_back_35 rfl rfl ?_
      refine kr_iconst (v := 0) hX dX9_back_36 (by decide) ?_
      refine kr_puti (c0 := 9) (k := 15) hX kf_9_87 dX9_back_37 rfl (kt_bz (by first | exact Or.inl rfl | exact Or.inr rfl | assumption)).1 (kt_bz (by first | exact Or.inl rfl | exact Or.inr rfl | assumption)).2 (by first | exact hk0 | exact hrd.1 | exact hdr.1 | exact hor.1 | exact hcu.1 | exact hfw.1 | exact hpt.1 | exact hrn.1 | exact hdi | assumption) ?_
      refine kr_aload_n (i := 0) hX dX9_back_40 rfl rfl ?_
      refine kr_getr (c0 := 9) (k := 3) hX ⟨_, kf_9_28⟩ dX9_back_41 rfl (by first | exact hk0 | exact hrd.1 | exact hdr.1 | exact hor.1 | exact hcu.1 | exact hfw.1 | exact hpt.1 | exact hrn.1 | exact hdi | assumption) (by assumption) ?_
      refine kr_geti (c0 := 4) (k := 3) hX ⟨_, kf_9_117⟩ dX9_back_44 rfl (by first | exact hk0 | exact hrd.1 | exact hdr.1 | exact hor.1 | exact hcu.1 | exact hfw.1 | exact hpt.1 | exact hrn.1 | exact hdi | assumption) ?_
      refine kr_iret hX hr dX9_back_47 ⟨rfl, ?_⟩
      simp only [kt_f_0, Classical.not_not] at c_5
      rw [show ut_back μ o k = _ from (if_pos c_5).trans (if_neg c_16), es]
      refine ⟨?_, rfl⟩
      rw [kt_i_sin (by omega), m_pcpL_30]
      show some (Value.int (nI s)) = some (Value.int (kt_i μ (ut_im o k) 3))
      rw [himk.1]
    · skip
      refine kr_bipush (v := (-2)) hX dX9_back_19 (by decide) ?_
      refine kr_iret hX hr dX9_back_21 ⟨rfl, ?_⟩
      simp only [kt_f_0, Classical.not_not] at c_5
      rw [show ut_back μ o k = _ from (if_pos c_5).trans (if_pos c_16)]
      exact ⟨rfl, rfl⟩
  · skip
    refine kr_iconst (v := (-1)) hX dX9_back_8 (by decide) ?_
    refine kr_iret hX hr dX9_back_9 ⟨rfl, ?_⟩
    simp only [kt_f_0, Classical.not_not] at c_5
    rw [show ut_back μ o k = _ from if_neg c_5]
    exact ⟨rfl, rfl⟩

set_option maxHeartbeats 4000000 in
set_option maxRecDepth 100000 in
theorem sp_lead {G : kt_G} {σ : kt_Y} {μ : kt_M} {o : Nat} (hp : kt_kt σ o) {s : Nat} (hg : kp μ (o + 42) 8 s) {b t x : Int32} : kt_F G yX9_lead cX9_lead 6 (some .int) 4 [.ref o, .int b, .int t, .int x] σ μ (fun r μ2 => r = some (.int (ut_lead μ o b t x).1) ∧ μ2 = (ut_lead μ o b t x).2) := by
  refine kt_F.of (by decide) (Nat.le_of_ble_eq_true rfl) (fun X hX hr => ?_)
  have hp0 := hp
  obtain ⟨hk0, hr0, hr1, hr2, hr3, hr4, hr5, hr6, hr7, hr8, hr9, hr10, hr11, hr12, hk152, hk153, hk369, hk370, hk371, hrd, hdr, hor, hcu, hfw, hpt, hrn, hdi, him, hsh⟩ := hp
  have es : (kt_i μ (o + 42) 3).toNatClampNeg = s := by rw [hg.1]; exact nI_clamp (by have := hg.2.1; omega)
  have hat := (k_at_in hg.1 (by have := hg.2.1; omega) b).1
  refine kr_aload_n (i := 0) hX dX9_lead_0 rfl rfl ?_
  refine kr_getr (c0 := 9) (k := 2) hX ⟨_, kf_9_25⟩ dX9_lead_1 rfl (by first | exact hk0 | exact hrd.1 | exact hdr.1 | exact hor.1 | exact hcu.1 | exact hfw.1 | exact hpt.1 | exact hrn.1 | exact hdi | assumption) (by assumption) ?_
  refine kr_iload_n (i := 1) hX dX9_lead_4 rfl rfl ?_
  refine kr_iload_n (i := 2) hX dX9_lead_5 rfl rfl ?_
  refine kr_dV (c1 := 4) [_, _] hX km_9_206 dX9_lead_6 (sp_pEdge hor (by decide) hg.1 hg.2.1) rfl rfl ⟨_, _, rfl⟩ (by decide) (Nat.le_of_ble_eq_true rfl) (Nat.le_refl _) (Nat.le_refl _) (by first | exact hk0 | exact hrd.1 | exact hdr.1 | exact hor.1 | exact hcu.1 | exact hfw.1 | exact hpt.1 | exact hrn.1 | exact hdi | assumption) ?_
  refine kr_if_eq (tgt := 23) hX dX9_lead_9 (by decide) (fun c_9 => ?_) (fun c_9 => ?_)
  · skip
    refine kr_iconst (v := (-1)) hX dX9_lead_23 (by decide) ?_
    refine kr_iret hX hr dX9_lead_24 ⟨rfl, ?_⟩
    simp only [kt_f_0, Classical.not_not] at c_9
    rw [show ut_lead μ o b t x = _ from if_neg (fun h => c_9 h.1)]
    exact ⟨rfl, rfl⟩
  · skip
    refine kr_aload_n (i := 0) hX dX9_lead_12 rfl rfl ?_
    refine kr_getr (c0 := 9) (k := 2) hX ⟨_, kf_9_25⟩ dX9_lead_13 rfl (by first | exact hk0 | exact hrd.1 | exact hdr.1 | exact hor.1 | exact hcu.1 | exact hfw.1 | exact hpt.1 | exact hrn.1 | exact hdi | assumption) (by assumption) ?_
    refine kr_iload_n (i := 3) hX dX9_lead_16 rfl rfl ?_
    refine kr_dV (c1 := 4) [_] hX km_9_156 dX9_lead_17 (sp_has hor (by decide) hg.1 hg.2.1) rfl rfl ⟨_, _, rfl⟩ (by decide) (Nat.le_of_ble_eq_true rfl) (Nat.le_refl _) (Nat.le_refl _) (by first | exact hk0 | exact hrd.1 | exact hdr.1 | exact hor.1 | exact hcu.1 | exact hfw.1 | exact hpt.1 | exact hrn.1 | exact hdi | assumption) ?_
    refine kr_if_ne (tgt := 25) hX dX9_lead_20 (by decide) (fun c_20 => ?_) (fun c_20 => ?_)
    · skip
      refine kr_aload_n (i := 0) hX dX9_lead_25 rfl rfl ?_
      refine kr_getr (c0 := 9) (k := 2) hX ⟨_, kf_9_25⟩ dX9_lead_26 rfl (by first | exact hk0 | exact hrd.1 | exact hdr.1 | exact hor.1 | exact hcu.1 | exact hfw.1 | exact hpt.1 | exact hrn.1 | exact hdi | assumption) (by assumption) ?_
      refine kr_iload_n (i := 1) hX dX9_lead_29 rfl rfl ?_
      refine kr_dV (c1 := 4) [_] hX km_9_159 dX9_lead_30 (sp_at hor (by decide) hg.1 hg.2.1) rfl rfl ⟨_, _, rfl⟩ (by decide) (Nat.le_of_ble_eq_true rfl) (Nat.le_refl _) (Nat.le_refl _) (by first | exact hk0 | exact hrd.1 | exact hdr.1 | exact hor.1 | exact hcu.1 | exact hfw.1 | exact hpt.1 | exact hrn.1 | exact hdi | assumption) ?_
      refine kr_astore hX dX9_lead_33 (by decide) rfl rfl ?_
      refine kr_aload hX dX9_lead_35 rfl ?_
      refine kr_iload_n (i := 2) hX dX9_lead_37 rfl rfl ?_
      refine kr_dV (c1 := 0) [_] hX km_9_174 dX9_lead_38 (sp_target (hor.at_ hg.1 hg.2.1 (by decide) b)) rfl rfl ⟨_, _, rfl⟩ (by decide) (Nat.le_of_ble_eq_true rfl) (Nat.le_refl _) (Nat.le_refl _) (by exact (hor.at_ hg.1 hg.2.1 (by decide) b).1) ?_
      refine kr_istore hX dX9_lead_41 (by decide) rfl rfl ?_
      refine kr_aload hX dX9_lead_43 rfl ?_
      refine kr_iload_n (i := 2) hX dX9_lead_45 rfl rfl ?_
      refine kr_iload_n (i := 3) hX dX9_lead_46 rfl rfl ?_
      refine kr_dV (c1 := 0) [_, _] hX km_9_278 dX9_lead_47 (sp_aim (hor.at_ hg.1 hg.2.1 (by decide) b)) rfl rfl ⟨_, _, rfl⟩ (by decide) (Nat.le_of_ble_eq_true rfl) (Nat.le_refl _) (Nat.le_refl _) (by exact (hor.at_ hg.1 hg.2.1 (by decide) b).1) ?_
      refine kr_aload_n (i := 0) hX dX9_lead_50 rfl rfl ?_
      refine kr_dV (c1 := 9) [] hX km_9_114 dX9_lead_51 (sp_new hp0 (hg.aim (by omega))) rfl rfl ⟨_, _, rfl⟩ (by decide) (Nat.le_of_ble_eq_true rfl) (Nat.le_refl _) (Nat.le_refl _) (by first | exact hk0 | exact hrd.1 | exact hdr.1 | exact hor.1 | exact hcu.1 | exact hfw.1 | exact hpt.1 | exact hrn.1 | exact hdi | assumption) ?_
      refine kr_iload hX dX9_lead_54 rfl ?_
      refine kr_iret hX hr dX9_lead_56 ⟨rfl, ?_⟩
      simp only [kt_f_0, Classical.not_not] at c_9 c_20
      rw [show ut_lead μ o b t x = _ from if_pos ⟨c_9, c_20⟩, es]
      exact ⟨rfl, rfl⟩
    · skip
      refine kr_iconst (v := (-1)) hX dX9_lead_23 (by decide) ?_
      refine kr_iret hX hr dX9_lead_24 ⟨rfl, ?_⟩
      simp only [kt_f_0, Classical.not_not] at c_9 c_20
      rw [show ut_lead μ o b t x = _ from if_neg (fun h => c_20 h.2)]
      exact ⟨rfl, rfl⟩

theorem sp_dblk {G : kt_G} {σ : kt_Y} {μ : kt_M} {p : Nat} (hp : kt_di σ p) {b : Nat} (hb : kt_blk σ b) (hne : p + 1 ≤ b ∨ b + 4 ≤ p) {m : Int32} (ha : kt_i μ b 0 = 0) : kt_F G yX1_makeBlock cX1_makeBlock 5 none 2 [.ref p, .ref b, .int m] σ μ (fun r μ2 => r = none ∧ μ2 = d_blk μ p b m) := by
  refine (sp_dblock hp hb hne ha).mono (fun r μ2 h => ?_)
  obtain ⟨h1, j, e, hj, ej, he, ee, em⟩ := h
  refine ⟨h1, ?_⟩
  unfold d_blk d_blk0
  rw [kt_seal_eq, ej, nI_clamp (by omega)]
  have h2 := k_ne_eq (d_end (d_actsL p b j (d_nx μ p)) p b) b
  have h3 : k_ne (d_end (d_actsL p b j (d_nx μ p)) p b) b = e := by unfold k_ne; rw [ee]; exact nI_clamp (by omega)
  rw [h3]; exact em

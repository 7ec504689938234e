noncomputable def q_var (μ : kt_M) (p : Nat) : Int32 × kt_M := kt_seal (a_var μ p)
noncomputable def q_num (μ : kt_M) (p : Nat) (t : Int32) : Int32 × kt_M := kt_seal (a_num μ p t)
noncomputable def q_sgn (μ : kt_M) (p : Nat) (c : Int32) : Int32 × kt_M := kt_seal (a_sgn μ p c)
noncomputable def q_end (μ : kt_M) (p k : Nat) : Int32 × kt_M := kt_seal (b_end μ p k)
noncomputable def q_act (μ : kt_M) (p : Nat) : Int32 := kt_seal (k_act μ p)
noncomputable def b_opn (μ : kt_M) (p : Nat) (a : Int32) : Int32 × kt_M := if a = 3 then q_var μ p else if a = 4 ∨ a = 5 then (0, μ) else q_num μ p 50
noncomputable def b_act3 (n : Int32 × kt_M) (k : Nat) (a v : Int32) : Int32 × kt_M := if 0 ≤ n.1 then (1, m_add n.2 k a v n.1) else (0, n.2)
noncomputable def b_act2 (v : Int32 × kt_M) (p k : Nat) (a : Int32) : Int32 × kt_M := if 0 ≤ v.1 then b_act3 (b_opn v.2 p a) k a v.1 else (0, v.2)
noncomputable def b_act (μ : kt_M) (p k : Nat) (a : Int32) : Int32 × kt_M := if (a_adv μ p).1 = 0 then (0, (a_adv μ p).2) else b_act2 (q_var (a_adv μ p).2 p) p k a
noncomputable def q_bact (μ : kt_M) (p k : Nat) (a : Int32) : Int32 × kt_M := kt_seal (b_act μ p k a)
noncomputable def b_last (μ : kt_M) (p k : Nat) : Int32 × kt_M := b_and (q_end μ p k) (fun μ => q_sgn μ p 59)
noncomputable def b_blkL (p k : Nat) : Nat → kt_M → Int32 × kt_M
  | 0, μ => if q_act μ p < 0 then b_last μ p k else (0, m_fail μ p 5)
  | n + 1, μ => if 0 ≤ q_act μ p then (if (q_bact μ p k (q_act μ p)).1 = 0 then (0, (q_bact μ p k (q_act μ p)).2) else b_blkL p k n (q_bact μ p k (q_act μ p)).2) else b_last μ p k
theorem k_rdok.qvar {μ : kt_M} {p L : Nat} (h : k_rdok μ p L) : k_rdok (q_var μ p).2 p L := by unfold q_var; rw [kt_seal_eq]; exact h.var
theorem k_rdok.qnum {μ : kt_M} {p L : Nat} {t : Int32} (h : k_rdok μ p L) : k_rdok (q_num μ p t).2 p L := by unfold q_num; rw [kt_seal_eq]; exact h.num
theorem k_rdok.qsgn {μ : kt_M} {p L : Nat} {t : Int32} (h : k_rdok μ p L) : k_rdok (q_sgn μ p t).2 p L := by unfold q_sgn; rw [kt_seal_eq]; exact h.sgn
theorem k_rdok.qend {μ : kt_M} {p L k : Nat} (h : k_rdok μ p L) (hk : k ≠ p) : k_rdok (q_end μ p k).2 p L := by unfold q_end; rw [kt_seal_eq]; exact h.endd hk
theorem q_var_out {μ : kt_M} {p x k : Nat} (h : x ≠ p) : kt_i (q_var μ p).2 x k = kt_i μ x k := by unfold q_var; rw [kt_seal_eq]; exact a_var_out h
theorem q_num_out {μ : kt_M} {p x k : Nat} {t : Int32} (h : x ≠ p) : kt_i (q_num μ p t).2 x k = kt_i μ x k := by unfold q_num; rw [kt_seal_eq]; exact a_num_out h
theorem k_rdok.last {μ : kt_M} {p L k : Nat} (h : k_rdok μ p L) (hk : k ≠ p) : k_rdok (b_last μ p k).2 p L := k_rdok.and (h.qend hk) (h.qend hk).qsgn
theorem k_rdok.opn {μ : kt_M} {p L : Nat} {a : Int32} (h : k_rdok μ p L) : k_rdok (b_opn μ p a).2 p L := by
  unfold b_opn; split
  · exact h.qvar
  · split
    · exact h
    · exact h.qnum
theorem k_rdok.act {μ : kt_M} {p L k : Nat} {a : Int32} (h : k_rdok μ p L) (hk : k + 4 ≤ p ∨ p + 2 ≤ k) : k_rdok (b_act μ p k a).2 p L := by
  unfold b_act; split
  · exact h.qadv
  · unfold b_act2; split
    · unfold b_act3; split
      · exact (((h.qadv.qvar.opn.far (by omega)).far (by omega)).far (by omega)).far (by omega)
      · exact h.qadv.qvar.opn
    · exact h.qadv.qvar
theorem k_rdok.qact {μ : kt_M} {p L k : Nat} {a : Int32} (h : k_rdok μ p L) (hk : k + 4 ≤ p ∨ p + 2 ≤ k) : k_rdok (q_bact μ p k a).2 p L := by unfold q_bact; rw [kt_seal_eq]; exact h.act hk
theorem b_opn_out {μ : kt_M} {p x k : Nat} {a : Int32} (h : x ≠ p) : kt_i (b_opn μ p a).2 x k = kt_i μ x k := by
  unfold b_opn; split
  · exact q_var_out h
  · split
    · rfl
    · exact q_num_out h
theorem b_act_0 {μ : kt_M} {p k : Nat} {a : Int32} (hk : k + 4 ≤ p ∨ p + 2 ≤ k) (h : ¬ (b_act μ p k a).1 = 0) : kt_i (b_act μ p k a).2 k 0 = kt_i μ k 0 + 1 := by
  unfold b_act at h ⊢
  by_cases h1 : (a_adv μ p).1 = 0
  · rw [if_pos h1] at h; exact absurd rfl h
  · rw [if_neg h1] at h ⊢
    unfold b_act2 at h ⊢
    by_cases h2 : 0 ≤ (q_var (a_adv μ p).2 p).1
    · rw [if_pos h2] at h ⊢
      unfold b_act3 at h ⊢
      by_cases h3 : 0 ≤ (b_opn (q_var (a_adv μ p).2 p).2 p a).1
      · rw [if_pos h3]
        show kt_i (m_add _ k _ _ _) k 0 = _
        unfold m_add
        rw [kt_i_sie, b_opn_out (by omega), q_var_out (by omega), a_adv_2, a_mem_out (by omega)]
      · rw [if_neg h3] at h; exact absurd rfl h
    · rw [if_neg h2] at h; exact absurd rfl h
theorem q_bact_0 {μ : kt_M} {p k : Nat} {a : Int32} (hk : k + 4 ≤ p ∨ p + 2 ≤ k) (h : ¬ (q_bact μ p k a).1 = 0) : kt_i (q_bact μ p k a).2 k 0 = kt_i μ k 0 + 1 := by
  unfold q_bact at h ⊢; rw [kt_seal_eq] at h ⊢; exact b_act_0 hk h
theorem sp_varS {G : kt_G} {σ : kt_Y} {μ : kt_M} {p : Nat} (hp : kt_rd σ p) {L : Nat} (ho : k_rdok μ p L) : kt_F G yX6_takeVariable cX6_takeVariable 2 (some .int) 2 [.ref p] σ μ (fun r μ2 => r = some (.int (q_var μ p).1) ∧ μ2 = (q_var μ p).2) := by
  unfold q_var
  rw [kt_seal_eq]
  exact sp_var hp ho
theorem sp_numS {G : kt_G} {σ : kt_Y} {μ : kt_M} {p : Nat} (hp : kt_rd σ p) {L : Nat} (ho : k_rdok μ p L) {t : Int32} : kt_F G yX6_takeNumber cX6_takeNumber 3 (some .int) 2 [.ref p, .int t] σ μ (fun r μ2 => r = some (.int (q_num μ p t).1) ∧ μ2 = (q_num μ p t).2) := by
  unfold q_num
  rw [kt_seal_eq]
  exact sp_num hp ho
theorem sp_sgnS {G : kt_G} {σ : kt_Y} {μ : kt_M} {p : Nat} (hp : kt_rd σ p) {L : Nat} (ho : k_rdok μ p L) {c : Int32} : kt_F G yX6_takeSign cX6_takeSign 2 (some .boolean) 2 [.ref p, .int c] σ μ (fun r μ2 => r = some (.int (q_sgn μ p c).1) ∧ μ2 = (q_sgn μ p c).2) := by
  unfold q_sgn
  rw [kt_seal_eq]
  exact sp_sgn hp ho
theorem sp_endS {G : kt_G} {σ : kt_Y} {μ : kt_M} {p : Nat} (hp : kt_rd σ p) {L : Nat} (ho : k_rdok μ p L) {k : Nat} (hb : kt_blk σ k) (hkp : k + 4 ≤ p ∨ p + 2 ≤ k) : kt_F G yX6_parseEnd cX6_parseEnd 2 (some .boolean) 5 [.ref p, .ref k] σ μ (fun r μ2 => r = some (.int (q_end μ p k).1) ∧ μ2 = (q_end μ p k).2) := by
  unfold q_end
  rw [kt_seal_eq]
  exact sp_end hp ho hb hkp
theorem sp_actS {G : kt_G} {σ : kt_Y} {μ : kt_M} {p : Nat} (hp : kt_rd σ p) : kt_F G yX6_actAtHand cX6_actAtHand 1 (some .int) 5 [.ref p] σ μ (fun r μ2 => r = some (.int (q_act μ p)) ∧ μ2 = μ) := by
  unfold q_act
  rw [kt_seal_eq]
  exact sp_actH hp
set_option maxHeartbeats 4000000 in
set_option maxRecDepth 100000 in
theorem sp_pact {G : kt_G} {σ : kt_Y} {μ : kt_M} {p : Nat} (hp : kt_rd σ p) {L : Nat} (ho : k_rdok μ p L) {k : Nat} (hb : kt_blk σ k) (hkp : k + 4 ≤ p ∨ p + 2 ≤ k) {a : Int32} (hac : vp_in (kt_i μ k 0) 4) : kt_F G yX6_parseAct cX6_parseAct 5 (some .boolean) 3 [.ref p, .ref k, .int a] σ μ (fun r μ2 => r = some (.int (b_act μ p k a).1) ∧ μ2 = (b_act μ p k a).2) := by
  refine kt_F.of (by decide) (Nat.le_of_ble_eq_true rfl) (fun X hX hr => ?_)
  have hp0 := hp
  obtain ⟨hk0, hr0, hk1⟩ := hp
  obtain ⟨hL, hL2, s0, a0, hs0, ha0, hsa, haL⟩ := id ho
  have hb0 := hb
  obtain ⟨gk0, gr1, gr2, gr3, gk1, gk2, gk3⟩ := hb
  have hkne : k ≠ p := by omega
  refine kr_aload_n (i := 0) hX dX6_parseAct_0 rfl rfl ?_
  refine kr_dV (c1 := 6) [] hX km_6_39 dX6_parseAct_1 (sp_advS hp0 hL hL2 ha0 haL) rfl rfl ⟨_, _, rfl⟩ (by decide) (Nat.le_of_ble_eq_true rfl) (Nat.le_refl _) (Nat.le_refl _) (by assumption) ?_
  refine kr_if_ne (tgt := 9) hX dX6_parseAct_4 (by decide) (fun c_4 => ?_) (fun c_4 => ?_)
  · skip
    refine kr_aload_n (i := 0) hX dX6_parseAct_9 rfl rfl ?_
    refine kr_dV (c1 := 6) [] hX km_6_73 dX6_parseAct_10 (sp_varS hp0 ho.qadv) rfl rfl ⟨_, _, rfl⟩ (by decide) (Nat.le_of_ble_eq_true rfl) (Nat.le_refl _) (Nat.le_refl _) (by assumption) ?_
    refine kr_istore_n (i := 3) hX dX6_parseAct_13 rfl (by decide) rfl rfl ?_
    refine kr_iload_n (i := 3) hX dX6_parseAct_14 rfl rfl ?_
    refine kr_if_ge (tgt := 20) hX dX6_parseAct_15 (by decide) (fun c_15 => ?_) (fun c_15 => ?_)
    · skip
      refine kr_iconst (v := 0) hX dX6_parseAct_20 (by decide) ?_
      refine kr_istore hX dX6_parseAct_21 (by decide) rfl rfl ?_
      refine kr_iload_n (i := 2) hX dX6_parseAct_23 rfl rfl ?_
      refine kr_iconst (v := 3) hX dX6_parseAct_24 (by decide) ?_
      refine kr_icmp_ne (tgt := 37) hX dX6_parseAct_25 (by decide) (fun c_25 => ?_) (fun c_25 => ?_)
      · skip
        refine kr_iload_n (i := 2) hX dX6_parseAct_37 rfl rfl ?_
        refine kr_iconst (v := 4) hX dX6_parseAct_38 (by decide) ?_
        refine kr_icmp_eq (tgt := 55) hX dX6_parseAct_39 (by decide) (fun c_39 => ?_) (fun c_39 => ?_)
        · skip
          refine kr_iload hX dX6_parseAct_55 rfl ?_
          refine kr_if_ge (tgt := 62) hX dX6_parseAct_57 (by decide) (fun c_57 => ?_) (fun c_57 => ?_)
          · skip
            refine kr_aload_n (i := 1) hX dX6_parseAct_62 rfl rfl ?_
            refine kr_iload_n (i := 2) hX dX6_parseAct_63 rfl rfl ?_
            refine kr_iload_n (i := 3) hX dX6_parseAct_64 rfl rfl ?_
            refine kr_iload hX dX6_parseAct_65 rfl ?_
            refine kr_dV (c1 := 0) [_, _, _] hX km_6_80 dX6_parseAct_67 (sp_addAct hb0 (by first | (rw [q_var_out hkne, q_var_out hkne, a_adv_2, a_mem_out hkne]; exact hac) | (rw [q_num_out hkne, q_var_out hkne, a_adv_2, a_mem_out hkne]; exact hac) | (rw [q_var_out hkne, a_adv_2, a_mem_out hkne]; exact hac))) rfl rfl ⟨_, _, rfl⟩ (by decide) (Nat.le_of_ble_eq_true rfl) (Nat.le_refl _) (Nat.le_refl _) (by assumption) ?_
            refine kr_iconst (v := 1) hX dX6_parseAct_70 (by decide) ?_
            refine kr_zret hX hr (by first | exact Or.inl rfl | exact Or.inr rfl | assumption) dX6_parseAct_71 ⟨rfl, ?_⟩
            unfold b_act
            rw [if_neg c_4]
            unfold b_act2
            rw [if_pos c_15]
            rw [show b_opn (q_var (a_adv μ p).2 p).2 p a = _ from (if_neg c_25).trans (if_pos (Or.inl c_39))]
            unfold b_act3
            rw [if_pos c_57]
            exact ⟨rfl, rfl⟩
          · skip
            refine kr_iconst (v := 0) hX dX6_parseAct_60 (by decide) ?_
            refine kr_zret hX hr (by first | exact Or.inl rfl | exact Or.inr rfl | assumption) dX6_parseAct_61 ⟨rfl, ?_⟩
            unfold b_act
            rw [if_neg c_4]
            unfold b_act2
            rw [if_pos c_15]
            rw [show b_opn (q_var (a_adv μ p).2 p).2 p a = _ from (if_neg c_25).trans (if_pos (Or.inl c_39))]
            unfold b_act3
            rw [if_neg c_57]
            exact ⟨rfl, rfl⟩
        · skip
          refine kr_iload_n (i := 2) hX dX6_parseAct_42 rfl rfl ?_
          refine kr_iconst (v := 5) hX dX6_parseAct_43 (by decide) ?_
          refine kr_icmp_eq (tgt := 55) hX dX6_parseAct_44 (by decide) (fun c_44 => ?_) (fun c_44 => ?_)
          · skip
            refine kr_iload hX dX6_parseAct_55 rfl ?_
            refine kr_if_ge (tgt := 62) hX dX6_parseAct_57 (by decide) (fun c_57 => ?_) (fun c_57 => ?_)
            · skip
              refine kr_aload_n (i := 1) hX dX6_parseAct_62 rfl rfl ?_
              refine kr_iload_n (i := 2) hX dX6_parseAct_63 rfl rfl ?_
              refine kr_iload_n (i := 3) hX dX6_parseAct_64 rfl rfl ?_
              refine kr_iload hX dX6_parseAct_65 rfl ?_
              refine kr_dV (c1 := 0) [_, _, _] hX km_6_80 dX6_parseAct_67 (sp_addAct hb0 (by first | (rw [q_var_out hkne, q_var_out hkne, a_adv_2, a_mem_out hkne]; exact hac) | (rw [q_num_out hkne, q_var_out hkne, a_adv_2, a_mem_out hkne]; exact hac) | (rw [q_var_out hkne, a_adv_2, a_mem_out hkne]; exact hac))) rfl rfl ⟨_, _, rfl⟩ (by decide) (Nat.le_of_ble_eq_true rfl) (Nat.le_refl _) (Nat.le_refl _) (by assumption) ?_
              refine kr_iconst (v := 1) hX dX6_parseAct_70 (by decide) ?_
              refine kr_zret hX hr (by first | exact Or.inl rfl | exact Or.inr rfl | assumption) dX6_parseAct_71 ⟨rfl, ?_⟩
              unfold b_act
              rw [if_neg c_4]
              unfold b_act2
              rw [if_pos c_15]
              rw [show b_opn (q_var (a_adv μ p).2 p).2 p a = _ from (if_neg c_25).trans (if_pos (Or.inr c_44))]
              unfold b_act3
              rw [if_pos c_57]
              exact ⟨rfl, rfl⟩
            · skip
              refine kr_iconst (v := 0) hX dX6_parseAct_60 (by decide) ?_
              refine kr_zret hX hr (by first | exact Or.inl rfl | exact Or.inr rfl | assumption) dX6_parseAct_61 ⟨rfl, ?_⟩
              unfold b_act
              rw [if_neg c_4]
              unfold b_act2
              rw [if_pos c_15]
              rw [show b_opn (q_var (a_adv μ p).2 p).2 p a = _ from (if_neg c_25).trans (if_pos (Or.inr c_44))]
              unfold b_act3
              rw [if_neg c_57]
              exact ⟨rfl, rfl⟩
          · skip
            refine kr_aload_n (i := 0) hX dX6_parseAct_47 rfl rfl ?_
            refine kr_bipush (v := 50) hX dX6_parseAct_48 (by decide) ?_
            refine kr_dV (c1 := 6) [_] hX km_6_76 dX6_parseAct_50 (sp_numS hp0 ho.qadv.qvar) rfl rfl ⟨_, _, rfl⟩ (by decide) (Nat.le_of_ble_eq_true rfl) (Nat.le_refl _) (Nat.le_refl _) (by assumption) ?_
            refine kr_istore hX dX6_parseAct_53 (by decide) rfl rfl ?_
            refine kr_iload hX dX6_parseAct_55 rfl ?_
            refine kr_if_ge (tgt := 62) hX dX6_parseAct_57 (by decide) (fun c_57 => ?_) (fun c_57 => ?_)
            · skip
              refine kr_aload_n (i := 1) hX dX6_parseAct_62 rfl rfl ?_
              refine kr_iload_n (i := 2) hX dX6_parseAct_63 rfl rfl ?_
              refine kr_iload_n (i := 3) hX dX6_parseAct_64 rfl rfl ?_
              refine kr_iload hX dX6_parseAct_65 rfl ?_
              refine kr_dV (c1 := 0) [_, _, _] hX km_6_80 dX6_parseAct_67 (sp_addAct hb0 (by first | (rw [q_var_out hkne, q_var_out hkne, a_adv_2, a_mem_out hkne]; exact hac) | (rw [q_num_out hkne, q_var_out hkne, a_adv_2, a_mem_out hkne]; exact hac) | (rw [q_var_out hkne, a_adv_2, a_mem_out hkne]; exact hac))) rfl rfl ⟨_, _, rfl⟩ (by decide) (Nat.le_of_ble_eq_true rfl) (Nat.le_refl _) (Nat.le_refl _) (by assumption) ?_
              refine kr_iconst (v := 1) hX dX6_parseAct_70 (by decide) ?_
              refine kr_zret hX hr (by first | exact Or.inl rfl | exact Or.inr rfl | assumption) dX6_parseAct_71 ⟨rfl, ?_⟩
              unfold b_act
              rw [if_neg c_4]
              unfold b_act2
              rw [if_pos c_15]
              rw [show b_opn (q_var (a_adv μ p).2 p).2 p a = _ from (if_neg c_25).trans (if_neg (fun h => h.elim c_39 c_44))]
              unfold b_act3
              rw [if_pos c_57]
              exact ⟨rfl, rfl⟩
            · skip
              refine kr_iconst (v := 0) hX dX6_parseAct_60 (by decide) ?_
              refine kr_zret hX hr (by first | exact Or.inl rfl | exact Or.inr rfl | assumption) dX6_parseAct_61 ⟨rfl, ?_⟩
              unfold b_act
              rw [if_neg c_4]
              unfold b_act2
              rw [if_pos c_15]
              rw [show b_opn (q_var (a_adv μ p).2 p).2 p a = _ from (if_neg c_25).trans (if_neg (fun h => h.elim c_39 c_44))]
              unfold b_act3
              rw [if_neg c_57]
              exact ⟨rfl, rfl⟩
      · skip
        refine kr_aload_n (i := 0) hX dX6_parseAct_28 rfl rfl ?_
        refine kr_dV (c1 := 6) [] hX km_6_73 dX6_parseAct_29 (sp_varS hp0 ho.qadv.qvar) rfl rfl ⟨_, _, rfl⟩ (by decide) (Nat.le_of_ble_eq_true rfl) (Nat.le_refl _) (Nat.le_refl _) (by assumption) ?_
        refine kr_istore hX dX6_parseAct_32 (by decide) rfl rfl ?_
        refine kr_goto (tgt := 55) hX dX6_parseAct_34 (by decide) ?_
        refine kr_iload hX dX6_parseAct_55 rfl ?_
        refine kr_if_ge (tgt := 62) hX dX6_parseAct_57 (by decide) (fun c_57 => ?_) (fun c_57 => ?_)
        · skip
          refine kr_aload_n (i := 1) hX dX6_parseAct_62 rfl rfl ?_
          refine kr_iload_n (i := 2) hX dX6_parseAct_63 rfl rfl ?_
          refine kr_iload_n (i := 3) hX dX6_parseAct_64 rfl rfl ?_
          refine kr_iload hX dX6_parseAct_65 rfl ?_
          refine kr_dV (c1 := 0) [_, _, _] hX km_6_80 dX6_parseAct_67 (sp_addAct hb0 (by first | (rw [q_var_out hkne, q_var_out hkne, a_adv_2, a_mem_out hkne]; exact hac) | (rw [q_num_out hkne, q_var_out hkne, a_adv_2, a_mem_out hkne]; exact hac) | (rw [q_var_out hkne, a_adv_2, a_mem_out hkne]; exact hac))) rfl rfl ⟨_, _, rfl⟩ (by decide) (Nat.le_of_ble_eq_true rfl) (Nat.le_refl _) (Nat.le_refl _) (by assumption) ?_
          refine kr_iconst (v := 1) hX dX6_parseAct_70 (by decide) ?_
          refine kr_zret hX hr (by first | exact Or.inl rfl | exact Or.inr rfl | assumption) dX6_parseAct_71 ⟨rfl, ?_⟩
          unfold b_act
          rw [if_neg c_4]
          unfold b_act2
          rw [if_pos c_15]
          rw [show b_opn (q_var (a_adv μ p).2 p).2 p a = _ from if_pos c_25]
          unfold b_act3
          rw [if_pos c_57]
          exact ⟨rfl, rfl⟩
        · skip
          refine kr_iconst (v := 0) hX dX6_parseAct_60 (by decide) ?_
          refine kr_zret hX hr (by first | exact Or.inl rfl | exact Or.inr rfl | assumption) dX6_parseAct_61 ⟨rfl, ?_⟩
          unfold b_act
          rw [if_neg c_4]
          unfold b_act2
          rw [if_pos c_15]
          rw [show b_opn (q_var (a_adv μ p).2 p).2 p a = _ from if_pos c_25]
          unfold b_act3
          rw [if_neg c_57]
          exact ⟨rfl, rfl⟩
    · skip
      refine kr_iconst (v := 0) hX dX6_parseAct_18 (by decide) ?_
      refine kr_zret hX hr (by first | exact Or.inl rfl | exact Or.inr rfl | assumption) dX6_parseAct_19 ⟨rfl, ?_⟩
      unfold b_act
      rw [if_neg c_4]
      unfold b_act2
      rw [if_neg c_15]
      exact ⟨rfl, rfl⟩
  · skip
    refine kr_iconst (v := 0) hX dX6_parseAct_7 (by decide) ?_
    refine kr_zret hX hr (by first | exact Or.inl rfl | exact Or.inr rfl | assumption) dX6_parseAct_8 ⟨rfl, ?_⟩
    unfold b_act
    rw [if_pos c_4]
    exact ⟨rfl, rfl⟩

theorem sp_pactS {G : kt_G} {σ : kt_Y} {μ : kt_M} {p : Nat} (hp : kt_rd σ p) {L : Nat} (ho : k_rdok μ p L) {k : Nat} (hb : kt_blk σ k) (hkp : k + 4 ≤ p ∨ p + 2 ≤ k) {a : Int32} (hac : vp_in (kt_i μ k 0) 4) : kt_F G yX6_parseAct cX6_parseAct 5 (some .boolean) 3 [.ref p, .ref k, .int a] σ μ (fun r μ2 => r = some (.int (q_bact μ p k a).1) ∧ μ2 = (q_bact μ p k a).2) := by
  unfold q_bact
  rw [kt_seal_eq]
  exact sp_pact hp ho hb hkp hac
set_option maxHeartbeats 4000000 in
set_option maxRecDepth 100000 in
theorem lp_pblk {G : kt_G} {σ : kt_Y} {X : kt_X} (hX : kt_ok G X RX6 cX6_parseBlock 4 6 0 0) (hr : kt_rt X = (some .boolean)) {Q : Option Value → kt_M → Prop} {p : Nat} (hp : kt_rd σ p) {L : Nat} {k : Nat} (hb : kt_blk σ k) (hkp : k + 4 ≤ p ∨ p + 2 ≤ k) : ∀ (n i : Nat) (μ : kt_M) , i + n = 4 → k_rdok μ p L → kt_i μ k 0 = nI i → (Q (some (.int (b_blkL p k n μ).1)) (b_blkL p k n μ).2) → kt_W G X 4 2 [(0, .ref p), (1, .ref k), (2, .int (nI i))] [] σ μ 0 0 (kt_Z G X (kt_q σ Q) 0 0) := by
  have hp0 := hp
  obtain ⟨hk0, hr0, hk1⟩ := hp
  have hb0 := hb
  obtain ⟨gk0, gr1, gr2, gr3, gk1, gk2, gk3⟩ := hb
  have hkne : k ≠ p := by omega
  intro n
  induction n with
  | zero =>
    intro i μ hin ho hA hQ
    have hib : i = 4 := by omega
    refine kr_iload_n (i := 2) hX dX6_parseBlock_2 rfl rfl ?_
    refine kr_iconst (v := 4) hX dX6_parseBlock_3 (by decide) ?_
    refine kr_icmp_ge (tgt := 56) hX dX6_parseBlock_4 (by decide) (fun c_4 => ?_) (fun c_4 => ?_)
    · skip
      refine kr_aload_n (i := 0) hX dX6_parseBlock_56 rfl rfl ?_
      refine kr_dV (c1 := 6) [] hX km_6_58 dX6_parseBlock_57 (sp_actS hp0) rfl rfl ⟨_, _, rfl⟩ (by decide) (Nat.le_of_ble_eq_true rfl) (Nat.le_refl _) (Nat.le_refl _) (by assumption) ?_
      refine kr_if_lt (tgt := 69) hX dX6_parseBlock_60 (by decide) (fun c_60 => ?_) (fun c_60 => ?_)
      · skip
        refine kr_aload_n (i := 0) hX dX6_parseBlock_69 rfl rfl ?_
        refine kr_aload_n (i := 1) hX dX6_parseBlock_70 rfl rfl ?_
        refine kr_dV (c1 := 6) [_] hX km_6_62 dX6_parseBlock_71 (sp_endS hp0 ho hb0 hkp) rfl rfl ⟨_, _, rfl⟩ (by decide) (Nat.le_of_ble_eq_true rfl) (Nat.le_refl _) (Nat.le_refl _) (by assumption) ?_
        refine kr_if_eq (tgt := 90) hX dX6_parseBlock_74 (by decide) (fun c_74 => ?_) (fun c_74 => ?_)
        · skip
          refine kr_iconst (v := 0) hX dX6_parseBlock_90 (by decide) ?_
          refine kr_zret hX hr (by first | exact Or.inl rfl | exact Or.inr rfl | assumption) dX6_parseBlock_91 ⟨rfl, ?_⟩
          rw [b_blkL, if_pos c_60] at hQ
          unfold b_last at hQ
          rw [b_and_f c_74] at hQ
          exact hQ
        · skip
          refine kr_aload_n (i := 0) hX dX6_parseBlock_77 rfl rfl ?_
          refine kr_bipush (v := 59) hX dX6_parseBlock_78 (by decide) ?_
          refine kr_dV (c1 := 6) [_] hX km_6_65 dX6_parseBlock_80 (sp_sgnS hp0 (ho.qend hkne)) rfl rfl ⟨_, _, rfl⟩ (by decide) (Nat.le_of_ble_eq_true rfl) (Nat.le_refl _) (Nat.le_refl _) (by assumption) ?_
          refine kr_if_eq (tgt := 90) hX dX6_parseBlock_83 (by decide) (fun c_83 => ?_) (fun c_83 => ?_)
          · skip
            refine kr_iconst (v := 0) hX dX6_parseBlock_90 (by decide) ?_
            refine kr_zret hX hr (by first | exact Or.inl rfl | exact Or.inr rfl | assumption) dX6_parseBlock_91 ⟨rfl, ?_⟩
            rw [b_blkL, if_pos c_60] at hQ
            unfold b_last at hQ
            rw [b_and_t c_74] at hQ
            rw [kt_f_f (fun h => h c_83)] at hQ
            exact hQ
          · skip
            refine kr_iconst (v := 1) hX dX6_parseBlock_86 (by decide) ?_
            refine kr_goto (tgt := 91) hX dX6_parseBlock_87 (by decide) ?_
            refine kr_zret hX hr (by first | exact Or.inl rfl | exact Or.inr rfl | assumption) dX6_parseBlock_91 ⟨rfl, ?_⟩
            rw [b_blkL, if_pos c_60] at hQ
            unfold b_last at hQ
            rw [b_and_t c_74] at hQ
            rw [kt_f_t c_83] at hQ
            exact hQ
      · skip
        refine kr_aload_n (i := 0) hX dX6_parseBlock_63 rfl rfl ?_
        refine kr_iconst (v := 5) hX dX6_parseBlock_64 (by decide) ?_
        refine kr_dV (c1 := 6) [_] hX km_6_51 dX6_parseBlock_65 (sp_fail hp0) rfl rfl ⟨_, _, rfl⟩ (by decide) (Nat.le_of_ble_eq_true rfl) (Nat.le_refl _) (Nat.le_refl _) (by assumption) ?_
        refine kr_zret hX hr (by first | exact Or.inl rfl | exact Or.inr rfl | assumption) dX6_parseBlock_68 ⟨rfl, ?_⟩
        rw [b_blkL, if_neg c_60] at hQ
        exact hQ
    · skip
      exact absurd (by rw [hib]; decide) c_4
  | succ n ih =>
    intro i μ hin ho hA hQ
    have hib : i < 4 := by omega
    refine kr_iload_n (i := 2) hX dX6_parseBlock_2 rfl rfl ?_
    refine kr_iconst (v := 4) hX dX6_parseBlock_3 (by decide) ?_
    refine kr_icmp_ge (tgt := 56) hX dX6_parseBlock_4 (by decide) (fun c_4 => ?_) (fun c_4 => ?_)
    · skip
      exact absurd c_4 (kt_ge (b := 4) rfl hib (by decide))
    · skip
      refine kr_aload_n (i := 0) hX dX6_parseBlock_7 rfl rfl ?_
      refine kr_dV (c1 := 6) [] hX km_6_58 dX6_parseBlock_8 (sp_actS hp0) rfl rfl ⟨_, _, rfl⟩ (by decide) (Nat.le_of_ble_eq_true rfl) (Nat.le_refl _) (Nat.le_refl _) (by assumption) ?_
      refine kr_istore_n (i := 3) hX dX6_parseBlock_11 rfl (by decide) rfl rfl ?_
      refine kr_iload_n (i := 3) hX dX6_parseBlock_12 rfl rfl ?_
      refine kr_if_ge (tgt := 39) hX dX6_parseBlock_13 (by decide) (fun c_13 => ?_) (fun c_13 => ?_)
      · skip
        refine kr_aload_n (i := 0) hX dX6_parseBlock_39 rfl rfl ?_
        refine kr_aload_n (i := 1) hX dX6_parseBlock_40 rfl rfl ?_
        refine kr_iload_n (i := 3) hX dX6_parseBlock_41 rfl rfl ?_
        refine kr_dV (c1 := 6) [_, _] hX km_6_69 dX6_parseBlock_42 (sp_pactS hp0 ho hb0 hkp (by rw [hA]; exact vp_in_nI (by omega) (by decide))) rfl rfl ⟨_, _, rfl⟩ (by decide) (Nat.le_of_ble_eq_true rfl) (Nat.le_refl _) (Nat.le_refl _) (by assumption) ?_
        refine kr_if_ne (tgt := 50) hX dX6_parseBlock_45 (by decide) (fun c_45 => ?_) (fun c_45 => ?_)
        · skip
          refine kr_iinc (v := nI (i + 1)) hX dX6_parseBlock_50 rfl (by first | exact nI_1 _ | rfl) (by decide) rfl rfl ?_
          refine kr_goto (tgt := 2) hX dX6_parseBlock_53 (by decide) ?_
          refine kr_keep [0, 1, 2] rfl ?_
          rw [b_blkL, if_pos c_13, if_neg c_45] at hQ
          exact ih (i + 1) _ (by omega) (ho.qact hkp) (by rw [q_bact_0 hkp c_45, hA]; exact nI_1 i) hQ
        · skip
          refine kr_iconst (v := 0) hX dX6_parseBlock_48 (by decide) ?_
          refine kr_zret hX hr (by first | exact Or.inl rfl | exact Or.inr rfl | assumption) dX6_parseBlock_49 ⟨rfl, ?_⟩
          rw [b_blkL] at hQ
          rw [if_pos c_13, if_pos c_45] at hQ
          exact hQ
      · skip
        refine kr_aload_n (i := 0) hX dX6_parseBlock_16 rfl rfl ?_
        refine kr_aload_n (i := 1) hX dX6_parseBlock_17 rfl rfl ?_
        refine kr_dV (c1 := 6) [_] hX km_6_62 dX6_parseBlock_18 (sp_endS hp0 ho hb0 hkp) rfl rfl ⟨_, _, rfl⟩ (by decide) (Nat.le_of_ble_eq_true rfl) (Nat.le_refl _) (Nat.le_refl _) (by assumption) ?_
        refine kr_if_eq (tgt := 37) hX dX6_parseBlock_21 (by decide) (fun c_21 => ?_) (fun c_21 => ?_)
        · skip
          refine kr_iconst (v := 0) hX dX6_parseBlock_37 (by decide) ?_
          refine kr_zret hX hr (by first | exact Or.inl rfl | exact Or.inr rfl | assumption) dX6_parseBlock_38 ⟨rfl, ?_⟩
          rw [b_blkL] at hQ
          rw [if_neg c_13] at hQ
          unfold b_last at hQ
          rw [b_and_f c_21] at hQ
          exact hQ
        · skip
          refine kr_aload_n (i := 0) hX dX6_parseBlock_24 rfl rfl ?_
          refine kr_bipush (v := 59) hX dX6_parseBlock_25 (by decide) ?_
          refine kr_dV (c1 := 6) [_] hX km_6_65 dX6_parseBlock_27 (sp_sgnS hp0 (ho.qend hkne)) rfl rfl ⟨_, _, rfl⟩ (by decide) (Nat.le_of_ble_eq_true rfl) (Nat.le_refl _) (Nat.le_refl _) (by assumption) ?_
          refine kr_if_eq (tgt := 37) hX dX6_parseBlock_30 (by decide) (fun c_30 => ?_) (fun c_30 => ?_)
          · skip
            refine kr_iconst (v := 0) hX dX6_parseBlock_37 (by decide) ?_
            refine kr_zret hX hr (by first | exact Or.inl rfl | exact Or.inr rfl | assumption) dX6_parseBlock_38 ⟨rfl, ?_⟩
            rw [b_blkL] at hQ
            rw [if_neg c_13] at hQ
            unfold b_last at hQ
            rw [b_and_t c_21] at hQ
            rw [kt_f_f (fun h => h c_30)] at hQ
            exact hQ
          · skip
            refine kr_iconst (v := 1) hX dX6_parseBlock_33 (by decide) ?_
            refine kr_goto (tgt := 38) hX dX6_parseBlock_34 (by decide) ?_
            refine kr_zret hX hr (by first | exact Or.inl rfl | exact Or.inr rfl | assumption) dX6_parseBlock_38 ⟨rfl, ?_⟩
            rw [b_blkL] at hQ
            rw [if_neg c_13] at hQ
            unfold b_last at hQ
            rw [b_and_t c_21] at hQ
            rw [kt_f_t c_30] at hQ
            exact hQ

set_option maxHeartbeats 4000000 in
set_option maxRecDepth 100000 in
theorem sp_pblk {G : kt_G} {σ : kt_Y} {μ : kt_M} {p : Nat} (hp : kt_rd σ p) {L : Nat} (ho : k_rdok μ p L) {k : Nat} (hb : kt_blk σ k) (hkp : k + 4 ≤ p ∨ p + 2 ≤ k) (hA : kt_i μ k 0 = 0) : kt_F G yX6_parseBlock cX6_parseBlock 4 (some .boolean) 6 [.ref p, .ref k] σ μ (fun r μ2 => r = some (.int (b_blkL p k 4 μ).1) ∧ μ2 = (b_blkL p k 4 μ).2) := by
  refine kt_F.of (by decide) (Nat.le_of_ble_eq_true rfl) (fun X hX hr => ?_)
  have hp0 := hp
  obtain ⟨hk0, hr0, hk1⟩ := hp
  refine kr_iconst (v := 0) hX dX6_parseBlock_0 (by decide) ?_
  refine kr_istore_n (i := 2) hX dX6_parseBlock_1 rfl (by decide) rfl rfl ?_
  exact lp_pblk hX hr hp0 hb hkp 4 0 _ (by omega) ho hA ⟨rfl, rfl⟩


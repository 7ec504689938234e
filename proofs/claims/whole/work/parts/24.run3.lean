theorem r_out_out {μ : kt_M} {p x k : Nat} {c : Int32} (h : x ≠ p ∧ x ≠ p + 3) : kt_i (r_out μ p c) x k = kt_i μ x k := by
  unfold r_out; split
  · rfl
  · rw [kt_i_sin h.1, kt_i_sin h.2]
theorem r_act2_out {μ : kt_M} {p q v x k : Nat} {a n : Int32} (h : x ≠ p ∧ x ≠ p + 1 ∧ x ≠ p + 3) : kt_i (r_act2 μ p q a v n) x k = kt_i μ x k := by
  unfold r_act2
  split
  · rw [kt_i_sin h.2.1]
  · split
    · rw [kt_i_sin h.2.1]
    · split
      · rw [kt_i_sin h.2.1]
      · split
        · rw [kt_i_sin h.2.1]
        · split
          · rw [kt_i_sin h.1, kt_i_sin h.2.1]
          · exact r_out_out ⟨h.1, h.2.2⟩
theorem r_act_out {μ : kt_M} {p q x k : Nat} {a v n : Int32} (h : x ≠ p ∧ x ≠ p + 1 ∧ x ≠ p + 3) : kt_i (r_act μ p q a v n) x k = kt_i μ x k := by
  unfold r_act; split
  · rw [r_act2_out h, kt_i_sin h.1]
  · rfl
theorem r_out_p {μ : kt_M} {p k : Nat} {c : Int32} (h : k ≠ 6) : kt_i (r_out μ p c) p k = kt_i μ p k := by
  unfold r_out; split
  · rfl
  · rw [kt_i_sik h, kt_i_sin (by omega)]
theorem r_act2_p {μ : kt_M} {p q v k : Nat} {a n : Int32} (h : k ≠ 6 ∧ k ≠ 7) : kt_i (r_act2 μ p q a v n) p k = kt_i μ p k := by
  unfold r_act2
  split
  · rw [kt_i_sin (by omega)]
  · split
    · rw [kt_i_sin (by omega)]
    · split
      · rw [kt_i_sin (by omega)]
      · split
        · rw [kt_i_sin (by omega)]
        · split
          · rw [kt_i_sik h.2, kt_i_sin (by omega)]
          · exact r_out_p h.1
theorem r_act_p {μ : kt_M} {p q k : Nat} {a v n : Int32} (h : k ≠ 4 ∧ k ≠ 6 ∧ k ≠ 7) : kt_i (r_act μ p q a v n) p k = kt_i μ p k := by
  unfold r_act; split
  · rw [r_act2_p h.2, kt_i_sik h.1]
  · rfl
def r_actsL (p q k : Nat) : Nat → Nat → kt_M → kt_M
  | 0, _, μ => μ
  | n + 1, i, μ => r_actsL p q k n (i + 1) (r_act μ p q (kt_i μ (k + 1) i) (kt_i μ (k + 2) i) (kt_i μ (k + 3) i))
theorem r_actsL_out {p q b x k : Nat} (h : x ≠ p ∧ x ≠ p + 1 ∧ x ≠ p + 3) : ∀ (n i : Nat) (μ : kt_M), kt_i (r_actsL p q b n i μ) x k = kt_i μ x k
  | 0, _, _ => rfl
  | n + 1, i, μ => by rw [r_actsL, r_actsL_out h n, r_act_out h]
theorem r_actsL_p {p q b k : Nat} (h : k ≠ 4 ∧ k ≠ 6 ∧ k ≠ 7) : ∀ (n i : Nat) (μ : kt_M), kt_i (r_actsL p q b n i μ) p k = kt_i μ p k
  | 0, _, _ => rfl
  | n + 1, i, μ => by rw [r_actsL, r_actsL_p h n, r_act_p h]
theorem r_end_out {μ : kt_M} {p b x k : Nat} (h : x ≠ p) : kt_i (r_end μ p b).2 x k = kt_i μ x k := by
  unfold r_end; split
  · show kt_i (kt_si μ p 5 _) x k = _; rw [kt_i_sin h]
  · show kt_i (kt_si μ p 8 _) x k = _; rw [kt_i_sin h]
theorem r_end_p {μ : kt_M} {p b k : Nat} (h : k ≠ 5 ∧ k ≠ 8) : kt_i (r_end μ p b).2 p k = kt_i μ p k := by
  unfold r_end; split
  · show kt_i (kt_si μ p 5 _) p k = _; rw [kt_i_sik h.1]
  · show kt_i (kt_si μ p 8 _) p k = _; rw [kt_i_sik h.2]
def r_ent (μ : kt_M) (p : Nat) (b : Int32) : kt_M := kt_si (kt_si μ (p + 2) (kt_i μ p 3).toNatClampNeg b) p 3 (kt_i μ p 3 + 1)
def r_step (μ : kt_M) (p q a : Nat) (b : Int32) : Int32 × kt_M := r_end (r_actsL p a (k_at μ q b) (kt_i μ (k_at μ q b) 0).toNatClampNeg 0 (r_ent μ p b)) p (k_at μ q b)
def r_flL (p q a : Nat) : Nat → Int32 → kt_M → kt_M
  | 0, _, μ => μ
  | n + 1, b, μ => if kt_i μ p 8 = 0 then r_flL p q a n (r_step μ p q a b).1 (r_step μ p q a b).2 else μ
def r_fol (μ : kt_M) (p q a : Nat) : kt_M := r_flL p q a 60 0 (kt_si (r_start μ p) p 8 (if kt_i μ q 3 = 0 then 1 else 0))
/-- every block has at most four acts -/
def kt_ac (μ : kt_M) (q : Nat) : Prop := ∀ b : Int32, ∃ m : Nat, m ≤ 4 ∧ kt_i μ (k_at μ q b) 0 = nI m
theorem k_at_eq {μ μ' : kt_M} {q : Nat} (h : kt_i μ' q 3 = kt_i μ q 3) (b : Int32) : k_at μ' q b = k_at μ q b := by unfold k_at k_hs; rw [h]
theorem k_at_in {μ : kt_M} {q s : Nat} (hs : kt_i μ q 3 = nI s) (hs16 : s ≤ 16) (b : Int32) : q + 1 ≤ k_at μ q b ∧ (k_at μ q b = q + 1 ∨ ∃ j, j < s ∧ k_at μ q b = q + 7 + 4 * j) := by
  unfold k_at
  split
  · rename_i h
    obtain ⟨j, hj, e⟩ := k_hs_nI hs (by omega) h
    rw [e, nI_clamp (by omega)]
    exact ⟨by omega, Or.inr ⟨j, hj, rfl⟩⟩
  · exact ⟨by omega, Or.inl rfl⟩
theorem kt_ac.keep {μ μ' : kt_M} {q s N : Nat} (h : kt_ac μ q) (hs : kt_i μ q 3 = nI s) (hsN : s ≤ N) (hN : N ≤ 16) (ho : ∀ x k, q ≤ x → x < q + 7 + 4 * N → kt_i μ' x k = kt_i μ x k) : kt_ac μ' q := by
  intro b
  have e := k_at_eq (ho q 3 (Nat.le_refl _) (by omega)) b
  obtain ⟨m, hm, e2⟩ := h b
  obtain ⟨h1, h2⟩ := k_at_in hs (by omega) b
  refine ⟨m, hm, ?_⟩
  rw [e, ho _ _ (by omega) (by rcases h2 with h2 | ⟨j, hj, h2⟩ <;> omega)]
  exact e2
set_option maxHeartbeats 4000000 in
set_option maxRecDepth 100000 in
theorem lp_ractsF {G : kt_G} {σ : kt_Y} {X : kt_X} (hX : kt_ok G X RX7 cX7_follow 6 4 0 0) (hr : kt_rt X = none) {Q : Option Value → kt_M → Prop} {p : Nat} (hp : kt_rn σ p) {q N s : Nat} (hq : kt_pg σ q N) (hN : N ≤ 16) (hsN : s ≤ N) (hsep : p + 4 ≤ q ∨ q + 7 + 4 * N ≤ p) {a : Nat} (ha : kt_k σ a = some (1, 8)) (hap : a + 1 ≤ p ∨ p + 4 ≤ a) {k : Nat} (hk : kt_blk σ k) (hkp : p + 4 ≤ k ∨ k + 4 ≤ p) {b : Int32} {m : Nat} (hm : m ≤ 4) : ∀ (n i : Nat) (μ : kt_M) , i + n = m → kt_i μ k 0 = nI m → (kt_W G X 6 22 [(0, .ref p), (1, .ref q), (2, .ref a), (3, .int (r_end (r_actsL p a k n i μ) p k).1)] [] σ (r_end (r_actsL p a k n i μ) p k).2 0 0 (kt_Z G X (kt_q σ Q) 0 0)) → kt_W G X 6 68 [(0, .ref p), (1, .ref q), (2, .ref a), (3, .int b), (4, .ref k), (5, .int (nI i))] [] σ μ 0 0 (kt_Z G X (kt_q σ Q) 0 0) := by
  have hp0 := hp
  obtain ⟨hk0, hr0, hr1, hr2, hk1, hk2, hk3⟩ := hp
  have hq0 := hq
  have hb0 := hk
  obtain ⟨gk0, gr1, gr2, gr3, gk1, gk2, gk3⟩ := hk
  intro n
  induction n with
  | zero =>
    intro i μ hin hA hQ
    have hib : i = m := by omega
    refine kr_iload hX dX7_follow_68 rfl ?_
    refine kr_aload hX dX7_follow_70 rfl ?_
    refine kr_geti (c0 := 0) (k := 0) hX ⟨_, kf_7_41⟩ dX7_follow_72 rfl (by assumption) ?_
    refine kr_icmp_ge (tgt := 119) hX dX7_follow_75 (by decide) (fun c_75 => ?_) (fun c_75 => ?_)
    · skip
      refine kr_aload_n (i := 0) hX dX7_follow_119 rfl rfl ?_
      refine kr_aload hX dX7_follow_120 rfl ?_
      refine kr_dV (c1 := 7) [_] hX km_7_59 dX7_follow_122 (sp_rend hp0 hb0 hkp) rfl rfl ⟨_, _, rfl⟩ (by decide) (Nat.le_of_ble_eq_true rfl) (Nat.le_refl _) (Nat.le_refl _) (by assumption) ?_
      refine kr_istore_n (i := 3) hX dX7_follow_125 rfl (by decide) rfl rfl ?_
      refine kr_goto (tgt := 22) hX dX7_follow_126 (by decide) ?_
      refine kr_keep [0, 1, 2, 3] rfl ?_
      exact hQ
    · skip
      exact absurd (by rw [hA, hib]; exact Int32.le_refl _) c_75
  | succ n ih =>
    intro i μ hin hA hQ
    have hib : i < m := by omega
    refine kr_iload hX dX7_follow_68 rfl ?_
    refine kr_aload hX dX7_follow_70 rfl ?_
    refine kr_geti (c0 := 0) (k := 0) hX ⟨_, kf_7_41⟩ dX7_follow_72 rfl (by assumption) ?_
    refine kr_icmp_ge (tgt := 119) hX dX7_follow_75 (by decide) (fun c_75 => ?_) (fun c_75 => ?_)
    · skip
      exact absurd c_75 (by rw [hA]; exact nI_ge hib (by omega))
    · skip
      refine kr_iload hX dX7_follow_78 rfl ?_
      refine kr_iconst (v := 4) hX dX7_follow_80 (by decide) ?_
      refine kr_icmp_ge (tgt := 119) hX dX7_follow_81 (by decide) (fun c_81 => ?_) (fun c_81 => ?_)
      · skip
        exact absurd c_81 (kt_ge (b := 4) rfl (by omega) (by decide))
      · skip
        refine kr_aload_n (i := 0) hX dX7_follow_84 rfl rfl ?_
        refine kr_aload hX dX7_follow_85 rfl ?_
        refine kr_getr (c0 := 0) (k := 1) hX ⟨_, kf_7_46⟩ dX7_follow_87 rfl (by assumption) (by assumption) ?_
        refine kr_iload hX dX7_follow_90 rfl ?_
        refine kr_ialdN hX dX7_follow_92 (by assumption) (by omega) ?_
        refine kr_aload hX dX7_follow_93 rfl ?_
        refine kr_getr (c0 := 0) (k := 2) hX ⟨_, kf_7_49⟩ dX7_follow_95 rfl (by assumption) (by assumption) ?_
        refine kr_iload hX dX7_follow_98 rfl ?_
        refine kr_ialdN hX dX7_follow_100 (by assumption) (by omega) ?_
        refine kr_aload hX dX7_follow_101 rfl ?_
        refine kr_getr (c0 := 0) (k := 3) hX ⟨_, kf_7_52⟩ dX7_follow_103 rfl (by assumption) (by assumption) ?_
        refine kr_iload hX dX7_follow_106 rfl ?_
        refine kr_ialdN hX dX7_follow_108 (by assumption) (by omega) ?_
        refine kr_aload_n (i := 2) hX dX7_follow_109 rfl rfl ?_
        refine kr_dV (c1 := 7) [_, _, _, _] hX km_7_55 dX7_follow_110 (sp_ract hp0 ha (by omega)) rfl rfl ⟨_, _, rfl⟩ (by decide) (Nat.le_of_ble_eq_true rfl) (Nat.le_refl _) (Nat.le_refl _) (by assumption) ?_
        refine kr_iinc (v := nI (i + 1)) hX dX7_follow_113 rfl (by first | exact nI_1 _ | rfl) (by decide) rfl rfl ?_
        refine kr_goto (tgt := 68) hX dX7_follow_116 (by decide) ?_
        refine ih (i + 1) _ (by omega) ?_ hQ
        rw [r_act_out (by omega)]; exact hA

set_option maxHeartbeats 4000000 in
set_option maxRecDepth 100000 in
theorem lp_follow {G : kt_G} {σ : kt_Y} {X : kt_X} (hX : kt_ok G X RX7 cX7_follow 6 4 0 0) (hr : kt_rt X = none) {Q : Option Value → kt_M → Prop} {p : Nat} (hp : kt_rn σ p) {q N s : Nat} (hq : kt_pg σ q N) (hN : N ≤ 16) (hsN : s ≤ N) (hsep : p + 4 ≤ q ∨ q + 7 + 4 * N ≤ p) {a : Nat} (ha : kt_k σ a = some (1, 8)) (hap : a + 1 ≤ p ∨ p + 4 ≤ a) : ∀ (n i : Nat) (μ : kt_M) (b : Int32), i + n = 60 → kt_i μ q 3 = nI s → kt_ac μ q → kt_i μ p 3 = nI i → (Q none (r_flL p q a n b μ)) → kt_W G X 6 22 [(0, .ref p), (1, .ref q), (2, .ref a), (3, .int b)] [] σ μ 0 0 (kt_Z G X (kt_q σ Q) 0 0) := by
  have hp0 := hp
  obtain ⟨hk0, hr0, hr1, hr2, hk1, hk2, hk3⟩ := hp
  have hq0 := hq
  intro n
  induction n with
  | zero =>
    intro i μ b hin hs hac hE hQ
    have hib : i = 60 := by omega
    refine kr_aload_n (i := 0) hX dX7_follow_22 rfl rfl ?_
    refine kr_geti (c0 := 7) (k := 8) hX ⟨_, kf_7_30⟩ dX7_follow_23 rfl (by assumption) ?_
    refine kr_if_ne (tgt := 129) hX dX7_follow_26 (by decide) (fun c_26 => ?_) (fun c_26 => ?_)
    · skip
      refine kr_vret hX hr dX7_follow_129 ⟨rfl, ?_⟩
      exact hQ
    · skip
      refine kr_aload_n (i := 0) hX dX7_follow_29 rfl rfl ?_
      refine kr_geti (c0 := 7) (k := 3) hX ⟨_, kf_7_34⟩ dX7_follow_30 rfl (by assumption) ?_
      refine kr_bipush (v := 60) hX dX7_follow_33 (by decide) ?_
      refine kr_icmp_ge (tgt := 129) hX dX7_follow_35 (by decide) (fun c_35 => ?_) (fun c_35 => ?_)
      · skip
        refine kr_vret hX hr dX7_follow_129 ⟨rfl, ?_⟩
        exact hQ
      · skip
        exact absurd (by rw [hE, hib]; decide) c_35
  | succ n ih =>
    intro i μ b hin hs hac hE hQ
    have hib : i < 60 := by omega
    refine kr_aload_n (i := 0) hX dX7_follow_22 rfl rfl ?_
    refine kr_geti (c0 := 7) (k := 8) hX ⟨_, kf_7_30⟩ dX7_follow_23 rfl (by assumption) ?_
    refine kr_if_ne (tgt := 129) hX dX7_follow_26 (by decide) (fun c_26 => ?_) (fun c_26 => ?_)
    · skip
      refine kr_vret hX hr dX7_follow_129 ⟨rfl, ?_⟩
      simp only [r_flL] at hQ
      rw [if_neg c_26] at hQ
      exact hQ
    · skip
      refine kr_aload_n (i := 0) hX dX7_follow_29 rfl rfl ?_
      refine kr_geti (c0 := 7) (k := 3) hX ⟨_, kf_7_34⟩ dX7_follow_30 rfl (by assumption) ?_
      refine kr_bipush (v := 60) hX dX7_follow_33 (by decide) ?_
      refine kr_icmp_ge (tgt := 129) hX dX7_follow_35 (by decide) (fun c_35 => ?_) (fun c_35 => ?_)
      · skip
        exact absurd c_35 (by rw [hE]; exact kt_ge rfl hib (by decide))
      · skip
        refine kr_aload_n (i := 1) hX dX7_follow_38 rfl rfl ?_
        refine kr_iload_n (i := 3) hX dX7_follow_39 rfl rfl ?_
        refine kr_dV (c1 := 4) [_] hX km_7_37 dX7_follow_40 (sp_at hq0 hN hs hsN) rfl rfl ⟨_, _, rfl⟩ (by decide) (Nat.le_of_ble_eq_true rfl) (Nat.le_refl _) (Nat.le_refl _) (by exact hq0.1) ?_
        refine kr_astore hX dX7_follow_43 (by decide) rfl rfl ?_
        refine kr_aload_n (i := 0) hX dX7_follow_45 rfl rfl ?_
        refine kr_getr (c0 := 7) (k := 1) hX ⟨_, kf_7_15⟩ dX7_follow_46 rfl (by assumption) (by assumption) ?_
        refine kr_aload_n (i := 0) hX dX7_follow_49 rfl rfl ?_
        refine kr_geti (c0 := 7) (k := 3) hX ⟨_, kf_7_34⟩ dX7_follow_50 rfl (by assumption) ?_
        refine kr_rw (y := nI i) (by exact hE) ?_
        refine kr_iload_n (i := 3) hX dX7_follow_53 rfl rfl ?_
        refine kr_iastN hX dX7_follow_54 (by assumption) (by omega) ?_
        refine kr_aload_n (i := 0) hX dX7_follow_55 rfl rfl ?_
        refine kr_dup hX dX7_follow_56 rfl ?_
        refine kr_geti (c0 := 7) (k := 3) hX ⟨_, kf_7_34⟩ dX7_follow_57 rfl (by assumption) ?_
        refine kr_rw (y := nI i) (by rw [kt_i_sin (by omega)]; exact hE) ?_
        refine kr_iconst (v := 1) hX dX7_follow_60 (by decide) ?_
        refine kr_iadd hX dX7_follow_61 ?_
        refine kr_rw (y := nI (i + 1)) (by exact nI_1 i) ?_
        refine kr_puti (c0 := 7) (k := 3) hX kf_7_34 dX7_follow_62 rfl rfl rfl (by assumption) ?_
        refine kr_iconst (v := 0) hX dX7_follow_65 (by decide) ?_
        refine kr_istore hX dX7_follow_66 (by decide) rfl rfl ?_
        simp only [r_flL] at hQ
        obtain ⟨m, hm, eA⟩ := hac b
        have hkb := hq0.at_ hs hsN hN b
        obtain ⟨h1, h2⟩ := k_at_in hs (by omega) b
        have hke : k_at μ q b + 4 ≤ q + 7 + 4 * N := by rcases h2 with h2 | ⟨j, hj, h2⟩ <;> omega
        have hkp : p + 4 ≤ k_at μ q b ∨ k_at μ q b + 4 ≤ p := by omega
        clear h2
        have hcl : (kt_i μ (k_at μ q b) 0).toNatClampNeg = m := by rw [eA]; exact nI_clamp (by omega)
        refine lp_ractsF hX hr hp0 hq0 hN hsN hsep ha hap hkb hkp hm m 0 _ (by omega) ?_ ?_
        · rw [kt_i_sin (by omega), kt_i_sin (by omega)]; exact eA
        · rw [if_pos c_26] at hQ
          have e9 : r_step μ p q a b = r_end (r_actsL p a (k_at μ q b) m 0 (r_ent μ p b)) p (k_at μ q b) := by unfold r_step; rw [hcl]
          rw [e9] at hQ
          have ho : ∀ x k, x ≠ p ∧ x ≠ p + 1 ∧ x ≠ p + 2 ∧ x ≠ p + 3 → kt_i (r_end (r_actsL p a (k_at μ q b) m 0 (r_ent μ p b)) p (k_at μ q b)).2 x k = kt_i μ x k := by
            intro x k hx
            rw [r_end_out hx.1, r_actsL_out ⟨hx.1, hx.2.1, hx.2.2.2⟩]
            unfold r_ent
            rw [kt_i_sin hx.1, kt_i_sin hx.2.2.1]
          have he : r_ent μ p b = kt_si (kt_si μ (p + 2) i b) p 3 (nI (i + 1)) := by unfold r_ent; rw [hE, nI_clamp (by omega), nI_1]
          rw [← he]
          refine ih (i + 1) _ _ (by omega) ?_ ?_ ?_ hQ
          · rw [ho q 3 (by omega)]; exact hs
          · exact hac.keep hs hsN hN (fun x k h3 h4 => ho x k (by omega))
          · rw [r_end_p (by decide), r_actsL_p (by decide)]; unfold r_ent; rw [kt_i_sie, hE]; exact nI_1 i

set_option maxHeartbeats 4000000 in
set_option maxRecDepth 100000 in
theorem sp_follow {G : kt_G} {σ : kt_Y} {μ : kt_M} {p : Nat} (hp : kt_rn σ p) {q N s : Nat} (hq : kt_pg σ q N) (hN : N ≤ 16) (hsN : s ≤ N) (hsep : p + 4 ≤ q ∨ q + 7 + 4 * N ≤ p) {a : Nat} (ha : kt_k σ a = some (1, 8)) (hap : a + 1 ≤ p ∨ p + 4 ≤ a) (hs : kt_i μ q 3 = nI s) (hac : kt_ac μ q) : kt_F G yX7_follow cX7_follow 6 none 4 [.ref p, .ref q, .ref a] σ μ (fun r μ2 => r = none ∧ μ2 = r_fol μ p q a) := by
  refine kt_F.of (by decide) (Nat.le_of_ble_eq_true rfl) (fun X hX hr => ?_)
  have hp0 := hp
  obtain ⟨hk0, hr0, hr1, hr2, hk1, hk2, hk3⟩ := hp
  have hq0 := hq
  refine kr_aload_n (i := 0) hX dX7_follow_0 rfl rfl ?_
  refine kr_dV (c1 := 7) [] hX km_7_21 dX7_follow_1 (sp_rstart hp0) rfl rfl ⟨_, _, rfl⟩ (by decide) (Nat.le_of_ble_eq_true rfl) (Nat.le_refl _) (Nat.le_refl _) (by assumption) ?_
  refine kr_aload_n (i := 0) hX dX7_follow_4 rfl rfl ?_
  refine kr_aload_n (i := 1) hX dX7_follow_5 rfl rfl ?_
  refine kr_geti (c0 := 4) (k := 3) hX ⟨_, kf_7_24⟩ dX7_follow_6 rfl (by exact hq0.1) ?_
  refine kr_if_ne (tgt := 16) hX dX7_follow_9 (by decide) (fun c_9 => ?_) (fun c_9 => ?_)
  · skip
    refine kr_iconst (v := 0) hX dX7_follow_16 (by decide) ?_
    refine kr_puti (c0 := 7) (k := 8) hX kf_7_30 dX7_follow_17 rfl (kt_bz (by first | exact Or.inl rfl | exact Or.inr rfl | assumption)).1 (kt_bz (by first | exact Or.inl rfl | exact Or.inr rfl | assumption)).2 (by assumption) ?_
    refine kr_iconst (v := 0) hX dX7_follow_20 (by decide) ?_
    refine kr_istore_n (i := 3) hX dX7_follow_21 rfl (by decide) rfl rfl ?_
    refine lp_follow hX hr hp0 hq0 hN hsN hsep ha hap 60 0 _ 0 (by omega) ?_ ?_ ?_ ?_
    · rw [kt_i_sin (by omega)]; unfold r_start; (repeat (rw [kt_i_sin (by omega)])); exact hs
    · exact hac.keep hs hsN hN (fun x k h3 h4 => by rw [kt_i_sin (by omega)]; unfold r_start; (repeat (rw [kt_i_sin (by omega)])))
    · rw [kt_i_sik (by decide)]; unfold r_start; rw [kt_i_sik (by decide), kt_i_sik (by decide), kt_i_sik (by decide), kt_i_sik (by decide), kt_i_sie]; rfl
    · refine ⟨rfl, ?_⟩
      have e0 : kt_i (r_start μ p) q 3 = kt_i μ q 3 := by unfold r_start; (repeat (rw [kt_i_sin (by omega)]))
      rw [e0] at c_9
      unfold r_fol
      first
      | rw [if_pos c_9]
      | rw [if_neg c_9]
  · skip
    refine kr_iconst (v := 1) hX dX7_follow_12 (by decide) ?_
    refine kr_goto (tgt := 17) hX dX7_follow_13 (by decide) ?_
    refine kr_puti (c0 := 7) (k := 8) hX kf_7_30 dX7_follow_17 rfl (kt_bz (by first | exact Or.inl rfl | exact Or.inr rfl | assumption)).1 (kt_bz (by first | exact Or.inl rfl | exact Or.inr rfl | assumption)).2 (by assumption) ?_
    refine kr_iconst (v := 0) hX dX7_follow_20 (by decide) ?_
    refine kr_istore_n (i := 3) hX dX7_follow_21 rfl (by decide) rfl rfl ?_
    refine lp_follow hX hr hp0 hq0 hN hsN hsep ha hap 60 0 _ 0 (by omega) ?_ ?_ ?_ ?_
    · rw [kt_i_sin (by omega)]; unfold r_start; (repeat (rw [kt_i_sin (by omega)])); exact hs
    · exact hac.keep hs hsN hN (fun x k h3 h4 => by rw [kt_i_sin (by omega)]; unfold r_start; (repeat (rw [kt_i_sin (by omega)])))
    · rw [kt_i_sik (by decide)]; unfold r_start; rw [kt_i_sik (by decide), kt_i_sik (by decide), kt_i_sik (by decide), kt_i_sik (by decide), kt_i_sie]; rfl
    · refine ⟨rfl, ?_⟩
      have e0 : kt_i (r_start μ p) q 3 = kt_i μ q 3 := by unfold r_start; (repeat (rw [kt_i_sin (by omega)]))
      rw [e0] at c_9
      unfold r_fol
      first
      | rw [if_pos c_9]
      | rw [if_neg c_9]


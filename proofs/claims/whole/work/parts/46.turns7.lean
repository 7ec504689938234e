theorem kr_ldcw {G : kt_G} {X : kt_X} {own : String} {cc : ByteArray} {nL d mc ms pc cs ss : Nat} {lv : List (Nat × Value)} {st : List Value} {σ : kt_Y} {μ : kt_M} {Z : State → Prop} (hX : kt_ok G X own cc nL d mc ms) {index : Nat} {v : Int32} (hw : Cond.constant own index v ∈ kt_T) (hdg : decode cc pc = .ok (.ldc_w index, 3)) (k : kt_W G X nL (pc + 3) lv (.int v :: st) σ μ cs ss Z) : kt_W G X nL pc lv st σ μ cs ss Z := by
  obtain ⟨p, l, e, R, s, m, args, below, meth, c⟩ := X
  obtain ⟨hx, hb, hml, hown, hts, hK, h0, hlk, hla, hrm, hmc, hms⟩ := hX
  intro H locs ls hH hS hl
  exact lv_ldcw hx hb hown (hts _ hw) hdg (k H locs ls hH hS hl)
/-- the first n of an array of ints become another's -/
def kt_cpy (μ : kt_M) (a a0 n : Nat) : kt_M := (va_up μ.1 a (va_cpy (μ.1 a0) (μ.1 a) 0 0 n), μ.2)
theorem kt_i_cpy {μ : kt_M} {a a0 n x k : Nat} : kt_i (kt_cpy μ a a0 n) x k = if x = a ∧ k < n then kt_i μ a0 k else kt_i μ x k := by
  unfold kt_cpy kt_i
  by_cases h : x = a
  · subst h
    show va_up μ.1 x (va_cpy (μ.1 a0) (μ.1 x) 0 0 n) x k = _
    rw [va_up_eq']
    unfold va_cpy
    by_cases hk : k < n
    · rw [if_pos (by omega), if_pos ⟨rfl, hk⟩, show 0 + (k - 0) = k from by omega]
    · rw [if_neg (by omega), if_neg (fun h => hk h.2)]
  · show va_up μ.1 a (va_cpy (μ.1 a0) (μ.1 a) 0 0 n) x k = _
    rw [va_up_ne' h, if_neg (fun h2 => h h2.1)]
set_option maxHeartbeats 4000000 in
theorem kr_copyi {G : kt_G} {X : kt_X} {own : String} {cc : ByteArray} {nL d mc ms pc cs ss idx : Nat} {lv : List (Nat × Value)} {st : List Value} {σ : kt_Y} {μ : kt_M} {Z : State → Prop} (hX : kt_ok G X own cc nL (d + 1) mc ms) (hdg : decode cc pc = .ok (.invokestatic idx, 3)) (hw : Cond.methodLink own idx arraycopyName ∈ kt_T) {a0 a n0 n1 n : Nat} (hk0 : kt_k σ a0 = some (1, n0)) (hk1 : kt_k σ a = some (1, n1)) (h4 : n ≤ n0) (h5 : n ≤ n1) (hn : n < 1000000) (hcat : (st.map fun v => v.category).sum ≤ 8) (kk : kt_W G X nL (pc + 3) lv st σ (kt_cpy μ a a0 n) cs ss Z) : kt_W G X nL pc lv (.int (nI n) :: .int 0 :: .ref a :: .int 0 :: .ref a0 :: st) σ μ cs ss Z := by
  obtain ⟨p, l, e, R, s, m, args, below, meth, c⟩ := X
  obtain ⟨hx, hb, hml, hown, hts, hK, h0, hlk, hla, hrm, hmc, hms⟩ := hX
  intro H locs ls hH hS hl
  have hc0 : H[a0]? = some (vp_cell (kt_aC G 1) (n0, .inl (kt_i μ a0))) := by
    have h := hH.at hk0; rw [kt_cell_i hk0] at h; exact h
  have hc1 : H[a]? = some (vp_cell (kt_aC G 1) (n1, .inl (kt_i μ a))) := by
    have h := hH.at hk1; rw [kt_cell_i hk1] at h; exact h
  have nn : (nI n).toInt = (n : Int) := nI_toInt' hn
  have nc : (nI n).toNatClampNeg = n := nI_clamp (by omega)
  have z0 : (0 : Int32).toNatClampNeg = 0 := by decide
  have hfw : nativeFrameWords "java/lang/System" "arraycopy" 5 + 11 ≤ 32 := by decide
  have hfl : (st.map fun v => v.category).sum + (nativeFrameWords "java/lang/System" "arraycopy" 5 + 11) ≤ R.locals := by have := hrm.2; omega
  have hff := hrm.1
  intro T hT X
  obtain ⟨-, k0, hk0', cm0, hkk0⟩ := (hK.1.2 1 _ rfl).1 n0 (fun j => .int (kt_i μ a0 j))
  obtain ⟨-, k1, hk1', cm1, hkk1⟩ := (hK.1.2 1 _ rfl).1 n1 (fun j => .int (kt_i μ a j))
  obtain ⟨vm', X', step⟩ := X.arraycopy hx hown (hts _ hw) (hts (Cond.native arraycopyName) kw_998) (hts (Cond.static arraycopyName) kw_997) (hts (Cond.initialized "java/lang/System") kw_18) (src := a0) (dst := a) (cs := vp_cell (kt_aC G 1) (n0, .inl (kt_i μ a0))) (cd := vp_cell (kt_aC G 1) (n1, .inl (kt_i μ a))) (srcPos := 0) (destPos := 0) (n := nI n) (by rw [hT]; exact hc0) (by rw [hT]; exact hc1)
    (fun _ h => by cases h) (fun _ h => by cases h) (fun h => by cases h) (fun h => by cases h) hk0' hk1' hkk0 hkk1 (by simp [refKind]) (by decide) (by decide) (by rw [Int32.lt_iff_toInt_lt, nn]; show ¬ (n : Int) < 0; omega)
    (by rw [nn]; show ¬ (0 : Int) + (n : Int) > ((arrV (kt_aC G 1) n0 (fun j => .int (kt_i μ a0 j))).slots.size : Int); rw [arrV_size]; omega)
    (by rw [nn]; show ¬ (0 : Int) + (n : Int) > ((arrV (kt_aC G 1) n1 (fun j => .int (kt_i μ a j))).slots.size : Int); rw [arrV_size]; omega)
    (fun vm₁ _ i hi => by
      have e : (vp_cell (kt_aC G 1) (n0, .inl (kt_i μ a0))).slots.getD ((0 : Int32).toNatClampNeg + i) .null = .int (kt_i μ a0 ((0 : Int32).toNatClampNeg + i)) := by
        show (arrV (kt_aC G 1) n0 (fun j => .int (kt_i μ a0 j))).slots.getD _ _ = _
        rw [Array.getD_eq_getD_getElem?, arrV_read _ _ (by rw [nc] at hi; rw [z0]; omega)]
        rfl
      refine ⟨?_, ?_⟩
      · rw [e]; rfl
      · rw [e]; exact trivial)
    (g := F0 m pc ls (.int (nI n) :: .int 0 :: .ref a :: .int 0 :: .ref a0 :: st)) rfl (by rw [hml]; exact hl.1) (rest := st) rfl (by rw [hb]; exact hdg) (by omega) (by show 2 * 0 + _ + _ ≤ _; omega)
  have e1 : copied (vp_cell (kt_aC G 1) (n0, .inl (kt_i μ a0))) (vp_cell (kt_aC G 1) (n1, .inl (kt_i μ a))) 0 0 (nI n) = vp_cell (kt_aC G 1) (n1, .inl (kt_i (kt_cpy μ a a0 n) a)) := by
    have h := va_copied (fun z => Value.int z) (kt_aC G 1) (kt_aC G 1) (sp := 0) (dp := 0) (n := n) (n1 := n1) (kt_i μ a0) (kt_i μ a) (n0 := n0) (by omega)
    have e2 : kt_i (kt_cpy μ a a0 n) a = va_cpy (kt_i μ a0) (kt_i μ a) 0 0 n := va_up_eq' (f := μ.1)
    rw [e2]
    show (arrV (kt_aC G 1) n1 (fun j => Value.int (kt_i μ a j))).storeRun (0 : Int32).toNatClampNeg ((arrV (kt_aC G 1) n0 (fun j => Value.int (kt_i μ a0 j))).stretch (0 : Int32).toNatClampNeg (nI n).toNatClampNeg) = _
    rw [nc, z0]
    exact h
  rw [e1] at X' step
  have hlt : a < H.size := (Array.getElem?_eq_some_iff.mp hc1).1
  have hheap : ((T.setVm vm').setCell a (vp_cell (kt_aC G 1) (n1, .inl (kt_i (kt_cpy μ a a0 n) a)))).heap = H.setIfInBounds a (vp_cell (kt_aC G 1) (n1, .inl (kt_i (kt_cpy μ a a0 n) a))) := by rw [← hT]; rfl
  have oq : ∀ q : Nat, q ≠ a → (H.setIfInBounds a (vp_cell (kt_aC G 1) (n1, .inl (kt_i (kt_cpy μ a a0 n) a))))[q]? = H[q]? := fun q hq => by simp [Array.getElem?_setIfInBounds, Ne.symm hq]
  obtain ⟨t, a1, b1⟩ := kk (H.setIfInBounds a (vp_cell (kt_aC G 1) (n1, .inl (kt_i (kt_cpy μ a a0 n) a)))) _ ls (hH.put (by simp) oq rfl rfl (fun x hx => kt_cell_ext rfl rfl (va_up_ne' hx) rfl) (by rw [kt_cell_i hk1]; show (H.setIfInBounds a _)[a]? = some _; simp [Array.getElem?_setIfInBounds, hlt])) ⟨by simp; exact hS.1, fun q g1 g2 => by
      rw [oq q (fun e => g2 (by rw [e]; exact hH.A hk1))]
      exact hS.2.1 q g1 g2, fun q hq => by
      rcases List.mem_append.mp hq with h | h
      · exact hS.2.2 q h
      · obtain ⟨z, -, hz⟩ := List.mem_map.mp h
        rw [← hz]
        exact hH.A hk1⟩ hl _ hheap X'
  exact ⟨t, step t a1, b1⟩
def k_ush (x y : Int32) : Int32 := (x.toUInt32 >>> (y.toUInt32 &&& Int32.toUInt32 31)).toInt32
def k_bc (x : Int32) : Int32 :=
  let a := x - (k_ush x 1 &&& 1431655765)
  let b := (a &&& 858993459) + (k_ush a 2 &&& 858993459)
  let c := (b + k_ush b 4) &&& 252645135
  let d := c + k_ush c 8
  let e := d + k_ush d 16
  e &&& 63
set_option maxHeartbeats 4000000 in
set_option maxRecDepth 100000 in
theorem sp_bc {G : kt_G} {σ : kt_Y} {μ : kt_M} {x : Int32} : kt_F G yJ6_bitCount_0f7a4 cJ6_bitCount_0f7a4 1 (some .int) 0 [.int x] σ μ (fun r μ2 => r = some (.int (k_bc x)) ∧ μ2 = μ) := by
  refine kt_F.of (by decide) (Nat.le_of_ble_eq_true rfl) (fun X hX hr => ?_)
  refine kr_iload_n (i := 0) hX dJ6_bitCount_0f7a4_0 rfl rfl ?_
  refine kr_iload_n (i := 0) hX dJ6_bitCount_0f7a4_1 rfl rfl ?_
  refine kr_iconst (v := 1) hX dJ6_bitCount_0f7a4_2 (by decide) ?_
  refine kr_iushr hX dJ6_bitCount_0f7a4_3 rfl ?_
  refine kr_ldcw (v := 1431655765) hX kw_699 dJ6_bitCount_0f7a4_4 ?_
  refine kr_iand hX dJ6_bitCount_0f7a4_7 ?_
  refine kr_isub hX dJ6_bitCount_0f7a4_8 ?_
  refine kr_istore_n (i := 0) hX dJ6_bitCount_0f7a4_9 rfl (by decide) rfl rfl ?_
  refine kr_iload_n (i := 0) hX dJ6_bitCount_0f7a4_10 rfl rfl ?_
  refine kr_ldcw (v := 858993459) hX kw_700 dJ6_bitCount_0f7a4_11 ?_
  refine kr_iand hX dJ6_bitCount_0f7a4_14 ?_
  refine kr_iload_n (i := 0) hX dJ6_bitCount_0f7a4_15 rfl rfl ?_
  refine kr_iconst (v := 2) hX dJ6_bitCount_0f7a4_16 (by decide) ?_
  refine kr_iushr hX dJ6_bitCount_0f7a4_17 rfl ?_
  refine kr_ldcw (v := 858993459) hX kw_700 dJ6_bitCount_0f7a4_18 ?_
  refine kr_iand hX dJ6_bitCount_0f7a4_21 ?_
  refine kr_iadd hX dJ6_bitCount_0f7a4_22 ?_
  refine kr_istore_n (i := 0) hX dJ6_bitCount_0f7a4_23 rfl (by decide) rfl rfl ?_
  refine kr_iload_n (i := 0) hX dJ6_bitCount_0f7a4_24 rfl rfl ?_
  refine kr_iload_n (i := 0) hX dJ6_bitCount_0f7a4_25 rfl rfl ?_
  refine kr_iconst (v := 4) hX dJ6_bitCount_0f7a4_26 (by decide) ?_
  refine kr_iushr hX dJ6_bitCount_0f7a4_27 rfl ?_
  refine kr_iadd hX dJ6_bitCount_0f7a4_28 ?_
  refine kr_ldcw (v := 252645135) hX kw_701 dJ6_bitCount_0f7a4_29 ?_
  refine kr_iand hX dJ6_bitCount_0f7a4_32 ?_
  refine kr_istore_n (i := 0) hX dJ6_bitCount_0f7a4_33 rfl (by decide) rfl rfl ?_
  refine kr_iload_n (i := 0) hX dJ6_bitCount_0f7a4_34 rfl rfl ?_
  refine kr_iload_n (i := 0) hX dJ6_bitCount_0f7a4_35 rfl rfl ?_
  refine kr_bipush (v := 8) hX dJ6_bitCount_0f7a4_36 (by decide) ?_
  refine kr_iushr hX dJ6_bitCount_0f7a4_38 rfl ?_
  refine kr_iadd hX dJ6_bitCount_0f7a4_39 ?_
  refine kr_istore_n (i := 0) hX dJ6_bitCount_0f7a4_40 rfl (by decide) rfl rfl ?_
  refine kr_iload_n (i := 0) hX dJ6_bitCount_0f7a4_41 rfl rfl ?_
  refine kr_iload_n (i := 0) hX dJ6_bitCount_0f7a4_42 rfl rfl ?_
  refine kr_bipush (v := 16) hX dJ6_bitCount_0f7a4_43 (by decide) ?_
  refine kr_iushr hX dJ6_bitCount_0f7a4_45 rfl ?_
  refine kr_iadd hX dJ6_bitCount_0f7a4_46 ?_
  refine kr_istore_n (i := 0) hX dJ6_bitCount_0f7a4_47 rfl (by decide) rfl rfl ?_
  refine kr_iload_n (i := 0) hX dJ6_bitCount_0f7a4_48 rfl rfl ?_
  refine kr_bipush (v := 63) hX dJ6_bitCount_0f7a4_49 (by decide) ?_
  refine kr_iand hX dJ6_bitCount_0f7a4_51 ?_
  refine kr_iret hX hr dJ6_bitCount_0f7a4_52 ⟨rfl, ?_⟩
  exact ⟨rfl, rfl⟩

theorem d_act_out {μ : kt_M} {p b x k : Nat} (h : x ≠ p ∧ (x < b ∨ b + 4 ≤ x)) : kt_i (d_act μ p b) x k = kt_i μ x k := by
  unfold d_act; rw [m_add_out h.2, d_opn_out h.1, d_nx_out h.1, d_nx_out h.1]
theorem d_actsL_out {p b x k : Nat} (h : x ≠ p ∧ (x < b ∨ b + 4 ≤ x)) : ∀ (n : Nat) (μ : kt_M), kt_i (d_actsL p b n μ) x k = kt_i μ x k
  | 0, _ => rfl
  | n + 1, μ => by rw [d_actsL, d_actsL_out h n, d_act_out h]
theorem d_end_out {μ : kt_M} {p b x k : Nat} (h : x ≠ p ∧ x ≠ b) : kt_i (d_end μ p b) x k = kt_i μ x k := by
  unfold d_end; dsimp only
  generalize (if d_val μ p 5 = 4 then (2 : Int32) else d_val μ p 5) = e
  split
  · rw [kt_i_sin h.2, d_nx_out h.1]
  · rw [kt_i_sin h.2, kt_i_sin h.2, d_nx_out h.1, kt_i_sin h.2, d_nx_out h.1, kt_i_sin h.2, d_nx_out h.1]
theorem d_aimL_out {p b x k : Nat} {m : Int32} (h : x ≠ p ∧ x ≠ b) : ∀ (n i : Nat) (μ : kt_M), kt_i (d_aimL p b m n i μ) x k = kt_i μ x k
  | 0, _, _ => rfl
  | n + 1, i, μ => by rw [d_aimL, d_aimL_out h n, kt_i_sin h.2, d_nx_out h.1]
theorem d_blk0_out {μ : kt_M} {p b x k : Nat} (h : x ≠ p ∧ (x < b ∨ b + 4 ≤ x)) : kt_i (d_blk0 μ p b) x k = kt_i μ x k := by
  unfold d_blk0; rw [d_end_out (by omega), d_actsL_out h, d_nx_out h.1]
theorem d_blk_out {μ : kt_M} {p b x k : Nat} {m : Int32} (h : x ≠ p ∧ (x < b ∨ b + 4 ≤ x)) : kt_i (d_blk μ p b m) x k = kt_i μ x k := by
  unfold d_blk; rw [kt_seal_eq, d_aimL_out (by omega), d_blk0_out h]
theorem kb_p.dact {μ : kt_M} {p b m : Nat} (h : kb_p μ b m) (hne : p + 1 ≤ b ∨ b + 4 ≤ p) : kb_p (d_act μ p b) b (m + 1) := by
  refine ⟨by rw [d_act_acts hne, h.1]; exact nI_1 m, ?_⟩
  unfold d_act; rw [m_add_6 (m := 0), d_opn_out (by omega), d_nx_out (by omega), d_nx_out (by omega)]; exact h.2
theorem kb_p.dacts {p b : Nat} (hne : p + 1 ≤ b ∨ b + 4 ≤ p) : ∀ (n m : Nat) (μ : kt_M), kb_p μ b m → kb_p (d_actsL p b n μ) b (m + n)
  | 0, _, _, h => h
  | n + 1, m, μ, h => by rw [d_actsL, show m + (n + 1) = m + 1 + n from by omega]; exact kb_p.dacts hne n (m + 1) _ (h.dact hne)
theorem kb_p.dend {μ : kt_M} {p b m : Nat} (h : kb_p μ b m) (hne : p + 1 ≤ b ∨ b + 4 ≤ p) : kb_p (d_end μ p b) b m := by
  have hn : ∀ {μ : kt_M}, kb_p μ b m → kb_p (d_nx μ p) b m := fun h => h.far (fun j => d_nx_out (by omega))
  unfold d_end; dsimp only
  generalize (if d_val μ p 5 = 4 then (2 : Int32) else d_val μ p 5) = e
  have h2 := (hn h).put (v := e) (show (4 : Nat) ≠ 0 by decide) (show (4 : Nat) ≠ 6 by decide)
  split
  · exact h2
  · refine kb_p.put (kb_p.put6 (hn ((hn h2).put (j := 5) (by decide) (by decide))) ?_) (by decide) (by decide)
    split
    · exact Or.inl rfl
    · exact Or.inr rfl
theorem kb_p.daim {p b m : Nat} {c : Int32} (hne : p + 1 ≤ b ∨ b + 4 ≤ p) : ∀ (n i : Nat) (μ : kt_M), kb_p μ b m → kb_p (d_aimL p b c n i μ) b m
  | 0, _, _, h => h
  | n + 1, i, μ, h => by rw [d_aimL]; exact kb_p.daim hne n (i + 1) _ ((h.far (fun j => d_nx_out (by omega))).put (by split <;> decide) (by split <;> decide))
theorem d_val4 (μ : kt_M) (p : Nat) : ∃ j, j < 4 ∧ (d_val μ p 4).toNatClampNeg = j := by
  obtain ⟨m, hm, e⟩ := d_val_nI (μ := μ) (p := p) (k := 4) (by decide) (by decide)
  exact ⟨m, hm, by rw [show (4 : Int32) = nI 4 from rfl, e]; exact nI_clamp (by omega)⟩
theorem d_blk_p {μ : kt_M} {p b : Nat} {c : Int32} (hne : p + 1 ≤ b ∨ b + 4 ≤ p) (h : kb_p μ b 0) : ∃ m, m ≤ 4 ∧ kb_p (d_blk μ p b c) b m := by
  obtain ⟨j, hj, e⟩ := d_val4 μ p
  refine ⟨j, by omega, ?_⟩
  unfold d_blk d_blk0
  rw [kt_seal_eq, e]
  have h1 := kb_p.dacts hne j 0 _ (h.far (μ' := d_nx μ p) (fun j => d_nx_out (by omega)))
  rw [Nat.zero_add] at h1
  exact kb_p.daim hne _ _ _ (h1.dend hne)
noncomputable def ut_drL (o : Nat) (m : Int32) : Nat → Nat → kt_M → kt_M
  | 0, _, μ => μ
  | n + 1, i, μ => ut_drL o m n (i + 1) (d_blk (p_grw μ (o + 42) i) (o + 368) (o + 42 + 7 + 4 * i) m)
theorem kd_p.dr {μ : kt_M} {o i : Nat} {m : Int32} (hi : i < 8) (h : kd_p μ (o + 42) i) : kd_p (d_blk (p_grw μ (o + 42) i) (o + 368) (o + 42 + 7 + 4 * i) m) (o + 42) (i + 1) := by
  have hg : kb_p (p_grw μ (o + 42) i) (o + 42 + 7 + 4 * i) 0 := by
    unfold p_grw kb_p
    rw [kt_i_sin (by omega), kt_i_sin (by omega), m_wipe_0, m_wipe_6]; exact ⟨rfl, Or.inl rfl⟩
  obtain ⟨m2, hm2, hk2⟩ := d_blk_p (p := o + 368) (c := m) (by omega) hg
  refine ⟨?_, ?_, fun b hb => ?_⟩
  · rw [d_blk_out (by omega)]; unfold p_grw; rw [kt_i_sie]
  · rw [d_blk_out (by omega), p_grw_out (by omega)]; exact h.2.1
  · by_cases hbi : b = i
    · rw [hbi]; exact ⟨m2, hm2, hk2⟩
    · obtain ⟨m, hm, hk⟩ := h.2.2 b (by omega)
      exact ⟨m, hm, hk.far (fun j => by rw [d_blk_out (by omega), p_grw_out (by omega)])⟩
theorem ut_drL_d {o : Nat} {m : Int32} : ∀ (n i : Nat) (μ : kt_M), i + n ≤ 8 → kd_p μ (o + 42) i → kd_p (ut_drL o m n i μ) (o + 42) (i + n)
  | 0, _, _, _, h => h
  | n + 1, i, μ, hi, h => by
    rw [ut_drL, show i + (n + 1) = i + 1 + n from by omega]
    exact ut_drL_d n (i + 1) _ (by omega) (h.dr (by omega))
noncomputable def ut_dr0 (μ : kt_M) (o : Nat) (sd n : Int32) : kt_M := ut_new (ut_drL o n n.toNatClampNeg 0 (kt_si (kt_si μ (o + 368) 0 sd) (o + 42) 3 0)) o n.toNatClampNeg
noncomputable def ut_draw (μ : kt_M) (o : Nat) (sd n : Int32) : Int32 × kt_M := if ¬ n < 1 ∧ n ≤ 8 then (k_totL (ut_dr0 μ o sd n) (o + 42) 2 n.toNatClampNeg 0 0, ut_dr0 μ o sd n) else (-1, μ)
theorem k_1to {n : Int32} {t : Nat} (h1 : ¬ n < 1) (h2 : n ≤ nI t) (ht : t < 1000) : ∃ m : Nat, m ≤ t ∧ n = nI m := by
  rw [Int32.lt_iff_toInt_lt, show (1 : Int32).toInt = 1 from by decide] at h1
  rw [Int32.le_iff_toInt_le, nI_toInt' (by omega)] at h2
  obtain ⟨m, hm, e⟩ := vp_in_of (x := n) (n := t + 1) (vp_in_iff.mpr (by omega)) (by omega)
  exact ⟨m, by omega, e⟩
set_option maxHeartbeats 4000000 in
set_option maxRecDepth 100000 in
theorem lp_draw {G : kt_G} {σ : kt_Y} {X : kt_X} (hX : kt_ok G X RX9 cX9_draw 4 4 0 0) (hr : kt_rt X = (some .int)) {Q : Option Value → kt_M → Prop} {o : Nat} (hp : kt_kt σ o) {m : Nat} (hm : m ≤ 8) {sd : Int32} : ∀ (n i : Nat) (μ : kt_M) , i + n = m → kd_p μ (o + 42) i → (Q (some (.int (k_totL (ut_new (ut_drL o (nI m) n i μ) o m) (o + 42) 2 m 0 0))) (ut_new (ut_drL o (nI m) n i μ) o m)) → kt_W G X 4 31 [(0, .ref o), (1, .int sd), (2, .int (nI m)), (3, .int (nI i))] [] σ μ 0 0 (kt_Z G X (kt_q σ Q) 0 0) := by
  have hp0 := hp
  obtain ⟨hk0, hr0, hr1, hr2, hr3, hr4, hr5, hr6, hr7, hr8, hr9, hr10, hr11, hr12, hk152, hk153, hk369, hk370, hk371, hrd, hdr, hor, hcu, hfw, hpt, hrn, hdi, him, hsh⟩ := hp
  intro n
  induction n with
  | zero =>
    intro i μ hin hd hQ
    have hib : i = m := by omega
    refine kr_iload_n (i := 3) hX dX9_draw_31 rfl rfl ?_
    refine kr_iload_n (i := 2) hX dX9_draw_32 rfl rfl ?_
    refine kr_icmp_ge (tgt := 57) hX dX9_draw_33 (by decide) (fun c_33 => ?_) (fun c_33 => ?_)
    · skip
      have hg : kp μ (o + 42) 8 m := by rw [hib] at hd; exact hd.kp hm (by decide)
      refine kr_aload_n (i := 0) hX dX9_draw_57 rfl rfl ?_
      refine kr_dV (c1 := 9) [] hX km_9_114 dX9_draw_58 (sp_new hp0 hg) rfl rfl ⟨_, _, rfl⟩ (by decide) (Nat.le_of_ble_eq_true rfl) (Nat.le_refl _) (Nat.le_refl _) (by first | exact hk0 | exact hrd.1 | exact hdr.1 | exact hor.1 | exact hcu.1 | exact hfw.1 | exact hpt.1 | exact hrn.1 | exact hdi | assumption) ?_
      refine kr_aload_n (i := 0) hX dX9_draw_61 rfl rfl ?_
      refine kr_getr (c0 := 9) (k := 2) hX ⟨_, kf_9_25⟩ dX9_draw_62 rfl (by first | exact hk0 | exact hrd.1 | exact hdr.1 | exact hor.1 | exact hcu.1 | exact hfw.1 | exact hpt.1 | exact hrn.1 | exact hdi | assumption) (by assumption) ?_
      refine kr_iconst (v := 2) hX dX9_draw_65 (by decide) ?_
      refine kr_dV (c1 := 4) [_] hX km_9_127 dX9_draw_66 (sp_total hor (by decide) (by rw [ut_new_o3 hm]; exact hg.1) hm) rfl rfl ⟨_, _, rfl⟩ (by decide) (Nat.le_of_ble_eq_true rfl) (Nat.le_refl _) (Nat.le_refl _) (by first | exact hk0 | exact hrd.1 | exact hdr.1 | exact hor.1 | exact hcu.1 | exact hfw.1 | exact hpt.1 | exact hrn.1 | exact hdi | assumption) ?_
      refine kr_iret hX hr dX9_draw_69 ⟨rfl, ?_⟩
      exact hQ
    · skip
      exact absurd (by rw [hib]; exact Int32.le_refl _) c_33
  | succ n ih =>
    intro i μ hin hd hQ
    have hib : i < m := by omega
    refine kr_iload_n (i := 3) hX dX9_draw_31 rfl rfl ?_
    refine kr_iload_n (i := 2) hX dX9_draw_32 rfl rfl ?_
    refine kr_icmp_ge (tgt := 57) hX dX9_draw_33 (by decide) (fun c_33 => ?_) (fun c_33 => ?_)
    · skip
      exact absurd c_33 (nI_ge hib (by omega))
    · skip
      refine kr_aload_n (i := 0) hX dX9_draw_36 rfl rfl ?_
      refine kr_getr (c0 := 9) (k := 9) hX ⟨_, kf_9_63⟩ dX9_draw_37 rfl (by first | exact hk0 | exact hrd.1 | exact hdr.1 | exact hor.1 | exact hcu.1 | exact hfw.1 | exact hpt.1 | exact hrn.1 | exact hdi | assumption) (by assumption) ?_
      refine kr_aload_n (i := 0) hX dX9_draw_40 rfl rfl ?_
      refine kr_getr (c0 := 9) (k := 2) hX ⟨_, kf_9_25⟩ dX9_draw_41 rfl (by first | exact hk0 | exact hrd.1 | exact hdr.1 | exact hor.1 | exact hcu.1 | exact hfw.1 | exact hpt.1 | exact hrn.1 | exact hdi | assumption) (by assumption) ?_
      refine kr_dV (c1 := 4) [] hX km_9_282 dX9_draw_44 (sp_grow hor (by decide) hd.1 (by omega)) rfl rfl ⟨_, _, rfl⟩ (by decide) (Nat.le_of_ble_eq_true rfl) (Nat.le_refl _) (Nat.le_refl _) (by first | exact hk0 | exact hrd.1 | exact hdr.1 | exact hor.1 | exact hcu.1 | exact hfw.1 | exact hpt.1 | exact hrn.1 | exact hdi | assumption) ?_
      refine kr_iload_n (i := 2) hX dX9_draw_47 rfl rfl ?_
      refine kr_dV (c1 := 1) [_, _] hX km_9_286 dX9_draw_48 (sp_dblk hdi (hor.2.2.2.2.2.2.2 i (by omega)).2 (by omega) (by rw [kt_i_sin (by omega)]; exact m_wipe_0)) rfl rfl ⟨_, _, rfl⟩ (by decide) (Nat.le_of_ble_eq_true rfl) (Nat.le_refl _) (Nat.le_refl _) (by exact hdi) ?_
      refine kr_iinc (v := nI (i + 1)) hX dX9_draw_51 rfl (by first | exact nI_1 _ | rfl) (by decide) rfl rfl ?_
      refine kr_goto (tgt := 31) hX dX9_draw_54 (by decide) ?_
      exact ih (i + 1) _ (by omega) (hd.dr (by omega)) hQ

set_option maxHeartbeats 4000000 in
set_option maxRecDepth 100000 in
theorem sp_draw {G : kt_G} {σ : kt_Y} {μ : kt_M} {o : Nat} (hp : kt_kt σ o) (hw : kt_i μ (o + 42 + 1) 0 = 0) {sd n : Int32} : kt_F G yX9_draw cX9_draw 4 (some .int) 4 [.ref o, .int sd, .int n] σ μ (fun r μ2 => r = some (.int (ut_draw μ o sd n).1) ∧ μ2 = (ut_draw μ o sd n).2) := by
  refine kt_F.of (by decide) (Nat.le_of_ble_eq_true rfl) (fun X hX hr => ?_)
  have hp0 := hp
  obtain ⟨hk0, hr0, hr1, hr2, hr3, hr4, hr5, hr6, hr7, hr8, hr9, hr10, hr11, hr12, hk152, hk153, hk369, hk370, hk371, hrd, hdr, hor, hcu, hfw, hpt, hrn, hdi, him, hsh⟩ := hp
  refine kr_iload_n (i := 2) hX dX9_draw_0 rfl rfl ?_
  refine kr_iconst (v := 1) hX dX9_draw_1 (by decide) ?_
  refine kr_icmp_lt (tgt := 11) hX dX9_draw_2 (by decide) (fun c_2 => ?_) (fun c_2 => ?_)
  · skip
    refine kr_iconst (v := (-1)) hX dX9_draw_11 (by decide) ?_
    refine kr_iret hX hr dX9_draw_12 ⟨rfl, ?_⟩
    rw [show ut_draw μ o sd n = _ from if_neg (fun h => h.1 c_2)]
    exact ⟨rfl, rfl⟩
  · skip
    refine kr_iload_n (i := 2) hX dX9_draw_5 rfl rfl ?_
    refine kr_bipush (v := 8) hX dX9_draw_6 (by decide) ?_
    refine kr_icmp_le (tgt := 13) hX dX9_draw_8 (by decide) (fun c_8 => ?_) (fun c_8 => ?_)
    · skip
      refine kr_aload_n (i := 0) hX dX9_draw_13 rfl rfl ?_
      refine kr_getr (c0 := 9) (k := 9) hX ⟨_, kf_9_63⟩ dX9_draw_14 rfl (by first | exact hk0 | exact hrd.1 | exact hdr.1 | exact hor.1 | exact hcu.1 | exact hfw.1 | exact hpt.1 | exact hrn.1 | exact hdi | assumption) (by assumption) ?_
      refine kr_iload_n (i := 1) hX dX9_draw_17 rfl rfl ?_
      refine kr_puti (c0 := 1) (k := 0) hX kf_9_269 dX9_draw_18 rfl rfl rfl (by first | exact hk0 | exact hrd.1 | exact hdr.1 | exact hor.1 | exact hcu.1 | exact hfw.1 | exact hpt.1 | exact hrn.1 | exact hdi | assumption) ?_
      refine kr_aload_n (i := 0) hX dX9_draw_21 rfl rfl ?_
      refine kr_getr (c0 := 9) (k := 2) hX ⟨_, kf_9_25⟩ dX9_draw_22 rfl (by first | exact hk0 | exact hrd.1 | exact hdr.1 | exact hor.1 | exact hcu.1 | exact hfw.1 | exact hpt.1 | exact hrn.1 | exact hdi | assumption) (by assumption) ?_
      refine kr_iconst (v := 0) hX dX9_draw_25 (by decide) ?_
      refine kr_puti (c0 := 4) (k := 3) hX kf_9_117 dX9_draw_26 rfl rfl rfl (by first | exact hk0 | exact hrd.1 | exact hdr.1 | exact hor.1 | exact hcu.1 | exact hfw.1 | exact hpt.1 | exact hrn.1 | exact hdi | assumption) ?_
      refine kr_iconst (v := 0) hX dX9_draw_29 (by decide) ?_
      refine kr_istore_n (i := 3) hX dX9_draw_30 rfl (by decide) rfl rfl ?_
      obtain ⟨m, hm, e⟩ := k_1to (t := 8) c_2 c_8 (by decide)
      have e2 : ut_draw μ o sd n = (k_totL (ut_dr0 μ o sd n) (o + 42) 2 m 0 0, ut_dr0 μ o sd n) := by
        rw [show ut_draw μ o sd n = _ from if_pos ⟨c_2, c_8⟩, e, nI_clamp (by omega)]
      rw [e2]
      unfold ut_dr0
      rw [e, nI_clamp (by omega)]
      exact lp_draw hX hr hp0 hm m 0 _ (by omega) ⟨kt_i_sie.trans rfl, by rw [kt_i_sin (by omega), kt_i_sin (by omega)]; exact hw, fun b hb => by omega⟩ ⟨rfl, rfl⟩
    · skip
      refine kr_iconst (v := (-1)) hX dX9_draw_11 (by decide) ?_
      refine kr_iret hX hr dX9_draw_12 ⟨rfl, ?_⟩
      rw [show ut_draw μ o sd n = _ from if_neg (fun h => c_8 h.2)]
      exact ⟨rfl, rfl⟩

noncomputable def ut_tri (o : Nat) : Nat → Nat → kt_M → kt_M
  | 0, _, μ => μ
  | n + 1, i, μ => ut_tri o n (i + 1) (kt_si (d_nx μ (o + 368)) (o + 370) i (d_val μ (o + 368) 52))
theorem ut_tri_out {o x k : Nat} (h : x ≠ o + 368 ∧ x ≠ o + 370) : ∀ (n i : Nat) (μ : kt_M), kt_i (ut_tri o n i μ) x k = kt_i μ x k
  | 0, _, _ => rfl
  | n + 1, i, μ => by rw [ut_tri, ut_tri_out h n, kt_i_sin h.2, d_nx_out h.1]
noncomputable def ut_sv1 (μ : kt_M) (o : Nat) : kt_M := q_fol (kt_seal (ut_tri o 8 0 μ)) (o + 364) (o + 42) (o + 370)
noncomputable def ut_sv2 (μ : kt_M) (o : Nat) : kt_M := q_fol (ut_sv1 μ o) (o + 364) (o + 81) (o + 370)
noncomputable def ut_svL (o : Nat) : Nat → kt_M → Int32 → Int32 × kt_M
  | 0, μ, c => (c, μ)
  | n + 1, μ, c => ut_svL o n (ut_sv2 μ o) (c + kt_i (ut_sv1 μ o) (o + 364) 5 - kt_i (ut_sv2 μ o) (o + 364) 5)
noncomputable def ut_saved (μ : kt_M) (o : Nat) (sd n : Int32) : Int32 × kt_M := if ¬ n < 1 ∧ n ≤ 10 then ut_svL o n.toNatClampNeg (kt_si μ (o + 368) 0 sd) 0 else (-1, μ)
theorem ut_sv1_out {μ : kt_M} {o x k : Nat} (h : x < o + 364 ∨ o + 371 ≤ x) : kt_i (ut_sv1 μ o) x k = kt_i μ x k := by
  unfold ut_sv1; rw [q_fol_out (by omega), kt_seal_eq, ut_tri_out (by omega)]
theorem ut_sv2_out {μ : kt_M} {o x k : Nat} (h : x < o + 364 ∨ o + 371 ≤ x) : kt_i (ut_sv2 μ o) x k = kt_i μ x k := by
  unfold ut_sv2; rw [q_fol_out (by omega), ut_sv1_out h]
set_option maxHeartbeats 4000000 in
set_option maxRecDepth 100000 in
theorem lp_sv1 {G : kt_G} {σ : kt_Y} {X : kt_X} (hX : kt_ok G X RX9 cX9_saved 6 5 0 0) (hr : kt_rt X = (some .int)) {Q : Option Value → kt_M → Prop} {o : Nat} (hp : kt_kt σ o) {sd c m r : Int32} : ∀ (n i : Nat) (μ : kt_M) , i + n = 8 →  (kt_W G X 6 64 [(0, .ref o), (1, .int sd), (2, .int m), (3, .int c), (4, .int r), (5, .int (nI 8))] [] σ (ut_tri o n i μ) 0 0 (kt_Z G X (kt_q σ Q) 0 0)) → kt_W G X 6 35 [(0, .ref o), (1, .int sd), (2, .int m), (3, .int c), (4, .int r), (5, .int (nI i))] [] σ μ 0 0 (kt_Z G X (kt_q σ Q) 0 0) := by
  have hp0 := hp
  obtain ⟨hk0, hr0, hr1, hr2, hr3, hr4, hr5, hr6, hr7, hr8, hr9, hr10, hr11, hr12, hk152, hk153, hk369, hk370, hk371, hrd, hdr, hor, hcu, hfw, hpt, hrn, hdi, him, hsh⟩ := hp
  intro n
  induction n with
  | zero =>
    intro i μ hin  hQ
    have hib : i = 8 := by omega
    refine kr_iload hX dX9_saved_35 rfl ?_
    refine kr_bipush (v := 8) hX dX9_saved_37 (by decide) ?_
    refine kr_icmp_ge (tgt := 64) hX dX9_saved_39 (by decide) (fun c_39 => ?_) (fun c_39 => ?_)
    · skip
      rw [hib]
      exact hQ
    · skip
      exact absurd (by rw [hib]; decide) c_39
  | succ n ih =>
    intro i μ hin  hQ
    have hib : i < 8 := by omega
    refine kr_iload hX dX9_saved_35 rfl ?_
    refine kr_bipush (v := 8) hX dX9_saved_37 (by decide) ?_
    refine kr_icmp_ge (tgt := 64) hX dX9_saved_39 (by decide) (fun c_39 => ?_) (fun c_39 => ?_)
    · skip
      exact absurd c_39 (kt_ge (b := 8) rfl hib (by decide))
    · skip
      refine kr_aload_n (i := 0) hX dX9_saved_42 rfl rfl ?_
      refine kr_getr (c0 := 9) (k := 11) hX ⟨_, kf_9_71⟩ dX9_saved_43 rfl (by first | exact hk0 | exact hrd.1 | exact hdr.1 | exact hor.1 | exact hcu.1 | exact hfw.1 | exact hpt.1 | exact hrn.1 | exact hdi | assumption) (by assumption) ?_
      refine kr_iload hX dX9_saved_46 rfl ?_
      refine kr_aload_n (i := 0) hX dX9_saved_48 rfl rfl ?_
      refine kr_getr (c0 := 9) (k := 9) hX ⟨_, kf_9_63⟩ dX9_saved_49 rfl (by first | exact hk0 | exact hrd.1 | exact hdr.1 | exact hor.1 | exact hcu.1 | exact hfw.1 | exact hpt.1 | exact hrn.1 | exact hdi | assumption) (by assumption) ?_
      refine kr_bipush (v := 52) hX dX9_saved_52 (by decide) ?_
      refine kr_dV (c1 := 1) [_] hX km_9_272 dX9_saved_54 (sp_next hdi) rfl rfl ⟨_, _, rfl⟩ (by decide) (Nat.le_of_ble_eq_true rfl) (Nat.le_refl _) (Nat.le_refl _) (by first | exact hk0 | exact hrd.1 | exact hdr.1 | exact hor.1 | exact hcu.1 | exact hfw.1 | exact hpt.1 | exact hrn.1 | exact hdi | assumption) ?_
      refine kr_iastN hX dX9_saved_57 (by first | exact hk0 | exact hrd.1 | exact hdr.1 | exact hor.1 | exact hcu.1 | exact hfw.1 | exact hpt.1 | exact hrn.1 | exact hdi | assumption) (by omega) ?_
      refine kr_iinc (v := nI (i + 1)) hX dX9_saved_58 rfl (by first | exact nI_1 _ | rfl) (by decide) rfl rfl ?_
      refine kr_goto (tgt := 35) hX dX9_saved_61 (by decide) ?_
      exact ih (i + 1) _ (by omega) hQ

set_option maxHeartbeats 4000000 in
set_option maxRecDepth 100000 in
theorem lp_sv2 {G : kt_G} {σ : kt_Y} {X : kt_X} (hX : kt_ok G X RX9 cX9_saved 6 5 0 0) (hr : kt_rt X = (some .int)) {Q : Option Value → kt_M → Prop} {o : Nat} (hp : kt_kt σ o) {s0 s1 : Nat} {sd : Int32} {m : Nat} (hm : m ≤ 10) : ∀ (n i : Nat) (μ : kt_M) (c : Int32), i + n = m → kp μ (o + 42) 8 s0 → kp μ (o + 81) 16 s1 → (Q (some (.int (ut_svL o n μ c).1)) (ut_svL o n μ c).2) → kt_W G X 6 26 [(0, .ref o), (1, .int sd), (2, .int (nI m)), (3, .int c), (4, .int (nI i))] [] σ μ 0 0 (kt_Z G X (kt_q σ Q) 0 0) := by
  have hp0 := hp
  obtain ⟨hk0, hr0, hr1, hr2, hr3, hr4, hr5, hr6, hr7, hr8, hr9, hr10, hr11, hr12, hk152, hk153, hk369, hk370, hk371, hrd, hdr, hor, hcu, hfw, hpt, hrn, hdi, him, hsh⟩ := hp
  intro n
  induction n with
  | zero =>
    intro i μ c hin hg hc hQ
    have hib : i = m := by omega
    refine kr_iload hX dX9_saved_26 rfl ?_
    refine kr_iload_n (i := 2) hX dX9_saved_28 rfl rfl ?_
    refine kr_icmp_ge (tgt := 120) hX dX9_saved_29 (by decide) (fun c_29 => ?_) (fun c_29 => ?_)
    · skip
      refine kr_iload_n (i := 3) hX dX9_saved_120 rfl rfl ?_
      refine kr_iret hX hr dX9_saved_121 ⟨rfl, ?_⟩
      exact hQ
    · skip
      exact absurd (by rw [hib]; exact Int32.le_refl _) c_29
  | succ n ih =>
    intro i μ c hin hg hc hQ
    have hib : i < m := by omega
    refine kr_iload hX dX9_saved_26 rfl ?_
    refine kr_iload_n (i := 2) hX dX9_saved_28 rfl rfl ?_
    refine kr_icmp_ge (tgt := 120) hX dX9_saved_29 (by decide) (fun c_29 => ?_) (fun c_29 => ?_)
    · skip
      exact absurd c_29 (nI_ge hib (by omega))
    · skip
      refine kr_iconst (v := 0) hX dX9_saved_32 (by decide) ?_
      refine kr_istore hX dX9_saved_33 (by decide) rfl rfl ?_
      refine lp_sv1 hX hr hp0 8 0 _ (by omega) ?_
      refine kr_mu (kt_seal_eq _).symm ?_
      have hg1 : kp (kt_seal (ut_tri o 8 0 μ)) (o + 42) 8 s0 := hg.keep (by decide) (fun x k h1 h2 => by rw [kt_seal_eq, ut_tri_out (by omega)])
      have hc2 : kp (ut_sv1 μ o) (o + 81) 16 s1 := hc.keep (by decide) (fun x k h1 h2 => ut_sv1_out (by omega))
      refine kr_aload_n (i := 0) hX dX9_saved_64 rfl rfl ?_
      refine kr_getr (c0 := 9) (k := 8) hX ⟨_, kf_9_56⟩ dX9_saved_65 rfl (by first | exact hk0 | exact hrd.1 | exact hdr.1 | exact hor.1 | exact hcu.1 | exact hfw.1 | exact hpt.1 | exact hrn.1 | exact hdi | assumption) (by assumption) ?_
      refine kr_aload_n (i := 0) hX dX9_saved_68 rfl rfl ?_
      refine kr_getr (c0 := 9) (k := 2) hX ⟨_, kf_9_25⟩ dX9_saved_69 rfl (by first | exact hk0 | exact hrd.1 | exact hdr.1 | exact hor.1 | exact hcu.1 | exact hfw.1 | exact hpt.1 | exact hrn.1 | exact hdi | assumption) (by assumption) ?_
      refine kr_aload_n (i := 0) hX dX9_saved_72 rfl rfl ?_
      refine kr_getr (c0 := 9) (k := 11) hX ⟨_, kf_9_71⟩ dX9_saved_73 rfl (by first | exact hk0 | exact hrd.1 | exact hdr.1 | exact hor.1 | exact hcu.1 | exact hfw.1 | exact hpt.1 | exact hrn.1 | exact hdi | assumption) (by assumption) ?_
      refine kr_dV (c1 := 7) [_, _] hX km_9_251 dX9_saved_76 (sp_folS hrn hor (by decide) hg1.2.1 (by omega) hk370 (by omega) hg1.1 hg1.2.2.1) rfl rfl ⟨_, _, rfl⟩ (by decide) (Nat.le_of_ble_eq_true rfl) (Nat.le_refl _) (Nat.le_refl _) (by first | exact hk0 | exact hrd.1 | exact hdr.1 | exact hor.1 | exact hcu.1 | exact hfw.1 | exact hpt.1 | exact hrn.1 | exact hdi | assumption) ?_
      refine kr_iload_n (i := 3) hX dX9_saved_79 rfl rfl ?_
      refine kr_aload_n (i := 0) hX dX9_saved_80 rfl rfl ?_
      refine kr_getr (c0 := 9) (k := 8) hX ⟨_, kf_9_56⟩ dX9_saved_81 rfl (by first | exact hk0 | exact hrd.1 | exact hdr.1 | exact hor.1 | exact hcu.1 | exact hfw.1 | exact hpt.1 | exact hrn.1 | exact hdi | assumption) (by assumption) ?_
      refine kr_geti (c0 := 7) (k := 5) hX ⟨_, kf_9_275⟩ dX9_saved_84 rfl (by first | exact hk0 | exact hrd.1 | exact hdr.1 | exact hor.1 | exact hcu.1 | exact hfw.1 | exact hpt.1 | exact hrn.1 | exact hdi | assumption) ?_
      refine kr_iadd hX dX9_saved_87 ?_
      refine kr_istore_n (i := 3) hX dX9_saved_88 rfl (by decide) rfl rfl ?_
      refine kr_aload_n (i := 0) hX dX9_saved_89 rfl rfl ?_
      refine kr_getr (c0 := 9) (k := 8) hX ⟨_, kf_9_56⟩ dX9_saved_90 rfl (by first | exact hk0 | exact hrd.1 | exact hdr.1 | exact hor.1 | exact hcu.1 | exact hfw.1 | exact hpt.1 | exact hrn.1 | exact hdi | assumption) (by assumption) ?_
      refine kr_aload_n (i := 0) hX dX9_saved_93 rfl rfl ?_
      refine kr_getr (c0 := 9) (k := 3) hX ⟨_, kf_9_28⟩ dX9_saved_94 rfl (by first | exact hk0 | exact hrd.1 | exact hdr.1 | exact hor.1 | exact hcu.1 | exact hfw.1 | exact hpt.1 | exact hrn.1 | exact hdi | assumption) (by assumption) ?_
      refine kr_aload_n (i := 0) hX dX9_saved_97 rfl rfl ?_
      refine kr_getr (c0 := 9) (k := 11) hX ⟨_, kf_9_71⟩ dX9_saved_98 rfl (by first | exact hk0 | exact hrd.1 | exact hdr.1 | exact hor.1 | exact hcu.1 | exact hfw.1 | exact hpt.1 | exact hrn.1 | exact hdi | assumption) (by assumption) ?_
      refine kr_dV (c1 := 7) [_, _] hX km_9_251 dX9_saved_101 (sp_folS hrn hcu (by decide) hc2.2.1 (by omega) hk370 (by omega) hc2.1 hc2.2.2.1) rfl rfl ⟨_, _, rfl⟩ (by decide) (Nat.le_of_ble_eq_true rfl) (Nat.le_refl _) (Nat.le_refl _) (by first | exact hk0 | exact hrd.1 | exact hdr.1 | exact hor.1 | exact hcu.1 | exact hfw.1 | exact hpt.1 | exact hrn.1 | exact hdi | assumption) ?_
      refine kr_iload_n (i := 3) hX dX9_saved_104 rfl rfl ?_
      refine kr_aload_n (i := 0) hX dX9_saved_105 rfl rfl ?_
      refine kr_getr (c0 := 9) (k := 8) hX ⟨_, kf_9_56⟩ dX9_saved_106 rfl (by first | exact hk0 | exact hrd.1 | exact hdr.1 | exact hor.1 | exact hcu.1 | exact hfw.1 | exact hpt.1 | exact hrn.1 | exact hdi | assumption) (by assumption) ?_
      refine kr_geti (c0 := 7) (k := 5) hX ⟨_, kf_9_275⟩ dX9_saved_109 rfl (by first | exact hk0 | exact hrd.1 | exact hdr.1 | exact hor.1 | exact hcu.1 | exact hfw.1 | exact hpt.1 | exact hrn.1 | exact hdi | assumption) ?_
      refine kr_isub hX dX9_saved_112 ?_
      refine kr_istore_n (i := 3) hX dX9_saved_113 rfl (by decide) rfl rfl ?_
      refine kr_iinc (v := nI (i + 1)) hX dX9_saved_114 rfl (by first | exact nI_1 _ | rfl) (by decide) rfl rfl ?_
      refine kr_goto (tgt := 26) hX dX9_saved_117 (by decide) ?_
      refine kr_keep [0, 1, 2, 3, 4] rfl ?_
      exact ih (i + 1) _ _ (by omega) (hg.keep (by decide) (fun x k h1 h2 => ut_sv2_out (by omega))) (hc.keep (by decide) (fun x k h1 h2 => ut_sv2_out (by omega))) hQ

set_option maxHeartbeats 4000000 in
set_option maxRecDepth 100000 in
theorem sp_saved {G : kt_G} {σ : kt_Y} {μ : kt_M} {o : Nat} (hp : kt_kt σ o) {s0 s1 : Nat} (hg : kp μ (o + 42) 8 s0) (hc : kp μ (o + 81) 16 s1) {sd n : Int32} : kt_F G yX9_saved cX9_saved 6 (some .int) 5 [.ref o, .int sd, .int n] σ μ (fun r μ2 => r = some (.int (ut_saved μ o sd n).1) ∧ μ2 = (ut_saved μ o sd n).2) := by
  refine kt_F.of (by decide) (Nat.le_of_ble_eq_true rfl) (fun X hX hr => ?_)
  have hp0 := hp
  obtain ⟨hk0, hr0, hr1, hr2, hr3, hr4, hr5, hr6, hr7, hr8, hr9, hr10, hr11, hr12, hk152, hk153, hk369, hk370, hk371, hrd, hdr, hor, hcu, hfw, hpt, hrn, hdi, him, hsh⟩ := hp
  refine kr_iload_n (i := 2) hX dX9_saved_0 rfl rfl ?_
  refine kr_iconst (v := 1) hX dX9_saved_1 (by decide) ?_
  refine kr_icmp_lt (tgt := 11) hX dX9_saved_2 (by decide) (fun c_2 => ?_) (fun c_2 => ?_)
  · skip
    refine kr_iconst (v := (-1)) hX dX9_saved_11 (by decide) ?_
    refine kr_iret hX hr dX9_saved_12 ⟨rfl, ?_⟩
    rw [show ut_saved μ o sd n = _ from if_neg (fun h => h.1 c_2)]
    exact ⟨rfl, rfl⟩
  · skip
    refine kr_iload_n (i := 2) hX dX9_saved_5 rfl rfl ?_
    refine kr_bipush (v := 10) hX dX9_saved_6 (by decide) ?_
    refine kr_icmp_le (tgt := 13) hX dX9_saved_8 (by decide) (fun c_8 => ?_) (fun c_8 => ?_)
    · skip
      refine kr_aload_n (i := 0) hX dX9_saved_13 rfl rfl ?_
      refine kr_getr (c0 := 9) (k := 9) hX ⟨_, kf_9_63⟩ dX9_saved_14 rfl (by first | exact hk0 | exact hrd.1 | exact hdr.1 | exact hor.1 | exact hcu.1 | exact hfw.1 | exact hpt.1 | exact hrn.1 | exact hdi | assumption) (by assumption) ?_
      refine kr_iload_n (i := 1) hX dX9_saved_17 rfl rfl ?_
      refine kr_puti (c0 := 1) (k := 0) hX kf_9_269 dX9_saved_18 rfl rfl rfl (by first | exact hk0 | exact hrd.1 | exact hdr.1 | exact hor.1 | exact hcu.1 | exact hfw.1 | exact hpt.1 | exact hrn.1 | exact hdi | assumption) ?_
      refine kr_iconst (v := 0) hX dX9_saved_21 (by decide) ?_
      refine kr_istore_n (i := 3) hX dX9_saved_22 rfl (by decide) rfl rfl ?_
      refine kr_iconst (v := 0) hX dX9_saved_23 (by decide) ?_
      refine kr_istore hX dX9_saved_24 (by decide) rfl rfl ?_
      obtain ⟨m, hm, e⟩ := k_1to (t := 10) c_2 c_8 (by decide)
      rw [show ut_saved μ o sd n = _ from if_pos ⟨c_2, c_8⟩, e, nI_clamp (by omega)]
      exact lp_sv2 hX hr hp0 hm m 0 _ 0 (by omega) (hg.keep (by decide) (fun x k h1 h2 => kt_i_sin (by omega))) (hc.keep (by decide) (fun x k h1 h2 => kt_i_sin (by omega))) ⟨rfl, rfl⟩
    · skip
      refine kr_iconst (v := (-1)) hX dX9_saved_11 (by decide) ?_
      refine kr_iret hX hr dX9_saved_12 ⟨rfl, ?_⟩
      rw [show ut_saved μ o sd n = _ from if_neg (fun h => c_8 h.2)]
      exact ⟨rfl, rfl⟩


theorem m_kp1_l (μ : kt_M) (p : Nat) (m : Int32) (i l : Nat) : (m_kp1 μ p m i l).2 = l ∨ (m_kp1 μ p m i l).2 = l + 1 := by
  unfold m_kp1; dsimp only; split
  · exact Or.inl rfl
  · exact Or.inr rfl
def k_riv (μ : kt_M) (p s : Nat) : Prop := ∀ b, b < s → kt_i μ (p + 7 + 4 * b) 6 = 0 ∨ kt_i μ (p + 7 + 4 * b) 6 = 1
set_option maxHeartbeats 4000000 in
set_option maxRecDepth 100000 in
theorem lp_keep2 {G : kt_G} {σ : kt_Y} {X : kt_X} (hX : kt_ok G X RX4 cX4_keepOnly 5 3 0 0) (hr : kt_rt X = (some .int)) {Q : Option Value → kt_M → Prop} {p N : Nat} (hp : kt_pg σ p N) (hN : N ≤ 16) {s : Nat} (hsN : s ≤ N) {l : Nat} (hl : l ≤ s) {m r : Int32} : ∀ (n i : Nat) (μ : kt_M) , i + n = l → kt_i μ p 3 = nI s → (Q (some (.int r)) (kt_si (m_anL p n i μ) p 3 (nI l))) → kt_W G X 5 75 [(0, .ref p), (1, .int m), (2, .int (nI l)), (3, .int r), (4, .int (nI i))] [] σ μ 0 0 (kt_Z G X (kt_q σ Q) 0 0) := by
  have hp0 := hp
  obtain ⟨hk0, hr0, hr1, hr2, hk5, hk6, hkn, hbl⟩ := hp
  intro n
  induction n with
  | zero =>
    intro i μ hin hs hQ
    have hib : i = l := by omega
    refine kr_iload hX dX4_keepOnly_75 rfl ?_
    refine kr_iload_n (i := 2) hX dX4_keepOnly_77 rfl rfl ?_
    refine kr_icmp_ge (tgt := 98) hX dX4_keepOnly_78 (by decide) (fun c_78 => ?_) (fun c_78 => ?_)
    · skip
      refine kr_aload_n (i := 0) hX dX4_keepOnly_98 rfl rfl ?_
      refine kr_iload_n (i := 2) hX dX4_keepOnly_99 rfl rfl ?_
      refine kr_puti (c0 := 4) (k := 3) hX kf_4_16 dX4_keepOnly_100 rfl rfl rfl (by assumption) ?_
      refine kr_iload_n (i := 3) hX dX4_keepOnly_103 rfl rfl ?_
      refine kr_iret hX hr dX4_keepOnly_104 ⟨rfl, ?_⟩
      exact hQ
    · skip
      exact absurd (by rw [hib]; exact Int32.le_refl _) c_78
  | succ n ih =>
    intro i μ hin hs hQ
    have hib : i < l := by omega
    refine kr_iload hX dX4_keepOnly_75 rfl ?_
    refine kr_iload_n (i := 2) hX dX4_keepOnly_77 rfl rfl ?_
    refine kr_icmp_ge (tgt := 98) hX dX4_keepOnly_78 (by decide) (fun c_78 => ?_) (fun c_78 => ?_)
    · skip
      exact absurd c_78 (nI_ge hib (by omega))
    · skip
      refine kr_aload_n (i := 0) hX dX4_keepOnly_81 rfl rfl ?_
      refine kr_aload_n (i := 0) hX dX4_keepOnly_82 rfl rfl ?_
      refine kr_getr (c0 := 4) (k := 0) hX ⟨_, kf_4_20⟩ dX4_keepOnly_83 rfl (by assumption) (by assumption) ?_
      refine kr_iload hX dX4_keepOnly_86 rfl ?_
      refine kr_aaldN (t := 0) hX dX4_keepOnly_88 (by decide) (by assumption) (by omega) (by exact (hbl i (by omega)).1) ?_
      refine kr_dV (c1 := 4) [_] hX km_4_67 dX4_keepOnly_89 (sp_anew hp0 hN hs hsN (hbl i (by omega)).2 (by omega)) rfl rfl ⟨_, _, rfl⟩ (by decide) (Nat.le_of_ble_eq_true rfl) (Nat.le_refl _) (Nat.le_refl _) (by assumption) ?_
      refine kr_iinc (v := nI (i + 1)) hX dX4_keepOnly_92 rfl (by first | exact nI_1 _ | rfl) (by decide) rfl rfl ?_
      refine kr_goto (tgt := 75) hX dX4_keepOnly_95 (by decide) ?_
      refine ih (i + 1) _ (by omega) ?_ hQ
      rw [m_anew_out (by omega)]; exact hs

set_option maxHeartbeats 4000000 in
set_option maxRecDepth 100000 in
theorem lp_keep1 {G : kt_G} {σ : kt_Y} {X : kt_X} (hX : kt_ok G X RX4 cX4_keepOnly 5 3 0 0) (hr : kt_rt X = (some .int)) {Q : Option Value → kt_M → Prop} {p N : Nat} (hp : kt_pg σ p N) (hN : N ≤ 16) {s : Nat} (hsN : s ≤ N) {m : Int32} : ∀ (n i : Nat) (μ : kt_M) (l : Nat), i + n = s → kt_i μ p 3 = nI s → l ≤ i → k_riv μ p s → (Q (some (.int (nI s - nI (m_kpL p m n i l μ).2))) (kt_si (m_anL p (m_kpL p m n i l μ).2 0 (m_kpL p m n i l μ).1) p 3 (nI (m_kpL p m n i l μ).2))) → kt_W G X 5 4 [(0, .ref p), (1, .int m), (2, .int (nI l)), (3, .int (nI i))] [] σ μ 0 0 (kt_Z G X (kt_q σ Q) 0 0) := by
  have hp0 := hp
  obtain ⟨hk0, hr0, hr1, hr2, hk5, hk6, hkn, hbl⟩ := hp
  intro n
  induction n with
  | zero =>
    intro i μ l hin hs hli hz hQ
    have hib : i = s := by omega
    refine kr_iload_n (i := 3) hX dX4_keepOnly_4 rfl rfl ?_
    refine kr_aload_n (i := 0) hX dX4_keepOnly_5 rfl rfl ?_
    refine kr_geti (c0 := 4) (k := 3) hX ⟨_, kf_4_16⟩ dX4_keepOnly_6 rfl (by assumption) ?_
    refine kr_icmp_ge (tgt := 65) hX dX4_keepOnly_9 (by decide) (fun c_9 => ?_) (fun c_9 => ?_)
    · skip
      refine kr_aload_n (i := 0) hX dX4_keepOnly_65 rfl rfl ?_
      refine kr_geti (c0 := 4) (k := 3) hX ⟨_, kf_4_16⟩ dX4_keepOnly_66 rfl (by assumption) ?_
      refine kr_rw (y := nI s) (by exact hs) ?_
      refine kr_iload_n (i := 2) hX dX4_keepOnly_69 rfl rfl ?_
      refine kr_isub hX dX4_keepOnly_70 ?_
      refine kr_istore_n (i := 3) hX dX4_keepOnly_71 rfl (by decide) rfl rfl ?_
      refine kr_iconst (v := 0) hX dX4_keepOnly_72 (by decide) ?_
      refine kr_istore hX dX4_keepOnly_73 (by decide) rfl rfl ?_
      exact lp_keep2 hX hr hp0 hN hsN (by omega) l 0 _ (by omega) hs hQ
    · skip
      exact absurd (by rw [hs, hib]; exact Int32.le_refl _) c_9
  | succ n ih =>
    intro i μ l hin hs hli hz hQ
    have hib : i < s := by omega
    refine kr_iload_n (i := 3) hX dX4_keepOnly_4 rfl rfl ?_
    refine kr_aload_n (i := 0) hX dX4_keepOnly_5 rfl rfl ?_
    refine kr_geti (c0 := 4) (k := 3) hX ⟨_, kf_4_16⟩ dX4_keepOnly_6 rfl (by assumption) ?_
    refine kr_icmp_ge (tgt := 65) hX dX4_keepOnly_9 (by decide) (fun c_9 => ?_) (fun c_9 => ?_)
    · skip
      exact absurd c_9 (by rw [hs]; exact nI_ge hib (by omega))
    · skip
      refine kr_iload_n (i := 3) hX dX4_keepOnly_12 rfl rfl ?_
      refine kr_aload_n (i := 0) hX dX4_keepOnly_13 rfl rfl ?_
      refine kr_getr (c0 := 4) (k := 0) hX ⟨_, kf_4_20⟩ dX4_keepOnly_14 rfl (by assumption) (by assumption) ?_
      refine kr_alen (t := 3) (n := N) (v := nI N) hX dX4_keepOnly_17 (by assumption) (by decide) (rfl) ?_
      refine kr_icmp_ge (tgt := 65) hX dX4_keepOnly_18 (by decide) (fun c_18 => ?_) (fun c_18 => ?_)
      · skip
        exact absurd c_18 (nI_ge (by omega) (by omega))
      · skip
        refine kr_aload_n (i := 0) hX dX4_keepOnly_21 rfl rfl ?_
        refine kr_getr (c0 := 4) (k := 1) hX ⟨_, kf_4_24⟩ dX4_keepOnly_22 rfl (by assumption) (by assumption) ?_
        refine kr_iload_n (i := 3) hX dX4_keepOnly_25 rfl rfl ?_
        refine kr_iload_n (i := 2) hX dX4_keepOnly_26 rfl rfl ?_
        refine kr_iastN hX dX4_keepOnly_27 (by assumption) (by omega) ?_
        refine kr_iload_n (i := 1) hX dX4_keepOnly_28 rfl rfl ?_
        refine kr_iload_n (i := 3) hX dX4_keepOnly_29 rfl rfl ?_
        refine kr_ishr hX dX4_keepOnly_30 ?_
        refine kr_iconst (v := 1) hX dX4_keepOnly_31 (by decide) ?_
        refine kr_iand hX dX4_keepOnly_32 ?_
        refine kr_if_eq (tgt := 59) hX dX4_keepOnly_33 (by decide) (fun c_33 => ?_) (fun c_33 => ?_)
        · skip
          refine kr_iinc (v := nI (i + 1)) hX dX4_keepOnly_59 rfl (by first | exact nI_1 _ | rfl) (by decide) rfl rfl ?_
          refine kr_goto (tgt := 4) hX dX4_keepOnly_62 (by decide) ?_
          have e1 := hQ
          simp only [m_kpL] at e1
          first
          | (have ek : m_kp1 μ p m i l = (kt_si μ (p + 6) i (nI l), l) := if_pos c_33
             rw [ek] at e1
             refine ih (i + 1) _ l (by omega) ?_ (by omega) ?_ e1
             · rw [kt_i_sin (by omega)]; exact hs
             · intro b hb; rw [kt_i_sin (by omega)]; exact hz b hb)
          | (have ek : m_kp1 μ p m i l = (kt_si μ (p + 6) i (nI l), l + 1) := (if_neg c_33).trans (by rw [if_pos c_38])
             rw [ek] at e1
             refine ih (i + 1) _ (l + 1) (by omega) ?_ (by omega) ?_ e1
             · rw [kt_i_sin (by omega)]; exact hs
             · intro b hb; rw [kt_i_sin (by omega)]; exact hz b hb)
          | (have ek : m_kp1 μ p m i l = (kt_cpB (kt_si μ (p + 6) i (nI l)) (p + 7 + 4 * l) (p + 7 + 4 * i), l + 1) := (if_neg c_33).trans (by rw [if_neg c_38])
             have hli : l ≠ i := fun e => c_38 (by rw [e])
             rw [ek] at e1
             refine ih (i + 1) _ (l + 1) (by omega) ?_ (by omega) ?_ e1
             · rw [kt_cpB_out (by omega), kt_i_sin (by omega)]; exact hs
             · intro b hb
               by_cases hbl2 : b = l
               · rw [hbl2, kt_cpB_6, kt_i_sin (by omega)]; exact hz i hib
               · rw [kt_cpB_out (by omega), kt_i_sin (by omega)]; exact hz b hb)
        · skip
          refine kr_iload_n (i := 2) hX dX4_keepOnly_36 rfl rfl ?_
          refine kr_iload_n (i := 3) hX dX4_keepOnly_37 rfl rfl ?_
          refine kr_icmp_eq (tgt := 56) hX dX4_keepOnly_38 (by decide) (fun c_38 => ?_) (fun c_38 => ?_)
          · skip
            refine kr_iinc (v := nI (l + 1)) hX dX4_keepOnly_56 rfl (by first | exact nI_1 _ | rfl) (by decide) rfl rfl ?_
            refine kr_iinc (v := nI (i + 1)) hX dX4_keepOnly_59 rfl (by first | exact nI_1 _ | rfl) (by decide) rfl rfl ?_
            refine kr_goto (tgt := 4) hX dX4_keepOnly_62 (by decide) ?_
            have e1 := hQ
            simp only [m_kpL] at e1
            first
            | (have ek : m_kp1 μ p m i l = (kt_si μ (p + 6) i (nI l), l) := if_pos c_33
               rw [ek] at e1
               refine ih (i + 1) _ l (by omega) ?_ (by omega) ?_ e1
               · rw [kt_i_sin (by omega)]; exact hs
               · intro b hb; rw [kt_i_sin (by omega)]; exact hz b hb)
            | (have ek : m_kp1 μ p m i l = (kt_si μ (p + 6) i (nI l), l + 1) := (if_neg c_33).trans (by rw [if_pos c_38])
               rw [ek] at e1
               refine ih (i + 1) _ (l + 1) (by omega) ?_ (by omega) ?_ e1
               · rw [kt_i_sin (by omega)]; exact hs
               · intro b hb; rw [kt_i_sin (by omega)]; exact hz b hb)
            | (have ek : m_kp1 μ p m i l = (kt_cpB (kt_si μ (p + 6) i (nI l)) (p + 7 + 4 * l) (p + 7 + 4 * i), l + 1) := (if_neg c_33).trans (by rw [if_neg c_38])
               have hli : l ≠ i := fun e => c_38 (by rw [e])
               rw [ek] at e1
               refine ih (i + 1) _ (l + 1) (by omega) ?_ (by omega) ?_ e1
               · rw [kt_cpB_out (by omega), kt_i_sin (by omega)]; exact hs
               · intro b hb
                 by_cases hbl2 : b = l
                 · rw [hbl2, kt_cpB_6, kt_i_sin (by omega)]; exact hz i hib
                 · rw [kt_cpB_out (by omega), kt_i_sin (by omega)]; exact hz b hb)
          · skip
            refine kr_aload_n (i := 0) hX dX4_keepOnly_41 rfl rfl ?_
            refine kr_getr (c0 := 4) (k := 0) hX ⟨_, kf_4_20⟩ dX4_keepOnly_42 rfl (by assumption) (by assumption) ?_
            refine kr_iload_n (i := 2) hX dX4_keepOnly_45 rfl rfl ?_
            refine kr_aaldN (t := 0) hX dX4_keepOnly_46 (by decide) (by assumption) (by omega) (by exact (hbl l (by omega)).1) ?_
            refine kr_aload_n (i := 0) hX dX4_keepOnly_47 rfl rfl ?_
            refine kr_getr (c0 := 4) (k := 0) hX ⟨_, kf_4_20⟩ dX4_keepOnly_48 rfl (by assumption) (by assumption) ?_
            refine kr_iload_n (i := 3) hX dX4_keepOnly_51 rfl rfl ?_
            refine kr_aaldN (t := 0) hX dX4_keepOnly_52 (by decide) (by assumption) (by omega) (by exact (hbl i (by omega)).1) ?_
            refine kr_dV (c1 := 0) [_] hX km_4_46 dX4_keepOnly_53 (sp_bcopy (hbl l (by omega)).2 (hbl i (by omega)).2 (by have : l ≠ i := fun e => c_38 (by rw [e]); omega) (by rw [kt_i_sin (by omega)]; exact hz i hib)) rfl rfl ⟨_, _, rfl⟩ (by decide) (Nat.le_of_ble_eq_true rfl) (Nat.le_refl _) (Nat.le_refl _) (by exact (hbl l (by omega)).2.1) ?_
            refine kr_iinc (v := nI (l + 1)) hX dX4_keepOnly_56 rfl (by first | exact nI_1 _ | rfl) (by decide) rfl rfl ?_
            refine kr_iinc (v := nI (i + 1)) hX dX4_keepOnly_59 rfl (by first | exact nI_1 _ | rfl) (by decide) rfl rfl ?_
            refine kr_goto (tgt := 4) hX dX4_keepOnly_62 (by decide) ?_
            have e1 := hQ
            simp only [m_kpL] at e1
            first
            | (have ek : m_kp1 μ p m i l = (kt_si μ (p + 6) i (nI l), l) := if_pos c_33
               rw [ek] at e1
               refine ih (i + 1) _ l (by omega) ?_ (by omega) ?_ e1
               · rw [kt_i_sin (by omega)]; exact hs
               · intro b hb; rw [kt_i_sin (by omega)]; exact hz b hb)
            | (have ek : m_kp1 μ p m i l = (kt_si μ (p + 6) i (nI l), l + 1) := (if_neg c_33).trans (by rw [if_pos c_38])
               rw [ek] at e1
               refine ih (i + 1) _ (l + 1) (by omega) ?_ (by omega) ?_ e1
               · rw [kt_i_sin (by omega)]; exact hs
               · intro b hb; rw [kt_i_sin (by omega)]; exact hz b hb)
            | (have ek : m_kp1 μ p m i l = (kt_cpB (kt_si μ (p + 6) i (nI l)) (p + 7 + 4 * l) (p + 7 + 4 * i), l + 1) := (if_neg c_33).trans (by rw [if_neg c_38])
               have hli : l ≠ i := fun e => c_38 (by rw [e])
               rw [ek] at e1
               refine ih (i + 1) _ (l + 1) (by omega) ?_ (by omega) ?_ e1
               · rw [kt_cpB_out (by omega), kt_i_sin (by omega)]; exact hs
               · intro b hb
                 by_cases hbl2 : b = l
                 · rw [hbl2, kt_cpB_6, kt_i_sin (by omega)]; exact hz i hib
                 · rw [kt_cpB_out (by omega), kt_i_sin (by omega)]; exact hz b hb)

set_option maxHeartbeats 4000000 in
set_option maxRecDepth 100000 in
theorem sp_keep {G : kt_G} {σ : kt_Y} {μ : kt_M} {p N : Nat} (hp : kt_pg σ p N) (hN : N ≤ 16) {s : Nat} (hs : kt_i μ p 3 = nI s) (hsN : s ≤ N) {m : Int32} (hz : k_riv μ p s) : kt_F G yX4_keepOnly cX4_keepOnly 5 (some .int) 3 [.ref p, .int m] σ μ (fun r μ2 => r = some (.int (nI s - nI (m_kpL p m s 0 0 μ).2)) ∧ μ2 = kt_si (m_anL p (m_kpL p m s 0 0 μ).2 0 (m_kpL p m s 0 0 μ).1) p 3 (nI (m_kpL p m s 0 0 μ).2)) := by
  refine kt_F.of (by decide) (Nat.le_of_ble_eq_true rfl) (fun X hX hr => ?_)
  have hp0 := hp
  obtain ⟨hk0, hr0, hr1, hr2, hk5, hk6, hkn, hbl⟩ := hp
  refine kr_iconst (v := 0) hX dX4_keepOnly_0 (by decide) ?_
  refine kr_istore_n (i := 2) hX dX4_keepOnly_1 rfl (by decide) rfl rfl ?_
  refine kr_iconst (v := 0) hX dX4_keepOnly_2 (by decide) ?_
  refine kr_istore_n (i := 3) hX dX4_keepOnly_3 rfl (by decide) rfl rfl ?_
  exact lp_keep1 hX hr hp0 hN hsN s 0 _ 0 (by omega) hs (by omega) hz ⟨rfl, rfl⟩


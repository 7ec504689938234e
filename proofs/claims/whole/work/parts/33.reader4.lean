def b_test4 (μ3 : kt_M) (p k : Nat) : Int32 × kt_M :=
  let s3 := if kt_i μ3 p 4 = 2 then a_num μ3 p 50 else a_var μ3 p
  (kt_f (¬ s3.1 < 0), kt_si s3.2 k 7 s3.1)
def b_test3 (μ2 : kt_M) (p k : Nat) (c : Int32) : Int32 × kt_M :=
  let s2 := a_sgn μ2 p c
  if s2.1 = 0 then (0, s2.2) else b_test4 (kt_si s2.2 k 6 (if kt_i s2.2 p 4 = 1 then 1 else 0)) p k
def b_test2 (μ1 : kt_M) (p k : Nat) : Int32 × kt_M :=
  let μ2 := kt_si μ1 k 4 (if k_sign μ1 p 61 then 3 else 2)
  b_test3 μ2 p k (if k_sign μ2 p 61 then 61 else 60)
def b_test (μ : kt_M) (p k : Nat) : Int32 × kt_M :=
  let s1 := a_var μ p
  if 0 ≤ s1.1 then b_test2 (kt_si s1.2 k 5 s1.1) p k else (0, kt_si s1.2 k 5 s1.1)
noncomputable def b_and (a : Int32 × kt_M) (f : kt_M → Int32 × kt_M) : Int32 × kt_M := if a.1 = 0 then (0, a.2) else (kt_f (¬ (f a.2).1 = 0), (f a.2).2)
noncomputable def a_adv (μ : kt_M) (p : Nat) : Int32 × kt_M := kt_seal (kt_f (a_ok μ p), a_mem μ p)
noncomputable def q_tgt (μ : kt_M) (p k : Nat) (s : Int32) : Int32 × kt_M := kt_seal (b_tgt μ p k s)
noncomputable def q_test (μ : kt_M) (p k : Nat) : Int32 × kt_M := kt_seal (b_test μ p k)
theorem b_and_f {a : Int32 × kt_M} {f : kt_M → Int32 × kt_M} (h : a.1 = 0) : b_and a f = (0, a.2) := if_pos h
theorem b_and_t {a : Int32 × kt_M} {f : kt_M → Int32 × kt_M} (h : ¬ a.1 = 0) : b_and a f = (kt_f (¬ (f a.2).1 = 0), (f a.2).2) := if_neg h
noncomputable def b_end (μ : kt_M) (p k : Nat) : Int32 × kt_M :=
  if k_word μ p 6 then a_adv (kt_si μ k 4 0) p
  else if k_word μ p 7 then b_and (a_adv (kt_si μ k 4 1) p) (fun μ => q_tgt μ p k 0)
  else if k_word μ p 8 then b_and (a_adv μ p) (fun μ => b_and (q_test μ p k) (fun μ => b_and (q_tgt μ p k 0) (fun μ => q_tgt μ p k 1)))
  else (0, m_fail μ p 2)
theorem b_tgt_01 {μ : kt_M} {p k : Nat} {s : Int32} : (b_tgt μ p k s).1 = 0 ∨ (b_tgt μ p k s).1 = 1 := kt_f_01
theorem kt_fnz {c : Prop} [Decidable c] : kt_f (¬ kt_f c = 0) = kt_f c := by by_cases h : c <;> simp [kt_f, h]
theorem a_adv_2 {μ : kt_M} {p : Nat} : (a_adv μ p).2 = a_mem μ p := by unfold a_adv; rw [kt_seal_eq]
theorem a_adv_1 {μ : kt_M} {p : Nat} : (a_adv μ p).1 = kt_f (a_ok μ p) := by unfold a_adv; rw [kt_seal_eq]
theorem k_rdok.tgt {μ : kt_M} {p L k : Nat} {s : Int32} (h : k_rdok μ p L) (hk : k ≠ p) : k_rdok (b_tgt μ p k s).2 p L := h.num.far hk
theorem k_rdok.t4 {μ : kt_M} {p L k : Nat} (h : k_rdok μ p L) (hk : k ≠ p) : k_rdok (b_test4 μ p k).2 p L := by
  unfold b_test4; dsimp only
  refine k_rdok.far ?_ hk
  split
  · exact h.num
  · exact h.var
theorem k_rdok.t3 {μ : kt_M} {p L k : Nat} {c : Int32} (h : k_rdok μ p L) (hk : k ≠ p) : k_rdok (b_test3 μ p k c).2 p L := by
  unfold b_test3; dsimp only
  by_cases h1 : (a_sgn μ p c).1 = 0
  · rw [if_pos h1]; exact h.sgn
  · rw [if_neg h1]; exact (h.sgn.far hk).t4 hk
theorem k_rdok.test {μ : kt_M} {p L k : Nat} (h : k_rdok μ p L) (hk : k ≠ p) : k_rdok (b_test μ p k).2 p L := by
  have h1 := (h.var (p := p)).far (k := 5) (v := (a_var μ p).1) hk
  unfold b_test; dsimp only
  by_cases h2 : 0 ≤ (a_var μ p).1
  · rw [if_pos h2]; exact (h1.far hk).t3 hk
  · rw [if_neg h2]; exact h1
theorem k_rdok.qadv {μ : kt_M} {p L : Nat} (h : k_rdok μ p L) : k_rdok (a_adv μ p).2 p L := by rw [a_adv_2]; exact h.adv
theorem k_rdok.qtgt {μ : kt_M} {p L k : Nat} {s : Int32} (h : k_rdok μ p L) (hk : k ≠ p) : k_rdok (q_tgt μ p k s).2 p L := by unfold q_tgt; rw [kt_seal_eq]; exact h.tgt hk
theorem k_rdok.qtest {μ : kt_M} {p L k : Nat} (h : k_rdok μ p L) (hk : k ≠ p) : k_rdok (q_test μ p k).2 p L := by unfold q_test; rw [kt_seal_eq]; exact h.test hk
theorem k_rdok.and {a : Int32 × kt_M} {f : kt_M → Int32 × kt_M} {p L : Nat} (h : k_rdok a.2 p L) (hf : k_rdok (f a.2).2 p L) : k_rdok (b_and a f).2 p L := by
  unfold b_and; split
  · exact h
  · exact hf
theorem k_rdok.endd {μ : kt_M} {p L k : Nat} (h : k_rdok μ p L) (hk : k ≠ p) : k_rdok (b_end μ p k).2 p L := by
  unfold b_end
  split
  · exact (h.far hk).qadv
  · split
    · exact k_rdok.and (h.far hk).qadv ((h.far hk).qadv.qtgt hk)
    · split
      · exact k_rdok.and h.qadv (k_rdok.and (h.qadv.qtest hk) (k_rdok.and ((h.qadv.qtest hk).qtgt hk) (((h.qadv.qtest hk).qtgt hk).qtgt hk)))
      · exact h.fail
set_option maxHeartbeats 4000000 in
set_option maxRecDepth 100000 in
theorem lp_tst4 {G : kt_G} {σ : kt_Y} {X : kt_X} (hX : kt_ok G X RX6 cX6_parseTest 2 3 0 0) (hr : kt_rt X = (some .boolean)) {Q : Option Value → kt_M → Prop} {μ : kt_M} {p : Nat} (hp : kt_rd σ p) {L : Nat} (ho : k_rdok μ p L) {k : Nat} (hb : kt_blk σ k) (hkp : k + 4 ≤ p ∨ p + 2 ≤ k) (hQ : Q (some (.int (b_test4 μ p k).1)) (b_test4 μ p k).2) : kt_W G X 2 77 [(0, .ref p), (1, .ref k)] [] σ μ 0 0 (kt_Z G X (kt_q σ Q) 0 0) := by
  have hp0 := hp
  obtain ⟨hk0, hr0, hk1⟩ := hp
  obtain ⟨hL, hL2, s0, a0, hs0, ha0, hsa, haL⟩ := id ho
  have hb0 := hb
  obtain ⟨gk0, gr1, gr2, gr3, gk1, gk2, gk3⟩ := hb
  refine kr_aload_n (i := 1) hX dX6_parseTest_77 rfl rfl ?_
  refine kr_aload_n (i := 0) hX dX6_parseTest_78 rfl rfl ?_
  refine kr_geti (c0 := 6) (k := 4) hX ⟨_, kf_6_25⟩ dX6_parseTest_79 rfl (by assumption) ?_
  refine kr_iconst (v := 2) hX dX6_parseTest_82 (by decide) ?_
  refine kr_icmp_ne (tgt := 95) hX dX6_parseTest_83 (by decide) (fun c_83 => ?_) (fun c_83 => ?_)
  · skip
    refine kr_aload_n (i := 0) hX dX6_parseTest_95 rfl rfl ?_
    refine kr_dV (c1 := 6) [] hX km_6_73 dX6_parseTest_96 (sp_var hp0 ho) rfl rfl ⟨_, _, rfl⟩ (by decide) (Nat.le_of_ble_eq_true rfl) (Nat.le_refl _) (Nat.le_refl _) (by assumption) ?_
    refine kr_puti (c0 := 0) (k := 7) hX kf_6_119 dX6_parseTest_99 rfl rfl rfl (by assumption) ?_
    refine kr_aload_n (i := 1) hX dX6_parseTest_102 rfl rfl ?_
    refine kr_geti (c0 := 0) (k := 7) hX ⟨_, kf_6_119⟩ dX6_parseTest_103 rfl (by assumption) ?_
    refine kr_rw (y := (if kt_i μ p 4 = 2 then a_num μ p 50 else a_var μ p).1) (by first | (rw [if_pos c_83]; exact kt_i_sie) | (rw [if_neg c_83]; exact kt_i_sie)) ?_
    refine kr_if_lt (tgt := 113) hX dX6_parseTest_106 (by decide) (fun c_106 => ?_) (fun c_106 => ?_)
    · skip
      refine kr_iconst (v := 0) hX dX6_parseTest_113 (by decide) ?_
      refine kr_zret hX hr (by first | exact Or.inl rfl | exact Or.inr rfl | assumption) dX6_parseTest_114 ⟨rfl, ?_⟩
      unfold b_test4 at hQ
      dsimp only at hQ
      first
      | rw [kt_f_t c_106] at hQ
      | rw [kt_f_f (fun h => h c_106)] at hQ
      first
      | (rw [if_pos c_83] at hQ; exact hQ)
      | (rw [if_neg c_83] at hQ; exact hQ)
    · skip
      refine kr_iconst (v := 1) hX dX6_parseTest_109 (by decide) ?_
      refine kr_goto (tgt := 114) hX dX6_parseTest_110 (by decide) ?_
      refine kr_zret hX hr (by first | exact Or.inl rfl | exact Or.inr rfl | assumption) dX6_parseTest_114 ⟨rfl, ?_⟩
      unfold b_test4 at hQ
      dsimp only at hQ
      first
      | rw [kt_f_t c_106] at hQ
      | rw [kt_f_f (fun h => h c_106)] at hQ
      first
      | (rw [if_pos c_83] at hQ; exact hQ)
      | (rw [if_neg c_83] at hQ; exact hQ)
  · skip
    refine kr_aload_n (i := 0) hX dX6_parseTest_86 rfl rfl ?_
    refine kr_bipush (v := 50) hX dX6_parseTest_87 (by decide) ?_
    refine kr_dV (c1 := 6) [_] hX km_6_76 dX6_parseTest_89 (sp_num hp0 ho) rfl rfl ⟨_, _, rfl⟩ (by decide) (Nat.le_of_ble_eq_true rfl) (Nat.le_refl _) (Nat.le_refl _) (by assumption) ?_
    refine kr_goto (tgt := 99) hX dX6_parseTest_92 (by decide) ?_
    refine kr_puti (c0 := 0) (k := 7) hX kf_6_119 dX6_parseTest_99 rfl rfl rfl (by assumption) ?_
    refine kr_aload_n (i := 1) hX dX6_parseTest_102 rfl rfl ?_
    refine kr_geti (c0 := 0) (k := 7) hX ⟨_, kf_6_119⟩ dX6_parseTest_103 rfl (by assumption) ?_
    refine kr_rw (y := (if kt_i μ p 4 = 2 then a_num μ p 50 else a_var μ p).1) (by first | (rw [if_pos c_83]; exact kt_i_sie) | (rw [if_neg c_83]; exact kt_i_sie)) ?_
    refine kr_if_lt (tgt := 113) hX dX6_parseTest_106 (by decide) (fun c_106 => ?_) (fun c_106 => ?_)
    · skip
      refine kr_iconst (v := 0) hX dX6_parseTest_113 (by decide) ?_
      refine kr_zret hX hr (by first | exact Or.inl rfl | exact Or.inr rfl | assumption) dX6_parseTest_114 ⟨rfl, ?_⟩
      unfold b_test4 at hQ
      dsimp only at hQ
      first
      | rw [kt_f_t c_106] at hQ
      | rw [kt_f_f (fun h => h c_106)] at hQ
      first
      | (rw [if_pos c_83] at hQ; exact hQ)
      | (rw [if_neg c_83] at hQ; exact hQ)
    · skip
      refine kr_iconst (v := 1) hX dX6_parseTest_109 (by decide) ?_
      refine kr_goto (tgt := 114) hX dX6_parseTest_110 (by decide) ?_
      refine kr_zret hX hr (by first | exact Or.inl rfl | exact Or.inr rfl | assumption) dX6_parseTest_114 ⟨rfl, ?_⟩
      unfold b_test4 at hQ
      dsimp only at hQ
      first
      | rw [kt_f_t c_106] at hQ
      | rw [kt_f_f (fun h => h c_106)] at hQ
      first
      | (rw [if_pos c_83] at hQ; exact hQ)
      | (rw [if_neg c_83] at hQ; exact hQ)
set_option maxHeartbeats 4000000 in
set_option maxRecDepth 100000 in
theorem lp_tst3 {G : kt_G} {σ : kt_Y} {X : kt_X} (hX : kt_ok G X RX6 cX6_parseTest 2 3 0 0) (hr : kt_rt X = (some .boolean)) {Q : Option Value → kt_M → Prop} {μ : kt_M} {p : Nat} (hp : kt_rd σ p) {L : Nat} (ho : k_rdok μ p L) {k : Nat} (hb : kt_blk σ k) (hkp : k + 4 ≤ p ∨ p + 2 ≤ k) {c : Int32} (hQ : Q (some (.int (b_test3 μ p k c).1)) (b_test3 μ p k c).2) : kt_W G X 2 52 [(0, .ref p), (1, .ref k)] [.int c, .ref p] σ μ 0 0 (kt_Z G X (kt_q σ Q) 0 0) := by
  have hp0 := hp
  obtain ⟨hk0, hr0, hk1⟩ := hp
  obtain ⟨hL, hL2, s0, a0, hs0, ha0, hsa, haL⟩ := id ho
  have hb0 := hb
  obtain ⟨gk0, gr1, gr2, gr3, gk1, gk2, gk3⟩ := hb
  refine kr_dV (c1 := 6) [_] hX km_6_65 dX6_parseTest_52 (sp_sgn hp0 ho) rfl rfl ⟨_, _, rfl⟩ (by decide) (Nat.le_of_ble_eq_true rfl) (Nat.le_refl _) (Nat.le_refl _) (by assumption) ?_
  refine kr_if_ne (tgt := 60) hX dX6_parseTest_55 (by decide) (fun c_55 => ?_) (fun c_55 => ?_)
  · skip
    refine kr_aload_n (i := 1) hX dX6_parseTest_60 rfl rfl ?_
    refine kr_aload_n (i := 0) hX dX6_parseTest_61 rfl rfl ?_
    refine kr_geti (c0 := 6) (k := 4) hX ⟨_, kf_6_25⟩ dX6_parseTest_62 rfl (by assumption) ?_
    refine kr_iconst (v := 1) hX dX6_parseTest_65 (by decide) ?_
    refine kr_icmp_ne (tgt := 73) hX dX6_parseTest_66 (by decide) (fun c_66 => ?_) (fun c_66 => ?_)
    · skip
      refine kr_iconst (v := 0) hX dX6_parseTest_73 (by decide) ?_
      refine kr_puti (c0 := 0) (k := 6) hX kf_6_115 dX6_parseTest_74 rfl (kt_bz (by first | exact Or.inl rfl | exact Or.inr rfl | assumption)).1 (kt_bz (by first | exact Or.inl rfl | exact Or.inr rfl | assumption)).2 (by assumption) ?_
      refine lp_tst4 hX hr hp0 (ho.sgn.far (by omega)) hb0 hkp ?_
      unfold b_test3 at hQ
      dsimp only at hQ
      rw [if_neg c_55] at hQ
      first
      | (rw [if_pos c_66] at hQ; exact hQ)
      | (rw [if_neg c_66] at hQ; exact hQ)
    · skip
      refine kr_iconst (v := 1) hX dX6_parseTest_69 (by decide) ?_
      refine kr_goto (tgt := 74) hX dX6_parseTest_70 (by decide) ?_
      refine kr_puti (c0 := 0) (k := 6) hX kf_6_115 dX6_parseTest_74 rfl (kt_bz (by first | exact Or.inl rfl | exact Or.inr rfl | assumption)).1 (kt_bz (by first | exact Or.inl rfl | exact Or.inr rfl | assumption)).2 (by assumption) ?_
      refine lp_tst4 hX hr hp0 (ho.sgn.far (by omega)) hb0 hkp ?_
      unfold b_test3 at hQ
      dsimp only at hQ
      rw [if_neg c_55] at hQ
      first
      | (rw [if_pos c_66] at hQ; exact hQ)
      | (rw [if_neg c_66] at hQ; exact hQ)
  · skip
    refine kr_iconst (v := 0) hX dX6_parseTest_58 (by decide) ?_
    refine kr_zret hX hr (by first | exact Or.inl rfl | exact Or.inr rfl | assumption) dX6_parseTest_59 ⟨rfl, ?_⟩
    unfold b_test3 at hQ
    dsimp only at hQ
    rw [if_pos c_55] at hQ
    exact hQ
set_option maxHeartbeats 4000000 in
set_option maxRecDepth 100000 in
theorem sp_test {G : kt_G} {σ : kt_Y} {μ : kt_M} {p : Nat} (hp : kt_rd σ p) {L : Nat} (ho : k_rdok μ p L) {k : Nat} (hb : kt_blk σ k) (hkp : k + 4 ≤ p ∨ p + 2 ≤ k) : kt_F G yX6_parseTest cX6_parseTest 2 (some .boolean) 3 [.ref p, .ref k] σ μ (fun r μ2 => r = some (.int (b_test μ p k).1) ∧ μ2 = (b_test μ p k).2) := by
  refine kt_F.of (by decide) (Nat.le_of_ble_eq_true rfl) (fun X hX hr => ?_)
  have hp0 := hp
  obtain ⟨hk0, hr0, hk1⟩ := hp
  obtain ⟨hL, hL2, s0, a0, hs0, ha0, hsa, haL⟩ := id ho
  have hb0 := hb
  obtain ⟨gk0, gr1, gr2, gr3, gk1, gk2, gk3⟩ := hb
  refine kr_aload_n (i := 1) hX dX6_parseTest_0 rfl rfl ?_
  refine kr_aload_n (i := 0) hX dX6_parseTest_1 rfl rfl ?_
  refine kr_dV (c1 := 6) [] hX km_6_73 dX6_parseTest_2 (sp_var hp0 ho) rfl rfl ⟨_, _, rfl⟩ (by decide) (Nat.le_of_ble_eq_true rfl) (Nat.le_refl _) (Nat.le_refl _) (by assumption) ?_
  refine kr_puti (c0 := 0) (k := 5) hX kf_6_109 dX6_parseTest_5 rfl rfl rfl (by assumption) ?_
  refine kr_aload_n (i := 1) hX dX6_parseTest_8 rfl rfl ?_
  refine kr_geti (c0 := 0) (k := 5) hX ⟨_, kf_6_109⟩ dX6_parseTest_9 rfl (by assumption) ?_
  refine kr_rw (y := (a_var μ p).1) (by exact kt_i_sie) ?_
  refine kr_if_ge (tgt := 17) hX dX6_parseTest_12 (by decide) (fun c_12 => ?_) (fun c_12 => ?_)
  · skip
    refine kr_aload_n (i := 1) hX dX6_parseTest_17 rfl rfl ?_
    refine kr_aload_n (i := 0) hX dX6_parseTest_18 rfl rfl ?_
    refine kr_bipush (v := 61) hX dX6_parseTest_19 (by decide) ?_
    refine kr_dV (c1 := 6) [_] hX km_6_112 dX6_parseTest_21 (sp_sign hp0) rfl rfl ⟨_, _, rfl⟩ (by decide) (Nat.le_of_ble_eq_true rfl) (Nat.le_refl _) (Nat.le_refl _) (by assumption) ?_
    refine kr_if_eq (tgt := 31) hX dX6_parseTest_24 (by decide) (fun c_24 => ?_) (fun c_24 => ?_)
    · skip
      refine kr_iconst (v := 2) hX dX6_parseTest_31 (by decide) ?_
      refine kr_puti (c0 := 0) (k := 4) hX kf_6_92 dX6_parseTest_32 rfl rfl rfl (by assumption) ?_
      refine kr_aload_n (i := 0) hX dX6_parseTest_35 rfl rfl ?_
      refine kr_aload_n (i := 0) hX dX6_parseTest_36 rfl rfl ?_
      refine kr_bipush (v := 61) hX dX6_parseTest_37 (by decide) ?_
      refine kr_dV (c1 := 6) [_] hX km_6_112 dX6_parseTest_39 (sp_sign hp0) rfl rfl ⟨_, _, rfl⟩ (by decide) (Nat.le_of_ble_eq_true rfl) (Nat.le_refl _) (Nat.le_refl _) (by assumption) ?_
      refine kr_if_eq (tgt := 50) hX dX6_parseTest_42 (by decide) (fun c_42 => ?_) (fun c_42 => ?_)
      · skip
        refine kr_bipush (v := 60) hX dX6_parseTest_50 (by decide) ?_
        simp only [kt_f_0, Classical.not_not] at c_24 c_42
        refine lp_tst3 hX hr hp0 ((ho.var.far (by omega)).far (by omega)) hb0 hkp ?_
        unfold b_test
        dsimp only
        rw [if_pos c_12]
        unfold b_test2
        dsimp only
        first
        | rw [if_pos c_24]
        | rw [if_neg c_24]
        first
        | (rw [if_pos c_42]; exact ⟨rfl, rfl⟩)
        | (rw [if_neg c_42]; exact ⟨rfl, rfl⟩)
      · skip
        refine kr_bipush (v := 61) hX dX6_parseTest_45 (by decide) ?_
        refine kr_goto (tgt := 52) hX dX6_parseTest_47 (by decide) ?_
        simp only [kt_f_0, Classical.not_not] at c_24 c_42
        refine lp_tst3 hX hr hp0 ((ho.var.far (by omega)).far (by omega)) hb0 hkp ?_
        unfold b_test
        dsimp only
        rw [if_pos c_12]
        unfold b_test2
        dsimp only
        first
        | rw [if_pos c_24]
        | rw [if_neg c_24]
        first
        | (rw [if_pos c_42]; exact ⟨rfl, rfl⟩)
        | (rw [if_neg c_42]; exact ⟨rfl, rfl⟩)
    · skip
      refine kr_iconst (v := 3) hX dX6_parseTest_27 (by decide) ?_
      refine kr_goto (tgt := 32) hX dX6_parseTest_28 (by decide) ?_
      refine kr_puti (c0 := 0) (k := 4) hX kf_6_92 dX6_parseTest_32 rfl rfl rfl (by assumption) ?_
      refine kr_aload_n (i := 0) hX dX6_parseTest_35 rfl rfl ?_
      refine kr_aload_n (i := 0) hX dX6_parseTest_36 rfl rfl ?_
      refine kr_bipush (v := 61) hX dX6_parseTest_37 (by decide) ?_
      refine kr_dV (c1 := 6) [_] hX km_6_112 dX6_parseTest_39 (sp_sign hp0) rfl rfl ⟨_, _, rfl⟩ (by decide) (Nat.le_of_ble_eq_true rfl) (Nat.le_refl _) (Nat.le_refl _) (by assumption) ?_
      refine kr_if_eq (tgt := 50) hX dX6_parseTest_42 (by decide) (fun c_42 => ?_) (fun c_42 => ?_)
      · skip
        refine kr_bipush (v := 60) hX dX6_parseTest_50 (by decide) ?_
        simp only [kt_f_0, Classical.not_not] at c_24 c_42
        refine lp_tst3 hX hr hp0 ((ho.var.far (by omega)).far (by omega)) hb0 hkp ?_
        unfold b_test
        dsimp only
        rw [if_pos c_12]
        unfold b_test2
        dsimp only
        first
        | rw [if_pos c_24]
        | rw [if_neg c_24]
        first
        | (rw [if_pos c_42]; exact ⟨rfl, rfl⟩)
        | (rw [if_neg c_42]; exact ⟨rfl, rfl⟩)
      · skip
        refine kr_bipush (v := 61) hX dX6_parseTest_45 (by decide) ?_
        refine kr_goto (tgt := 52) hX dX6_parseTest_47 (by decide) ?_
        simp only [kt_f_0, Classical.not_not] at c_24 c_42
        refine lp_tst3 hX hr hp0 ((ho.var.far (by omega)).far (by omega)) hb0 hkp ?_
        unfold b_test
        dsimp only
        rw [if_pos c_12]
        unfold b_test2
        dsimp only
        first
        | rw [if_pos c_24]
        | rw [if_neg c_24]
        first
        | (rw [if_pos c_42]; exact ⟨rfl, rfl⟩)
        | (rw [if_neg c_42]; exact ⟨rfl, rfl⟩)
  · skip
    refine kr_iconst (v := 0) hX dX6_parseTest_15 (by decide) ?_
    refine kr_zret hX hr (by first | exact Or.inl rfl | exact Or.inr rfl | assumption) dX6_parseTest_16 ⟨rfl, ?_⟩
    unfold b_test
    dsimp only
    rw [if_neg c_12]
    exact ⟨rfl, rfl⟩

theorem sp_advS {G : kt_G} {σ : kt_Y} {μ : kt_M} {p : Nat} (hp : kt_rd σ p) {L a : Nat} (hL : kt_i μ p 1 = nI L) (hL2 : L ≤ 200) (ha : kt_i μ p 6 = nI a) (haL : a ≤ L) : kt_F G yX6_advance cX6_advance 1 (some .boolean) 1 [.ref p] σ μ (fun r μ2 => r = some (.int (a_adv μ p).1) ∧ μ2 = (a_adv μ p).2) := by
  unfold a_adv
  rw [kt_seal_eq]
  exact sp_adv hp hL hL2 ha haL
theorem sp_tgtS {G : kt_G} {σ : kt_Y} {μ : kt_M} {p : Nat} (hp : kt_rd σ p) {L : Nat} (ho : k_rdok μ p L) {k : Nat} (hb : kt_blk σ k) (hkp : k + 4 ≤ p ∨ p + 2 ≤ k) {s : Int32} : kt_F G yX6_parseTarget cX6_parseTarget 4 (some .boolean) 3 [.ref p, .ref k, .int s] σ μ (fun r μ2 => r = some (.int (q_tgt μ p k s).1) ∧ μ2 = (q_tgt μ p k s).2) := by
  unfold q_tgt
  rw [kt_seal_eq]
  exact sp_tgt hp ho hb hkp
theorem sp_testS {G : kt_G} {σ : kt_Y} {μ : kt_M} {p : Nat} (hp : kt_rd σ p) {L : Nat} (ho : k_rdok μ p L) {k : Nat} (hb : kt_blk σ k) (hkp : k + 4 ≤ p ∨ p + 2 ≤ k) : kt_F G yX6_parseTest cX6_parseTest 2 (some .boolean) 3 [.ref p, .ref k] σ μ (fun r μ2 => r = some (.int (q_test μ p k).1) ∧ μ2 = (q_test μ p k).2) := by
  unfold q_test
  rw [kt_seal_eq]
  exact sp_test hp ho hb hkp

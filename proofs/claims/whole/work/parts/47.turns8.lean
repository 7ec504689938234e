def ut_pw (μ : kt_M) (o s : Nat) (w : Int32) : Int32 := if w = 4 then f_cntL μ (o + 154 + 3) 16 0 0 else if w = 5 then f_cntL μ (o + 154 + 5) 32 0 0 else if w = 6 then k_bc (kt_i μ (o + 361) 3) else if w = 7 then ut_canL μ o (2 * s) 0 0 else f_knL μ (o + 154) (o + 81) s 0 0
noncomputable def ut_prog (μ : kt_M) (o : Nat) (a w : Int32) : Int32 × kt_M :=
  if k_wi a 1 ∧ k_wi w 8 then
    (if ¬ 3 < w then (k_totL μ (ut_ch o a) w (kt_i μ (ut_ch o a) 3).toNatClampNeg 0 0, μ) else if a = 0 then (-4, μ) else (ut_pw (ut_ref μ o) o (kt_i (ut_ref μ o) (o + 81) 3).toNatClampNeg w, ut_ref μ o))
  else (-1, μ)
def ut_cnt (μ : kt_M) (o : Nat) (w : Int32) : Int32 := if w = 0 then kt_i μ (o + 153) 0 + kt_i μ (o + 153) 1 else if w = 1 then kt_i μ (o + 1) 1 else if w = 2 then ut_nilL μ o 8 0 0 else if w = 3 then (if kt_i μ (o + 514) 1 = -1 then -4 else kt_i μ (o + 514) 2) else if w = 4 then kt_i μ o 13 else -1
def ut_rdf (μ : kt_M) (o i : Nat) (m : Int32) : kt_M := kt_si (kt_cpy μ (o + 369) (o + 370) i) o 14 m
def ut_el (μ : kt_M) (q : Nat) (i : Int32) : Int32 := if k_has μ q i then kt_i μ (q + 1) i.toNatClampNeg else 0
def ut_rdL (o q : Nat) (l f : Int32) : Nat → Nat → kt_M → Int32 × kt_M
  | 0, i, μ => (nI i, ut_rdf μ o i 0)
  | n + 1, i, μ => if k_fault μ q l (f + nI i) = 0 then (if k_wi (ut_el μ q (f + nI i)) 51 then ut_rdL o q l f n (i + 1) (kt_si μ (o + 370) i (ut_el μ q (f + nI i))) else (-20 - nI i, μ)) else (nI i, ut_rdf μ o i (k_fault μ q l (f + nI i)))
def ut_read (μ : kt_M) (o : Nat) (k l f n : Int32) : Int32 × kt_M := if k_wi k 3 ∧ k_wi l 2 ∧ k_wi n 8 then ut_rdL o (o + 514 + 2 * k.toNatClampNeg) l f n.toNatClampNeg 0 μ else (-1, μ)
set_option maxHeartbeats 4000000 in
set_option maxRecDepth 100000 in
theorem sp_prog {G : kt_G} {σ : kt_Y} {μ : kt_M} {o : Nat} (hp : kt_kt σ o) {s0 s1 : Nat} (hg : kp μ (o + 42) 8 s0) (hc : kp μ (o + 81) 16 s1) (hn : kf_n μ (o + 154)) {a w : Int32} : kt_F G yX9_program cX9_program 3 (some .int) 7 [.ref o, .int a, .int w] σ μ (fun r μ2 => r = some (.int (ut_prog μ o a w).1) ∧ μ2 = (ut_prog μ o a w).2) := by
  refine kt_F.of (by decide) (Nat.le_of_ble_eq_true rfl) (fun X hX hr => ?_)
  have hp0 := hp
  obtain ⟨hk0, hr0, hr1, hr2, hr3, hr4, hr5, hr6, hr7, hr8, hr9, hr10, hr11, hr12, hk152, hk153, hk369, hk370, hk371, hrd, hdr, hor, hcu, hfw, hpt, hrn, hdi, him, hsh⟩ := hp
  obtain ⟨N, t, hpg, hN, hkp, hlo, hhi⟩ := ut_chf hor hcu hg hc a
  have et : (kt_i μ (ut_ch o a) 3).toNatClampNeg = t := by rw [hkp.1]; exact nI_clamp (by have := hkp.2.1; omega)
  have hc1 : kp (ut_ref μ o) (o + 81) 16 s1 := hc.ref (by decide) (by omega)
  have es : (kt_i (ut_ref μ o) (o + 81) 3).toNatClampNeg = s1 := by rw [hc1.1]; exact nI_clamp (by have := hc1.2.1; omega)
  refine kr_iload_n (i := 1) hX dX9_program_0 rfl rfl ?_
  refine kr_iconst (v := 1) hX dX9_program_1 (by decide) ?_
  refine kr_dS [_, _] hX km_9_92 dX9_program_2 (sp_within) rfl rfl (by decide) (Nat.le_of_ble_eq_true rfl) (Nat.le_refl _) (Nat.le_refl _) ?_
  refine kr_if_eq (tgt := 17) hX dX9_program_5 (by decide) (fun c_5 => ?_) (fun c_5 => ?_)
  · skip
    refine kr_iconst (v := (-1)) hX dX9_program_17 (by decide) ?_
    refine kr_iret hX hr dX9_program_18 ⟨rfl, ?_⟩
    simp only [kt_f_0, Classical.not_not] at c_5
    rw [show ut_prog μ o a w = _ from if_neg (fun h => c_5 h.1)]
    exact ⟨rfl, rfl⟩
  · skip
    refine kr_iload_n (i := 2) hX dX9_program_8 rfl rfl ?_
    refine kr_bipush (v := 8) hX dX9_program_9 (by decide) ?_
    refine kr_dS [_, _] hX km_9_92 dX9_program_11 (sp_within) rfl rfl (by decide) (Nat.le_of_ble_eq_true rfl) (Nat.le_refl _) (Nat.le_refl _) ?_
    refine kr_if_ne (tgt := 19) hX dX9_program_14 (by decide) (fun c_14 => ?_) (fun c_14 => ?_)
    · skip
      refine kr_iload_n (i := 2) hX dX9_program_19 rfl rfl ?_
      refine kr_iconst (v := 3) hX dX9_program_20 (by decide) ?_
      refine kr_icmp_gt (tgt := 34) hX dX9_program_21 (by decide) (fun c_21 => ?_) (fun c_21 => ?_)
      · skip
        refine kr_iload_n (i := 1) hX dX9_program_34 rfl rfl ?_
        refine kr_if_ne (tgt := 41) hX dX9_program_35 (by decide) (fun c_35 => ?_) (fun c_35 => ?_)
        · skip
          refine kr_aload_n (i := 0) hX dX9_program_41 rfl rfl ?_
          refine kr_dV (c1 := 9) [] hX km_9_131 dX9_program_42 (sp_ref hp0 hc hn) rfl rfl ⟨_, _, rfl⟩ (by decide) (Nat.le_of_ble_eq_true rfl) (Nat.le_refl _) (Nat.le_refl _) (by first | exact hpg.1 | first | exact hk0 | exact hrd.1 | exact hdr.1 | exact hor.1 | exact hcu.1 | exact hfw.1 | exact hpt.1 | exact hrn.1 | exact hdi | assumption) ?_
          refine kr_iload_n (i := 2) hX dX9_program_45 rfl rfl ?_
          by_cases c_46_4 : w = 4
          · skip
            refine kr_tabIn (tgt := 76) (off := 30) hX dX9_program_46 (by rw [c_46_4]; decide) (by rw [c_46_4]; decide) (by rw [c_46_4]; rfl) (by decide) ?_
            refine kr_aload_n (i := 0) hX dX9_program_76 rfl rfl ?_
            refine kr_getr (c0 := 9) (k := 6) hX ⟨_, kf_9_42⟩ dX9_program_77 rfl (by first | exact hpg.1 | first | exact hk0 | exact hrd.1 | exact hdr.1 | exact hor.1 | exact hcu.1 | exact hfw.1 | exact hpt.1 | exact hrn.1 | exact hdi | assumption) (by assumption) ?_
            refine kr_dV (c1 := 2) [] hX km_9_134 dX9_program_80 (sp_rbl hfw) rfl rfl ⟨_, _, rfl⟩ (by decide) (Nat.le_of_ble_eq_true rfl) (Nat.le_refl _) (Nat.le_refl _) (by first | exact hpg.1 | first | exact hk0 | exact hrd.1 | exact hdr.1 | exact hor.1 | exact hcu.1 | exact hfw.1 | exact hpt.1 | exact hrn.1 | exact hdi | assumption) ?_
            refine kr_iret hX hr dX9_program_83 ⟨rfl, ?_⟩
            simp only [kt_f_0, Classical.not_not] at c_5 c_14
            rw [show ut_prog μ o a w = _ from (if_pos ⟨c_5, c_14⟩).trans ((if_neg (fun h => h c_21)).trans (if_neg c_35)), es]
            refine ⟨?_, rfl⟩
            rw [show ut_pw (ut_ref μ o) o s1 w = _ from if_pos c_46_4]
          by_cases c_46_5 : w = 5
          · skip
            refine kr_tabIn (tgt := 84) (off := 38) hX dX9_program_46 (by rw [c_46_5]; decide) (by rw [c_46_5]; decide) (by rw [c_46_5]; rfl) (by decide) ?_
            refine kr_aload_n (i := 0) hX dX9_program_84 rfl rfl ?_
            refine kr_getr (c0 := 9) (k := 6) hX ⟨_, kf_9_42⟩ dX9_program_85 rfl (by first | exact hpg.1 | first | exact hk0 | exact hrd.1 | exact hdr.1 | exact hor.1 | exact hcu.1 | exact hfw.1 | exact hpt.1 | exact hrn.1 | exact hdi | assumption) (by assumption) ?_
            refine kr_dV (c1 := 2) [] hX km_9_138 dX9_program_88 (sp_oed hfw) rfl rfl ⟨_, _, rfl⟩ (by decide) (Nat.le_of_ble_eq_true rfl) (Nat.le_refl _) (Nat.le_refl _) (by first | exact hpg.1 | first | exact hk0 | exact hrd.1 | exact hdr.1 | exact hor.1 | exact hcu.1 | exact hfw.1 | exact hpt.1 | exact hrn.1 | exact hdi | assumption) ?_
            refine kr_iret hX hr dX9_program_91 ⟨rfl, ?_⟩
            simp only [kt_f_0, Classical.not_not] at c_5 c_14
            rw [show ut_prog μ o a w = _ from (if_pos ⟨c_5, c_14⟩).trans ((if_neg (fun h => h c_21)).trans (if_neg c_35)), es]
            refine ⟨?_, rfl⟩
            rw [show ut_pw (ut_ref μ o) o s1 w = _ from (if_neg c_46_4).trans (if_pos c_46_5)]
          by_cases c_46_6 : w = 6
          · skip
            refine kr_tabIn (tgt := 92) (off := 46) hX dX9_program_46 (by rw [c_46_6]; decide) (by rw [c_46_6]; decide) (by rw [c_46_6]; rfl) (by decide) ?_
            refine kr_aload_n (i := 0) hX dX9_program_92 rfl rfl ?_
            refine kr_getr (c0 := 9) (k := 7) hX ⟨_, kf_9_49⟩ dX9_program_93 rfl (by first | exact hpg.1 | first | exact hk0 | exact hrd.1 | exact hdr.1 | exact hor.1 | exact hcu.1 | exact hfw.1 | exact hpt.1 | exact hrn.1 | exact hdi | assumption) (by assumption) ?_
            refine kr_geti (c0 := 3) (k := 3) hX ⟨_, kf_9_141⟩ dX9_program_96 rfl (by first | exact hpg.1 | first | exact hk0 | exact hrd.1 | exact hdr.1 | exact hor.1 | exact hcu.1 | exact hfw.1 | exact hpt.1 | exact hrn.1 | exact hdi | assumption) ?_
            refine kr_dS [_] hX km_9_144 dX9_program_99 (sp_bc) rfl rfl (by decide) (Nat.le_of_ble_eq_true rfl) (Nat.le_refl _) (Nat.le_refl _) ?_
            refine kr_iret hX hr dX9_program_102 ⟨rfl, ?_⟩
            simp only [kt_f_0, Classical.not_not] at c_5 c_14
            rw [show ut_prog μ o a w = _ from (if_pos ⟨c_5, c_14⟩).trans ((if_neg (fun h => h c_21)).trans (if_neg c_35)), es]
            refine ⟨?_, rfl⟩
            rw [show ut_pw (ut_ref μ o) o s1 w = _ from (if_neg c_46_4).trans ((if_neg c_46_5).trans (if_pos c_46_6))]
          by_cases c_46_7 : w = 7
          · skip
            refine kr_tabIn (tgt := 103) (off := 57) hX dX9_program_46 (by rw [c_46_7]; decide) (by rw [c_46_7]; decide) (by rw [c_46_7]; rfl) (by decide) ?_
            refine kr_aload_n (i := 0) hX dX9_program_103 rfl rfl ?_
            refine kr_dV (c1 := 9) [] hX km_9_149 dX9_program_104 (sp_edg hp0 hc1) rfl rfl ⟨_, _, rfl⟩ (by decide) (Nat.le_of_ble_eq_true rfl) (Nat.le_refl _) (Nat.le_refl _) (by first | exact hpg.1 | first | exact hk0 | exact hrd.1 | exact hdr.1 | exact hor.1 | exact hcu.1 | exact hfw.1 | exact hpt.1 | exact hrn.1 | exact hdi | assumption) ?_
            refine kr_iret hX hr dX9_program_107 ⟨rfl, ?_⟩
            simp only [kt_f_0, Classical.not_not] at c_5 c_14
            rw [show ut_prog μ o a w = _ from (if_pos ⟨c_5, c_14⟩).trans ((if_neg (fun h => h c_21)).trans (if_neg c_35)), es]
            refine ⟨?_, rfl⟩
            rw [show ut_pw (ut_ref μ o) o s1 w = _ from (if_neg c_46_4).trans ((if_neg c_46_5).trans ((if_neg c_46_6).trans (if_pos c_46_7)))]
          refine kr_tabOut (tgt := 108) hX dX9_program_46 (by have q_4 := kt_ne c_46_4 (z := 4) (by decide); have q_5 := kt_ne c_46_5 (z := 5) (by decide); have q_6 := kt_ne c_46_6 (z := 6) (by decide); have q_7 := kt_ne c_46_7 (z := 7) (by decide); omega) (by decide) ?_
          refine kr_aload_n (i := 0) hX dX9_program_108 rfl rfl ?_
          refine kr_getr (c0 := 9) (k := 6) hX ⟨_, kf_9_42⟩ dX9_program_109 rfl (by first | exact hpg.1 | first | exact hk0 | exact hrd.1 | exact hdr.1 | exact hor.1 | exact hcu.1 | exact hfw.1 | exact hpt.1 | exact hrn.1 | exact hdi | assumption) (by assumption) ?_
          refine kr_aload_n (i := 0) hX dX9_program_112 rfl rfl ?_
          refine kr_getr (c0 := 9) (k := 3) hX ⟨_, kf_9_28⟩ dX9_program_113 rfl (by first | exact hpg.1 | first | exact hk0 | exact hrd.1 | exact hdr.1 | exact hor.1 | exact hcu.1 | exact hfw.1 | exact hpt.1 | exact hrn.1 | exact hdi | assumption) (by assumption) ?_
          refine kr_dV (c1 := 2) [_] hX km_9_152 dX9_program_116 (sp_kns hfw hcu (by decide) hc1.1 hc1.2.1) rfl rfl ⟨_, _, rfl⟩ (by decide) (Nat.le_of_ble_eq_true rfl) (Nat.le_refl _) (Nat.le_refl _) (by first | exact hpg.1 | first | exact hk0 | exact hrd.1 | exact hdr.1 | exact hor.1 | exact hcu.1 | exact hfw.1 | exact hpt.1 | exact hrn.1 | exact hdi | assumption) ?_
          refine kr_iret hX hr dX9_program_119 ⟨rfl, ?_⟩
          simp only [kt_f_0, Classical.not_not] at c_5 c_14
          rw [show ut_prog μ o a w = _ from (if_pos ⟨c_5, c_14⟩).trans ((if_neg (fun h => h c_21)).trans (if_neg c_35)), es]
          refine ⟨?_, rfl⟩
          rw [show ut_pw (ut_ref μ o) o s1 w = _ from (if_neg c_46_4).trans ((if_neg c_46_5).trans ((if_neg c_46_6).trans ((if_neg c_46_7))))]
        · skip
          refine kr_bipush (v := (-4)) hX dX9_program_38 (by decide) ?_
          refine kr_iret hX hr dX9_program_40 ⟨rfl, ?_⟩
          simp only [kt_f_0, Classical.not_not] at c_5 c_14
          rw [show ut_prog μ o a w = _ from (if_pos ⟨c_5, c_14⟩).trans ((if_neg (fun h => h c_21)).trans (if_pos c_35))]
          exact ⟨rfl, rfl⟩
      · skip
        refine kr_aload_n (i := 0) hX dX9_program_24 rfl rfl ?_
        refine kr_iload_n (i := 1) hX dX9_program_25 rfl rfl ?_
        refine kr_dV (c1 := 9) [_] hX km_9_123 dX9_program_26 (sp_chosen hp0) rfl rfl ⟨_, _, rfl⟩ (by decide) (Nat.le_of_ble_eq_true rfl) (Nat.le_refl _) (Nat.le_refl _) (by first | exact hpg.1 | first | exact hk0 | exact hrd.1 | exact hdr.1 | exact hor.1 | exact hcu.1 | exact hfw.1 | exact hpt.1 | exact hrn.1 | exact hdi | assumption) ?_
        refine kr_iload_n (i := 2) hX dX9_program_29 rfl rfl ?_
        refine kr_dV (c1 := 4) [_] hX km_9_127 dX9_program_30 (sp_total hpg hN hkp.1 hkp.2.1) rfl rfl ⟨_, _, rfl⟩ (by decide) (Nat.le_of_ble_eq_true rfl) (Nat.le_refl _) (Nat.le_refl _) (by first | exact hpg.1 | first | exact hk0 | exact hrd.1 | exact hdr.1 | exact hor.1 | exact hcu.1 | exact hfw.1 | exact hpt.1 | exact hrn.1 | exact hdi | assumption) ?_
        refine kr_iret hX hr dX9_program_33 ⟨rfl, ?_⟩
        simp only [kt_f_0, Classical.not_not] at c_5 c_14
        rw [show ut_prog μ o a w = _ from (if_pos ⟨c_5, c_14⟩).trans (if_pos c_21), et]
        exact ⟨rfl, rfl⟩
    · skip
      refine kr_iconst (v := (-1)) hX dX9_program_17 (by decide) ?_
      refine kr_iret hX hr dX9_program_18 ⟨rfl, ?_⟩
      simp only [kt_f_0, Classical.not_not] at c_5 c_14
      rw [show ut_prog μ o a w = _ from if_neg (fun h => c_14 h.2)]
      exact ⟨rfl, rfl⟩

set_option maxHeartbeats 4000000 in
set_option maxRecDepth 100000 in
theorem sp_count {G : kt_G} {σ : kt_Y} {μ : kt_M} {o : Nat} (hp : kt_kt σ o) (hkk : kt_01 μ (o + 153)) {w : Int32} : kt_F G yX9_count cX9_count 2 (some .int) 1 [.ref o, .int w] σ μ (fun r μ2 => r = some (.int (ut_cnt μ o w)) ∧ μ2 = μ) := by
  refine kt_F.of (by decide) (Nat.le_of_ble_eq_true rfl) (fun X hX hr => ?_)
  have hp0 := hp
  obtain ⟨hk0, hr0, hr1, hr2, hr3, hr4, hr5, hr6, hr7, hr8, hr9, hr10, hr11, hr12, hk152, hk153, hk369, hk370, hk371, hrd, hdr, hor, hcu, hfw, hpt, hrn, hdi, him, hsh⟩ := hp
  have hs0 := hsh 0 (by decide)
  refine kr_iload_n (i := 1) hX dX9_count_0 rfl rfl ?_
  by_cases c_1_0 : w = 0
  · skip
    refine kr_tabIn (tgt := 36) (off := 35) hX dX9_count_1 (by rw [c_1_0]; decide) (by rw [c_1_0]; decide) (by rw [c_1_0]; rfl) (by decide) ?_
    refine kr_aload_n (i := 0) hX dX9_count_36 rfl rfl ?_
    refine kr_getr (c0 := 9) (k := 5) hX ⟨_, kf_9_35⟩ dX9_count_37 rfl (by first | exact hk0 | exact hrd.1 | exact hdr.1 | exact hor.1 | exact hcu.1 | exact hfw.1 | exact hpt.1 | exact hrn.1 | exact hdi | assumption) (by assumption) ?_
    refine kr_iconst (v := 0) hX dX9_count_40 (by decide) ?_
    refine kr_bald hX dX9_count_41 (by first | exact hk0 | exact hrd.1 | exact hdr.1 | exact hor.1 | exact hcu.1 | exact hfw.1 | exact hpt.1 | exact hrn.1 | exact hdi | assumption) (by unfold vp_in; decide) ?_
    refine kr_if_eq (tgt := 49) hX dX9_count_42 (by decide) (fun c_42 => ?_) (fun c_42 => ?_)
    · skip
      refine kr_iconst (v := 0) hX dX9_count_49 (by decide) ?_
      refine kr_aload_n (i := 0) hX dX9_count_50 rfl rfl ?_
      refine kr_getr (c0 := 9) (k := 5) hX ⟨_, kf_9_35⟩ dX9_count_51 rfl (by first | exact hk0 | exact hrd.1 | exact hdr.1 | exact hor.1 | exact hcu.1 | exact hfw.1 | exact hpt.1 | exact hrn.1 | exact hdi | assumption) (by assumption) ?_
      refine kr_iconst (v := 1) hX dX9_count_54 (by decide) ?_
      refine kr_bald hX dX9_count_55 (by first | exact hk0 | exact hrd.1 | exact hdr.1 | exact hor.1 | exact hcu.1 | exact hfw.1 | exact hpt.1 | exact hrn.1 | exact hdi | assumption) (by unfold vp_in; decide) ?_
      refine kr_if_eq (tgt := 63) hX dX9_count_56 (by decide) (fun c_56 => ?_) (fun c_56 => ?_)
      · skip
        refine kr_iconst (v := 0) hX dX9_count_63 (by decide) ?_
        refine kr_iadd hX dX9_count_64 ?_
        refine kr_iret hX hr dX9_count_65 ⟨rfl, ?_⟩
        refine ⟨?_, rfl⟩
        rw [show ut_cnt μ o w = _ from if_pos c_1_0]
        rw [show kt_i μ (o + 153) 0 = 0 from c_42]
        rw [show kt_i μ (o + 153) 1 = 0 from c_56]
      · skip
        refine kr_iconst (v := 1) hX dX9_count_59 (by decide) ?_
        refine kr_goto (tgt := 64) hX dX9_count_60 (by decide) ?_
        refine kr_iadd hX dX9_count_64 ?_
        refine kr_iret hX hr dX9_count_65 ⟨rfl, ?_⟩
        refine ⟨?_, rfl⟩
        rw [show ut_cnt μ o w = _ from if_pos c_1_0]
        rw [show kt_i μ (o + 153) 0 = 0 from c_42]
        rw [(hkk 1).resolve_left c_56]
    · skip
      refine kr_iconst (v := 1) hX dX9_count_45 (by decide) ?_
      refine kr_goto (tgt := 50) hX dX9_count_46 (by decide) ?_
      refine kr_aload_n (i := 0) hX dX9_count_50 rfl rfl ?_
      refine kr_getr (c0 := 9) (k := 5) hX ⟨_, kf_9_35⟩ dX9_count_51 rfl (by first | exact hk0 | exact hrd.1 | exact hdr.1 | exact hor.1 | exact hcu.1 | exact hfw.1 | exact hpt.1 | exact hrn.1 | exact hdi | assumption) (by assumption) ?_
      refine kr_iconst (v := 1) hX dX9_count_54 (by decide) ?_
      refine kr_bald hX dX9_count_55 (by first | exact hk0 | exact hrd.1 | exact hdr.1 | exact hor.1 | exact hcu.1 | exact hfw.1 | exact hpt.1 | exact hrn.1 | exact hdi | assumption) (by unfold vp_in; decide) ?_
      refine kr_if_eq (tgt := 63) hX dX9_count_56 (by decide) (fun c_56 => ?_) (fun c_56 => ?_)
      · skip
        refine kr_iconst (v := 0) hX dX9_count_63 (by decide) ?_
        refine kr_iadd hX dX9_count_64 ?_
        refine kr_iret hX hr dX9_count_65 ⟨rfl, ?_⟩
        refine ⟨?_, rfl⟩
        rw [show ut_cnt μ o w = _ from if_pos c_1_0]
        rw [(hkk 0).resolve_left c_42]
        rw [show kt_i μ (o + 153) 1 = 0 from c_56]
      · skip
        refine kr_iconst (v := 1) hX dX9_count_59 (by decide) ?_
        refine kr_goto (tgt := 64) hX dX9_count_60 (by decide) ?_
        refine kr_iadd hX dX9_count_64 ?_
        refine kr_iret hX hr dX9_count_65 ⟨rfl, ?_⟩
        refine ⟨?_, rfl⟩
        rw [show ut_cnt μ o w = _ from if_pos c_1_0]
        rw [(hkk 0).resolve_left c_42]
        rw [(hkk 1).resolve_left c_56]
  by_cases c_1_1 : w = 1
  · skip
    refine kr_tabIn (tgt := 66) (off := 65) hX dX9_count_1 (by rw [c_1_1]; decide) (by rw [c_1_1]; decide) (by rw [c_1_1]; rfl) (by decide) ?_
    refine kr_aload_n (i := 0) hX dX9_count_66 rfl rfl ?_
    refine kr_getr (c0 := 9) (k := 0) hX ⟨_, kf_9_10⟩ dX9_count_67 rfl (by first | exact hk0 | exact hrd.1 | exact hdr.1 | exact hor.1 | exact hcu.1 | exact hfw.1 | exact hpt.1 | exact hrn.1 | exact hdi | assumption) (by assumption) ?_
    refine kr_geti (c0 := 6) (k := 1) hX ⟨_, kf_9_100⟩ dX9_count_70 rfl (by first | exact hk0 | exact hrd.1 | exact hdr.1 | exact hor.1 | exact hcu.1 | exact hfw.1 | exact hpt.1 | exact hrn.1 | exact hdi | assumption) ?_
    refine kr_iret hX hr dX9_count_73 ⟨rfl, ?_⟩
    refine ⟨?_, rfl⟩
    rw [show ut_cnt μ o w = _ from (if_neg c_1_0).trans (if_pos c_1_1)]
  by_cases c_1_2 : w = 2
  · skip
    refine kr_tabIn (tgt := 74) (off := 73) hX dX9_count_1 (by rw [c_1_2]; decide) (by rw [c_1_2]; decide) (by rw [c_1_2]; rfl) (by decide) ?_
    refine kr_aload_n (i := 0) hX dX9_count_74 rfl rfl ?_
    refine kr_dV (c1 := 9) [] hX km_9_311 dX9_count_75 (sp_nilI hp0) rfl rfl ⟨_, _, rfl⟩ (by decide) (Nat.le_of_ble_eq_true rfl) (Nat.le_refl _) (Nat.le_refl _) (by first | exact hk0 | exact hrd.1 | exact hdr.1 | exact hor.1 | exact hcu.1 | exact hfw.1 | exact hpt.1 | exact hrn.1 | exact hdi | assumption) ?_
    refine kr_iret hX hr dX9_count_78 ⟨rfl, ?_⟩
    refine ⟨?_, rfl⟩
    rw [show ut_cnt μ o w = _ from (if_neg c_1_0).trans ((if_neg c_1_1).trans (if_pos c_1_2))]
  by_cases c_1_3 : w = 3
  · skip
    refine kr_tabIn (tgt := 79) (off := 78) hX dX9_count_1 (by rw [c_1_3]; decide) (by rw [c_1_3]; decide) (by rw [c_1_3]; rfl) (by decide) ?_
    refine kr_aload_n (i := 0) hX dX9_count_79 rfl rfl ?_
    refine kr_getr (c0 := 9) (k := 12) hX ⟨_, kf_9_76⟩ dX9_count_80 rfl (by first | exact hk0 | exact hrd.1 | exact hdr.1 | exact hor.1 | exact hcu.1 | exact hfw.1 | exact hpt.1 | exact hrn.1 | exact hdi | assumption) (by assumption) ?_
    refine kr_iconst (v := 0) hX dX9_count_83 (by decide) ?_
    refine kr_aald (t := 3) hX dX9_count_84 (by decide) (by first | exact hk0 | exact hrd.1 | exact hdr.1 | exact hor.1 | exact hcu.1 | exact hfw.1 | exact hpt.1 | exact hrn.1 | exact hdi | assumption) (by unfold vp_in; decide) (by exact hs0.1) ?_
    refine kr_dV (c1 := 8) [] hX km_9_293 dX9_count_85 (sp_missing hs0.2) rfl rfl ⟨_, _, rfl⟩ (by decide) (Nat.le_of_ble_eq_true rfl) (Nat.le_refl _) (Nat.le_refl _) (by exact hs0.2.1) ?_
    refine kr_if_eq (tgt := 96) hX dX9_count_88 (by decide) (fun c_88 => ?_) (fun c_88 => ?_)
    · skip
      refine kr_aload_n (i := 0) hX dX9_count_96 rfl rfl ?_
      refine kr_getr (c0 := 9) (k := 12) hX ⟨_, kf_9_76⟩ dX9_count_97 rfl (by first | exact hk0 | exact hrd.1 | exact hdr.1 | exact hor.1 | exact hcu.1 | exact hfw.1 | exact hpt.1 | exact hrn.1 | exact hdi | assumption) (by assumption) ?_
      refine kr_iconst (v := 0) hX dX9_count_100 (by decide) ?_
      refine kr_aald (t := 3) hX dX9_count_101 (by decide) (by first | exact hk0 | exact hrd.1 | exact hdr.1 | exact hor.1 | exact hcu.1 | exact hfw.1 | exact hpt.1 | exact hrn.1 | exact hdi | assumption) (by unfold vp_in; decide) (by exact hs0.1) ?_
      refine kr_geti (c0 := 8) (k := 2) hX ⟨_, kf_9_314⟩ dX9_count_102 rfl (by exact hs0.2.1) ?_
      refine kr_iret hX hr dX9_count_105 ⟨rfl, ?_⟩
      refine ⟨?_, rfl⟩
      rw [show ut_cnt μ o w = _ from (if_neg c_1_0).trans ((if_neg c_1_1).trans ((if_neg c_1_2).trans (if_pos c_1_3)))]
      simp only [kt_f_0, Classical.not_not] at c_88
      rw [if_neg c_88]
    · skip
      refine kr_bipush (v := (-4)) hX dX9_count_91 (by decide) ?_
      refine kr_goto (tgt := 105) hX dX9_count_93 (by decide) ?_
      refine kr_iret hX hr dX9_count_105 ⟨rfl, ?_⟩
      refine ⟨?_, rfl⟩
      rw [show ut_cnt μ o w = _ from (if_neg c_1_0).trans ((if_neg c_1_1).trans ((if_neg c_1_2).trans (if_pos c_1_3)))]
      simp only [kt_f_0, Classical.not_not] at c_88
      rw [if_pos c_88]
  by_cases c_1_4 : w = 4
  · skip
    refine kr_tabIn (tgt := 106) (off := 105) hX dX9_count_1 (by rw [c_1_4]; decide) (by rw [c_1_4]; decide) (by rw [c_1_4]; rfl) (by decide) ?_
    refine kr_aload_n (i := 0) hX dX9_count_106 rfl rfl ?_
    refine kr_geti (c0 := 9) (k := 13) hX ⟨_, kf_9_80⟩ dX9_count_107 rfl (by first | exact hk0 | exact hrd.1 | exact hdr.1 | exact hor.1 | exact hcu.1 | exact hfw.1 | exact hpt.1 | exact hrn.1 | exact hdi | assumption) ?_
    refine kr_iret hX hr dX9_count_110 ⟨rfl, ?_⟩
    refine ⟨?_, rfl⟩
    rw [show ut_cnt μ o w = _ from (if_neg c_1_0).trans ((if_neg c_1_1).trans ((if_neg c_1_2).trans ((if_neg c_1_3).trans (if_pos c_1_4))))]
  refine kr_tabOut (tgt := 111) hX dX9_count_1 (by have q_0 := kt_ne c_1_0 (z := 0) (by decide); have q_1 := kt_ne c_1_1 (z := 1) (by decide); have q_2 := kt_ne c_1_2 (z := 2) (by decide); have q_3 := kt_ne c_1_3 (z := 3) (by decide); have q_4 := kt_ne c_1_4 (z := 4) (by decide); omega) (by decide) ?_
  refine kr_iconst (v := (-1)) hX dX9_count_111 (by decide) ?_
  refine kr_iret hX hr dX9_count_112 ⟨rfl, ?_⟩
  refine ⟨?_, rfl⟩
  rw [show ut_cnt μ o w = _ from (if_neg c_1_0).trans ((if_neg c_1_1).trans ((if_neg c_1_2).trans ((if_neg c_1_3).trans ((if_neg c_1_4)))))]

set_option maxHeartbeats 4000000 in
set_option maxRecDepth 100000 in
theorem lp_rdE {G : kt_G} {σ : kt_Y} {X : kt_X} (hX : kt_ok G X RX9 cX9_read 9 2 0 0) (hr : kt_rt X = (some .int)) {Q : Option Value → kt_M → Prop} {o : Nat} (hp : kt_kt σ o) {μ : kt_M} {m i j : Nat} (hi : i ≤ 8) {k l f z : Int32} (hQ : Q (some (.int (nI i))) (ut_rdf μ o i z)) : kt_W G X 9 120 [(0, .ref o), (1, .int k), (2, .int l), (3, .int f), (4, .int (nI m)), (5, .ref (o + 514 + 2 * j)), (6, .int z), (7, .int (nI i))] [] σ μ 0 0 (kt_Z G X (kt_q σ Q) 0 0) := by
  have hp0 := hp
  obtain ⟨hk0, hr0, hr1, hr2, hr3, hr4, hr5, hr6, hr7, hr8, hr9, hr10, hr11, hr12, hk152, hk153, hk369, hk370, hk371, hrd, hdr, hor, hcu, hfw, hpt, hrn, hdi, him, hsh⟩ := hp
  refine kr_aload_n (i := 0) hX dX9_read_120 rfl rfl ?_
  refine kr_getr (c0 := 9) (k := 11) hX ⟨_, kf_9_71⟩ dX9_read_121 rfl (by first | exact hk0 | exact hrd.1 | exact hdr.1 | exact hor.1 | exact hcu.1 | exact hfw.1 | exact hpt.1 | exact hrn.1 | exact hdi | assumption) (by assumption) ?_
  refine kr_iconst (v := 0) hX dX9_read_124 (by decide) ?_
  refine kr_aload_n (i := 0) hX dX9_read_125 rfl rfl ?_
  refine kr_getr (c0 := 9) (k := 10) hX ⟨_, kf_9_67⟩ dX9_read_126 rfl (by first | exact hk0 | exact hrd.1 | exact hdr.1 | exact hor.1 | exact hcu.1 | exact hfw.1 | exact hpt.1 | exact hrn.1 | exact hdi | assumption) (by assumption) ?_
  refine kr_iconst (v := 0) hX dX9_read_129 (by decide) ?_
  refine kr_iload hX dX9_read_130 rfl ?_
  refine kr_copyi hX dX9_read_132 kw_996 hk370 hk369 hi hi (by omega) (by decide) ?_
  refine kr_aload_n (i := 0) hX dX9_read_135 rfl rfl ?_
  refine kr_iload hX dX9_read_136 rfl ?_
  refine kr_puti (c0 := 9) (k := 14) hX kf_9_84 dX9_read_138 rfl rfl rfl (by first | exact hk0 | exact hrd.1 | exact hdr.1 | exact hor.1 | exact hcu.1 | exact hfw.1 | exact hpt.1 | exact hrn.1 | exact hdi | assumption) ?_
  refine kr_iload hX dX9_read_141 rfl ?_
  refine kr_iret hX hr dX9_read_143 ⟨rfl, ?_⟩
  exact hQ
set_option maxHeartbeats 4000000 in
set_option maxRecDepth 100000 in
theorem lp_read {G : kt_G} {σ : kt_Y} {X : kt_X} (hX : kt_ok G X RX9 cX9_read 9 2 0 0) (hr : kt_rt X = (some .int)) {Q : Option Value → kt_M → Prop} {o : Nat} (hp : kt_kt σ o) {m j : Nat} (hm : m ≤ 8) (hj : j < 4) {k l f : Int32} : ∀ (n i : Nat) (μ : kt_M) , i + n = m →  (Q (some (.int (ut_rdL o (o + 514 + 2 * j) l f n i μ).1)) (ut_rdL o (o + 514 + 2 * j) l f n i μ).2) → kt_W G X 9 42 [(0, .ref o), (1, .int k), (2, .int l), (3, .int f), (4, .int (nI m)), (5, .ref (o + 514 + 2 * j)), (6, .int 0), (7, .int (nI i))] [] σ μ 0 0 (kt_Z G X (kt_q σ Q) 0 0) := by
  have hp0 := hp
  obtain ⟨hk0, hr0, hr1, hr2, hr3, hr4, hr5, hr6, hr7, hr8, hr9, hr10, hr11, hr12, hk152, hk153, hk369, hk370, hk371, hrd, hdr, hor, hcu, hfw, hpt, hrn, hdi, him, hsh⟩ := hp
  have hsj := (hsh j hj).2
  intro n
  induction n with
  | zero =>
    intro i μ hin  hQ
    have hib : i = m := by omega
    refine kr_iload hX dX9_read_42 rfl ?_
    refine kr_iload hX dX9_read_44 rfl ?_
    refine kr_icmp_ge (tgt := 120) hX dX9_read_46 (by decide) (fun c_46 => ?_) (fun c_46 => ?_)
    · skip
      exact lp_rdE hX hr hp0 (by omega) hQ
    · skip
      exact absurd (by rw [hib]; exact Int32.le_refl _) c_46
  | succ n ih =>
    intro i μ hin  hQ
    have hib : i < m := by omega
    refine kr_iload hX dX9_read_42 rfl ?_
    refine kr_iload hX dX9_read_44 rfl ?_
    refine kr_icmp_ge (tgt := 120) hX dX9_read_46 (by decide) (fun c_46 => ?_) (fun c_46 => ?_)
    · skip
      exact absurd c_46 (nI_ge hib (by omega))
    · skip
      refine kr_iload hX dX9_read_49 rfl ?_
      refine kr_bipush (v := 8) hX dX9_read_51 (by decide) ?_
      refine kr_icmp_ge (tgt := 120) hX dX9_read_53 (by decide) (fun c_53 => ?_) (fun c_53 => ?_)
      · skip
        exact absurd c_53 (kt_ge (b := 8) rfl (by omega) (by decide))
      · skip
        refine kr_iload hX dX9_read_56 rfl ?_
        refine kr_if_ne (tgt := 120) hX dX9_read_58 (by decide) (fun c_58 => ?_) (fun c_58 => ?_)
        · skip
          exact absurd rfl c_58
        · skip
          refine kr_aload hX dX9_read_61 rfl ?_
          refine kr_iload_n (i := 2) hX dX9_read_63 rfl rfl ?_
          refine kr_iload_n (i := 3) hX dX9_read_64 rfl rfl ?_
          refine kr_iload hX dX9_read_65 rfl ?_
          refine kr_iadd hX dX9_read_67 ?_
          refine kr_dV (c1 := 8) [_, _] hX km_9_299 dX9_read_68 (sp_faultAt hsj) rfl rfl ⟨_, _, rfl⟩ (by decide) (Nat.le_of_ble_eq_true rfl) (Nat.le_refl _) (Nat.le_refl _) (by exact hsj.1) ?_
          refine kr_istore hX dX9_read_71 (by decide) rfl rfl ?_
          refine kr_iload hX dX9_read_73 rfl ?_
          refine kr_if_ne (tgt := 42) hX dX9_read_75 (by decide) (fun c_75 => ?_) (fun c_75 => ?_)
          · skip
            rw [show ut_rdL o (o + 514 + 2 * j) l f (n + 1) i μ = _ from if_neg c_75] at hQ
            refine kr_iload hX dX9_read_42 rfl ?_
            refine kr_iload hX dX9_read_44 rfl ?_
            refine kr_icmp_ge (tgt := 120) hX dX9_read_46 (by decide) (fun c_46 => ?_) (fun c_46 => ?_)
            · skip
              exact absurd c_46 (nI_ge hib (by omega))
            · skip
              refine kr_iload hX dX9_read_49 rfl ?_
              refine kr_bipush (v := 8) hX dX9_read_51 (by decide) ?_
              refine kr_icmp_ge (tgt := 120) hX dX9_read_53 (by decide) (fun c_53 => ?_) (fun c_53 => ?_)
              · skip
                exact absurd c_53 (kt_ge (b := 8) rfl (by omega) (by decide))
              · skip
                refine kr_iload hX dX9_read_56 rfl ?_
                refine kr_if_ne (tgt := 120) hX dX9_read_58 (by decide) (fun c_58 => ?_) (fun c_58 => ?_)
                · skip
                  exact lp_rdE hX hr hp0 (by omega) hQ
                · skip
                  exact absurd c_58 c_75
          · skip
            refine kr_aload hX dX9_read_78 rfl ?_
            refine kr_iload_n (i := 3) hX dX9_read_80 rfl rfl ?_
            refine kr_iload hX dX9_read_81 rfl ?_
            refine kr_iadd hX dX9_read_83 ?_
            refine kr_dV (c1 := 8) [_] hX km_9_302 dX9_read_84 (sp_elem hsj) rfl rfl ⟨_, _, rfl⟩ (by decide) (Nat.le_of_ble_eq_true rfl) (Nat.le_refl _) (Nat.le_refl _) (by exact hsj.1) ?_
            refine kr_istore hX dX9_read_87 (by decide) rfl rfl ?_
            refine kr_iload hX dX9_read_89 rfl ?_
            refine kr_bipush (v := 51) hX dX9_read_91 (by decide) ?_
            refine kr_dS [_, _] hX km_9_92 dX9_read_93 (sp_within) rfl rfl (by decide) (Nat.le_of_ble_eq_true rfl) (Nat.le_refl _) (Nat.le_refl _) ?_
            refine kr_if_ne (tgt := 105) hX dX9_read_96 (by decide) (fun c_96 => ?_) (fun c_96 => ?_)
            · skip
              refine kr_aload_n (i := 0) hX dX9_read_105 rfl rfl ?_
              refine kr_getr (c0 := 9) (k := 11) hX ⟨_, kf_9_71⟩ dX9_read_106 rfl (by first | exact hk0 | exact hrd.1 | exact hdr.1 | exact hor.1 | exact hcu.1 | exact hfw.1 | exact hpt.1 | exact hrn.1 | exact hdi | assumption) (by assumption) ?_
              refine kr_iload hX dX9_read_109 rfl ?_
              refine kr_iload hX dX9_read_111 rfl ?_
              refine kr_iastN hX dX9_read_113 (by first | exact hk0 | exact hrd.1 | exact hdr.1 | exact hor.1 | exact hcu.1 | exact hfw.1 | exact hpt.1 | exact hrn.1 | exact hdi | assumption) (by omega) ?_
              refine kr_iinc (v := nI (i + 1)) hX dX9_read_114 rfl (by first | exact nI_1 _ | rfl) (by decide) rfl rfl ?_
              refine kr_goto (tgt := 42) hX dX9_read_117 (by decide) ?_
              simp only [kt_f_0, Classical.not_not] at c_96
              rw [show ut_rdL o (o + 514 + 2 * j) l f (n + 1) i μ = _ from (if_pos c_75).trans (if_pos (show k_wi (ut_el μ (o + 514 + 2 * j) (f + nI i)) 51 from c_96))] at hQ
              rw [c_75]
              refine kr_keep [0, 1, 2, 3, 4, 5, 6, 7] rfl ?_
              exact ih (i + 1) _ (by omega) hQ
            · skip
              refine kr_bipush (v := (-20)) hX dX9_read_99 (by decide) ?_
              refine kr_iload hX dX9_read_101 rfl ?_
              refine kr_isub hX dX9_read_103 ?_
              refine kr_iret hX hr dX9_read_104 ⟨rfl, ?_⟩
              simp only [kt_f_0, Classical.not_not] at c_96
              rw [show ut_rdL o (o + 514 + 2 * j) l f (n + 1) i μ = _ from (if_pos c_75).trans (if_neg (show ¬ k_wi (ut_el μ (o + 514 + 2 * j) (f + nI i)) 51 from c_96))] at hQ
              exact hQ

set_option maxHeartbeats 4000000 in
set_option maxRecDepth 100000 in
theorem sp_read {G : kt_G} {σ : kt_Y} {μ : kt_M} {o : Nat} (hp : kt_kt σ o) {k l f n : Int32} : kt_F G yX9_read cX9_read 9 (some .int) 2 [.ref o, .int k, .int l, .int f, .int n] σ μ (fun r μ2 => r = some (.int (ut_read μ o k l f n).1) ∧ μ2 = (ut_read μ o k l f n).2) := by
  refine kt_F.of (by decide) (Nat.le_of_ble_eq_true rfl) (fun X hX hr => ?_)
  have hp0 := hp
  obtain ⟨hk0, hr0, hr1, hr2, hr3, hr4, hr5, hr6, hr7, hr8, hr9, hr10, hr11, hr12, hk152, hk153, hk369, hk370, hk371, hrd, hdr, hor, hcu, hfw, hpt, hrn, hdi, him, hsh⟩ := hp
  have hks : ∀ k : Int32, k_wi k 3 → vp_in k 4 ∧ k.toNatClampNeg < 4 := fun k h => by
    obtain ⟨j, hj, e⟩ := k_wi_nI h (n := 4) (by decide) (by decide)
    exact ⟨k_wi_in h (by decide), by rw [e, nI_clamp (by omega)]; exact hj⟩
  refine kr_iload_n (i := 1) hX dX9_read_0 rfl rfl ?_
  refine kr_iconst (v := 3) hX dX9_read_1 (by decide) ?_
  refine kr_dS [_, _] hX km_9_92 dX9_read_2 (sp_within) rfl rfl (by decide) (Nat.le_of_ble_eq_true rfl) (Nat.le_refl _) (Nat.le_refl _) ?_
  refine kr_if_eq (tgt := 26) hX dX9_read_5 (by decide) (fun c_5 => ?_) (fun c_5 => ?_)
  · skip
    refine kr_iconst (v := (-1)) hX dX9_read_26 (by decide) ?_
    refine kr_iret hX hr dX9_read_27 ⟨rfl, ?_⟩
    simp only [kt_f_0, Classical.not_not] at c_5
    rw [show ut_read μ o k l f n = _ from if_neg (fun h => c_5 h.1)]
    exact ⟨rfl, rfl⟩
  · skip
    refine kr_iload_n (i := 2) hX dX9_read_8 rfl rfl ?_
    refine kr_iconst (v := 2) hX dX9_read_9 (by decide) ?_
    refine kr_dS [_, _] hX km_9_92 dX9_read_10 (sp_within) rfl rfl (by decide) (Nat.le_of_ble_eq_true rfl) (Nat.le_refl _) (Nat.le_refl _) ?_
    refine kr_if_eq (tgt := 26) hX dX9_read_13 (by decide) (fun c_13 => ?_) (fun c_13 => ?_)
    · skip
      refine kr_iconst (v := (-1)) hX dX9_read_26 (by decide) ?_
      refine kr_iret hX hr dX9_read_27 ⟨rfl, ?_⟩
      simp only [kt_f_0, Classical.not_not] at c_5 c_13
      rw [show ut_read μ o k l f n = _ from if_neg (fun h => c_13 h.2.1)]
      exact ⟨rfl, rfl⟩
    · skip
      refine kr_iload hX dX9_read_16 rfl ?_
      refine kr_bipush (v := 8) hX dX9_read_18 (by decide) ?_
      refine kr_dS [_, _] hX km_9_92 dX9_read_20 (sp_within) rfl rfl (by decide) (Nat.le_of_ble_eq_true rfl) (Nat.le_refl _) (Nat.le_refl _) ?_
      refine kr_if_ne (tgt := 28) hX dX9_read_23 (by decide) (fun c_23 => ?_) (fun c_23 => ?_)
      · skip
        refine kr_aload_n (i := 0) hX dX9_read_28 rfl rfl ?_
        refine kr_getr (c0 := 9) (k := 12) hX ⟨_, kf_9_76⟩ dX9_read_29 rfl (by first | exact hk0 | exact hrd.1 | exact hdr.1 | exact hor.1 | exact hcu.1 | exact hfw.1 | exact hpt.1 | exact hrn.1 | exact hdi | assumption) (by assumption) ?_
        refine kr_iload_n (i := 1) hX dX9_read_32 rfl rfl ?_
        refine kr_aald (t := 3) hX dX9_read_33 (by decide) (by first | exact hk0 | exact hrd.1 | exact hdr.1 | exact hor.1 | exact hcu.1 | exact hfw.1 | exact hpt.1 | exact hrn.1 | exact hdi | assumption) (by simp only [kt_f_0, Classical.not_not] at c_5; exact (hks k c_5).1) (by simp only [kt_f_0, Classical.not_not] at c_5; exact (hsh _ (hks k c_5).2).1) ?_
        refine kr_astore hX dX9_read_34 (by decide) rfl rfl ?_
        refine kr_iconst (v := 0) hX dX9_read_36 (by decide) ?_
        refine kr_istore hX dX9_read_37 (by decide) rfl rfl ?_
        refine kr_iconst (v := 0) hX dX9_read_39 (by decide) ?_
        refine kr_istore hX dX9_read_40 (by decide) rfl rfl ?_
        simp only [kt_f_0, Classical.not_not] at c_5 c_13 c_23
        obtain ⟨m, hm, e⟩ := k_wi_nI (n := 9) c_23 (by decide) (by decide)
        rw [show ut_read μ o k l f n = _ from if_pos ⟨c_5, c_13, c_23⟩, e, nI_clamp (by omega)]
        exact lp_read hX hr hp0 (by omega) (hks k c_5).2 m 0 _ (by omega) ⟨rfl, rfl⟩
      · skip
        refine kr_iconst (v := (-1)) hX dX9_read_26 (by decide) ?_
        refine kr_iret hX hr dX9_read_27 ⟨rfl, ?_⟩
        simp only [kt_f_0, Classical.not_not] at c_5 c_13 c_23
        rw [show ut_read μ o k l f n = _ from if_neg (fun h => c_23 h.2.2)]
        exact ⟨rfl, rfl⟩


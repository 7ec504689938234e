/-! the String constants of KnownTurns$Reader, and the JDK's methods that are asked of them -/
def kt_aK (G : kt_G) : Nat → Nat := G.2.2.2.2.1
def kt_aV (G : kt_G) : Nat → Nat := G.2.2.2.2.2.1
def kt_ln (i : Nat) : Nat := kt_sn.getD i 0
def kt_ch (i j : Nat) : Int32 := (kt_sb.getD i []).getD j 0
section KSTR
variable {G : kt_G} {X : kt_X} {cc : ByteArray} {nL d mc ms pc cs ss : Nat} {lv : List (Nat × Value)} {st : List Value} {σ : kt_Y} {μ : kt_M} {Z : State → Prop} {own : String} {i : Nat}
theorem kr_sval (hX : kt_ok G X RJ0 cc nL d mc ms) (hdg : decode cc pc = .ok (.getfield 9, 3)) (hi : i < 9) (k : kt_W G X nL (pc + 3) lv (.ref (kt_aV G i) :: st) σ μ cs ss Z) : kt_W G X nL pc lv (.ref (kt_aK G i) :: st) σ μ cs ss Z := by
  obtain ⟨p, l, e, R, s, m, args, below, meth, c⟩ := X
  obtain ⟨hx, hb, hml, hown, hts, hK, h0, hlk, hla, hrm, hmc, hms⟩ := hX
  intro H locs ls hH hS hl
  exact vk_getf hx hb (hK.2.2.2.1.1 i hi).2.2.1 hS hown (hts _ kw_1523) (fun _ h => h) hdg (k H locs ls hH hS hl)
theorem kr_scod (hX : kt_ok G X RJ0 cc nL d mc ms) (hdg : decode cc pc = .ok (.getfield 15, 3)) (hi : i < 9) (k : kt_W G X nL (pc + 3) lv (.int 0 :: st) σ μ cs ss Z) : kt_W G X nL pc lv (.ref (kt_aK G i) :: st) σ μ cs ss Z := by
  obtain ⟨p, l, e, R, s, m, args, below, meth, c⟩ := X
  obtain ⟨hx, hb, hml, hown, hts, hK, h0, hlk, hla, hrm, hmc, hms⟩ := hX
  intro H locs ls hH hS hl
  exact vk_getf hx hb (hK.2.2.2.1.1 i hi).2.1 hS hown (hts _ kw_1524) (fun _ h => h) hdg (k H locs ls hH hS hl)
theorem kr_scom (hX : kt_ok G X RJ0 cc nL d mc ms) (hdg : decode cc pc = .ok (.getstatic 38, 3)) (k : kt_W G X nL (pc + 3) lv (.int 1 :: st) σ μ cs ss Z) : kt_W G X nL pc lv st σ μ cs ss Z := by
  obtain ⟨p, l, e, R, s, m, args, below, meth, c⟩ := X
  obtain ⟨hx, hb, hml, hown, hts, hK, h0, hlk, hla, hrm, hmc, hms⟩ := hX
  intro H locs ls hH hS hl
  exact va_gets hx hb hK.2.2.2.2.2.1 hS hown (hts _ kw_414) (fun _ h => h) hdg (k H locs ls hH hS hl)
theorem kr_sfmt (hX : kt_ok G X RJ0 cc nL d mc ms) (hdg : decode cc pc = .ok (.getstatic 1053, 3)) (k1 : kt_W G X nL (pc + 3) lv (.null :: st) σ μ cs ss Z) (k2 : ∀ t, kt_W G X nL (pc + 3) lv (.ref t :: st) σ μ cs ss Z) : kt_W G X nL pc lv st σ μ cs ss Z := by
  obtain ⟨p, l, e, R, s, m, args, below, meth, c⟩ := X
  obtain ⟨hx, hb, hml, hown, hts, hK, h0, hlk, hla, hrm, hmc, hms⟩ := hX
  intro H locs ls hH hS hl
  rcases hK.2.2.2.2.2.2 with hz | ⟨t, hz⟩
  · exact va_gets hx hb hz hS hown (hts _ kw_430) (fun _ h => h) hdg (k1 H locs ls hH hS hl)
  · exact va_gets hx hb hz hS hown (hts _ kw_430) (fun _ h => h) hdg (k2 t H locs ls hH hS hl)
theorem kr_slen (hX : kt_ok G X own cc nL d mc ms) (hdg : decode cc pc = .ok (.arraylength, 1)) (hi : i < 9) (k : kt_W G X nL (pc + 1) lv (.int (nI (kt_ln i)) :: st) σ μ cs ss Z) : kt_W G X nL pc lv (.ref (kt_aV G i) :: st) σ μ cs ss Z := by
  obtain ⟨p, l, e, R, s, m, args, below, meth, c⟩ := X
  obtain ⟨hx, hb, hml, hown, hts, hK, h0, hlk, hla, hrm, hmc, hms⟩ := hX
  intro H locs ls hH hS hl
  exact va_tlen hx hb (hK.2.2.2.1.1 i hi).2.2.2 hS rfl hdg (k H locs ls hH hS hl)
theorem kr_sbyt (hX : kt_ok G X own cc nL d mc ms) (hdg : decode cc pc = .ok (.baload, 1)) (hi : i < 9) {j : Nat} (hj : j < kt_ln i ∧ kt_ln i < 2 ^ 31) (k : kt_W G X nL (pc + 1) lv (.int (kt_ch i j) :: st) σ μ cs ss Z) : kt_W G X nL pc lv (.int (nI j) :: .ref (kt_aV G i) :: st) σ μ cs ss Z := by
  obtain ⟨p, l, e, R, s, m, args, below, meth, c⟩ := X
  obtain ⟨hx, hb, hml, hown, hts, hK, h0, hlk, hla, hrm, hmc, hms⟩ := hX
  intro H locs ls hH hS hl
  exact va_tb hx hb (hK.2.2.2.1.1 i hi).2.2.2 hS (vp_in_nI hj.1 hj.2) (by rw [nI_clamp (by omega)]; rfl) hdg (k H locs ls hH hS hl)
theorem kr_ldcS (hX : kt_ok G X RX6 cc nL d mc ms) (hi : i < 9) (hdg : decode cc pc = .ok (.ldc (kt_sk i), 2)) (k : kt_W G X nL (pc + 2) lv (.ref (kt_aK G i) :: st) σ μ cs ss Z) : kt_W G X nL pc lv st σ μ cs ss Z := by
  obtain ⟨p, l, e, R, s, m, args, below, meth, c⟩ := X
  obtain ⟨hx, hb, hml, hown, hts, hK, h0, hlk, hla, hrm, hmc, hms⟩ := hX
  intro H locs ls hH hS hl
  exact va_ldcS hx hb hown (hK.2.2.2.2.1 i hi) hdg (k H locs ls hH hS hl)
theorem kr_nret {Q : Option Value → kt_Y → kt_M → Prop} (hX : kt_ok G X own cc nL d mc ms) {ty : FieldType} (hr : kt_rt X = some ty) {v : Int32} (hn : narrow ty (.int v) = .int v) (hdg : decode cc pc = .ok (.ireturn, 1)) (hQ : Q (some (.int v)) σ μ) : kt_W G X nL pc lv [.int v] σ μ cs ss (kt_Z G X Q cs ss) := by
  obtain ⟨p, l, e, R, s, m, args, below, meth, c⟩ := X
  obtain ⟨hx, hb, hml, hown, hts, hK, h0, hlk, hla, hrm, hmc, hms⟩ := hX
  intro H locs ls hH hS hl
  exact W.zret hx hb hr hn (fun t ht hW => ⟨⟨_, σ, μ, rfl, hQ, by rw [ht]; exact hH⟩, hS.F ht⟩) hS.2.2 hdg hlk
variable {idx nL' n d' : Nat} {y : MethodName} {cc' : ByteArray} {ret' : Option FieldType} {rv : Option Value} {μv : kt_M}
/-- a call whose receiver is one of the String constants -/
theorem kr_dVS (As : List Value) {st0 : List Value} (hX : kt_ok G X own cc nL d mc ms) (hL : kt_LV own idx y cc' nL' ret' n) (hdg : decode cc pc = .ok (.invokevirtual idx, 3)) (hS' : kt_F G y cc' nL' ret' d' (.ref (kt_aK G i) :: As) σ μ (fun r μ2 => r = rv ∧ μ2 = μv)) (hst : st0 = As.reverse ++ .ref (kt_aK G i) :: st) (hn : As.length = n) (hc : y.cls = "java/lang/String") (hd : d' + 1 ≤ d) (hcat : (st.map fun v => v.category).sum ≤ 8) (hcs : cs ≤ mc) (hss : ss ≤ ms) (hi : i < 9)
    (kk : kt_W G X nL (pc + 3) lv (rv.toList ++ st) σ μv cs ss Z) : kt_W G X nL pc lv st0 σ μ cs ss Z := by
  obtain ⟨p, l, e, R, s, m, args, below, meth, c⟩ := X
  obtain ⟨hx, hb, hml, hown, hts, hK, h0, hlk, hla, hrm, hmc, hms⟩ := hX
  intro H locs ls hH hS hl
  subst hla
  subst hst
  refine kt_back (Q := kt_q σ (fun r μ2 => r = rv ∧ μ2 = μv)) (va_runV (As := As) (rest := st) (C := y.cls) ⟨hx, hb, hml, hown, hts⟩ hS' ⟨kt_cb hts hL.1 hL.2.1 hrm hd, hts _ hL.2.2.1, hts _ hL.2.2.2⟩ ⟨kt_blind, ?_, fun U hU hW => ⟨rfl, by rw [hU]; exact hH, hK.call hS hU hW⟩⟩ rfl hn hl.1 rfl (lv_room hcat) hdg ⟨Nat.le_trans hcs hmc, Nat.le_trans hss hms⟩) hS hl (fun r σ' μ' h => by cases h.1; rw [h.2.1, h.2.2]; exact kk)
  rw [hc]
  exact vk_recv hK.2.2.2.1 hi hS
end KSTR
set_option maxHeartbeats 4000000 in
set_option maxRecDepth 100000 in
theorem sj_coder {G : kt_G} {σ : kt_Y} {μ : kt_M} {i : Nat} (hi : i < 9) : kt_F G yJ0_coder_7d493 cJ0_coder_7d493 1 (some .byte) 0 [.ref (kt_aK G i)] σ μ (fun r μ2 => r = some (.int 0) ∧ μ2 = μ) := by
  refine kt_F.of (by decide) (Nat.le_of_ble_eq_true rfl) (fun X hX hr => ?_)
  refine kr_scom hX dJ0_coder_7d493_0 ?_
  refine kr_if_eq (tgt := 13) hX dJ0_coder_7d493_3 (by decide) (fun c_3 => absurd c_3 (by decide)) (fun c_3 => ?_)
  refine kr_aload_n (i := 0) hX dJ0_coder_7d493_6 rfl rfl ?_
  refine kr_scod hX dJ0_coder_7d493_7 hi ?_
  refine kr_goto (tgt := 14) hX dJ0_coder_7d493_10 (by decide) ?_
  exact kr_nret hX hr (by decide) dJ0_coder_7d493_14 ⟨rfl, rfl, rfl⟩
set_option maxHeartbeats 4000000 in
set_option maxRecDepth 100000 in
theorem sj_lat {G : kt_G} {σ : kt_Y} {μ : kt_M} {i : Nat} (hi : i < 9) : kt_F G yJ0_isLatin1_aae02 cJ0_isLatin1_aae02 1 (some .boolean) 0 [.ref (kt_aK G i)] σ μ (fun r μ2 => r = some (.int 1) ∧ μ2 = μ) := by
  refine kt_F.of (by decide) (Nat.le_of_ble_eq_true rfl) (fun X hX hr => ?_)
  refine kr_scom hX dJ0_isLatin1_aae02_0 ?_
  refine kr_if_eq (tgt := 17) hX dJ0_isLatin1_aae02_3 (by decide) (fun c_3 => absurd c_3 (by decide)) (fun c_3 => ?_)
  refine kr_aload_n (i := 0) hX dJ0_isLatin1_aae02_6 rfl rfl ?_
  refine kr_scod hX dJ0_isLatin1_aae02_7 hi ?_
  refine kr_if_ne (tgt := 17) hX dJ0_isLatin1_aae02_10 (by decide) (fun c_10 => absurd rfl c_10) (fun c_10 => ?_)
  refine kr_iconst (v := 1) hX dJ0_isLatin1_aae02_13 (by decide) ?_
  refine kr_goto (tgt := 18) hX dJ0_isLatin1_aae02_14 (by decide) ?_
  exact kr_nret hX hr (by decide) dJ0_isLatin1_aae02_18 ⟨rfl, rfl, rfl⟩
set_option maxHeartbeats 4000000 in
set_option maxRecDepth 100000 in
theorem sj_length {G : kt_G} {σ : kt_Y} {μ : kt_M} {i : Nat} (hi : i < 9) : kt_F G yJ0_length_8abf5 cJ0_length_8abf5 1 (some .int) 1 [.ref (kt_aK G i)] σ μ (fun r μ2 => r = some (.int (nI (kt_ln i))) ∧ μ2 = μ) := by
  have hlen : kt_ln i < 10 := by
    match i, hi with
    | 0, _ => decide
    | 1, _ => decide
    | 2, _ => decide
    | 3, _ => decide
    | 4, _ => decide
    | 5, _ => decide
    | 6, _ => decide
    | 7, _ => decide
    | 8, _ => decide
  refine kt_F.of (by decide) (Nat.le_of_ble_eq_true rfl) (fun X hX hr => ?_)
  refine kr_aload_n (i := 0) hX dJ0_length_8abf5_0 rfl rfl ?_
  refine kr_sval hX dJ0_length_8abf5_1 hi ?_
  refine kr_slen hX dJ0_length_8abf5_4 hi ?_
  refine kr_aload_n (i := 0) hX dJ0_length_8abf5_5 rfl rfl ?_
  refine kr_dVS [] hX km_J0_335 dJ0_length_8abf5_6 (sj_coder hi) rfl rfl rfl (by decide) (Nat.le_of_ble_eq_true rfl) (Nat.le_refl _) (Nat.le_refl _) hi ?_
  refine kr_ishr hX dJ0_length_8abf5_9 ?_
  refine kr_rw (y := nI (kt_ln i)) (sc_shr0 (by omega)) ?_
  exact kr_iret hX hr dJ0_length_8abf5_10 ⟨rfl, rfl, rfl⟩
set_option maxHeartbeats 4000000 in
set_option maxRecDepth 100000 in
theorem sj_prea {G : kt_G} {σ : kt_Y} {μ : kt_M} {x n : Int32} (h1 : ¬ x < 0) (h2 : x < n) : kt_F G yJ3_checkIndex_8e157 cJ3_checkIndex_8e157 3 (some .int) 0 [.int x, .int n, .null] σ μ (fun r μ2 => r = some (.int x) ∧ μ2 = μ) := by
  refine kt_F.of (by decide) (Nat.le_of_ble_eq_true rfl) (fun X hX hr => ?_)
  refine kr_iload_n (i := 0) hX dJ3_checkIndex_8e157_0 rfl rfl ?_
  refine kr_if_lt (tgt := 9) hX dJ3_checkIndex_8e157_1 (by decide) (fun c_1 => absurd c_1 h1) (fun c_1 => ?_)
  refine kr_iload_n (i := 0) hX dJ3_checkIndex_8e157_4 rfl rfl ?_
  refine kr_iload_n (i := 1) hX dJ3_checkIndex_8e157_5 rfl rfl ?_
  refine kr_icmp_lt (tgt := 16) hX dJ3_checkIndex_8e157_6 (by decide) (fun c_6 => ?_) (fun c_6 => absurd h2 c_6)
  refine kr_iload_n (i := 0) hX dJ3_checkIndex_8e157_16 rfl rfl ?_
  exact kr_iret hX hr dJ3_checkIndex_8e157_17 ⟨rfl, rfl, rfl⟩
set_option maxHeartbeats 4000000 in
set_option maxRecDepth 100000 in
theorem sj_preb {G : kt_G} {σ : kt_Y} {μ : kt_M} {t : Nat} {x n : Int32} (h1 : ¬ x < 0) (h2 : x < n) : kt_F G yJ3_checkIndex_8e157 cJ3_checkIndex_8e157 3 (some .int) 0 [.int x, .int n, .ref t] σ μ (fun r μ2 => r = some (.int x) ∧ μ2 = μ) := by
  refine kt_F.of (by decide) (Nat.le_of_ble_eq_true rfl) (fun X hX hr => ?_)
  refine kr_iload_n (i := 0) hX dJ3_checkIndex_8e157_0 rfl rfl ?_
  refine kr_if_lt (tgt := 9) hX dJ3_checkIndex_8e157_1 (by decide) (fun c_1 => absurd c_1 h1) (fun c_1 => ?_)
  refine kr_iload_n (i := 0) hX dJ3_checkIndex_8e157_4 rfl rfl ?_
  refine kr_iload_n (i := 1) hX dJ3_checkIndex_8e157_5 rfl rfl ?_
  refine kr_icmp_lt (tgt := 16) hX dJ3_checkIndex_8e157_6 (by decide) (fun c_6 => ?_) (fun c_6 => absurd h2 c_6)
  refine kr_iload_n (i := 0) hX dJ3_checkIndex_8e157_16 rfl rfl ?_
  exact kr_iret hX hr dJ3_checkIndex_8e157_17 ⟨rfl, rfl, rfl⟩
set_option maxHeartbeats 4000000 in
set_option maxRecDepth 100000 in
theorem sj_chk {G : kt_G} {σ : kt_Y} {μ : kt_M} {x n : Int32} (h1 : ¬ x < 0) (h2 : x < n) : kt_F G yJ0_checkIndex_df160 cJ0_checkIndex_df160 2 none 1 [.int x, .int n] σ μ (fun r μ2 => r = none ∧ μ2 = μ) := by
  refine kt_F.of (by decide) (Nat.le_of_ble_eq_true rfl) (fun X hX hr => ?_)
  refine kr_iload_n (i := 0) hX dJ0_checkIndex_df160_0 rfl rfl ?_
  refine kr_iload_n (i := 1) hX dJ0_checkIndex_df160_1 rfl rfl ?_
  refine kr_sfmt hX dJ0_checkIndex_df160_2 ?_ (fun t => ?_)
  · skip
    refine kr_dS [_, _, _] hX km_J0_1059 dJ0_checkIndex_df160_5 (sj_prea h1 h2) rfl rfl (by decide) (Nat.le_of_ble_eq_true rfl) (Nat.le_refl _) (Nat.le_refl _) ?_
    refine kr_pop hX dJ0_checkIndex_df160_8 rfl ?_
    exact kr_vret hX hr dJ0_checkIndex_df160_9 ⟨rfl, rfl, rfl⟩
  · skip
    refine kr_dS [_, _, _] hX km_J0_1059 dJ0_checkIndex_df160_5 (sj_preb h1 h2) rfl rfl (by decide) (Nat.le_of_ble_eq_true rfl) (Nat.le_refl _) (Nat.le_refl _) ?_
    refine kr_pop hX dJ0_checkIndex_df160_8 rfl ?_
    exact kr_vret hX hr dJ0_checkIndex_df160_9 ⟨rfl, rfl, rfl⟩
def kt_chok (i j : Nat) : Bool := decide (((kt_ch i j &&& 255).toUInt32 % 65536).toInt32 = kt_ch i j) && decide (narrow .char (.int (kt_ch i j)) = .int (kt_ch i j))
theorem kt_chok_all : ∀ i, i < 9 → ∀ j, j < kt_ln i → kt_chok i j = true := by decide +kernel
theorem kt_ln_lt : ∀ i, i < 9 → kt_ln i < 10 := by decide
set_option maxHeartbeats 4000000 in
set_option maxRecDepth 100000 in
theorem sj_ch1 {G : kt_G} {σ : kt_Y} {μ : kt_M} {i j : Nat} (hi : i < 9) (hj : j < kt_ln i) : kt_F G yJ1_charAt_3b067 cJ1_charAt_3b067 2 (some .char) 2 [.ref (kt_aV G i), .int (nI j)] σ μ (fun r μ2 => r = some (.int (kt_ch i j)) ∧ μ2 = μ) := by
  have hlen := kt_ln_lt i hi
  have hok := kt_chok_all i hi j hj
  unfold kt_chok at hok
  rw [Bool.and_eq_true, decide_eq_true_eq, decide_eq_true_eq] at hok
  refine kt_F.of (by decide) (Nat.le_of_ble_eq_true rfl) (fun X hX hr => ?_)
  refine kr_iload_n (i := 1) hX dJ1_charAt_3b067_0 rfl rfl ?_
  refine kr_aload_n (i := 0) hX dJ1_charAt_3b067_1 rfl rfl ?_
  refine kr_slen hX dJ1_charAt_3b067_2 hi ?_
  refine kr_dS [_, _] hX km_J1_9 dJ1_charAt_3b067_3 (sj_chk (nI_pos (by omega)) (nI_lt hj (by omega))) rfl rfl (by decide) (Nat.le_of_ble_eq_true rfl) (Nat.le_refl _) (Nat.le_refl _) ?_
  refine kr_aload_n (i := 0) hX dJ1_charAt_3b067_6 rfl rfl ?_
  refine kr_iload_n (i := 1) hX dJ1_charAt_3b067_7 rfl rfl ?_
  refine kr_sbyt hX dJ1_charAt_3b067_8 hi (by omega) ?_
  refine kr_sipush (v := 255) hX dJ1_charAt_3b067_9 (by decide) ?_
  refine kr_iand hX dJ1_charAt_3b067_12 ?_
  refine kr_i2c hX dJ1_charAt_3b067_13 hok.1 ?_
  exact kr_nret hX hr hok.2 dJ1_charAt_3b067_14 ⟨rfl, rfl, rfl⟩
set_option maxHeartbeats 4000000 in
set_option maxRecDepth 100000 in
theorem sj_charAt {G : kt_G} {σ : kt_Y} {μ : kt_M} {i j : Nat} (hi : i < 9) (hj : j < kt_ln i) : kt_F G yJ0_charAt_5068e cJ0_charAt_5068e 2 (some .char) 3 [.ref (kt_aK G i), .int (nI j)] σ μ (fun r μ2 => r = some (.int (kt_ch i j)) ∧ μ2 = μ) := by
  have hok := kt_chok_all i hi j hj
  unfold kt_chok at hok
  rw [Bool.and_eq_true, decide_eq_true_eq, decide_eq_true_eq] at hok
  refine kt_F.of (by decide) (Nat.le_of_ble_eq_true rfl) (fun X hX hr => ?_)
  refine kr_aload_n (i := 0) hX dJ0_charAt_5068e_0 rfl rfl ?_
  refine kr_dVS [] hX km_J0_492 dJ0_charAt_5068e_1 (sj_lat hi) rfl rfl rfl (by decide) (Nat.le_of_ble_eq_true rfl) (Nat.le_refl _) (Nat.le_refl _) hi ?_
  refine kr_if_eq (tgt := 16) hX dJ0_charAt_5068e_4 (by decide) (fun c_4 => absurd c_4 (by decide)) (fun c_4 => ?_)
  refine kr_aload_n (i := 0) hX dJ0_charAt_5068e_7 rfl rfl ?_
  refine kr_sval hX dJ0_charAt_5068e_8 hi ?_
  refine kr_iload_n (i := 1) hX dJ0_charAt_5068e_11 rfl rfl ?_
  refine kr_dS [_, _] hX km_J0_495 dJ0_charAt_5068e_12 (sj_ch1 hi hj) rfl rfl (by decide) (Nat.le_of_ble_eq_true rfl) (Nat.le_refl _) (Nat.le_refl _) ?_
  exact kr_nret hX hr hok.2 dJ0_charAt_5068e_15 ⟨rfl, rfl, rfl⟩

/-! making; contracts that keep the cells' kinds and references -/
section KN
variable {G : kt_G} {X : kt_X} {own : String} {cc : ByteArray} {nL d mc ms pc cs ss : Nat} {lv : List (Nat × Value)} {st : List Value} {σ : kt_Y} {μ : kt_M} {Z : State → Prop} {Q : Option Value → kt_Y → kt_M → Prop}
theorem kt_nw_k (kd : Nat × Nat) : kt_k (kt_nw σ kd) (kt_t σ) = some kd := va_up_eq' (f := kt_k σ)
theorem kt_nw_r (kd : Nat × Nat) : kt_r (kt_nw σ kd) (kt_t σ) = fun _ => none := va_up_eq' (f := kt_r σ)
theorem kt_z_i : kt_i (kt_z μ (kt_t σ)) (kt_t σ) = fun _ => 0 := va_up_eq' (f := kt_i μ)
theorem kt_z_l : kt_l (kt_z μ (kt_t σ)) (kt_t σ) = fun _ => 0 := va_up_eq' (f := kt_l μ)
theorem kt_H.new {H H1 : Heap} (h : kt_H G σ μ H) (kd : Nat × Nat) (z : H1.size = H.size + 1) (o1 : ∀ q : Nat, q < H.size → H1[q]? = H[q]?) (ha : va_at (kt_kn G) vwCl (kt_t σ, kt_cell (kt_aC G) (kt_nw σ kd) (kt_z μ (kt_t σ)) (kt_t σ)) H1) : kt_H G (kt_nw σ kd) (kt_z μ (kt_t σ)) H1 := by
  have hk : ∀ x, x ≠ kt_t σ → kt_k (kt_nw σ kd) x = kt_k σ x := fun x hx => va_up_ne' hx
  have ht : kt_t (kt_nw σ kd) = kt_t σ + 1 := rfl
  refine ⟨by rw [z, h.1, ht], by rw [ht]; exact Nat.le_succ_of_le h.2.1, fun x hx => ?_, fun x hx => ?_⟩
  · by_cases e : x = kt_t σ
    · rw [e, ht]; exact ⟨h.2.1, Nat.lt_succ_self _⟩
    · rw [hk x e] at hx
      have := h.2.2.1 x hx
      exact ⟨this.1, by rw [ht]; omega⟩
  · by_cases e : x = kt_t σ
    · rw [e]; exact ha
    · rw [kt_cell_ext (σ := σ) (μ := μ) (σ' := kt_nw σ kd) (μ' := kt_z μ (kt_t σ)) (hk x e) (va_up_ne' (f := kt_r σ) e) (va_up_ne' (f := kt_i μ) e) (va_up_ne' (f := kt_l μ) e)]
      rw [hk x e] at hx
      exact (h.2.2.2 x hx).kept (o1 x (by rw [h.1]; exact (h.2.2.1 x hx).2))
theorem kt_S.put {H0 H H1 : Heap} {locs : List Loc} (hS : va_S (kt_A G) H0 H locs) (z : H1.size = H.size + 1) (o1 : ∀ q : Nat, q < H.size → H1[q]? = H[q]?) : va_S (kt_A G) H0 H1 locs := ⟨Nat.le_trans hS.1 (by omega), fun x h1 h2 => (o1 x (Nat.lt_of_lt_of_le h1 hS.1)).trans (hS.2.1 x h1 h2), hS.2.2⟩
def kt_df (c : Nat) : Prop := ∀ j, j < kt_n c → defaultValue (kt_ty c j) = bif kt_ir (kt_ty c j) then .null else .int 0
theorem kr_new (hX : kt_ok G X own cc nL d mc ms) {idx c0 : Nat} {C : String} {T : u_T} (hcl : Cond.classLink own idx C ∈ kt_T) (hinst : Cond.instantiable C (kt_n c0) ∈ kt_T) (hini : Cond.initialized C ∈ kt_T) (hC : kt_CL c0 C T) (hdf : kt_df c0) (hdg : decode cc pc = .ok (.new idx, 3)) (hc1 : cs + 1 ≤ mc) (hc2 : ss + kt_n c0 ≤ ms)
    (kk : kt_W G X nL (pc + 3) lv (.ref (kt_t σ) :: st) (kt_nw σ (0, c0)) (kt_z μ (kt_t σ)) (cs + 1) (ss + kt_n c0) Z) : kt_W G X nL pc lv st σ μ cs ss Z := by
  obtain ⟨p, l, e, R, s, m, args, below, meth, c⟩ := X
  obtain ⟨hx, hb, hml, hown, hts, hK, h0, hlk, hla, hrm, hmc, hms⟩ := hX
  intro H locs ls hH hS hl
  obtain ⟨hc, hin, hty, hnm⟩ := hC
  have hKn := hK.1.1 c0 _ hc
  refine W.newcK hx hb hown (hts _ hcl) (hts _ hinst) (hts _ hini) rfl hdg (Nat.le_trans hc1 hmc) (Nat.le_trans hc2 hms) hKn.2.1 hH.1 fun H1 kC hkC e1 z1 o1 => ?_
  have z1 : H1.size = H.size + 1 := by rw [z1, hH.1]
  have o1 : ∀ q : Nat, q < H.size → H1[q]? = H[q]? := fun q hq => o1 q (by rw [← hH.1]; exact hq)
  refine kk H1 locs ls (hH.new (0, c0) z1 o1 ?_) (kt_S.put hS z1 o1) hl
  rw [kt_cell_o (kt_nw_k (0, c0))]
  refine ⟨_, hc, (u_born (kt_ty c0) hts hin hKn hkC e1 hty).to (fun j hj => ?_)⟩
  rw [kt_fs_V hj, hdf j hj]
  unfold kt_fv
  rw [kt_nw_r, kt_z_i]; rfl
theorem kt_aC_eq {s : State} (hK : kt_K G s) {t : Nat} {ty : FieldType} (h : (kt_tys (kt_aC G))[t]? = some (kt_aC G t, ty)) (hp : ∀ C, ty ≠ .object C) {cA : ClassId} (hf : s.vm.findClass ("[" ++ ty.toString) = some cA) : cA = kt_aC G t := by
  have h1 := (hK.1.2 t _ h).2
  have h2 : s.vm.findClass ("[" ++ ty.toString) = some (kt_aC G t) := by
    cases ty with
    | object C => exact absurd rfl (hp C)
    | _ => exact h1
  exact Option.some.inj (hf.symm.trans h2)
theorem kr_newI (hX : kt_ok G X own cc nL d mc ms) {n : Int32} (N : Nat) (hw : Cond.arrayClass .int ∈ kt_T) (hdg : decode cc pc = .ok (.newarray .int, 2)) (hn : ¬ n < 0) (hN : n.toNatClampNeg = N) (hby : N ≤ 100000) (hc1 : cs + 1 ≤ mc) (hc2 : ss + N ≤ ms)
    (kk : kt_W G X nL (pc + 2) lv (.ref (kt_t σ) :: st) (kt_nw σ (1, N)) (kt_z μ (kt_t σ)) (cs + 1) (ss + N) Z) : kt_W G X nL pc lv (.int n :: st) σ μ cs ss Z := by
  obtain ⟨p, l, e, R, s, m, args, below, meth, c⟩ := X
  obtain ⟨hx, hb, hml, hown, hts, hK, h0, hlk, hla, hrm, hmc, hms⟩ := hX
  intro H locs ls hH hS hl
  refine va_newaK (atype := .int) hx hb (hts _ hw) rfl hdg rfl hn hN (by show N * 4 ≤ _; omega) (Nat.le_trans hc1 hmc) (Nat.le_trans hc2 hms) hH.1 fun H1 cA e1 z1 o1 hAr hNm => ?_
  have z1 : H1.size = H.size + 1 := by rw [z1, hH.1]
  have o1 : ∀ q : Nat, q < H.size → H1[q]? = H[q]? := fun q hq => o1 q (by rw [← hH.1]; exact hq)
  have hcA := kt_aC_eq hK (t := 1) rfl (fun C h => by cases h) hNm
  refine kk H1 locs ls (hH.new (1, N) z1 o1 ?_) (kt_S.put hS z1 o1) hl
  rw [kt_cell_i (kt_nw_k (1, N)), kt_z_i, ← hcA]
  exact e1
theorem kr_newJ (hX : kt_ok G X own cc nL d mc ms) {n : Int32} (N : Nat) (hw : Cond.arrayClass .long ∈ kt_T) (hdg : decode cc pc = .ok (.newarray .long, 2)) (hn : ¬ n < 0) (hN : n.toNatClampNeg = N) (hby : N ≤ 100000) (hc1 : cs + 1 ≤ mc) (hc2 : ss + N ≤ ms)
    (kk : kt_W G X nL (pc + 2) lv (.ref (kt_t σ) :: st) (kt_nw σ (2, N)) (kt_z μ (kt_t σ)) (cs + 1) (ss + N) Z) : kt_W G X nL pc lv (.int n :: st) σ μ cs ss Z := by
  obtain ⟨p, l, e, R, s, m, args, below, meth, c⟩ := X
  obtain ⟨hx, hb, hml, hown, hts, hK, h0, hlk, hla, hrm, hmc, hms⟩ := hX
  intro H locs ls hH hS hl
  refine va_newaK (atype := .long) hx hb (hts _ hw) rfl hdg rfl hn hN (by show N * 8 ≤ _; omega) (Nat.le_trans hc1 hmc) (Nat.le_trans hc2 hms) hH.1 fun H1 cA e1 z1 o1 hAr hNm => ?_
  have z1 : H1.size = H.size + 1 := by rw [z1, hH.1]
  have o1 : ∀ q : Nat, q < H.size → H1[q]? = H[q]? := fun q hq => o1 q (by rw [← hH.1]; exact hq)
  have hcA := kt_aC_eq hK (t := 2) rfl (fun C h => by cases h) hNm
  refine kk H1 locs ls (hH.new (2, N) z1 o1 ?_) (kt_S.put hS z1 o1) hl
  rw [kt_cell_l (kt_nw_k (2, N)), kt_z_l, ← hcA]
  exact e1
theorem kr_newZ (hX : kt_ok G X own cc nL d mc ms) {n : Int32} (N : Nat) (hw : Cond.arrayClass .boolean ∈ kt_T) (hdg : decode cc pc = .ok (.newarray .boolean, 2)) (hn : ¬ n < 0) (hN : n.toNatClampNeg = N) (hby : N ≤ 100000) (hc1 : cs + 1 ≤ mc) (hc2 : ss + N ≤ ms)
    (kk : kt_W G X nL (pc + 2) lv (.ref (kt_t σ) :: st) (kt_nw σ (3, N)) (kt_z μ (kt_t σ)) (cs + 1) (ss + N) Z) : kt_W G X nL pc lv (.int n :: st) σ μ cs ss Z := by
  obtain ⟨p, l, e, R, s, m, args, below, meth, c⟩ := X
  obtain ⟨hx, hb, hml, hown, hts, hK, h0, hlk, hla, hrm, hmc, hms⟩ := hX
  intro H locs ls hH hS hl
  refine va_newaK (atype := .boolean) hx hb (hts _ hw) rfl hdg rfl hn hN (by show N * 1 ≤ _; omega) (Nat.le_trans hc1 hmc) (Nat.le_trans hc2 hms) hH.1 fun H1 cA e1 z1 o1 hAr hNm => ?_
  have z1 : H1.size = H.size + 1 := by rw [z1, hH.1]
  have o1 : ∀ q : Nat, q < H.size → H1[q]? = H[q]? := fun q hq => o1 q (by rw [← hH.1]; exact hq)
  have hcA := kt_aC_eq hK (t := 3) rfl (fun C h => by cases h) hNm
  refine kk H1 locs ls (hH.new (3, N) z1 o1 ?_) (kt_S.put hS z1 o1) hl
  rw [kt_cell_z (kt_nw_k (3, N)), kt_z_i, ← hcA]
  exact e1
theorem kr_newQ (hX : kt_ok G X own cc nL d mc ms) {n : Int32} {idx t : Nat} (ht : t < 4) (N : Nat) (hcl : Cond.classLink own idx (kt_oc t) ∈ kt_T) (hao : kt_oc t ∈ kt_ao) (hdg : decode cc pc = .ok (.anewarray idx, 3)) (hn : ¬ n < 0) (hN : n.toNatClampNeg = N) (hby : N ≤ 100000) (hc1 : cs + 1 ≤ mc) (hc2 : ss + N ≤ ms)
    (kk : kt_W G X nL (pc + 3) lv (.ref (kt_t σ) :: st) (kt_nw σ (t + 4, N)) (kt_z μ (kt_t σ)) (cs + 1) (ss + N) Z) : kt_W G X nL pc lv (.int n :: st) σ μ cs ss Z := by
  obtain ⟨p, l, e, R, s, m, args, below, meth, c⟩ := X
  obtain ⟨hx, hb, hml, hown, hts, hK, h0, hlk, hla, hrm, hmc, hms⟩ := hX
  intro H locs ls hH hS hl
  subst hN
  refine W.anew hx hb hown (hts _ hcl) (va_AO.use (hK.2.2.1 _ hao)) rfl hdg rfl hn (by omega) (Nat.le_trans hc1 hmc) (Nat.le_trans hc2 hms) fun cA kA comp f1 f2 f3 f4 => ?_
  generalize hH1 : H.push ({ cls := cA, slots := Array.replicate n.toNatClampNeg .null, vm := .none } : Cell) = H1
  have z1 : H1.size = H.size + 1 := by rw [← hH1, Array.size_push]
  have e1 : H1[H.size]? = some (arrV cA n.toNatClampNeg (fun _ => .null)) := by rw [← hH1, Array.getElem?_push_size, ← arrV_new]
  have o1 : ∀ q : Nat, q < H.size → H1[q]? = H[q]? := fun q hq => by rw [← hH1, Array.getElem?_push, if_neg (Nat.ne_of_lt hq)]
  have hcA : cA = kt_aC G (t + 4) := by
    obtain ⟨kA', comp', k1, k2, k3, k4⟩ := (hK.1.2 (t + 4) _ (kt_tys_q _ ht)).2
    exact Option.some.inj (f1.symm.trans k4)
  rw [hH.1] at e1
  have kk := kk H1 locs ls (hH.new (t + 4, n.toNatClampNeg) z1 o1 (by
    rw [kt_cell_q (kt_nw_k (t + 4, n.toNatClampNeg)), kt_nw_r, ← hcA]
    exact e1)) (kt_S.put hS z1 o1) hl
  rw [← hH.1] at kk
  exact kk
/-- contracts that make nothing: kinds and references stay -/
def kt_q (σ : kt_Y) (Q : Option Value → kt_M → Prop) : Option Value → kt_Y → kt_M → Prop := fun r σ' μ' => σ' = σ ∧ Q r μ'
def kt_F (G : kt_G) (y : MethodName) (cc : ByteArray) (nL : Nat) (ret : Option FieldType) (d : Nat) (av : List Value) (σ : kt_Y) (μ : kt_M) (Q : Option Value → kt_M → Prop) : Prop := kt_S G y cc nL ret d 0 0 av σ μ (kt_q σ Q)
theorem kt_F.of {y : MethodName} {ret : Option FieldType} {av : List Value} {Q : Option Value → kt_M → Prop} (hy : plainName y.cls = true) (hlen : (lg_sl av).length ≤ nL)
    (body : ∀ X : kt_X, kt_ok G X y.cls cc nL d 0 0 → kt_rt X = ret → kt_W G X nL 0 (lv_args 0 av) [] σ μ 0 0 (kt_Z G X (kt_q σ Q) 0 0)) : kt_F G y cc nL ret d av σ μ Q := kt_S.of hy hlen (fun X h1 h2 _ => body X h1 h2)
theorem kt_F.mono {y : MethodName} {ret : Option FieldType} {av : List Value} {Q Q2 : Option Value → kt_M → Prop} (h : kt_F G y cc nL ret d av σ μ Q) (hq : ∀ r μ', Q r μ' → Q2 r μ') : kt_F G y cc nL ret d av σ μ Q2 := kt_S.mono h (fun r σ' μ' h => ⟨h.1, hq r μ' h.2⟩)
variable {idx nL' n d' : Nat} {y : MethodName} {cc' : ByteArray} {ret' : Option FieldType} {Q' : Option Value → kt_M → Prop}
theorem kr_cV (As : List Value) {b c1 : Nat} {st0 : List Value} (hX : kt_ok G X own cc nL d mc ms) (hL : kt_LV own idx y cc' nL' ret' n) (hdg : decode cc pc = .ok (.invokevirtual idx, 3)) (hS' : kt_F G y cc' nL' ret' d' (.ref b :: As) σ μ Q') (hst : st0 = As.reverse ++ .ref b :: st) (hn : As.length = n) (hc : ∃ (T : u_T) (N : Nat), vwCl[c1]? = some (y.cls, T, N)) (hd : d' + 1 ≤ d) (hcat : (st.map fun v => v.category).sum ≤ 8) (hcs : cs ≤ mc) (hss : ss ≤ ms) (hk : kt_k σ b = some (0, c1))
    (kk : ∀ (r : Option Value) (μ' : kt_M), Q' r μ' → kt_W G X nL (pc + 3) lv (r.toList ++ st) σ μ' cs ss Z) : kt_W G X nL pc lv st0 σ μ cs ss Z :=
  kr_callV As hX hL hdg hS' hst hn hk hc hd hcat hcs hss (fun r σ' μ' h => by cases h.1; exact kk r μ' h.2)
theorem kr_cS (As : List Value) {st0 : List Value} (hX : kt_ok G X own cc nL d mc ms) (hL : kt_LS own idx y cc' nL' ret' n) (hdg : decode cc pc = .ok (.invokestatic idx, 3)) (hS' : kt_F G y cc' nL' ret' d' As σ μ Q') (hst : st0 = As.reverse ++ st) (hn : As.length = n) (hd : d' + 1 ≤ d) (hcat : (st.map fun v => v.category).sum ≤ 8) (hcs : cs ≤ mc) (hss : ss ≤ ms)
    (kk : ∀ (r : Option Value) (μ' : kt_M), Q' r μ' → kt_W G X nL (pc + 3) lv (r.toList ++ st) σ μ' cs ss Z) : kt_W G X nL pc lv st0 σ μ cs ss Z :=
  kr_callS As hX hL hdg hS' hst hn hd hcat hcs hss (fun r σ' μ' h => by cases h.1; exact kk r μ' h.2)
theorem kr_cSN (As : List Value) {st0 : List Value} (hX : kt_ok G X own cc nL d mc ms) (hL : kt_LSN own idx y cc' nL' ret' n) (hdg : decode cc pc = .ok (.invokestatic idx, 3)) (hS' : kt_F G y cc' nL' ret' d' As σ μ Q') (hst : st0 = As.reverse ++ st) (hn : As.length = n) (hd : d' + 1 ≤ d) (hcat : (st.map fun v => v.category).sum ≤ 8) (hcs : cs ≤ mc) (hss : ss ≤ ms)
    (kk : ∀ (r : Option Value) (μ' : kt_M), Q' r μ' → kt_W G X nL (pc + 3) lv (r.toList ++ st) σ μ' cs ss Z) : kt_W G X nL pc lv st0 σ μ cs ss Z :=
  kr_callSN As hX hL hdg hS' hst hn hd hcat hcs hss (fun r σ' μ' h => by cases h.1; exact kk r μ' h.2)
end KN
theorem kd_0 : kt_df 0 := by unfold kt_df; decide +kernel
theorem kd_1 : kt_df 1 := by unfold kt_df; decide +kernel
theorem kd_2 : kt_df 2 := by unfold kt_df; decide +kernel
theorem kd_3 : kt_df 3 := by unfold kt_df; decide +kernel
theorem kd_4 : kt_df 4 := by unfold kt_df; decide +kernel
theorem kd_5 : kt_df 5 := by unfold kt_df; decide +kernel
theorem kd_6 : kt_df 6 := by unfold kt_df; decide +kernel
theorem kd_7 : kt_df 7 := by unfold kt_df; decide +kernel
theorem kd_8 : kt_df 8 := by unfold kt_df; decide +kernel
theorem kd_9 : kt_df 9 := by unfold kt_df; decide +kernel
theorem kd_10 : kt_df 10 := by unfold kt_df; decide +kernel

/-! contracts, calls, returns -/
section KS
variable {G : kt_G} {X : kt_X} {own : String} {cc : ByteArray} {nL d mc ms pc cs ss : Nat} {lv : List (Nat × Value)} {st : List Value} {σ : kt_Y} {μ : kt_M} {Z : State → Prop} {Q : Option Value → kt_Y → kt_M → Prop}
def kt_Q (G : kt_G) (Q : Option Value → kt_Y → kt_M → Prop) : Array Value → State → Outcome → State → Prop := fun _ st o t => (∃ (r : Option Value) (σ' : kt_Y) (μ' : kt_M), o = .returned r ∧ Q r σ' μ' ∧ kt_H G σ' μ' t.heap) ∧ va_F (kt_A G) st t
def kt_HS (G : kt_G) (σ : kt_Y) (μ : kt_M) (U : State) : Prop := kt_H G σ μ U.heap ∧ kt_K G U
def kt_S (G : kt_G) (y : MethodName) (cc : ByteArray) (nL : Nat) (ret : Option FieldType) (d mc ms : Nat) (av : List Value) (σ : kt_Y) (μ : kt_M) (Q : Option Value → kt_Y → kt_M → Prop) : Prop :=
  Met (kt_la G) y (Cond.code y cc nL ret :: kt_T) ({ frames := d, cells := mc, slots := ms, locals := 40 * d }) (va_Pc av (kt_HS G σ μ)) (kt_Q G Q) mc ms (kt_A G)
def kt_Z (G : kt_G) (X : kt_X) (Q : Option Value → kt_Y → kt_M → Prop) (mc ms : Nat) : State → Prop := match X with
  | (_, _, _, _, s, _, args, below, _, _) => MQ below (kt_Q G Q) args s mc ms (kt_A G)
def kt_rt (X : kt_X) : Option FieldType := match X with | (_, _, _, _, _, _, _, _, meth, _) => meth.sig.returnType
theorem kt_good : ∀ w ∈ kt_T, (w.onTables && w.keeps) = true ∨ ∃ ty, w = .arrayClass ty := fun w h => good_of_word (List.mem_filter.mp h).2
theorem kt_goodIn {w : Cond} (h : w ∈ kt_T) : GoodIn kt_T (w :: kt_T) := fun v hv => by
  rcases List.mem_cons.mp hv with e | e
  · rw [e]; exact ⟨h, kt_good w h⟩
  · exact ⟨e, kt_good v e⟩
theorem kt_S.mono {y : MethodName} {ret : Option FieldType} {av : List Value} {Q2 : Option Value → kt_Y → kt_M → Prop} (h : kt_S G y cc nL ret d mc ms av σ μ Q) (hq : ∀ r σ' μ', Q r σ' μ' → Q2 r σ' μ') : kt_S G y cc nL ret d mc ms av σ μ Q2 := by
  intro p e ha hc hk s m args below hf hs hP hK
  obtain ⟨k, o, h1, h2, h3, ⟨⟨⟨r, σ', μ', e1, e2, e3⟩, hF⟩, h5⟩⟩ := h p e ha hc hk s m args below hf hs hP hK
  exact ⟨k, o, h1, h2, h3, ⟨⟨⟨r, σ', μ', e1, hq r σ' μ' e2, e3⟩, hF⟩, h5⟩⟩
theorem kt_K.call {s U : State} {H : Heap} {locs : List Loc} (hK : kt_K G s) (hS : va_S (kt_A G) s.heap H locs) (hU : U.heap = H) (hW : s.WarmedH U.vm) : kt_K G U := by
  obtain ⟨h1, h2, h3, h4, h5, h6, h7⟩ := hK
  refine ⟨va_K.moved hW.alike h1, fun w hw => ?_, fun C hC => va_AO.moved hW.alike (h3 C hC), ?_, fun i hi => vk_R.warm hW (h5 i hi), ?_, ?_⟩
  · have h := h2 w hw
    simp only [kt_ns, List.mem_cons, List.not_mem_nil, or_false] at hw
    rcases hw with e | e | e | e | e | e | e | e | e | e <;> (rw [e] at h ⊢; exact va_Nw.warmM hW h)
  · rw [hU]
    exact vk_S.kept (vk_S.moved hW.alike h4) (fun a ha hn => hS.2.1 a ha hn)
  · rw [hU]
    exact va_Z.kept (va_Z.moved hW.alike h6) (fun a ha hn => hS.2.1 a ha hn)
  · rw [hU]
    exact va_Zq.kept (va_Zq.moved hW.alike h7) (fun a ha hn => hS.2.1 a ha hn)
theorem kt_K.same {s U : State} (hK : kt_K G s) (hv : U.vm = s.vm) (hh : U.heap = s.heap) : kt_K G U := by
  obtain ⟨h1, h2, h3, h4, h5, h6, h7⟩ := hK
  have ha : s.vm.Alike U.vm := by rw [hv]; exact Vm.Alike.refl s.vm
  refine ⟨va_K.moved ha h1, fun w hw => ?_, fun C hC => va_AO.moved ha (h3 C hC), ?_, fun i hi => vk_R.same hv (h5 i hi), ?_, ?_⟩
  · have h := h2 w hw
    simp only [kt_ns, List.mem_cons, List.not_mem_nil, or_false] at hw
    rcases hw with e | e | e | e | e | e | e | e | e | e <;> (rw [e] at h ⊢; exact va_Nw.same rfl hv.symm h)
  · rw [hh]
    exact vk_S.moved ha h4
  · rw [hh]
    exact va_Z.moved ha h6
  · rw [hh]
    exact va_Zq.moved ha h7
theorem kt_blind {av : List Value} : FrameBlind (va_Pc av (kt_HS G σ μ)) := by
  intro a U g mk h
  obtain ⟨h1, h2, h3⟩ := h
  exact ⟨h1, h2, h3.same rfl rfl⟩
/-- a method's contract out of its walk -/
theorem kt_S.of {y : MethodName} {ret : Option FieldType} {av : List Value} (hy : plainName y.cls = true) (hlen : (lg_sl av).length ≤ nL)
    (body : ∀ X : kt_X, kt_ok G X y.cls cc nL d mc ms → kt_rt X = ret → kt_mn X = y.name → kt_W G X nL 0 (lv_args 0 av) [] σ μ 0 0 (kt_Z G X Q mc ms)) : kt_S G y cc nL ret d mc ms av σ μ Q := by
  refine Met.ofW (cc := cc) (maxL := nL) (ret := ret) hy rfl ?_
  intro p e s m args below meth c s₁ B hml hv
  obtain ⟨rfl, hH, hK⟩ := hv
  have hts := atoms_spec (ws := Cond.code y cc nL ret :: kt_T) B.pre
  have hl := lv_entry av (n := nL) hlen
  rw [lg_entry_eq]
  exact body (p, kt_la G, e, _, s, m, _, below, meth, c) ⟨B.exec, B.bytes, hml, findClass_of_methodNamed B.named, fun w hw => hts w (List.mem_cons_of_mem _ hw), hK, Nat.le_trans hH.2.1 (Nat.le_of_eq hH.1.symm), B.notSynchronized, rfl, ⟨Nat.le_refl _, Nat.le_refl _⟩, Nat.le_refl _, Nat.le_refl _⟩ B.returns (name_of_methodNamed B.named B.method).1 s.heap [] _ hH va_S.rf hl
/-! returns -/
theorem kr_iret (hX : kt_ok G X own cc nL d mc ms) (hr : kt_rt X = some .int) {v : Int32} (hdg : decode cc pc = .ok (.ireturn, 1)) (hQ : Q (some (.int v)) σ μ) : kt_W G X nL pc lv [.int v] σ μ cs ss (kt_Z G X Q cs ss) := by
  obtain ⟨p, l, e, R, s, m, args, below, meth, c⟩ := X
  obtain ⟨hx, hb, hml, hown, hts, hK, h0, hlk, hla, hrm, hmc, hms⟩ := hX
  intro H locs ls hH hS hl
  exact W.iret hx hb hr (fun t ht hW => ⟨⟨_, σ, μ, rfl, hQ, by rw [ht]; exact hH⟩, hS.F ht⟩) hS.2.2 hdg hlk
theorem kr_zret (hX : kt_ok G X own cc nL d mc ms) (hr : kt_rt X = some .boolean) {v : Int32} (hv : v = 0 ∨ v = 1) (hdg : decode cc pc = .ok (.ireturn, 1)) (hQ : Q (some (.int v)) σ μ) : kt_W G X nL pc lv [.int v] σ μ cs ss (kt_Z G X Q cs ss) := by
  obtain ⟨p, l, e, R, s, m, args, below, meth, c⟩ := X
  obtain ⟨hx, hb, hml, hown, hts, hK, h0, hlk, hla, hrm, hmc, hms⟩ := hX
  intro H locs ls hH hS hl
  have hnar : narrow .boolean (.int v) = .int v := by rcases hv with h | h <;> subst h <;> decide
  exact W.zret hx hb hr hnar (fun t ht hW => ⟨⟨_, σ, μ, rfl, hQ, by rw [ht]; exact hH⟩, hS.F ht⟩) hS.2.2 hdg hlk
theorem kr_lret (hX : kt_ok G X own cc nL d mc ms) (hr : kt_rt X = some .long) {v : Int64} (hdg : decode cc pc = .ok (.lreturn, 1)) (hQ : Q (some (.long v)) σ μ) : kt_W G X nL pc lv [.long v] σ μ cs ss (kt_Z G X Q cs ss) := by
  obtain ⟨p, l, e, R, s, m, args, below, meth, c⟩ := X
  obtain ⟨hx, hb, hml, hown, hts, hK, h0, hlk, hla, hrm, hmc, hms⟩ := hX
  intro H locs ls hH hS hl
  exact W.lret hx hb hr (fun t ht hW => ⟨⟨_, σ, μ, rfl, hQ, by rw [ht]; exact hH⟩, hS.F ht⟩) hS.2.2 hdg hlk
theorem kr_aret (hX : kt_ok G X own cc nL d mc ms) {C : String} (hr : kt_rt X = some (.object C)) {a : Nat} (hdg : decode cc pc = .ok (.areturn, 1)) (hQ : Q (some (.ref a)) σ μ) : kt_W G X nL pc lv [.ref a] σ μ cs ss (kt_Z G X Q cs ss) := by
  obtain ⟨p, l, e, R, s, m, args, below, meth, c⟩ := X
  obtain ⟨hx, hb, hml, hown, hts, hK, h0, hlk, hla, hrm, hmc, hms⟩ := hX
  intro H locs ls hH hS hl
  exact W.aret hx hb hr (Or.inl ⟨_, rfl⟩) (Or.inr ⟨_, rfl⟩) (fun t ht hW => ⟨⟨_, σ, μ, rfl, hQ, by rw [ht]; exact hH⟩, hS.F ht⟩) hS.2.2 hdg hlk
theorem kr_vret (hX : kt_ok G X own cc nL d mc ms) (hr : kt_rt X = none) (hdg : decode cc pc = .ok (.return_, 1)) (hQ : Q none σ μ) : kt_W G X nL pc lv [] σ μ cs ss (kt_Z G X Q cs ss) := by
  obtain ⟨p, l, e, R, s, m, args, below, meth, c⟩ := X
  obtain ⟨hx, hb, hml, hown, hts, hK, h0, hlk, hla, hrm, hmc, hms⟩ := hX
  intro H locs ls hH hS hl
  exact W.vret hx hb hr (fun t ht hW => ⟨⟨_, σ, μ, rfl, hQ, by rw [ht]; exact hH⟩, hS.F ht⟩) hS.2.2 hdg hlk
/-! calls: what a pool's entry says of a method -/
def kt_L0 (y : MethodName) (cc' : ByteArray) (nL' : Nat) (ret' : Option FieldType) (n : Nat) : Prop := Cond.initialized y.cls ∈ kt_T ∧ Cond.code y cc' nL' ret' ∈ kt_T ∧ nL' ≤ 21 ∧ (y.cls ≠ "java/lang/invoke/MethodHandle" ∧ y.cls ≠ "java/lang/invoke/VarHandle" ∧ (parseMethodDescriptor y.desc).map (fun d => d.parameters.length) = some n)
def kt_LV (own : String) (idx : Nat) (y : MethodName) (cc' : ByteArray) (nL' : Nat) (ret' : Option FieldType) (n : Nat) : Prop := kt_L0 y cc' nL' ret' n ∧ Cond.methodLink own idx y ∈ kt_T ∧ Cond.instanceMethod y ∈ kt_T ∧ Cond.selects y.cls y y ∈ kt_T
def kt_LS (own : String) (idx : Nat) (y : MethodName) (cc' : ByteArray) (nL' : Nat) (ret' : Option FieldType) (n : Nat) : Prop := kt_L0 y cc' nL' ret' n ∧ Cond.methodLink own idx y ∈ kt_T ∧ Cond.static y ∈ kt_T
def kt_LSN (own : String) (idx : Nat) (y : MethodName) (cc' : ByteArray) (nL' : Nat) (ret' : Option FieldType) (n : Nat) : Prop := kt_L0 y cc' nL' ret' n ∧ Cond.methodLinkNest own idx y RX9 ∈ kt_ns ∧ Cond.static y ∈ kt_T
def kt_LI (own : String) (idx : Nat) (y : MethodName) (cc' : ByteArray) (nL' : Nat) (n : Nat) : Prop := kt_L0 y cc' nL' none n ∧ Cond.methodLink own idx y ∈ kt_T ∧ Cond.instanceMethod y ∈ kt_T ∧ y.name = "<init>"
def kt_LIN (own : String) (idx : Nat) (y : MethodName) (cc' : ByteArray) (nL' : Nat) (n : Nat) : Prop := kt_L0 y cc' nL' none n ∧ Cond.methodLinkNest own idx y RX9 ∈ kt_ns ∧ Cond.instanceMethod y ∈ kt_T ∧ y.name = "<init>"
/-- what a call brings: any memory and answer that the contract names -/
theorem kt_back {p : Program} {l : Launch} {e : Env} {R : Room} {s : State} {m : MethodId} {args : Array Value} {below : List Frame} {meth : Method} {c : Code} {H : Heap} {locs : List Loc} {ls : Array Slot} {st0 : List Value} {a : Array Value} {mc' ms' : Nat}
    (hr : va_Run p l e R s m args below meth c H locs cs ss mc' ms' (F0 m pc ls st0) st (kt_Q G Q a) (kt_A G)) (hS : va_S (kt_A G) s.heap H locs) (hl : lv_has ls nL lv)
    (kk : ∀ (r : Option Value) (σ' : kt_Y) (μ' : kt_M), Q r σ' μ' → kt_W G (p, l, e, R, s, m, args, below, meth, c) nL (pc + 3) lv (r.toList ++ st) σ' μ' (cs + mc') (ss + ms') Z) : W p l e R s m args below meth c H locs cs ss Z (F0 m pc ls st0) := by
  intro T hT X
  obtain ⟨v, st₀, t, T', L, h0, X', hL, e1, e2, ⟨⟨r, σ', μ', hv, hq, hH'⟩, hz, hk⟩, stp⟩ := hr T hT X
  cases hv
  rw [h0] at hz hk
  obtain ⟨t2, a1, b1⟩ := kk v σ' μ' hq T'.heap (locs ++ L) ls (by rw [e1]; exact hH')
    ⟨Nat.le_trans hS.1 (by rw [e1]; exact hz), fun q h1 h2 => by rw [e1, hk q (Nat.lt_of_lt_of_le h1 hS.1) h2]; exact hS.2.1 q h1 h2, fun q hq => by
      rcases List.mem_append.mp hq with h | h
      · exact hS.2.2 q h
      · exact hL q h⟩ hl T' rfl X'
  exact ⟨t2, stp t2 a1, b1⟩
variable {idx nL' n d' mc' ms' : Nat} {y : MethodName} {cc' : ByteArray} {ret' : Option FieldType}
theorem kt_cb {R : Room} {s : State} {args : Array Value} (hts : ∀ w ∈ kt_T, w.before args s = true) (h : kt_L0 y cc' nL' ret' n) (hl : Cond.methodLink own idx y ∈ kt_T) (hrm : d ≤ R.frames ∧ 40 * d ≤ R.locals) (hd : d' + 1 ≤ d) : CallB R s args own idx y cc' nL' ret' (Cond.code y cc' nL' ret' :: kt_T) ({ frames := d', cells := mc', slots := ms', locals := 40 * d' }) mc' ms' n :=
  callB_of n hts (kt_goodIn h.2.1) rfl rfl rfl (hts _ h.1) (hts _ hl) h.2.2.2 ⟨Nat.le_trans hd hrm.1, by have := h.2.2.1; have := hrm.2; show 8 + (nL' + 11) + 40 * d' ≤ R.locals; omega⟩
theorem kr_callV (As : List Value) {b c1 : Nat} {st0 : List Value} (hX : kt_ok G X own cc nL d mc ms) (hL : kt_LV own idx y cc' nL' ret' n) (hdg : decode cc pc = .ok (.invokevirtual idx, 3)) {Q' : Option Value → kt_Y → kt_M → Prop} (hS' : kt_S G y cc' nL' ret' d' mc' ms' (.ref b :: As) σ μ Q') (hst : st0 = As.reverse ++ .ref b :: st) (hn : As.length = n) (hk : kt_k σ b = some (0, c1)) (hc : ∃ (T : u_T) (N : Nat), vwCl[c1]? = some (y.cls, T, N)) (hd : d' + 1 ≤ d) (hcat : (st.map fun v => v.category).sum ≤ 8) (hmc' : cs + mc' ≤ mc) (hms' : ss + ms' ≤ ms)
    (kk : ∀ (r : Option Value) (σ' : kt_Y) (μ' : kt_M), Q' r σ' μ' → kt_W G X nL (pc + 3) lv (r.toList ++ st) σ' μ' (cs + mc') (ss + ms') Z) : kt_W G X nL pc lv st0 σ μ cs ss Z := by
  obtain ⟨p, l, e, R, s, m, args, below, meth, c⟩ := X
  obtain ⟨hx, hb, hml, hown, hts, hK, h0, hlk, hla, hrm, hmc, hms⟩ := hX
  intro H locs ls hH hS hl
  subst hla
  subst hst
  obtain ⟨T, N, hc⟩ := hc
  have hP := hH.P hk
  rw [kt_cell_o hk] at hP
  exact kt_back (va_runV (As := As) (rest := st) ⟨hx, hb, hml, hown, hts⟩ hS' ⟨kt_cb hts hL.1 hL.2.1 hrm hd, hts _ hL.2.2.1, hts _ hL.2.2.2⟩ ⟨kt_blind, va_recv (q0 := 0) hK.1 hP hc rfl, fun U hU hW => ⟨rfl, by rw [hU]; exact hH, hK.call hS hU hW⟩⟩ rfl hn hl.1 rfl (lv_room hcat) hdg ⟨Nat.le_trans hmc' hmc, Nat.le_trans hms' hms⟩) hS hl kk
theorem kr_callS (As : List Value) {st0 : List Value} (hX : kt_ok G X own cc nL d mc ms) (hL : kt_LS own idx y cc' nL' ret' n) (hdg : decode cc pc = .ok (.invokestatic idx, 3)) {Q' : Option Value → kt_Y → kt_M → Prop} (hS' : kt_S G y cc' nL' ret' d' mc' ms' As σ μ Q') (hst : st0 = As.reverse ++ st) (hn : As.length = n) (hd : d' + 1 ≤ d) (hcat : (st.map fun v => v.category).sum ≤ 8) (hmc' : cs + mc' ≤ mc) (hms' : ss + ms' ≤ ms)
    (kk : ∀ (r : Option Value) (σ' : kt_Y) (μ' : kt_M), Q' r σ' μ' → kt_W G X nL (pc + 3) lv (r.toList ++ st) σ' μ' (cs + mc') (ss + ms') Z) : kt_W G X nL pc lv st0 σ μ cs ss Z := by
  obtain ⟨p, l, e, R, s, m, args, below, meth, c⟩ := X
  obtain ⟨hx, hb, hml, hown, hts, hK, h0, hlk, hla, hrm, hmc, hms⟩ := hX
  intro H locs ls hH hS hl
  subst hla
  subst hst
  exact kt_back (va_runS (As := As) (rest := st) ⟨hx, hb, hml, hown, hts⟩ hS' ⟨kt_cb hts hL.1 hL.2.1 hrm hd, hts _ hL.2.2⟩ ⟨kt_blind, fun U hU hW => ⟨rfl, by rw [hU]; exact hH, hK.call hS hU hW⟩⟩ rfl hn hl.1 rfl (lv_room hcat) hdg ⟨Nat.le_trans hmc' hmc, Nat.le_trans hms' hms⟩) hS hl kk
theorem kr_callI (As : List Value) {b : Nat} {st0 : List Value} (hX : kt_ok G X own cc nL d mc ms) (hL : kt_LI own idx y cc' nL' n) (hdg : decode cc pc = .ok (.invokespecial idx, 3)) {Q' : Option Value → kt_Y → kt_M → Prop} (hS' : kt_S G y cc' nL' none d' mc' ms' (.ref b :: As) σ μ Q') (hst : st0 = As.reverse ++ .ref b :: st) (hn : As.length = n) (hd : d' + 1 ≤ d) (hcat : (st.map fun v => v.category).sum ≤ 8) (hmc' : cs + mc' ≤ mc) (hms' : ss + ms' ≤ ms)
    (kk : ∀ (r : Option Value) (σ' : kt_Y) (μ' : kt_M), Q' r σ' μ' → kt_W G X nL (pc + 3) lv (r.toList ++ st) σ' μ' (cs + mc') (ss + ms') Z) : kt_W G X nL pc lv st0 σ μ cs ss Z := by
  obtain ⟨p, l, e, R, s, m, args, below, meth, c⟩ := X
  obtain ⟨hx, hb, hml, hown, hts, hK, h0, hlk, hla, hrm, hmc, hms⟩ := hX
  intro H locs ls hH hS hl
  subst hla
  subst hst
  exact kt_back (va_runI (As := As) (rest := st) ⟨hx, hb, hml, hown, hts⟩ hS' ⟨kt_cb hts hL.1 hL.2.1 hrm hd, hL.2.2.2, hts _ hL.2.2.1⟩ ⟨kt_blind, fun U hU hW => ⟨rfl, by rw [hU]; exact hH, hK.call hS hU hW⟩⟩ rfl hn hl.1 rfl (lv_room hcat) hdg ⟨Nat.le_trans hmc' hmc, Nat.le_trans hms' hms⟩) hS hl kk
theorem kt_cn {R : Room} {s : State} {args : Array Value} (hts : ∀ w ∈ kt_T, w.before args s = true) (hK : kt_K G s) (h : kt_L0 y cc' nL' ret' n) (hl : Cond.methodLinkNest own idx y RX9 ∈ kt_ns) (hrm : d ≤ R.frames ∧ 40 * d ≤ R.locals) (hd : d' + 1 ≤ d) : va_CN R s args own idx y RX9 cc' nL' ret' (Cond.code y cc' nL' ret' :: kt_T) ({ frames := d', cells := mc', slots := ms', locals := 40 * d' }) mc' ms' n :=
  va_cnB n hts (kt_goodIn h.2.1) rfl rfl rfl (hK.2.1 _ hl) (hts _ h.1) h.2.2.2 ⟨Nat.le_trans hd hrm.1, by have := h.2.2.1; have := hrm.2; show 8 + (nL' + 11) + 40 * d' ≤ R.locals; omega⟩
theorem kr_callSN (As : List Value) {st0 : List Value} (hX : kt_ok G X own cc nL d mc ms) (hL : kt_LSN own idx y cc' nL' ret' n) (hdg : decode cc pc = .ok (.invokestatic idx, 3)) {Q' : Option Value → kt_Y → kt_M → Prop} (hS' : kt_S G y cc' nL' ret' d' mc' ms' As σ μ Q') (hst : st0 = As.reverse ++ st) (hn : As.length = n) (hd : d' + 1 ≤ d) (hcat : (st.map fun v => v.category).sum ≤ 8) (hmc' : cs + mc' ≤ mc) (hms' : ss + ms' ≤ ms)
    (kk : ∀ (r : Option Value) (σ' : kt_Y) (μ' : kt_M), Q' r σ' μ' → kt_W G X nL (pc + 3) lv (r.toList ++ st) σ' μ' (cs + mc') (ss + ms') Z) : kt_W G X nL pc lv st0 σ μ cs ss Z := by
  obtain ⟨p, l, e, R, s, m, args, below, meth, c⟩ := X
  obtain ⟨hx, hb, hml, hown, hts, hK, h0, hlk, hla, hrm, hmc, hms⟩ := hX
  intro H locs ls hH hS hl
  subst hla
  subst hst
  exact kt_back (va_runSN (As := As) (rest := st) ⟨hx, hb, hml, hown, hts⟩ hS' ⟨kt_cn hts hK hL.1 hL.2.1 hrm hd, hts _ hL.2.2, trivial⟩ ⟨kt_blind, fun U hU hW => ⟨rfl, by rw [hU]; exact hH, hK.call hS hU hW⟩⟩ rfl hn hl.1 rfl (lv_room hcat) hdg ⟨Nat.le_trans hmc' hmc, Nat.le_trans hms' hms⟩) hS hl kk
theorem kr_callIN (As : List Value) {b : Nat} {st0 : List Value} (hX : kt_ok G X own cc nL d mc ms) (hL : kt_LIN own idx y cc' nL' n) (hdg : decode cc pc = .ok (.invokespecial idx, 3)) {Q' : Option Value → kt_Y → kt_M → Prop} (hS' : kt_S G y cc' nL' none d' mc' ms' (.ref b :: As) σ μ Q') (hst : st0 = As.reverse ++ .ref b :: st) (hn : As.length = n) (hd : d' + 1 ≤ d) (hcat : (st.map fun v => v.category).sum ≤ 8) (hmc' : cs + mc' ≤ mc) (hms' : ss + ms' ≤ ms)
    (kk : ∀ (r : Option Value) (σ' : kt_Y) (μ' : kt_M), Q' r σ' μ' → kt_W G X nL (pc + 3) lv (r.toList ++ st) σ' μ' (cs + mc') (ss + ms') Z) : kt_W G X nL pc lv st0 σ μ cs ss Z := by
  obtain ⟨p, l, e, R, s, m, args, below, meth, c⟩ := X
  obtain ⟨hx, hb, hml, hown, hts, hK, h0, hlk, hla, hrm, hmc, hms⟩ := hX
  intro H locs ls hH hS hl
  subst hla
  subst hst
  exact kt_back (va_runIN (As := As) (rest := st) ⟨hx, hb, hml, hown, hts⟩ hS' ⟨kt_cn hts hK hL.1 hL.2.1 hrm hd, hL.2.2.2, hts _ hL.2.2.1⟩ ⟨kt_blind, fun U hU hW => ⟨rfl, by rw [hU]; exact hH, hK.call hS hU hW⟩⟩ rfl hn hl.1 rfl (lv_room hcat) hdg ⟨Nat.le_trans hmc' hmc, Nat.le_trans hms' hms⟩) hS hl kk
end KS

-- ===== end of PART A; then your names; then what follows =====
/-! THE CLAIM OUT OF ONE WALK OF THE LAW'S BODY. Your part is whole_start (and what it stands on); all else here is the same for every law, but numbers. -/
def R_law : String := "KnownTurnsLaw"
def lw_P (b : Addr) (xs : List Int32) (args : Array Value) (s : State) : Prop := args = #[.ref b] ∧ s.IntsAt b xs ∧ xs.length ≤ 2560 ∧ (Jvm.Cond.and given_1 narrow_1).before args s = true
def lw_Q (_ : Array Value) (s : State) (o : Outcome) (t : State) : Prop := o = .returned (some (.int 1)) ∧ Framed s o t [] 600000 7302250
def lw_Z (below : List Frame) (a : Array Value) (s : State) : State → Prop := fun t => ∃ o, t.status = .running ∧ Ended t below o ∧ lw_Q a s o t
/-- the law's own end, with 1 on the stack, nothing written that was there before, its room as the claim has it -/
theorem lw_ret {p : Program} {l : Launch} {e : Env} {s : State} {m : MethodId} {below : List Frame} {meth : Method} {c : Code} {b : Nat} (hx : p.tables.exec = Jvm.exec) (hb : c.code = code) (hr : meth.sig.returnType = ret) (hlocks : meth.locks = false) {pc : Nat} {H : Heap} {ls : Array Slot} (hdg : decode code pc = .ok (.ireturn, 1)) : W p l e room_1 s m #[Value.ref b] below meth c H [] 600000 7302250 (lw_Z below #[Value.ref b] s) (F0 m pc ls [.int 1]) := by
  intro T hT X
  obtain ⟨fs, hret, hrun, hended, hW, hframe⟩ := X.leave (v := some (.int 1)) (hlocks := hlocks) (fun h => by rw [hr] at h; cases h)
  have hmeth' : T.vm.method? m = some meth := X.method'
  refine ⟨T.setFrames fs, ?_, .returned (some (.int 1)), hrun, hended, rfl, ⟨_, rfl⟩, hW, hframe⟩
  jvm_step X.here [X.here.top, hx, hb, hdg, hmeth', hr, ret, narrow_b1]
  (try refine ⟨rfl, ?_⟩); (try refine ⟨rfl, ?_⟩)
  first | (intro acts; rw [hret _ acts rfl rfl rfl]) | rw [hret _ _ rfl rfl rfl]
  exact Steps.refl _
/-- what holds at the law's entry: the machine, the code, the tables' words (any of lw_tbl by 'hts w (by decide +kernel)'), the script of L ints xs at the cell b, what the Statement gives of the start (any of its parts by flat_of_before) -/
def lw_At (p : Program) (s : State) (m : MethodId) (meth : Method) (c : Code) (b L : Nat) (xs : Nat → Int32) : Prop :=
  p.tables.exec = Jvm.exec ∧ c.code = code ∧ meth.sig.returnType = ret ∧ c.maxLocals = 4 ∧ s.vm.findClass R_law = some m.cls ∧ (∀ w ∈ lw_tbl, w.before #[Value.ref b] s = true) ∧ va_X b L xs s s.heap ∧ b < s.heap.size ∧ meth.locks = false ∧ (Jvm.Cond.and given_1 narrow_1).before #[Value.ref b] s = true

/-! THE LAW -/
def kt_XS (G : kt_G) (X : kt_X) (b L : Nat) (xs : Nat → Int32) : Prop := match X with | (_, _, _, R, s, _, args, _, meth, c) => va_X b L xs s s.heap ∧ b < s.heap.size ∧ kt_b G = s.heap.size ∧ R = room_1 ∧ args = #[Value.ref b] ∧ c.code = code ∧ meth.sig.returnType = ret
def lw_ZX (X : kt_X) (b : Nat) : State → Prop := match X with | (_, _, _, _, s, _, _, below, _, _) => lw_Z below #[Value.ref b] s
section LW
variable {G : kt_G} {X : kt_X} {own : String} {cc : ByteArray} {nL d mc ms pc cs ss : Nat} {lv : List (Nat × Value)} {st : List Value} {σ : kt_Y} {μ : kt_M} {Z : State → Prop} {b L : Nat} {xs : Nat → Int32}
theorem kr_sld (hX : kt_ok G X own cc nL d mc ms) (hS : kt_XS G X b L xs) (hdg : decode cc pc = .ok (.iaload, 1)) {i : Int32} (hin : vp_in i L) (kk : kt_W G X nL (pc + 1) lv (.int (xs i.toNatClampNeg) :: st) σ μ cs ss Z) : kt_W G X nL pc lv (.int i :: .ref b :: st) σ μ cs ss Z := by
  obtain ⟨p, l, e, R, s, m, args, below, meth, c⟩ := X
  obtain ⟨hx, hb, hml, hown, hts, hK, h0, hlk, hla, hrm, hmc, hms⟩ := hX
  obtain ⟨h1, h2, h3, -⟩ := hS
  intro H locs ls hH hSS hl
  exact va_sld hx hb h1 h2 (fun h => Nat.not_le.mpr h2 (h3 ▸ h)) hSS hin hdg (kk H locs ls hH hSS hl)
theorem kr_sln (hX : kt_ok G X own cc nL d mc ms) (hS : kt_XS G X b L xs) (hdg : decode cc pc = .ok (.arraylength, 1)) (kk : kt_W G X nL (pc + 1) lv (.int (nI L) :: st) σ μ cs ss Z) : kt_W G X nL pc lv (.ref b :: st) σ μ cs ss Z := by
  obtain ⟨p, l, e, R, s, m, args, below, meth, c⟩ := X
  obtain ⟨hx, hb, hml, hown, hts, hK, h0, hlk, hla, hrm, hmc, hms⟩ := hX
  obtain ⟨h1, h2, h3, -⟩ := hS
  intro H locs ls hH hSS hl
  exact va_slen hx hb h1 h2 (fun h => Nat.not_le.mpr h2 (h3 ▸ h)) hSS hdg (kk H locs ls hH hSS hl)
theorem kr_lwret (hX : kt_ok G X own code nL d mc ms) (hS : kt_XS G X b L xs) (hdg : decode code pc = .ok (.ireturn, 1)) (h1 : cs ≤ 600000) (h2 : ss ≤ 7302250) : kt_W G X nL pc lv [.int 1] σ μ cs ss (lw_ZX X b) := by
  obtain ⟨p, l, e, R, s, m, args, below, meth, c⟩ := X
  obtain ⟨hx, hb, hml, hown, hts, hK, h0, hlk, hla, hrm, hmc, hms⟩ := hX
  obtain ⟨-, -, h3, rfl, rfl, h6, h7⟩ := hS
  intro H locs ls hH hSS hl
  refine va_forget (fun q hq => ?_) ?_
  · have := hSS.2.2 q hq
    exact h3 ▸ this
  · exact W.widen h1 h2 (lw_ret hx h6 h7 hlk hdg)
end LW
theorem lw_ix {i k L : Nat} (h : i + k < L) (hL : L ≤ 2560) : vp_in (nI i + nI k) L := by
  rw [nI_add]; exact vp_in_nI h (by omega)

set_option maxHeartbeats 4000000 in
set_option maxRecDepth 100000 in
theorem lw_c_feed {G : kt_G} {X : kt_X} (hX : kt_ok G X RL code 4 9 600000 7302250) {b L : Nat} {xs : Nat → Int32} (hS : kt_XS G X b L xs) (hLL : L ≤ 2560) {σ : kt_Y} {o m : Nat} (hp : kt_kt σ o) (hm : kt_md σ m) {i : Nat} {μ : kt_M} (hi : i + 5 ≤ L) (h : kInv μ o m) (hnext : ∀ μ1, kInv μ1 o m → kt_W G X 4 1199 [(0, .ref b), (1, .ref o), (2, .ref m), (3, .int (nI i))] [] σ μ1 541 5855 (lw_ZX X b)) : kt_W G X 4 180 [(0, .ref b), (1, .ref o), (2, .ref m), (3, .int (nI i))] [] σ μ 541 5855 (lw_ZX X b) := by
  obtain ⟨s0, s1, l0, hg, h9, hkk, ⟨hL, hL2⟩, hd, hw, himk⟩ := h.pre
  have hc := h9.1
  have hn := h9.2.1
  obtain ⟨n, μ1, e, hI⟩ := st_feed h (xs (nI i + 1 : Int32).toNatClampNeg)
  refine kr_aload_n (i := 1) hX dL_law_180 rfl rfl ?_
  refine kr_aload_n (i := 0) hX dL_law_181 rfl rfl ?_
  refine kr_iload_n (i := 3) hX dL_law_182 rfl rfl ?_
  refine kr_iconst (v := 1) hX dL_law_183 (by decide) ?_
  refine kr_iadd hX dL_law_184 ?_
  refine kr_sld hX hS dL_law_185 (lw_ix (k := 1) (by omega) hLL) ?_
  refine kr_dV (c1 := 9) [_] hX km_L_13 dL_law_186 (sp_feed hp) rfl rfl ⟨_, _, rfl⟩ (by decide) (Nat.le_of_ble_eq_true rfl) (Nat.le_of_ble_eq_true rfl) (Nat.le_of_ble_eq_true rfl) hp.1 ?_
  refine kr_aload_n (i := 2) hX dL_law_189 rfl rfl ?_
  refine kr_aload_n (i := 0) hX dL_law_190 rfl rfl ?_
  refine kr_iload_n (i := 3) hX dL_law_191 rfl rfl ?_
  refine kr_iconst (v := 1) hX dL_law_192 (by decide) ?_
  refine kr_iadd hX dL_law_193 ?_
  refine kr_sld hX hS dL_law_194 (lw_ix (k := 1) (by omega) hLL) ?_
  refine kr_dV (c1 := 10) [_] hX km_L_17 dL_law_195 (xs_feed hm e) rfl rfl ⟨_, _, rfl⟩ (by decide) (Nat.le_of_ble_eq_true rfl) (Nat.le_of_ble_eq_true rfl) (Nat.le_of_ble_eq_true rfl) (md_k hm) ?_
  refine kr_icmp_eq (tgt := 1199) hX dL_law_198 (by decide) (fun _ => hnext _ hI) (fun c => absurd rfl c)
set_option maxHeartbeats 4000000 in
set_option maxRecDepth 100000 in
theorem lw_c_end {G : kt_G} {X : kt_X} (hX : kt_ok G X RL code 4 9 600000 7302250) {b L : Nat} {xs : Nat → Int32} (hS : kt_XS G X b L xs) (hLL : L ≤ 2560) {σ : kt_Y} {o m : Nat} (hp : kt_kt σ o) (hm : kt_md σ m) {i : Nat} {μ : kt_M} (hi : i + 5 ≤ L) (h : kInv μ o m) (hnext : ∀ μ1, kInv μ1 o m → kt_W G X 4 1199 [(0, .ref b), (1, .ref o), (2, .ref m), (3, .int (nI i))] [] σ μ1 541 5855 (lw_ZX X b)) : kt_W G X 4 203 [(0, .ref b), (1, .ref o), (2, .ref m), (3, .int (nI i))] [] σ μ 541 5855 (lw_ZX X b) := by
  obtain ⟨s0, s1, l0, hg, h9, hkk, ⟨hL, hL2⟩, hd, hw, himk⟩ := h.pre
  have hc := h9.1
  have hn := h9.2.1
  obtain ⟨n, μ1, e, hI⟩ := st_end h (xs (nI i + 1 : Int32).toNatClampNeg)
  refine kr_aload_n (i := 1) hX dL_law_203 rfl rfl ?_
  refine kr_aload_n (i := 0) hX dL_law_204 rfl rfl ?_
  refine kr_iload_n (i := 3) hX dL_law_205 rfl rfl ?_
  refine kr_iconst (v := 1) hX dL_law_206 (by decide) ?_
  refine kr_iadd hX dL_law_207 ?_
  refine kr_sld hX hS dL_law_208 (lw_ix (k := 1) (by omega) hLL) ?_
  refine kr_dV (c1 := 9) [_] hX km_L_18 dL_law_209 (sp_uend hp) rfl rfl ⟨_, _, rfl⟩ (by decide) (Nat.le_of_ble_eq_true rfl) (Nat.le_of_ble_eq_true rfl) (Nat.le_of_ble_eq_true rfl) hp.1 ?_
  refine kr_aload_n (i := 2) hX dL_law_212 rfl rfl ?_
  refine kr_aload_n (i := 0) hX dL_law_213 rfl rfl ?_
  refine kr_iload_n (i := 3) hX dL_law_214 rfl rfl ?_
  refine kr_iconst (v := 1) hX dL_law_215 (by decide) ?_
  refine kr_iadd hX dL_law_216 ?_
  refine kr_sld hX hS dL_law_217 (lw_ix (k := 1) (by omega) hLL) ?_
  refine kr_dV (c1 := 10) [_] hX km_L_21 dL_law_218 (xs_end hm e) rfl rfl ⟨_, _, rfl⟩ (by decide) (Nat.le_of_ble_eq_true rfl) (Nat.le_of_ble_eq_true rfl) (Nat.le_of_ble_eq_true rfl) (md_k hm) ?_
  refine kr_icmp_eq (tgt := 1199) hX dL_law_221 (by decide) (fun _ => hnext _ hI) (fun c => absurd rfl c)
set_option maxHeartbeats 4000000 in
set_option maxRecDepth 100000 in
theorem lw_c_text {G : kt_G} {X : kt_X} (hX : kt_ok G X RL code 4 9 600000 7302250) {b L : Nat} {xs : Nat → Int32} (hS : kt_XS G X b L xs) (hLL : L ≤ 2560) {σ : kt_Y} {o m : Nat} (hp : kt_kt σ o) (hm : kt_md σ m) {i : Nat} {μ : kt_M} (hi : i + 5 ≤ L) (h : kInv μ o m) (hnext : ∀ μ1, kInv μ1 o m → kt_W G X 4 1199 [(0, .ref b), (1, .ref o), (2, .ref m), (3, .int (nI i))] [] σ μ1 541 5855 (lw_ZX X b)) : kt_W G X 4 226 [(0, .ref b), (1, .ref o), (2, .ref m), (3, .int (nI i))] [] σ μ 541 5855 (lw_ZX X b) := by
  obtain ⟨s0, s1, l0, hg, h9, hkk, ⟨hL, hL2⟩, hd, hw, himk⟩ := h.pre
  have hc := h9.1
  have hn := h9.2.1
  obtain ⟨n, μ1, e, hI⟩ := st_text h
  refine kr_aload_n (i := 1) hX dL_law_226 rfl rfl ?_
  refine kr_dV (c1 := 9) [] hX km_L_22 dL_law_227 (sp_text hp hL hL2 hd hw) rfl rfl ⟨_, _, rfl⟩ (by decide) (Nat.le_of_ble_eq_true rfl) (Nat.le_of_ble_eq_true rfl) (Nat.le_of_ble_eq_true rfl) hp.1 ?_
  refine kr_aload_n (i := 2) hX dL_law_230 rfl rfl ?_
  refine kr_dV (c1 := 10) [] hX km_L_26 dL_law_231 (xs_text hm e) rfl rfl ⟨_, _, rfl⟩ (by decide) (Nat.le_of_ble_eq_true rfl) (Nat.le_of_ble_eq_true rfl) (Nat.le_of_ble_eq_true rfl) (md_k hm) ?_
  refine kr_icmp_eq (tgt := 1199) hX dL_law_234 (by decide) (fun _ => hnext _ hI) (fun c => absurd rfl c)
set_option maxHeartbeats 4000000 in
set_option maxRecDepth 100000 in
theorem lw_c_fault {G : kt_G} {X : kt_X} (hX : kt_ok G X RL code 4 9 600000 7302250) {b L : Nat} {xs : Nat → Int32} (hS : kt_XS G X b L xs) (hLL : L ≤ 2560) {σ : kt_Y} {o m : Nat} (hp : kt_kt σ o) (hm : kt_md σ m) {i : Nat} {μ : kt_M} (hi : i + 5 ≤ L) (h : kInv μ o m) (hnext : ∀ μ1, kInv μ1 o m → kt_W G X 4 1199 [(0, .ref b), (1, .ref o), (2, .ref m), (3, .int (nI i))] [] σ μ1 541 5855 (lw_ZX X b)) : kt_W G X 4 239 [(0, .ref b), (1, .ref o), (2, .ref m), (3, .int (nI i))] [] σ μ 541 5855 (lw_ZX X b) := by
  obtain ⟨s0, s1, l0, hg, h9, hkk, ⟨hL, hL2⟩, hd, hw, himk⟩ := h.pre
  have hc := h9.1
  have hn := h9.2.1
  obtain ⟨n, μ1, e, hI⟩ := st_fault h
  refine kr_aload_n (i := 1) hX dL_law_239 rfl rfl ?_
  refine kr_dV (c1 := 9) [] hX km_L_27 dL_law_240 (sp_fault hp) rfl rfl ⟨_, _, rfl⟩ (by decide) (Nat.le_of_ble_eq_true rfl) (Nat.le_of_ble_eq_true rfl) (Nat.le_of_ble_eq_true rfl) hp.1 ?_
  refine kr_aload_n (i := 2) hX dL_law_243 rfl rfl ?_
  refine kr_dV (c1 := 10) [] hX km_L_30 dL_law_244 (xs_fault hm e) rfl rfl ⟨_, _, rfl⟩ (by decide) (Nat.le_of_ble_eq_true rfl) (Nat.le_of_ble_eq_true rfl) (Nat.le_of_ble_eq_true rfl) (md_k hm) ?_
  refine kr_icmp_eq (tgt := 1199) hX dL_law_247 (by decide) (fun _ => hnext _ hI) (fun c => absurd rfl c)
set_option maxHeartbeats 4000000 in
set_option maxRecDepth 100000 in
theorem lw_c_program {G : kt_G} {X : kt_X} (hX : kt_ok G X RL code 4 9 600000 7302250) {b L : Nat} {xs : Nat → Int32} (hS : kt_XS G X b L xs) (hLL : L ≤ 2560) {σ : kt_Y} {o m : Nat} (hp : kt_kt σ o) (hm : kt_md σ m) {i : Nat} {μ : kt_M} (hi : i + 5 ≤ L) (h : kInv μ o m) (hnext : ∀ μ1, kInv μ1 o m → kt_W G X 4 1199 [(0, .ref b), (1, .ref o), (2, .ref m), (3, .int (nI i))] [] σ μ1 541 5855 (lw_ZX X b)) : kt_W G X 4 252 [(0, .ref b), (1, .ref o), (2, .ref m), (3, .int (nI i))] [] σ μ 541 5855 (lw_ZX X b) := by
  obtain ⟨s0, s1, l0, hg, h9, hkk, ⟨hL, hL2⟩, hd, hw, himk⟩ := h.pre
  have hc := h9.1
  have hn := h9.2.1
  obtain ⟨n, μ1, e, hI⟩ := st_program h (xs (nI i + 1 : Int32).toNatClampNeg) (xs (nI i + 2 : Int32).toNatClampNeg)
  refine kr_aload_n (i := 1) hX dL_law_252 rfl rfl ?_
  refine kr_aload_n (i := 0) hX dL_law_253 rfl rfl ?_
  refine kr_iload_n (i := 3) hX dL_law_254 rfl rfl ?_
  refine kr_iconst (v := 1) hX dL_law_255 (by decide) ?_
  refine kr_iadd hX dL_law_256 ?_
  refine kr_sld hX hS dL_law_257 (lw_ix (k := 1) (by omega) hLL) ?_
  refine kr_aload_n (i := 0) hX dL_law_258 rfl rfl ?_
  refine kr_iload_n (i := 3) hX dL_law_259 rfl rfl ?_
  refine kr_iconst (v := 2) hX dL_law_260 (by decide) ?_
  refine kr_iadd hX dL_law_261 ?_
  refine kr_sld hX hS dL_law_262 (lw_ix (k := 2) (by omega) hLL) ?_
  refine kr_dV (c1 := 9) [_, _] hX km_L_31 dL_law_263 (sp_prog hp hg hc hn) rfl rfl ⟨_, _, rfl⟩ (by decide) (Nat.le_of_ble_eq_true rfl) (Nat.le_of_ble_eq_true rfl) (Nat.le_of_ble_eq_true rfl) hp.1 ?_
  refine kr_aload_n (i := 2) hX dL_law_266 rfl rfl ?_
  refine kr_aload_n (i := 0) hX dL_law_267 rfl rfl ?_
  refine kr_iload_n (i := 3) hX dL_law_268 rfl rfl ?_
  refine kr_iconst (v := 1) hX dL_law_269 (by decide) ?_
  refine kr_iadd hX dL_law_270 ?_
  refine kr_sld hX hS dL_law_271 (lw_ix (k := 1) (by omega) hLL) ?_
  refine kr_aload_n (i := 0) hX dL_law_272 rfl rfl ?_
  refine kr_iload_n (i := 3) hX dL_law_273 rfl rfl ?_
  refine kr_iconst (v := 2) hX dL_law_274 (by decide) ?_
  refine kr_iadd hX dL_law_275 ?_
  refine kr_sld hX hS dL_law_276 (lw_ix (k := 2) (by omega) hLL) ?_
  refine kr_dV (c1 := 10) [_, _] hX km_L_35 dL_law_277 (xs_program hm e) rfl rfl ⟨_, _, rfl⟩ (by decide) (Nat.le_of_ble_eq_true rfl) (Nat.le_of_ble_eq_true rfl) (Nat.le_of_ble_eq_true rfl) (md_k hm) ?_
  refine kr_icmp_eq (tgt := 1199) hX dL_law_280 (by decide) (fun _ => hnext _ hI) (fun c => absurd rfl c)
set_option maxHeartbeats 4000000 in
set_option maxRecDepth 100000 in
theorem lw_c_block {G : kt_G} {X : kt_X} (hX : kt_ok G X RL code 4 9 600000 7302250) {b L : Nat} {xs : Nat → Int32} (hS : kt_XS G X b L xs) (hLL : L ≤ 2560) {σ : kt_Y} {o m : Nat} (hp : kt_kt σ o) (hm : kt_md σ m) {i : Nat} {μ : kt_M} (hi : i + 5 ≤ L) (h : kInv μ o m) (hnext : ∀ μ1, kInv μ1 o m → kt_W G X 4 1199 [(0, .ref b), (1, .ref o), (2, .ref m), (3, .int (nI i))] [] σ μ1 541 5855 (lw_ZX X b)) : kt_W G X 4 285 [(0, .ref b), (1, .ref o), (2, .ref m), (3, .int (nI i))] [] σ μ 541 5855 (lw_ZX X b) := by
  obtain ⟨s0, s1, l0, hg, h9, hkk, ⟨hL, hL2⟩, hd, hw, himk⟩ := h.pre
  have hc := h9.1
  have hn := h9.2.1
  obtain ⟨n, μ1, e, hI⟩ := st_block h (xs (nI i + 1 : Int32).toNatClampNeg) (xs (nI i + 2 : Int32).toNatClampNeg) (xs (nI i + 3 : Int32).toNatClampNeg)
  refine kr_aload_n (i := 1) hX dL_law_285 rfl rfl ?_
  refine kr_aload_n (i := 0) hX dL_law_286 rfl rfl ?_
  refine kr_iload_n (i := 3) hX dL_law_287 rfl rfl ?_
  refine kr_iconst (v := 1) hX dL_law_288 (by decide) ?_
  refine kr_iadd hX dL_law_289 ?_
  refine kr_sld hX hS dL_law_290 (lw_ix (k := 1) (by omega) hLL) ?_
  refine kr_aload_n (i := 0) hX dL_law_291 rfl rfl ?_
  refine kr_iload_n (i := 3) hX dL_law_292 rfl rfl ?_
  refine kr_iconst (v := 2) hX dL_law_293 (by decide) ?_
  refine kr_iadd hX dL_law_294 ?_
  refine kr_sld hX hS dL_law_295 (lw_ix (k := 2) (by omega) hLL) ?_
  refine kr_aload_n (i := 0) hX dL_law_296 rfl rfl ?_
  refine kr_iload_n (i := 3) hX dL_law_297 rfl rfl ?_
  refine kr_iconst (v := 3) hX dL_law_298 (by decide) ?_
  refine kr_iadd hX dL_law_299 ?_
  refine kr_sld hX hS dL_law_300 (lw_ix (k := 3) (by omega) hLL) ?_
  refine kr_dV (c1 := 9) [_, _, _] hX km_L_36 dL_law_301 (sp_block hp hg hc) rfl rfl ⟨_, _, rfl⟩ (by decide) (Nat.le_of_ble_eq_true rfl) (Nat.le_of_ble_eq_true rfl) (Nat.le_of_ble_eq_true rfl) hp.1 ?_
  refine kr_aload_n (i := 2) hX dL_law_304 rfl rfl ?_
  refine kr_aload_n (i := 0) hX dL_law_305 rfl rfl ?_
  refine kr_iload_n (i := 3) hX dL_law_306 rfl rfl ?_
  refine kr_iconst (v := 1) hX dL_law_307 (by decide) ?_
  refine kr_iadd hX dL_law_308 ?_
  refine kr_sld hX hS dL_law_309 (lw_ix (k := 1) (by omega) hLL) ?_
  refine kr_aload_n (i := 0) hX dL_law_310 rfl rfl ?_
  refine kr_iload_n (i := 3) hX dL_law_311 rfl rfl ?_
  refine kr_iconst (v := 2) hX dL_law_312 (by decide) ?_
  refine kr_iadd hX dL_law_313 ?_
  refine kr_sld hX hS dL_law_314 (lw_ix (k := 2) (by omega) hLL) ?_
  refine kr_aload_n (i := 0) hX dL_law_315 rfl rfl ?_
  refine kr_iload_n (i := 3) hX dL_law_316 rfl rfl ?_
  refine kr_iconst (v := 3) hX dL_law_317 (by decide) ?_
  refine kr_iadd hX dL_law_318 ?_
  refine kr_sld hX hS dL_law_319 (lw_ix (k := 3) (by omega) hLL) ?_
  refine kr_dV (c1 := 10) [_, _, _] hX km_L_40 dL_law_320 (xs_block hm e) rfl rfl ⟨_, _, rfl⟩ (by decide) (Nat.le_of_ble_eq_true rfl) (Nat.le_of_ble_eq_true rfl) (Nat.le_of_ble_eq_true rfl) (md_k hm) ?_
  refine kr_icmp_eq (tgt := 1199) hX dL_law_323 (by decide) (fun _ => hnext _ hI) (fun c => absurd rfl c)
set_option maxHeartbeats 4000000 in
set_option maxRecDepth 100000 in
theorem lw_c_act {G : kt_G} {X : kt_X} (hX : kt_ok G X RL code 4 9 600000 7302250) {b L : Nat} {xs : Nat → Int32} (hS : kt_XS G X b L xs) (hLL : L ≤ 2560) {σ : kt_Y} {o m : Nat} (hp : kt_kt σ o) (hm : kt_md σ m) {i : Nat} {μ : kt_M} (hi : i + 5 ≤ L) (h : kInv μ o m) (hnext : ∀ μ1, kInv μ1 o m → kt_W G X 4 1199 [(0, .ref b), (1, .ref o), (2, .ref m), (3, .int (nI i))] [] σ μ1 541 5855 (lw_ZX X b)) : kt_W G X 4 328 [(0, .ref b), (1, .ref o), (2, .ref m), (3, .int (nI i))] [] σ μ 541 5855 (lw_ZX X b) := by
  obtain ⟨s0, s1, l0, hg, h9, hkk, ⟨hL, hL2⟩, hd, hw, himk⟩ := h.pre
  have hc := h9.1
  have hn := h9.2.1
  obtain ⟨n, μ1, e, hI⟩ := st_act h (xs (nI i + 1 : Int32).toNatClampNeg) (xs (nI i + 2 : Int32).toNatClampNeg) (xs (nI i + 3 : Int32).toNatClampNeg) (xs (nI i + 4 : Int32).toNatClampNeg)
  refine kr_aload_n (i := 1) hX dL_law_328 rfl rfl ?_
  refine kr_aload_n (i := 0) hX dL_law_329 rfl rfl ?_
  refine kr_iload_n (i := 3) hX dL_law_330 rfl rfl ?_
  refine kr_iconst (v := 1) hX dL_law_331 (by decide) ?_
  refine kr_iadd hX dL_law_332 ?_
  refine kr_sld hX hS dL_law_333 (lw_ix (k := 1) (by omega) hLL) ?_
  refine kr_aload_n (i := 0) hX dL_law_334 rfl rfl ?_
  refine kr_iload_n (i := 3) hX dL_law_335 rfl rfl ?_
  refine kr_iconst (v := 2) hX dL_law_336 (by decide) ?_
  refine kr_iadd hX dL_law_337 ?_
  refine kr_sld hX hS dL_law_338 (lw_ix (k := 2) (by omega) hLL) ?_
  refine kr_aload_n (i := 0) hX dL_law_339 rfl rfl ?_
  refine kr_iload_n (i := 3) hX dL_law_340 rfl rfl ?_
  refine kr_iconst (v := 3) hX dL_law_341 (by decide) ?_
  refine kr_iadd hX dL_law_342 ?_
  refine kr_sld hX hS dL_law_343 (lw_ix (k := 3) (by omega) hLL) ?_
  refine kr_aload_n (i := 0) hX dL_law_344 rfl rfl ?_
  refine kr_iload_n (i := 3) hX dL_law_345 rfl rfl ?_
  refine kr_iconst (v := 4) hX dL_law_346 (by decide) ?_
  refine kr_iadd hX dL_law_347 ?_
  refine kr_sld hX hS dL_law_348 (lw_ix (k := 4) (by omega) hLL) ?_
  refine kr_dV (c1 := 9) [_, _, _, _] hX km_L_41 dL_law_349 (sp_uact hp hg hc) rfl rfl ⟨_, _, rfl⟩ (by decide) (Nat.le_of_ble_eq_true rfl) (Nat.le_of_ble_eq_true rfl) (Nat.le_of_ble_eq_true rfl) hp.1 ?_
  refine kr_aload_n (i := 2) hX dL_law_352 rfl rfl ?_
  refine kr_aload_n (i := 0) hX dL_law_353 rfl rfl ?_
  refine kr_iload_n (i := 3) hX dL_law_354 rfl rfl ?_
  refine kr_iconst (v := 1) hX dL_law_355 (by decide) ?_
  refine kr_iadd hX dL_law_356 ?_
  refine kr_sld hX hS dL_law_357 (lw_ix (k := 1) (by omega) hLL) ?_
  refine kr_aload_n (i := 0) hX dL_law_358 rfl rfl ?_
  refine kr_iload_n (i := 3) hX dL_law_359 rfl rfl ?_
  refine kr_iconst (v := 2) hX dL_law_360 (by decide) ?_
  refine kr_iadd hX dL_law_361 ?_
  refine kr_sld hX hS dL_law_362 (lw_ix (k := 2) (by omega) hLL) ?_
  refine kr_aload_n (i := 0) hX dL_law_363 rfl rfl ?_
  refine kr_iload_n (i := 3) hX dL_law_364 rfl rfl ?_
  refine kr_iconst (v := 3) hX dL_law_365 (by decide) ?_
  refine kr_iadd hX dL_law_366 ?_
  refine kr_sld hX hS dL_law_367 (lw_ix (k := 3) (by omega) hLL) ?_
  refine kr_aload_n (i := 0) hX dL_law_368 rfl rfl ?_
  refine kr_iload_n (i := 3) hX dL_law_369 rfl rfl ?_
  refine kr_iconst (v := 4) hX dL_law_370 (by decide) ?_
  refine kr_iadd hX dL_law_371 ?_
  refine kr_sld hX hS dL_law_372 (lw_ix (k := 4) (by omega) hLL) ?_
  refine kr_dV (c1 := 10) [_, _, _, _] hX km_L_45 dL_law_373 (xs_act hm e) rfl rfl ⟨_, _, rfl⟩ (by decide) (Nat.le_of_ble_eq_true rfl) (Nat.le_of_ble_eq_true rfl) (Nat.le_of_ble_eq_true rfl) (md_k hm) ?_
  refine kr_icmp_eq (tgt := 1199) hX dL_law_376 (by decide) (fun _ => hnext _ hI) (fun c => absurd rfl c)
set_option maxHeartbeats 4000000 in
set_option maxRecDepth 100000 in
theorem lw_c_range {G : kt_G} {X : kt_X} (hX : kt_ok G X RL code 4 9 600000 7302250) {b L : Nat} {xs : Nat → Int32} (hS : kt_XS G X b L xs) (hLL : L ≤ 2560) {σ : kt_Y} {o m : Nat} (hp : kt_kt σ o) (hm : kt_md σ m) {i : Nat} {μ : kt_M} (hi : i + 5 ≤ L) (h : kInv μ o m) (hnext : ∀ μ1, kInv μ1 o m → kt_W G X 4 1199 [(0, .ref b), (1, .ref o), (2, .ref m), (3, .int (nI i))] [] σ μ1 541 5855 (lw_ZX X b)) : kt_W G X 4 381 [(0, .ref b), (1, .ref o), (2, .ref m), (3, .int (nI i))] [] σ μ 541 5855 (lw_ZX X b) := by
  obtain ⟨s0, s1, l0, hg, h9, hkk, ⟨hL, hL2⟩, hd, hw, himk⟩ := h.pre
  have hc := h9.1
  have hn := h9.2.1
  obtain ⟨n, μ1, e, hI⟩ := st_range h (xs (nI i + 1 : Int32).toNatClampNeg) (xs (nI i + 2 : Int32).toNatClampNeg) (xs (nI i + 3 : Int32).toNatClampNeg)
  refine kr_aload_n (i := 1) hX dL_law_381 rfl rfl ?_
  refine kr_aload_n (i := 0) hX dL_law_382 rfl rfl ?_
  refine kr_iload_n (i := 3) hX dL_law_383 rfl rfl ?_
  refine kr_iconst (v := 1) hX dL_law_384 (by decide) ?_
  refine kr_iadd hX dL_law_385 ?_
  refine kr_sld hX hS dL_law_386 (lw_ix (k := 1) (by omega) hLL) ?_
  refine kr_aload_n (i := 0) hX dL_law_387 rfl rfl ?_
  refine kr_iload_n (i := 3) hX dL_law_388 rfl rfl ?_
  refine kr_iconst (v := 2) hX dL_law_389 (by decide) ?_
  refine kr_iadd hX dL_law_390 ?_
  refine kr_sld hX hS dL_law_391 (lw_ix (k := 2) (by omega) hLL) ?_
  refine kr_aload_n (i := 0) hX dL_law_392 rfl rfl ?_
  refine kr_iload_n (i := 3) hX dL_law_393 rfl rfl ?_
  refine kr_iconst (v := 3) hX dL_law_394 (by decide) ?_
  refine kr_iadd hX dL_law_395 ?_
  refine kr_sld hX hS dL_law_396 (lw_ix (k := 3) (by omega) hLL) ?_
  refine kr_dV (c1 := 9) [_, _, _] hX km_L_46 dL_law_397 (sp_range hp hc hn) rfl rfl ⟨_, _, rfl⟩ (by decide) (Nat.le_of_ble_eq_true rfl) (Nat.le_of_ble_eq_true rfl) (Nat.le_of_ble_eq_true rfl) hp.1 ?_
  refine kr_aload_n (i := 2) hX dL_law_400 rfl rfl ?_
  refine kr_aload_n (i := 0) hX dL_law_401 rfl rfl ?_
  refine kr_iload_n (i := 3) hX dL_law_402 rfl rfl ?_
  refine kr_iconst (v := 1) hX dL_law_403 (by decide) ?_
  refine kr_iadd hX dL_law_404 ?_
  refine kr_sld hX hS dL_law_405 (lw_ix (k := 1) (by omega) hLL) ?_
  refine kr_aload_n (i := 0) hX dL_law_406 rfl rfl ?_
  refine kr_iload_n (i := 3) hX dL_law_407 rfl rfl ?_
  refine kr_iconst (v := 2) hX dL_law_408 (by decide) ?_
  refine kr_iadd hX dL_law_409 ?_
  refine kr_sld hX hS dL_law_410 (lw_ix (k := 2) (by omega) hLL) ?_
  refine kr_aload_n (i := 0) hX dL_law_411 rfl rfl ?_
  refine kr_iload_n (i := 3) hX dL_law_412 rfl rfl ?_
  refine kr_iconst (v := 3) hX dL_law_413 (by decide) ?_
  refine kr_iadd hX dL_law_414 ?_
  refine kr_sld hX hS dL_law_415 (lw_ix (k := 3) (by omega) hLL) ?_
  refine kr_dV (c1 := 10) [_, _, _] hX km_L_49 dL_law_416 (xs_range hm e) rfl rfl ⟨_, _, rfl⟩ (by decide) (Nat.le_of_ble_eq_true rfl) (Nat.le_of_ble_eq_true rfl) (Nat.le_of_ble_eq_true rfl) (md_k hm) ?_
  refine kr_icmp_eq (tgt := 1199) hX dL_law_419 (by decide) (fun _ => hnext _ hI) (fun c => absurd rfl c)
set_option maxHeartbeats 4000000 in
set_option maxRecDepth 100000 in
theorem lw_c_along {G : kt_G} {X : kt_X} (hX : kt_ok G X RL code 4 9 600000 7302250) {b L : Nat} {xs : Nat → Int32} (hS : kt_XS G X b L xs) (hLL : L ≤ 2560) {σ : kt_Y} {o m : Nat} (hp : kt_kt σ o) (hm : kt_md σ m) {i : Nat} {μ : kt_M} (hi : i + 5 ≤ L) (h : kInv μ o m) (hnext : ∀ μ1, kInv μ1 o m → kt_W G X 4 1199 [(0, .ref b), (1, .ref o), (2, .ref m), (3, .int (nI i))] [] σ μ1 541 5855 (lw_ZX X b)) : kt_W G X 4 424 [(0, .ref b), (1, .ref o), (2, .ref m), (3, .int (nI i))] [] σ μ 541 5855 (lw_ZX X b) := by
  obtain ⟨s0, s1, l0, hg, h9, hkk, ⟨hL, hL2⟩, hd, hw, himk⟩ := h.pre
  have hc := h9.1
  have hn := h9.2.1
  obtain ⟨n, μ1, e, hI⟩ := st_along h (xs (nI i + 1 : Int32).toNatClampNeg) (xs (nI i + 2 : Int32).toNatClampNeg) (xs (nI i + 3 : Int32).toNatClampNeg) (xs (nI i + 4 : Int32).toNatClampNeg)
  refine kr_aload_n (i := 1) hX dL_law_424 rfl rfl ?_
  refine kr_aload_n (i := 0) hX dL_law_425 rfl rfl ?_
  refine kr_iload_n (i := 3) hX dL_law_426 rfl rfl ?_
  refine kr_iconst (v := 1) hX dL_law_427 (by decide) ?_
  refine kr_iadd hX dL_law_428 ?_
  refine kr_sld hX hS dL_law_429 (lw_ix (k := 1) (by omega) hLL) ?_
  refine kr_aload_n (i := 0) hX dL_law_430 rfl rfl ?_
  refine kr_iload_n (i := 3) hX dL_law_431 rfl rfl ?_
  refine kr_iconst (v := 2) hX dL_law_432 (by decide) ?_
  refine kr_iadd hX dL_law_433 ?_
  refine kr_sld hX hS dL_law_434 (lw_ix (k := 2) (by omega) hLL) ?_
  refine kr_aload_n (i := 0) hX dL_law_435 rfl rfl ?_
  refine kr_iload_n (i := 3) hX dL_law_436 rfl rfl ?_
  refine kr_iconst (v := 3) hX dL_law_437 (by decide) ?_
  refine kr_iadd hX dL_law_438 ?_
  refine kr_sld hX hS dL_law_439 (lw_ix (k := 3) (by omega) hLL) ?_
  refine kr_aload_n (i := 0) hX dL_law_440 rfl rfl ?_
  refine kr_iload_n (i := 3) hX dL_law_441 rfl rfl ?_
  refine kr_iconst (v := 4) hX dL_law_442 (by decide) ?_
  refine kr_iadd hX dL_law_443 ?_
  refine kr_sld hX hS dL_law_444 (lw_ix (k := 4) (by omega) hLL) ?_
  refine kr_dV (c1 := 9) [_, _, _, _] hX km_L_50 dL_law_445 (sp_along hp hc hn) rfl rfl ⟨_, _, rfl⟩ (by decide) (Nat.le_of_ble_eq_true rfl) (Nat.le_of_ble_eq_true rfl) (Nat.le_of_ble_eq_true rfl) hp.1 ?_
  refine kr_aload_n (i := 2) hX dL_law_448 rfl rfl ?_
  refine kr_aload_n (i := 0) hX dL_law_449 rfl rfl ?_
  refine kr_iload_n (i := 3) hX dL_law_450 rfl rfl ?_
  refine kr_iconst (v := 1) hX dL_law_451 (by decide) ?_
  refine kr_iadd hX dL_law_452 ?_
  refine kr_sld hX hS dL_law_453 (lw_ix (k := 1) (by omega) hLL) ?_
  refine kr_aload_n (i := 0) hX dL_law_454 rfl rfl ?_
  refine kr_iload_n (i := 3) hX dL_law_455 rfl rfl ?_
  refine kr_iconst (v := 2) hX dL_law_456 (by decide) ?_
  refine kr_iadd hX dL_law_457 ?_
  refine kr_sld hX hS dL_law_458 (lw_ix (k := 2) (by omega) hLL) ?_
  refine kr_aload_n (i := 0) hX dL_law_459 rfl rfl ?_
  refine kr_iload_n (i := 3) hX dL_law_460 rfl rfl ?_
  refine kr_iconst (v := 3) hX dL_law_461 (by decide) ?_
  refine kr_iadd hX dL_law_462 ?_
  refine kr_sld hX hS dL_law_463 (lw_ix (k := 3) (by omega) hLL) ?_
  refine kr_aload_n (i := 0) hX dL_law_464 rfl rfl ?_
  refine kr_iload_n (i := 3) hX dL_law_465 rfl rfl ?_
  refine kr_iconst (v := 4) hX dL_law_466 (by decide) ?_
  refine kr_iadd hX dL_law_467 ?_
  refine kr_sld hX hS dL_law_468 (lw_ix (k := 4) (by omega) hLL) ?_
  refine kr_dV (c1 := 10) [_, _, _, _] hX km_L_53 dL_law_469 (xs_along hm e) rfl rfl ⟨_, _, rfl⟩ (by decide) (Nat.le_of_ble_eq_true rfl) (Nat.le_of_ble_eq_true rfl) (Nat.le_of_ble_eq_true rfl) (md_k hm) ?_
  refine kr_icmp_eq (tgt := 1199) hX dL_law_472 (by decide) (fun _ => hnext _ hI) (fun c => absurd rfl c)
set_option maxHeartbeats 4000000 in
set_option maxRecDepth 100000 in
theorem lw_c_outcome {G : kt_G} {X : kt_X} (hX : kt_ok G X RL code 4 9 600000 7302250) {b L : Nat} {xs : Nat → Int32} (hS : kt_XS G X b L xs) (hLL : L ≤ 2560) {σ : kt_Y} {o m : Nat} (hp : kt_kt σ o) (hm : kt_md σ m) {i : Nat} {μ : kt_M} (hi : i + 5 ≤ L) (h : kInv μ o m) (hnext : ∀ μ1, kInv μ1 o m → kt_W G X 4 1199 [(0, .ref b), (1, .ref o), (2, .ref m), (3, .int (nI i))] [] σ μ1 541 5855 (lw_ZX X b)) : kt_W G X 4 477 [(0, .ref b), (1, .ref o), (2, .ref m), (3, .int (nI i))] [] σ μ 541 5855 (lw_ZX X b) := by
  obtain ⟨s0, s1, l0, hg, h9, hkk, ⟨hL, hL2⟩, hd, hw, himk⟩ := h.pre
  have hc := h9.1
  have hn := h9.2.1
  obtain ⟨n, μ1, e, hI⟩ := st_outcome h (xs (nI i + 1 : Int32).toNatClampNeg)
  refine kr_aload_n (i := 1) hX dL_law_477 rfl rfl ?_
  refine kr_aload_n (i := 0) hX dL_law_478 rfl rfl ?_
  refine kr_iload_n (i := 3) hX dL_law_479 rfl rfl ?_
  refine kr_iconst (v := 1) hX dL_law_480 (by decide) ?_
  refine kr_iadd hX dL_law_481 ?_
  refine kr_sld hX hS dL_law_482 (lw_ix (k := 1) (by omega) hLL) ?_
  refine kr_dV (c1 := 9) [_] hX km_L_54 dL_law_483 (sp_outc hp hc hn) rfl rfl ⟨_, _, rfl⟩ (by decide) (Nat.le_of_ble_eq_true rfl) (Nat.le_of_ble_eq_true rfl) (Nat.le_of_ble_eq_true rfl) hp.1 ?_
  refine kr_aload_n (i := 2) hX dL_law_486 rfl rfl ?_
  refine kr_aload_n (i := 0) hX dL_law_487 rfl rfl ?_
  refine kr_iload_n (i := 3) hX dL_law_488 rfl rfl ?_
  refine kr_iconst (v := 1) hX dL_law_489 (by decide) ?_
  refine kr_iadd hX dL_law_490 ?_
  refine kr_sld hX hS dL_law_491 (lw_ix (k := 1) (by omega) hLL) ?_
  refine kr_dV (c1 := 10) [_] hX km_L_57 dL_law_492 (xs_outcome hm e) rfl rfl ⟨_, _, rfl⟩ (by decide) (Nat.le_of_ble_eq_true rfl) (Nat.le_of_ble_eq_true rfl) (Nat.le_of_ble_eq_true rfl) (md_k hm) ?_
  refine kr_icmp_eq (tgt := 1199) hX dL_law_495 (by decide) (fun _ => hnext _ hI) (fun c => absurd rfl c)
set_option maxHeartbeats 4000000 in
set_option maxRecDepth 100000 in
theorem lw_c_known {G : kt_G} {X : kt_X} (hX : kt_ok G X RL code 4 9 600000 7302250) {b L : Nat} {xs : Nat → Int32} (hS : kt_XS G X b L xs) (hLL : L ≤ 2560) {σ : kt_Y} {o m : Nat} (hp : kt_kt σ o) (hm : kt_md σ m) {i : Nat} {μ : kt_M} (hi : i + 5 ≤ L) (h : kInv μ o m) (hnext : ∀ μ1, kInv μ1 o m → kt_W G X 4 1199 [(0, .ref b), (1, .ref o), (2, .ref m), (3, .int (nI i))] [] σ μ1 541 5855 (lw_ZX X b)) : kt_W G X 4 500 [(0, .ref b), (1, .ref o), (2, .ref m), (3, .int (nI i))] [] σ μ 541 5855 (lw_ZX X b) := by
  obtain ⟨s0, s1, l0, hg, h9, hkk, ⟨hL, hL2⟩, hd, hw, himk⟩ := h.pre
  have hc := h9.1
  have hn := h9.2.1
  obtain ⟨n, μ1, e, hI⟩ := st_known h (xs (nI i + 1 : Int32).toNatClampNeg) (xs (nI i + 2 : Int32).toNatClampNeg)
  refine kr_aload_n (i := 1) hX dL_law_500 rfl rfl ?_
  refine kr_aload_n (i := 0) hX dL_law_501 rfl rfl ?_
  refine kr_iload_n (i := 3) hX dL_law_502 rfl rfl ?_
  refine kr_iconst (v := 1) hX dL_law_503 (by decide) ?_
  refine kr_iadd hX dL_law_504 ?_
  refine kr_sld hX hS dL_law_505 (lw_ix (k := 1) (by omega) hLL) ?_
  refine kr_aload_n (i := 0) hX dL_law_506 rfl rfl ?_
  refine kr_iload_n (i := 3) hX dL_law_507 rfl rfl ?_
  refine kr_iconst (v := 2) hX dL_law_508 (by decide) ?_
  refine kr_iadd hX dL_law_509 ?_
  refine kr_sld hX hS dL_law_510 (lw_ix (k := 2) (by omega) hLL) ?_
  refine kr_dV (c1 := 9) [_, _] hX km_L_58 dL_law_511 (sp_known hp hc hn) rfl rfl ⟨_, _, rfl⟩ (by decide) (Nat.le_of_ble_eq_true rfl) (Nat.le_of_ble_eq_true rfl) (Nat.le_of_ble_eq_true rfl) hp.1 ?_
  refine kr_aload_n (i := 2) hX dL_law_514 rfl rfl ?_
  refine kr_aload_n (i := 0) hX dL_law_515 rfl rfl ?_
  refine kr_iload_n (i := 3) hX dL_law_516 rfl rfl ?_
  refine kr_iconst (v := 1) hX dL_law_517 (by decide) ?_
  refine kr_iadd hX dL_law_518 ?_
  refine kr_sld hX hS dL_law_519 (lw_ix (k := 1) (by omega) hLL) ?_
  refine kr_aload_n (i := 0) hX dL_law_520 rfl rfl ?_
  refine kr_iload_n (i := 3) hX dL_law_521 rfl rfl ?_
  refine kr_iconst (v := 2) hX dL_law_522 (by decide) ?_
  refine kr_iadd hX dL_law_523 ?_
  refine kr_sld hX hS dL_law_524 (lw_ix (k := 2) (by omega) hLL) ?_
  refine kr_dV (c1 := 10) [_, _] hX km_L_61 dL_law_525 (xs_known hm e) rfl rfl ⟨_, _, rfl⟩ (by decide) (Nat.le_of_ble_eq_true rfl) (Nat.le_of_ble_eq_true rfl) (Nat.le_of_ble_eq_true rfl) (md_k hm) ?_
  refine kr_icmp_eq (tgt := 1199) hX dL_law_528 (by decide) (fun _ => hnext _ hI) (fun c => absurd rfl c)
set_option maxHeartbeats 4000000 in
set_option maxRecDepth 100000 in
theorem lw_c_why {G : kt_G} {X : kt_X} (hX : kt_ok G X RL code 4 9 600000 7302250) {b L : Nat} {xs : Nat → Int32} (hS : kt_XS G X b L xs) (hLL : L ≤ 2560) {σ : kt_Y} {o m : Nat} (hp : kt_kt σ o) (hm : kt_md σ m) {i : Nat} {μ : kt_M} (hi : i + 5 ≤ L) (h : kInv μ o m) (hnext : ∀ μ1, kInv μ1 o m → kt_W G X 4 1199 [(0, .ref b), (1, .ref o), (2, .ref m), (3, .int (nI i))] [] σ μ1 541 5855 (lw_ZX X b)) : kt_W G X 4 533 [(0, .ref b), (1, .ref o), (2, .ref m), (3, .int (nI i))] [] σ μ 541 5855 (lw_ZX X b) := by
  obtain ⟨s0, s1, l0, hg, h9, hkk, ⟨hL, hL2⟩, hd, hw, himk⟩ := h.pre
  have hc := h9.1
  have hn := h9.2.1
  obtain ⟨n, μ1, e, hI⟩ := st_why h (xs (nI i + 1 : Int32).toNatClampNeg) (xs (nI i + 2 : Int32).toNatClampNeg)
  refine kr_aload_n (i := 1) hX dL_law_533 rfl rfl ?_
  refine kr_aload_n (i := 0) hX dL_law_534 rfl rfl ?_
  refine kr_iload_n (i := 3) hX dL_law_535 rfl rfl ?_
  refine kr_iconst (v := 1) hX dL_law_536 (by decide) ?_
  refine kr_iadd hX dL_law_537 ?_
  refine kr_sld hX hS dL_law_538 (lw_ix (k := 1) (by omega) hLL) ?_
  refine kr_aload_n (i := 0) hX dL_law_539 rfl rfl ?_
  refine kr_iload_n (i := 3) hX dL_law_540 rfl rfl ?_
  refine kr_iconst (v := 2) hX dL_law_541 (by decide) ?_
  refine kr_iadd hX dL_law_542 ?_
  refine kr_sld hX hS dL_law_543 (lw_ix (k := 2) (by omega) hLL) ?_
  refine kr_dV (c1 := 9) [_, _] hX km_L_62 dL_law_544 (sp_why hp hc hn) rfl rfl ⟨_, _, rfl⟩ (by decide) (Nat.le_of_ble_eq_true rfl) (Nat.le_of_ble_eq_true rfl) (Nat.le_of_ble_eq_true rfl) hp.1 ?_
  refine kr_aload_n (i := 2) hX dL_law_547 rfl rfl ?_
  refine kr_aload_n (i := 0) hX dL_law_548 rfl rfl ?_
  refine kr_iload_n (i := 3) hX dL_law_549 rfl rfl ?_
  refine kr_iconst (v := 1) hX dL_law_550 (by decide) ?_
  refine kr_iadd hX dL_law_551 ?_
  refine kr_sld hX hS dL_law_552 (lw_ix (k := 1) (by omega) hLL) ?_
  refine kr_aload_n (i := 0) hX dL_law_553 rfl rfl ?_
  refine kr_iload_n (i := 3) hX dL_law_554 rfl rfl ?_
  refine kr_iconst (v := 2) hX dL_law_555 (by decide) ?_
  refine kr_iadd hX dL_law_556 ?_
  refine kr_sld hX hS dL_law_557 (lw_ix (k := 2) (by omega) hLL) ?_
  refine kr_dV (c1 := 10) [_, _] hX km_L_65 dL_law_558 (xs_why hm e) rfl rfl ⟨_, _, rfl⟩ (by decide) (Nat.le_of_ble_eq_true rfl) (Nat.le_of_ble_eq_true rfl) (Nat.le_of_ble_eq_true rfl) (md_k hm) ?_
  refine kr_icmp_eq (tgt := 1199) hX dL_law_561 (by decide) (fun _ => hnext _ hI) (fun c => absurd rfl c)
set_option maxHeartbeats 4000000 in
set_option maxRecDepth 100000 in
theorem lw_c_dominates {G : kt_G} {X : kt_X} (hX : kt_ok G X RL code 4 9 600000 7302250) {b L : Nat} {xs : Nat → Int32} (hS : kt_XS G X b L xs) (hLL : L ≤ 2560) {σ : kt_Y} {o m : Nat} (hp : kt_kt σ o) (hm : kt_md σ m) {i : Nat} {μ : kt_M} (hi : i + 5 ≤ L) (h : kInv μ o m) (hnext : ∀ μ1, kInv μ1 o m → kt_W G X 4 1199 [(0, .ref b), (1, .ref o), (2, .ref m), (3, .int (nI i))] [] σ μ1 541 5855 (lw_ZX X b)) : kt_W G X 4 566 [(0, .ref b), (1, .ref o), (2, .ref m), (3, .int (nI i))] [] σ μ 541 5855 (lw_ZX X b) := by
  obtain ⟨s0, s1, l0, hg, h9, hkk, ⟨hL, hL2⟩, hd, hw, himk⟩ := h.pre
  have hc := h9.1
  have hn := h9.2.1
  obtain ⟨n, μ1, e, hI⟩ := st_dominates h (xs (nI i + 1 : Int32).toNatClampNeg) (xs (nI i + 2 : Int32).toNatClampNeg)
  refine kr_aload_n (i := 1) hX dL_law_566 rfl rfl ?_
  refine kr_aload_n (i := 0) hX dL_law_567 rfl rfl ?_
  refine kr_iload_n (i := 3) hX dL_law_568 rfl rfl ?_
  refine kr_iconst (v := 1) hX dL_law_569 (by decide) ?_
  refine kr_iadd hX dL_law_570 ?_
  refine kr_sld hX hS dL_law_571 (lw_ix (k := 1) (by omega) hLL) ?_
  refine kr_aload_n (i := 0) hX dL_law_572 rfl rfl ?_
  refine kr_iload_n (i := 3) hX dL_law_573 rfl rfl ?_
  refine kr_iconst (v := 2) hX dL_law_574 (by decide) ?_
  refine kr_iadd hX dL_law_575 ?_
  refine kr_sld hX hS dL_law_576 (lw_ix (k := 2) (by omega) hLL) ?_
  refine kr_dV (c1 := 9) [_, _] hX km_L_66 dL_law_577 (sp_dom hp hc hn) rfl rfl ⟨_, _, rfl⟩ (by decide) (Nat.le_of_ble_eq_true rfl) (Nat.le_of_ble_eq_true rfl) (Nat.le_of_ble_eq_true rfl) hp.1 ?_
  refine kr_aload_n (i := 2) hX dL_law_580 rfl rfl ?_
  refine kr_aload_n (i := 0) hX dL_law_581 rfl rfl ?_
  refine kr_iload_n (i := 3) hX dL_law_582 rfl rfl ?_
  refine kr_iconst (v := 1) hX dL_law_583 (by decide) ?_
  refine kr_iadd hX dL_law_584 ?_
  refine kr_sld hX hS dL_law_585 (lw_ix (k := 1) (by omega) hLL) ?_
  refine kr_aload_n (i := 0) hX dL_law_586 rfl rfl ?_
  refine kr_iload_n (i := 3) hX dL_law_587 rfl rfl ?_
  refine kr_iconst (v := 2) hX dL_law_588 (by decide) ?_
  refine kr_iadd hX dL_law_589 ?_
  refine kr_sld hX hS dL_law_590 (lw_ix (k := 2) (by omega) hLL) ?_
  refine kr_dV (c1 := 10) [_, _] hX km_L_69 dL_law_591 (xs_dominates hm e) rfl rfl ⟨_, _, rfl⟩ (by decide) (Nat.le_of_ble_eq_true rfl) (Nat.le_of_ble_eq_true rfl) (Nat.le_of_ble_eq_true rfl) (md_k hm) ?_
  refine kr_icmp_eq (tgt := 1199) hX dL_law_594 (by decide) (fun _ => hnext _ hI) (fun c => absurd rfl c)
set_option maxHeartbeats 4000000 in
set_option maxRecDepth 100000 in
theorem lw_c_loop {G : kt_G} {X : kt_X} (hX : kt_ok G X RL code 4 9 600000 7302250) {b L : Nat} {xs : Nat → Int32} (hS : kt_XS G X b L xs) (hLL : L ≤ 2560) {σ : kt_Y} {o m : Nat} (hp : kt_kt σ o) (hm : kt_md σ m) {i : Nat} {μ : kt_M} (hi : i + 5 ≤ L) (h : kInv μ o m) (hnext : ∀ μ1, kInv μ1 o m → kt_W G X 4 1199 [(0, .ref b), (1, .ref o), (2, .ref m), (3, .int (nI i))] [] σ μ1 541 5855 (lw_ZX X b)) : kt_W G X 4 599 [(0, .ref b), (1, .ref o), (2, .ref m), (3, .int (nI i))] [] σ μ 541 5855 (lw_ZX X b) := by
  obtain ⟨s0, s1, l0, hg, h9, hkk, ⟨hL, hL2⟩, hd, hw, himk⟩ := h.pre
  have hc := h9.1
  have hn := h9.2.1
  obtain ⟨n, μ1, e, hI⟩ := st_loop h (xs (nI i + 1 : Int32).toNatClampNeg) (xs (nI i + 2 : Int32).toNatClampNeg)
  refine kr_aload_n (i := 1) hX dL_law_599 rfl rfl ?_
  refine kr_aload_n (i := 0) hX dL_law_600 rfl rfl ?_
  refine kr_iload_n (i := 3) hX dL_law_601 rfl rfl ?_
  refine kr_iconst (v := 1) hX dL_law_602 (by decide) ?_
  refine kr_iadd hX dL_law_603 ?_
  refine kr_sld hX hS dL_law_604 (lw_ix (k := 1) (by omega) hLL) ?_
  refine kr_aload_n (i := 0) hX dL_law_605 rfl rfl ?_
  refine kr_iload_n (i := 3) hX dL_law_606 rfl rfl ?_
  refine kr_iconst (v := 2) hX dL_law_607 (by decide) ?_
  refine kr_iadd hX dL_law_608 ?_
  refine kr_sld hX hS dL_law_609 (lw_ix (k := 2) (by omega) hLL) ?_
  refine kr_dV (c1 := 9) [_, _] hX km_L_70 dL_law_610 (sp_loop hp hc hn) rfl rfl ⟨_, _, rfl⟩ (by decide) (Nat.le_of_ble_eq_true rfl) (Nat.le_of_ble_eq_true rfl) (Nat.le_of_ble_eq_true rfl) hp.1 ?_
  refine kr_aload_n (i := 2) hX dL_law_613 rfl rfl ?_
  refine kr_aload_n (i := 0) hX dL_law_614 rfl rfl ?_
  refine kr_iload_n (i := 3) hX dL_law_615 rfl rfl ?_
  refine kr_iconst (v := 1) hX dL_law_616 (by decide) ?_
  refine kr_iadd hX dL_law_617 ?_
  refine kr_sld hX hS dL_law_618 (lw_ix (k := 1) (by omega) hLL) ?_
  refine kr_aload_n (i := 0) hX dL_law_619 rfl rfl ?_
  refine kr_iload_n (i := 3) hX dL_law_620 rfl rfl ?_
  refine kr_iconst (v := 2) hX dL_law_621 (by decide) ?_
  refine kr_iadd hX dL_law_622 ?_
  refine kr_sld hX hS dL_law_623 (lw_ix (k := 2) (by omega) hLL) ?_
  refine kr_dV (c1 := 10) [_, _] hX km_L_73 dL_law_624 (xs_loop hm e) rfl rfl ⟨_, _, rfl⟩ (by decide) (Nat.le_of_ble_eq_true rfl) (Nat.le_of_ble_eq_true rfl) (Nat.le_of_ble_eq_true rfl) (md_k hm) ?_
  refine kr_icmp_eq (tgt := 1199) hX dL_law_627 (by decide) (fun _ => hnext _ hI) (fun c => absurd rfl c)
set_option maxHeartbeats 4000000 in
set_option maxRecDepth 100000 in
theorem lw_c_thread {G : kt_G} {X : kt_X} (hX : kt_ok G X RL code 4 9 600000 7302250) {b L : Nat} {xs : Nat → Int32} (hS : kt_XS G X b L xs) (hLL : L ≤ 2560) {σ : kt_Y} {o m : Nat} (hp : kt_kt σ o) (hm : kt_md σ m) {i : Nat} {μ : kt_M} (hi : i + 5 ≤ L) (h : kInv μ o m) (hnext : ∀ μ1, kInv μ1 o m → kt_W G X 4 1199 [(0, .ref b), (1, .ref o), (2, .ref m), (3, .int (nI i))] [] σ μ1 541 5855 (lw_ZX X b)) : kt_W G X 4 632 [(0, .ref b), (1, .ref o), (2, .ref m), (3, .int (nI i))] [] σ μ 541 5855 (lw_ZX X b) := by
  obtain ⟨s0, s1, l0, hg, h9, hkk, ⟨hL, hL2⟩, hd, hw, himk⟩ := h.pre
  have hc := h9.1
  have hn := h9.2.1
  obtain ⟨n, μ1, e, hI⟩ := st_thread h (xs (nI i + 1 : Int32).toNatClampNeg) (xs (nI i + 2 : Int32).toNatClampNeg)
  refine kr_aload_n (i := 1) hX dL_law_632 rfl rfl ?_
  refine kr_aload_n (i := 0) hX dL_law_633 rfl rfl ?_
  refine kr_iload_n (i := 3) hX dL_law_634 rfl rfl ?_
  refine kr_iconst (v := 1) hX dL_law_635 (by decide) ?_
  refine kr_iadd hX dL_law_636 ?_
  refine kr_sld hX hS dL_law_637 (lw_ix (k := 1) (by omega) hLL) ?_
  refine kr_aload_n (i := 0) hX dL_law_638 rfl rfl ?_
  refine kr_iload_n (i := 3) hX dL_law_639 rfl rfl ?_
  refine kr_iconst (v := 2) hX dL_law_640 (by decide) ?_
  refine kr_iadd hX dL_law_641 ?_
  refine kr_sld hX hS dL_law_642 (lw_ix (k := 2) (by omega) hLL) ?_
  refine kr_dV (c1 := 9) [_, _] hX km_L_74 dL_law_643 (sp_thread hp h9) rfl rfl ⟨_, _, rfl⟩ (by decide) (Nat.le_of_ble_eq_true rfl) (Nat.le_of_ble_eq_true rfl) (Nat.le_of_ble_eq_true rfl) hp.1 ?_
  refine kr_aload_n (i := 2) hX dL_law_646 rfl rfl ?_
  refine kr_aload_n (i := 0) hX dL_law_647 rfl rfl ?_
  refine kr_iload_n (i := 3) hX dL_law_648 rfl rfl ?_
  refine kr_iconst (v := 1) hX dL_law_649 (by decide) ?_
  refine kr_iadd hX dL_law_650 ?_
  refine kr_sld hX hS dL_law_651 (lw_ix (k := 1) (by omega) hLL) ?_
  refine kr_aload_n (i := 0) hX dL_law_652 rfl rfl ?_
  refine kr_iload_n (i := 3) hX dL_law_653 rfl rfl ?_
  refine kr_iconst (v := 2) hX dL_law_654 (by decide) ?_
  refine kr_iadd hX dL_law_655 ?_
  refine kr_sld hX hS dL_law_656 (lw_ix (k := 2) (by omega) hLL) ?_
  refine kr_dV (c1 := 10) [_, _] hX km_L_77 dL_law_657 (xs_thread hm e) rfl rfl ⟨_, _, rfl⟩ (by decide) (Nat.le_of_ble_eq_true rfl) (Nat.le_of_ble_eq_true rfl) (Nat.le_of_ble_eq_true rfl) (md_k hm) ?_
  refine kr_icmp_eq (tgt := 1199) hX dL_law_660 (by decide) (fun _ => hnext _ hI) (fun c => absurd rfl c)
set_option maxHeartbeats 4000000 in
set_option maxRecDepth 100000 in
theorem lw_c_threads {G : kt_G} {X : kt_X} (hX : kt_ok G X RL code 4 9 600000 7302250) {b L : Nat} {xs : Nat → Int32} (hS : kt_XS G X b L xs) (hLL : L ≤ 2560) {σ : kt_Y} {o m : Nat} (hp : kt_kt σ o) (hm : kt_md σ m) {i : Nat} {μ : kt_M} (hi : i + 5 ≤ L) (h : kInv μ o m) (hnext : ∀ μ1, kInv μ1 o m → kt_W G X 4 1199 [(0, .ref b), (1, .ref o), (2, .ref m), (3, .int (nI i))] [] σ μ1 541 5855 (lw_ZX X b)) : kt_W G X 4 665 [(0, .ref b), (1, .ref o), (2, .ref m), (3, .int (nI i))] [] σ μ 541 5855 (lw_ZX X b) := by
  obtain ⟨s0, s1, l0, hg, h9, hkk, ⟨hL, hL2⟩, hd, hw, himk⟩ := h.pre
  have hc := h9.1
  have hn := h9.2.1
  obtain ⟨n, μ1, e, hI⟩ := st_threads h (xs (nI i + 1 : Int32).toNatClampNeg)
  refine kr_aload_n (i := 1) hX dL_law_665 rfl rfl ?_
  refine kr_aload_n (i := 0) hX dL_law_666 rfl rfl ?_
  refine kr_iload_n (i := 3) hX dL_law_667 rfl rfl ?_
  refine kr_iconst (v := 1) hX dL_law_668 (by decide) ?_
  refine kr_iadd hX dL_law_669 ?_
  refine kr_sld hX hS dL_law_670 (lw_ix (k := 1) (by omega) hLL) ?_
  refine kr_dV (c1 := 9) [_] hX km_L_78 dL_law_671 (sp_ths hp h9) rfl rfl ⟨_, _, rfl⟩ (by decide) (Nat.le_of_ble_eq_true rfl) (Nat.le_of_ble_eq_true rfl) (Nat.le_of_ble_eq_true rfl) hp.1 ?_
  refine kr_aload_n (i := 2) hX dL_law_674 rfl rfl ?_
  refine kr_aload_n (i := 0) hX dL_law_675 rfl rfl ?_
  refine kr_iload_n (i := 3) hX dL_law_676 rfl rfl ?_
  refine kr_iconst (v := 1) hX dL_law_677 (by decide) ?_
  refine kr_iadd hX dL_law_678 ?_
  refine kr_sld hX hS dL_law_679 (lw_ix (k := 1) (by omega) hLL) ?_
  refine kr_dV (c1 := 10) [_] hX km_L_81 dL_law_680 (xs_threads hm e) rfl rfl ⟨_, _, rfl⟩ (by decide) (Nat.le_of_ble_eq_true rfl) (Nat.le_of_ble_eq_true rfl) (Nat.le_of_ble_eq_true rfl) (md_k hm) ?_
  refine kr_icmp_eq (tgt := 1199) hX dL_law_683 (by decide) (fun _ => hnext _ hI) (fun c => absurd rfl c)
set_option maxHeartbeats 4000000 in
set_option maxRecDepth 100000 in
theorem lw_c_fold {G : kt_G} {X : kt_X} (hX : kt_ok G X RL code 4 9 600000 7302250) {b L : Nat} {xs : Nat → Int32} (hS : kt_XS G X b L xs) (hLL : L ≤ 2560) {σ : kt_Y} {o m : Nat} (hp : kt_kt σ o) (hm : kt_md σ m) {i : Nat} {μ : kt_M} (hi : i + 5 ≤ L) (h : kInv μ o m) (hnext : ∀ μ1, kInv μ1 o m → kt_W G X 4 1199 [(0, .ref b), (1, .ref o), (2, .ref m), (3, .int (nI i))] [] σ μ1 541 5855 (lw_ZX X b)) : kt_W G X 4 688 [(0, .ref b), (1, .ref o), (2, .ref m), (3, .int (nI i))] [] σ μ 541 5855 (lw_ZX X b) := by
  obtain ⟨s0, s1, l0, hg, h9, hkk, ⟨hL, hL2⟩, hd, hw, himk⟩ := h.pre
  have hc := h9.1
  have hn := h9.2.1
  obtain ⟨n, μ1, e, hI⟩ := st_fold h
  refine kr_aload_n (i := 1) hX dL_law_688 rfl rfl ?_
  refine kr_dV (c1 := 9) [] hX km_L_82 dL_law_689 (sp_fold hp h9) rfl rfl ⟨_, _, rfl⟩ (by decide) (Nat.le_of_ble_eq_true rfl) (Nat.le_of_ble_eq_true rfl) (Nat.le_of_ble_eq_true rfl) hp.1 ?_
  refine kr_aload_n (i := 2) hX dL_law_692 rfl rfl ?_
  refine kr_dV (c1 := 10) [] hX km_L_85 dL_law_693 (xs_fold hm e) rfl rfl ⟨_, _, rfl⟩ (by decide) (Nat.le_of_ble_eq_true rfl) (Nat.le_of_ble_eq_true rfl) (Nat.le_of_ble_eq_true rfl) (md_k hm) ?_
  refine kr_icmp_eq (tgt := 1199) hX dL_law_696 (by decide) (fun _ => hnext _ hI) (fun c => absurd rfl c)
set_option maxHeartbeats 4000000 in
set_option maxRecDepth 100000 in
theorem lw_c_sweep {G : kt_G} {X : kt_X} (hX : kt_ok G X RL code 4 9 600000 7302250) {b L : Nat} {xs : Nat → Int32} (hS : kt_XS G X b L xs) (hLL : L ≤ 2560) {σ : kt_Y} {o m : Nat} (hp : kt_kt σ o) (hm : kt_md σ m) {i : Nat} {μ : kt_M} (hi : i + 5 ≤ L) (h : kInv μ o m) (hnext : ∀ μ1, kInv μ1 o m → kt_W G X 4 1199 [(0, .ref b), (1, .ref o), (2, .ref m), (3, .int (nI i))] [] σ μ1 541 5855 (lw_ZX X b)) : kt_W G X 4 701 [(0, .ref b), (1, .ref o), (2, .ref m), (3, .int (nI i))] [] σ μ 541 5855 (lw_ZX X b) := by
  obtain ⟨s0, s1, l0, hg, h9, hkk, ⟨hL, hL2⟩, hd, hw, himk⟩ := h.pre
  have hc := h9.1
  have hn := h9.2.1
  obtain ⟨n, μ1, e, hI⟩ := st_sweep h
  refine kr_aload_n (i := 1) hX dL_law_701 rfl rfl ?_
  refine kr_dV (c1 := 9) [] hX km_L_86 dL_law_702 (sp_sweep hp h9) rfl rfl ⟨_, _, rfl⟩ (by decide) (Nat.le_of_ble_eq_true rfl) (Nat.le_of_ble_eq_true rfl) (Nat.le_of_ble_eq_true rfl) hp.1 ?_
  refine kr_aload_n (i := 2) hX dL_law_705 rfl rfl ?_
  refine kr_dV (c1 := 10) [] hX km_L_89 dL_law_706 (xs_sweep hm e) rfl rfl ⟨_, _, rfl⟩ (by decide) (Nat.le_of_ble_eq_true rfl) (Nat.le_of_ble_eq_true rfl) (Nat.le_of_ble_eq_true rfl) (md_k hm) ?_
  refine kr_icmp_eq (tgt := 1199) hX dL_law_709 (by decide) (fun _ => hnext _ hI) (fun c => absurd rfl c)
set_option maxHeartbeats 4000000 in
set_option maxRecDepth 100000 in
theorem lw_c_limit {G : kt_G} {X : kt_X} (hX : kt_ok G X RL code 4 9 600000 7302250) {b L : Nat} {xs : Nat → Int32} (hS : kt_XS G X b L xs) (hLL : L ≤ 2560) {σ : kt_Y} {o m : Nat} (hp : kt_kt σ o) (hm : kt_md σ m) {i : Nat} {μ : kt_M} (hi : i + 5 ≤ L) (h : kInv μ o m) (hnext : ∀ μ1, kInv μ1 o m → kt_W G X 4 1199 [(0, .ref b), (1, .ref o), (2, .ref m), (3, .int (nI i))] [] σ μ1 541 5855 (lw_ZX X b)) : kt_W G X 4 714 [(0, .ref b), (1, .ref o), (2, .ref m), (3, .int (nI i))] [] σ μ 541 5855 (lw_ZX X b) := by
  obtain ⟨s0, s1, l0, hg, h9, hkk, ⟨hL, hL2⟩, hd, hw, himk⟩ := h.pre
  have hc := h9.1
  have hn := h9.2.1
  obtain ⟨n, μ1, e, hI⟩ := st_limit h (xs (nI i + 1 : Int32).toNatClampNeg)
  refine kr_aload_n (i := 1) hX dL_law_714 rfl rfl ?_
  refine kr_aload_n (i := 0) hX dL_law_715 rfl rfl ?_
  refine kr_iload_n (i := 3) hX dL_law_716 rfl rfl ?_
  refine kr_iconst (v := 1) hX dL_law_717 (by decide) ?_
  refine kr_iadd hX dL_law_718 ?_
  refine kr_sld hX hS dL_law_719 (lw_ix (k := 1) (by omega) hLL) ?_
  refine kr_dV (c1 := 9) [_] hX km_L_90 dL_law_720 (sp_limit hp) rfl rfl ⟨_, _, rfl⟩ (by decide) (Nat.le_of_ble_eq_true rfl) (Nat.le_of_ble_eq_true rfl) (Nat.le_of_ble_eq_true rfl) hp.1 ?_
  refine kr_aload_n (i := 2) hX dL_law_723 rfl rfl ?_
  refine kr_aload_n (i := 0) hX dL_law_724 rfl rfl ?_
  refine kr_iload_n (i := 3) hX dL_law_725 rfl rfl ?_
  refine kr_iconst (v := 1) hX dL_law_726 (by decide) ?_
  refine kr_iadd hX dL_law_727 ?_
  refine kr_sld hX hS dL_law_728 (lw_ix (k := 1) (by omega) hLL) ?_
  refine kr_dV (c1 := 10) [_] hX km_L_93 dL_law_729 (xs_limit hm e) rfl rfl ⟨_, _, rfl⟩ (by decide) (Nat.le_of_ble_eq_true rfl) (Nat.le_of_ble_eq_true rfl) (Nat.le_of_ble_eq_true rfl) (md_k hm) ?_
  refine kr_icmp_eq (tgt := 1199) hX dL_law_732 (by decide) (fun _ => hnext _ hI) (fun c => absurd rfl c)
set_option maxHeartbeats 4000000 in
set_option maxRecDepth 100000 in
theorem lw_c_input {G : kt_G} {X : kt_X} (hX : kt_ok G X RL code 4 9 600000 7302250) {b L : Nat} {xs : Nat → Int32} (hS : kt_XS G X b L xs) (hLL : L ≤ 2560) {σ : kt_Y} {o m : Nat} (hp : kt_kt σ o) (hm : kt_md σ m) {i : Nat} {μ : kt_M} (hi : i + 5 ≤ L) (h : kInv μ o m) (hnext : ∀ μ1, kInv μ1 o m → kt_W G X 4 1199 [(0, .ref b), (1, .ref o), (2, .ref m), (3, .int (nI i))] [] σ μ1 541 5855 (lw_ZX X b)) : kt_W G X 4 737 [(0, .ref b), (1, .ref o), (2, .ref m), (3, .int (nI i))] [] σ μ 541 5855 (lw_ZX X b) := by
  obtain ⟨s0, s1, l0, hg, h9, hkk, ⟨hL, hL2⟩, hd, hw, himk⟩ := h.pre
  have hc := h9.1
  have hn := h9.2.1
  obtain ⟨n, μ1, e, hI⟩ := st_input h (xs (nI i + 1 : Int32).toNatClampNeg) (xs (nI i + 2 : Int32).toNatClampNeg)
  refine kr_aload_n (i := 1) hX dL_law_737 rfl rfl ?_
  refine kr_aload_n (i := 0) hX dL_law_738 rfl rfl ?_
  refine kr_iload_n (i := 3) hX dL_law_739 rfl rfl ?_
  refine kr_iconst (v := 1) hX dL_law_740 (by decide) ?_
  refine kr_iadd hX dL_law_741 ?_
  refine kr_sld hX hS dL_law_742 (lw_ix (k := 1) (by omega) hLL) ?_
  refine kr_aload_n (i := 0) hX dL_law_743 rfl rfl ?_
  refine kr_iload_n (i := 3) hX dL_law_744 rfl rfl ?_
  refine kr_iconst (v := 2) hX dL_law_745 (by decide) ?_
  refine kr_iadd hX dL_law_746 ?_
  refine kr_sld hX hS dL_law_747 (lw_ix (k := 2) (by omega) hLL) ?_
  refine kr_dV (c1 := 9) [_, _] hX km_L_94 dL_law_748 (sp_input hp) rfl rfl ⟨_, _, rfl⟩ (by decide) (Nat.le_of_ble_eq_true rfl) (Nat.le_of_ble_eq_true rfl) (Nat.le_of_ble_eq_true rfl) hp.1 ?_
  refine kr_aload_n (i := 2) hX dL_law_751 rfl rfl ?_
  refine kr_aload_n (i := 0) hX dL_law_752 rfl rfl ?_
  refine kr_iload_n (i := 3) hX dL_law_753 rfl rfl ?_
  refine kr_iconst (v := 1) hX dL_law_754 (by decide) ?_
  refine kr_iadd hX dL_law_755 ?_
  refine kr_sld hX hS dL_law_756 (lw_ix (k := 1) (by omega) hLL) ?_
  refine kr_aload_n (i := 0) hX dL_law_757 rfl rfl ?_
  refine kr_iload_n (i := 3) hX dL_law_758 rfl rfl ?_
  refine kr_iconst (v := 2) hX dL_law_759 (by decide) ?_
  refine kr_iadd hX dL_law_760 ?_
  refine kr_sld hX hS dL_law_761 (lw_ix (k := 2) (by omega) hLL) ?_
  refine kr_dV (c1 := 10) [_, _] hX km_L_97 dL_law_762 (xs_input hm e) rfl rfl ⟨_, _, rfl⟩ (by decide) (Nat.le_of_ble_eq_true rfl) (Nat.le_of_ble_eq_true rfl) (Nat.le_of_ble_eq_true rfl) (md_k hm) ?_
  refine kr_icmp_eq (tgt := 1199) hX dL_law_765 (by decide) (fun _ => hnext _ hI) (fun c => absurd rfl c)
set_option maxHeartbeats 4000000 in
set_option maxRecDepth 100000 in
theorem lw_c_ran {G : kt_G} {X : kt_X} (hX : kt_ok G X RL code 4 9 600000 7302250) {b L : Nat} {xs : Nat → Int32} (hS : kt_XS G X b L xs) (hLL : L ≤ 2560) {σ : kt_Y} {o m : Nat} (hp : kt_kt σ o) (hm : kt_md σ m) {i : Nat} {μ : kt_M} (hi : i + 5 ≤ L) (h : kInv μ o m) (hnext : ∀ μ1, kInv μ1 o m → kt_W G X 4 1199 [(0, .ref b), (1, .ref o), (2, .ref m), (3, .int (nI i))] [] σ μ1 541 5855 (lw_ZX X b)) : kt_W G X 4 770 [(0, .ref b), (1, .ref o), (2, .ref m), (3, .int (nI i))] [] σ μ 541 5855 (lw_ZX X b) := by
  obtain ⟨s0, s1, l0, hg, h9, hkk, ⟨hL, hL2⟩, hd, hw, himk⟩ := h.pre
  have hc := h9.1
  have hn := h9.2.1
  obtain ⟨n, μ1, e, hI⟩ := st_ran h (xs (nI i + 1 : Int32).toNatClampNeg) (xs (nI i + 2 : Int32).toNatClampNeg)
  refine kr_aload_n (i := 1) hX dL_law_770 rfl rfl ?_
  refine kr_aload_n (i := 0) hX dL_law_771 rfl rfl ?_
  refine kr_iload_n (i := 3) hX dL_law_772 rfl rfl ?_
  refine kr_iconst (v := 1) hX dL_law_773 (by decide) ?_
  refine kr_iadd hX dL_law_774 ?_
  refine kr_sld hX hS dL_law_775 (lw_ix (k := 1) (by omega) hLL) ?_
  refine kr_aload_n (i := 0) hX dL_law_776 rfl rfl ?_
  refine kr_iload_n (i := 3) hX dL_law_777 rfl rfl ?_
  refine kr_iconst (v := 2) hX dL_law_778 (by decide) ?_
  refine kr_iadd hX dL_law_779 ?_
  refine kr_sld hX hS dL_law_780 (lw_ix (k := 2) (by omega) hLL) ?_
  refine kr_dV (c1 := 9) [_, _] hX km_L_98 dL_law_781 (sp_ran hp hg hc) rfl rfl ⟨_, _, rfl⟩ (by decide) (Nat.le_of_ble_eq_true rfl) (Nat.le_of_ble_eq_true rfl) (Nat.le_of_ble_eq_true rfl) hp.1 ?_
  refine kr_aload_n (i := 2) hX dL_law_784 rfl rfl ?_
  refine kr_aload_n (i := 0) hX dL_law_785 rfl rfl ?_
  refine kr_iload_n (i := 3) hX dL_law_786 rfl rfl ?_
  refine kr_iconst (v := 1) hX dL_law_787 (by decide) ?_
  refine kr_iadd hX dL_law_788 ?_
  refine kr_sld hX hS dL_law_789 (lw_ix (k := 1) (by omega) hLL) ?_
  refine kr_aload_n (i := 0) hX dL_law_790 rfl rfl ?_
  refine kr_iload_n (i := 3) hX dL_law_791 rfl rfl ?_
  refine kr_iconst (v := 2) hX dL_law_792 (by decide) ?_
  refine kr_iadd hX dL_law_793 ?_
  refine kr_sld hX hS dL_law_794 (lw_ix (k := 2) (by omega) hLL) ?_
  refine kr_dV (c1 := 10) [_, _] hX km_L_101 dL_law_795 (xs_ran hm e) rfl rfl ⟨_, _, rfl⟩ (by decide) (Nat.le_of_ble_eq_true rfl) (Nat.le_of_ble_eq_true rfl) (Nat.le_of_ble_eq_true rfl) (md_k hm) ?_
  refine kr_icmp_eq (tgt := 1199) hX dL_law_798 (by decide) (fun _ => hnext _ hI) (fun c => absurd rfl c)
set_option maxHeartbeats 4000000 in
set_option maxRecDepth 100000 in
theorem lw_c_wrote {G : kt_G} {X : kt_X} (hX : kt_ok G X RL code 4 9 600000 7302250) {b L : Nat} {xs : Nat → Int32} (hS : kt_XS G X b L xs) (hLL : L ≤ 2560) {σ : kt_Y} {o m : Nat} (hp : kt_kt σ o) (hm : kt_md σ m) {i : Nat} {μ : kt_M} (hi : i + 5 ≤ L) (h : kInv μ o m) (hnext : ∀ μ1, kInv μ1 o m → kt_W G X 4 1199 [(0, .ref b), (1, .ref o), (2, .ref m), (3, .int (nI i))] [] σ μ1 541 5855 (lw_ZX X b)) : kt_W G X 4 803 [(0, .ref b), (1, .ref o), (2, .ref m), (3, .int (nI i))] [] σ μ 541 5855 (lw_ZX X b) := by
  obtain ⟨s0, s1, l0, hg, h9, hkk, ⟨hL, hL2⟩, hd, hw, himk⟩ := h.pre
  have hc := h9.1
  have hn := h9.2.1
  obtain ⟨n, μ1, e, hI⟩ := st_wrote h (xs (nI i + 1 : Int32).toNatClampNeg) (xs (nI i + 2 : Int32).toNatClampNeg)
  refine kr_aload_n (i := 1) hX dL_law_803 rfl rfl ?_
  refine kr_aload_n (i := 0) hX dL_law_804 rfl rfl ?_
  refine kr_iload_n (i := 3) hX dL_law_805 rfl rfl ?_
  refine kr_iconst (v := 1) hX dL_law_806 (by decide) ?_
  refine kr_iadd hX dL_law_807 ?_
  refine kr_sld hX hS dL_law_808 (lw_ix (k := 1) (by omega) hLL) ?_
  refine kr_aload_n (i := 0) hX dL_law_809 rfl rfl ?_
  refine kr_iload_n (i := 3) hX dL_law_810 rfl rfl ?_
  refine kr_iconst (v := 2) hX dL_law_811 (by decide) ?_
  refine kr_iadd hX dL_law_812 ?_
  refine kr_sld hX hS dL_law_813 (lw_ix (k := 2) (by omega) hLL) ?_
  refine kr_dV (c1 := 9) [_, _] hX km_L_102 dL_law_814 (sp_wrote hp hg hc) rfl rfl ⟨_, _, rfl⟩ (by decide) (Nat.le_of_ble_eq_true rfl) (Nat.le_of_ble_eq_true rfl) (Nat.le_of_ble_eq_true rfl) hp.1 ?_
  refine kr_aload_n (i := 2) hX dL_law_817 rfl rfl ?_
  refine kr_aload_n (i := 0) hX dL_law_818 rfl rfl ?_
  refine kr_iload_n (i := 3) hX dL_law_819 rfl rfl ?_
  refine kr_iconst (v := 1) hX dL_law_820 (by decide) ?_
  refine kr_iadd hX dL_law_821 ?_
  refine kr_sld hX hS dL_law_822 (lw_ix (k := 1) (by omega) hLL) ?_
  refine kr_aload_n (i := 0) hX dL_law_823 rfl rfl ?_
  refine kr_iload_n (i := 3) hX dL_law_824 rfl rfl ?_
  refine kr_iconst (v := 2) hX dL_law_825 (by decide) ?_
  refine kr_iadd hX dL_law_826 ?_
  refine kr_sld hX hS dL_law_827 (lw_ix (k := 2) (by omega) hLL) ?_
  refine kr_dV (c1 := 10) [_, _] hX km_L_105 dL_law_828 (xs_wrote hm e) rfl rfl ⟨_, _, rfl⟩ (by decide) (Nat.le_of_ble_eq_true rfl) (Nat.le_of_ble_eq_true rfl) (Nat.le_of_ble_eq_true rfl) (md_k hm) ?_
  refine kr_icmp_eq (tgt := 1199) hX dL_law_831 (by decide) (fun _ => hnext _ hI) (fun c => absurd rfl c)
set_option maxHeartbeats 4000000 in
set_option maxRecDepth 100000 in
theorem lw_c_path {G : kt_G} {X : kt_X} (hX : kt_ok G X RL code 4 9 600000 7302250) {b L : Nat} {xs : Nat → Int32} (hS : kt_XS G X b L xs) (hLL : L ≤ 2560) {σ : kt_Y} {o m : Nat} (hp : kt_kt σ o) (hm : kt_md σ m) {i : Nat} {μ : kt_M} (hi : i + 5 ≤ L) (h : kInv μ o m) (hnext : ∀ μ1, kInv μ1 o m → kt_W G X 4 1199 [(0, .ref b), (1, .ref o), (2, .ref m), (3, .int (nI i))] [] σ μ1 541 5855 (lw_ZX X b)) : kt_W G X 4 836 [(0, .ref b), (1, .ref o), (2, .ref m), (3, .int (nI i))] [] σ μ 541 5855 (lw_ZX X b) := by
  obtain ⟨s0, s1, l0, hg, h9, hkk, ⟨hL, hL2⟩, hd, hw, himk⟩ := h.pre
  have hc := h9.1
  have hn := h9.2.1
  obtain ⟨n, μ1, e, hI⟩ := st_path h (xs (nI i + 1 : Int32).toNatClampNeg) (xs (nI i + 2 : Int32).toNatClampNeg)
  refine kr_aload_n (i := 1) hX dL_law_836 rfl rfl ?_
  refine kr_aload_n (i := 0) hX dL_law_837 rfl rfl ?_
  refine kr_iload_n (i := 3) hX dL_law_838 rfl rfl ?_
  refine kr_iconst (v := 1) hX dL_law_839 (by decide) ?_
  refine kr_iadd hX dL_law_840 ?_
  refine kr_sld hX hS dL_law_841 (lw_ix (k := 1) (by omega) hLL) ?_
  refine kr_aload_n (i := 0) hX dL_law_842 rfl rfl ?_
  refine kr_iload_n (i := 3) hX dL_law_843 rfl rfl ?_
  refine kr_iconst (v := 2) hX dL_law_844 (by decide) ?_
  refine kr_iadd hX dL_law_845 ?_
  refine kr_sld hX hS dL_law_846 (lw_ix (k := 2) (by omega) hLL) ?_
  refine kr_dV (c1 := 9) [_, _] hX km_L_106 dL_law_847 (sp_path hp hg hc) rfl rfl ⟨_, _, rfl⟩ (by decide) (Nat.le_of_ble_eq_true rfl) (Nat.le_of_ble_eq_true rfl) (Nat.le_of_ble_eq_true rfl) hp.1 ?_
  refine kr_aload_n (i := 2) hX dL_law_850 rfl rfl ?_
  refine kr_aload_n (i := 0) hX dL_law_851 rfl rfl ?_
  refine kr_iload_n (i := 3) hX dL_law_852 rfl rfl ?_
  refine kr_iconst (v := 1) hX dL_law_853 (by decide) ?_
  refine kr_iadd hX dL_law_854 ?_
  refine kr_sld hX hS dL_law_855 (lw_ix (k := 1) (by omega) hLL) ?_
  refine kr_aload_n (i := 0) hX dL_law_856 rfl rfl ?_
  refine kr_iload_n (i := 3) hX dL_law_857 rfl rfl ?_
  refine kr_iconst (v := 2) hX dL_law_858 (by decide) ?_
  refine kr_iadd hX dL_law_859 ?_
  refine kr_sld hX hS dL_law_860 (lw_ix (k := 2) (by omega) hLL) ?_
  refine kr_dV (c1 := 10) [_, _] hX km_L_109 dL_law_861 (xs_path hm e) rfl rfl ⟨_, _, rfl⟩ (by decide) (Nat.le_of_ble_eq_true rfl) (Nat.le_of_ble_eq_true rfl) (Nat.le_of_ble_eq_true rfl) (md_k hm) ?_
  refine kr_icmp_eq (tgt := 1199) hX dL_law_864 (by decide) (fun _ => hnext _ hI) (fun c => absurd rfl c)
set_option maxHeartbeats 4000000 in
set_option maxRecDepth 100000 in
theorem lw_c_saved {G : kt_G} {X : kt_X} (hX : kt_ok G X RL code 4 9 600000 7302250) {b L : Nat} {xs : Nat → Int32} (hS : kt_XS G X b L xs) (hLL : L ≤ 2560) {σ : kt_Y} {o m : Nat} (hp : kt_kt σ o) (hm : kt_md σ m) {i : Nat} {μ : kt_M} (hi : i + 5 ≤ L) (h : kInv μ o m) (hnext : ∀ μ1, kInv μ1 o m → kt_W G X 4 1199 [(0, .ref b), (1, .ref o), (2, .ref m), (3, .int (nI i))] [] σ μ1 541 5855 (lw_ZX X b)) : kt_W G X 4 869 [(0, .ref b), (1, .ref o), (2, .ref m), (3, .int (nI i))] [] σ μ 541 5855 (lw_ZX X b) := by
  obtain ⟨s0, s1, l0, hg, h9, hkk, ⟨hL, hL2⟩, hd, hw, himk⟩ := h.pre
  have hc := h9.1
  have hn := h9.2.1
  obtain ⟨n, μ1, e, hI⟩ := st_saved h (xs (nI i + 1 : Int32).toNatClampNeg) (xs (nI i + 2 : Int32).toNatClampNeg)
  refine kr_aload_n (i := 1) hX dL_law_869 rfl rfl ?_
  refine kr_aload_n (i := 0) hX dL_law_870 rfl rfl ?_
  refine kr_iload_n (i := 3) hX dL_law_871 rfl rfl ?_
  refine kr_iconst (v := 1) hX dL_law_872 (by decide) ?_
  refine kr_iadd hX dL_law_873 ?_
  refine kr_sld hX hS dL_law_874 (lw_ix (k := 1) (by omega) hLL) ?_
  refine kr_aload_n (i := 0) hX dL_law_875 rfl rfl ?_
  refine kr_iload_n (i := 3) hX dL_law_876 rfl rfl ?_
  refine kr_iconst (v := 2) hX dL_law_877 (by decide) ?_
  refine kr_iadd hX dL_law_878 ?_
  refine kr_sld hX hS dL_law_879 (lw_ix (k := 2) (by omega) hLL) ?_
  refine kr_dV (c1 := 9) [_, _] hX km_L_110 dL_law_880 (sp_saved hp hg hc) rfl rfl ⟨_, _, rfl⟩ (by decide) (Nat.le_of_ble_eq_true rfl) (Nat.le_of_ble_eq_true rfl) (Nat.le_of_ble_eq_true rfl) hp.1 ?_
  refine kr_aload_n (i := 2) hX dL_law_883 rfl rfl ?_
  refine kr_aload_n (i := 0) hX dL_law_884 rfl rfl ?_
  refine kr_iload_n (i := 3) hX dL_law_885 rfl rfl ?_
  refine kr_iconst (v := 1) hX dL_law_886 (by decide) ?_
  refine kr_iadd hX dL_law_887 ?_
  refine kr_sld hX hS dL_law_888 (lw_ix (k := 1) (by omega) hLL) ?_
  refine kr_aload_n (i := 0) hX dL_law_889 rfl rfl ?_
  refine kr_iload_n (i := 3) hX dL_law_890 rfl rfl ?_
  refine kr_iconst (v := 2) hX dL_law_891 (by decide) ?_
  refine kr_iadd hX dL_law_892 ?_
  refine kr_sld hX hS dL_law_893 (lw_ix (k := 2) (by omega) hLL) ?_
  refine kr_dV (c1 := 10) [_, _] hX km_L_113 dL_law_894 (xs_saved hm e) rfl rfl ⟨_, _, rfl⟩ (by decide) (Nat.le_of_ble_eq_true rfl) (Nat.le_of_ble_eq_true rfl) (Nat.le_of_ble_eq_true rfl) (md_k hm) ?_
  refine kr_icmp_eq (tgt := 1199) hX dL_law_897 (by decide) (fun _ => hnext _ hI) (fun c => absurd rfl c)
set_option maxHeartbeats 4000000 in
set_option maxRecDepth 100000 in
theorem lw_c_lead {G : kt_G} {X : kt_X} (hX : kt_ok G X RL code 4 9 600000 7302250) {b L : Nat} {xs : Nat → Int32} (hS : kt_XS G X b L xs) (hLL : L ≤ 2560) {σ : kt_Y} {o m : Nat} (hp : kt_kt σ o) (hm : kt_md σ m) {i : Nat} {μ : kt_M} (hi : i + 5 ≤ L) (h : kInv μ o m) (hnext : ∀ μ1, kInv μ1 o m → kt_W G X 4 1199 [(0, .ref b), (1, .ref o), (2, .ref m), (3, .int (nI i))] [] σ μ1 541 5855 (lw_ZX X b)) : kt_W G X 4 902 [(0, .ref b), (1, .ref o), (2, .ref m), (3, .int (nI i))] [] σ μ 541 5855 (lw_ZX X b) := by
  obtain ⟨s0, s1, l0, hg, h9, hkk, ⟨hL, hL2⟩, hd, hw, himk⟩ := h.pre
  have hc := h9.1
  have hn := h9.2.1
  obtain ⟨n, μ1, e, hI⟩ := st_lead h (xs (nI i + 1 : Int32).toNatClampNeg) (xs (nI i + 2 : Int32).toNatClampNeg) (xs (nI i + 3 : Int32).toNatClampNeg)
  refine kr_aload_n (i := 1) hX dL_law_902 rfl rfl ?_
  refine kr_aload_n (i := 0) hX dL_law_903 rfl rfl ?_
  refine kr_iload_n (i := 3) hX dL_law_904 rfl rfl ?_
  refine kr_iconst (v := 1) hX dL_law_905 (by decide) ?_
  refine kr_iadd hX dL_law_906 ?_
  refine kr_sld hX hS dL_law_907 (lw_ix (k := 1) (by omega) hLL) ?_
  refine kr_aload_n (i := 0) hX dL_law_908 rfl rfl ?_
  refine kr_iload_n (i := 3) hX dL_law_909 rfl rfl ?_
  refine kr_iconst (v := 2) hX dL_law_910 (by decide) ?_
  refine kr_iadd hX dL_law_911 ?_
  refine kr_sld hX hS dL_law_912 (lw_ix (k := 2) (by omega) hLL) ?_
  refine kr_aload_n (i := 0) hX dL_law_913 rfl rfl ?_
  refine kr_iload_n (i := 3) hX dL_law_914 rfl rfl ?_
  refine kr_iconst (v := 3) hX dL_law_915 (by decide) ?_
  refine kr_iadd hX dL_law_916 ?_
  refine kr_sld hX hS dL_law_917 (lw_ix (k := 3) (by omega) hLL) ?_
  refine kr_dV (c1 := 9) [_, _, _] hX km_L_114 dL_law_918 (sp_lead hp hg) rfl rfl ⟨_, _, rfl⟩ (by decide) (Nat.le_of_ble_eq_true rfl) (Nat.le_of_ble_eq_true rfl) (Nat.le_of_ble_eq_true rfl) hp.1 ?_
  refine kr_aload_n (i := 2) hX dL_law_921 rfl rfl ?_
  refine kr_aload_n (i := 0) hX dL_law_922 rfl rfl ?_
  refine kr_iload_n (i := 3) hX dL_law_923 rfl rfl ?_
  refine kr_iconst (v := 1) hX dL_law_924 (by decide) ?_
  refine kr_iadd hX dL_law_925 ?_
  refine kr_sld hX hS dL_law_926 (lw_ix (k := 1) (by omega) hLL) ?_
  refine kr_aload_n (i := 0) hX dL_law_927 rfl rfl ?_
  refine kr_iload_n (i := 3) hX dL_law_928 rfl rfl ?_
  refine kr_iconst (v := 2) hX dL_law_929 (by decide) ?_
  refine kr_iadd hX dL_law_930 ?_
  refine kr_sld hX hS dL_law_931 (lw_ix (k := 2) (by omega) hLL) ?_
  refine kr_aload_n (i := 0) hX dL_law_932 rfl rfl ?_
  refine kr_iload_n (i := 3) hX dL_law_933 rfl rfl ?_
  refine kr_iconst (v := 3) hX dL_law_934 (by decide) ?_
  refine kr_iadd hX dL_law_935 ?_
  refine kr_sld hX hS dL_law_936 (lw_ix (k := 3) (by omega) hLL) ?_
  refine kr_dV (c1 := 10) [_, _, _] hX km_L_117 dL_law_937 (xs_lead hm e) rfl rfl ⟨_, _, rfl⟩ (by decide) (Nat.le_of_ble_eq_true rfl) (Nat.le_of_ble_eq_true rfl) (Nat.le_of_ble_eq_true rfl) (md_k hm) ?_
  refine kr_icmp_eq (tgt := 1199) hX dL_law_940 (by decide) (fun _ => hnext _ hI) (fun c => absurd rfl c)
set_option maxHeartbeats 4000000 in
set_option maxRecDepth 100000 in
theorem lw_c_draw {G : kt_G} {X : kt_X} (hX : kt_ok G X RL code 4 9 600000 7302250) {b L : Nat} {xs : Nat → Int32} (hS : kt_XS G X b L xs) (hLL : L ≤ 2560) {σ : kt_Y} {o m : Nat} (hp : kt_kt σ o) (hm : kt_md σ m) {i : Nat} {μ : kt_M} (hi : i + 5 ≤ L) (h : kInv μ o m) (hnext : ∀ μ1, kInv μ1 o m → kt_W G X 4 1199 [(0, .ref b), (1, .ref o), (2, .ref m), (3, .int (nI i))] [] σ μ1 541 5855 (lw_ZX X b)) : kt_W G X 4 945 [(0, .ref b), (1, .ref o), (2, .ref m), (3, .int (nI i))] [] σ μ 541 5855 (lw_ZX X b) := by
  obtain ⟨s0, s1, l0, hg, h9, hkk, ⟨hL, hL2⟩, hd, hw, himk⟩ := h.pre
  have hc := h9.1
  have hn := h9.2.1
  obtain ⟨n, μ1, e, hI⟩ := st_draw h (xs (nI i + 1 : Int32).toNatClampNeg) (xs (nI i + 2 : Int32).toNatClampNeg)
  refine kr_aload_n (i := 1) hX dL_law_945 rfl rfl ?_
  refine kr_aload_n (i := 0) hX dL_law_946 rfl rfl ?_
  refine kr_iload_n (i := 3) hX dL_law_947 rfl rfl ?_
  refine kr_iconst (v := 1) hX dL_law_948 (by decide) ?_
  refine kr_iadd hX dL_law_949 ?_
  refine kr_sld hX hS dL_law_950 (lw_ix (k := 1) (by omega) hLL) ?_
  refine kr_aload_n (i := 0) hX dL_law_951 rfl rfl ?_
  refine kr_iload_n (i := 3) hX dL_law_952 rfl rfl ?_
  refine kr_iconst (v := 2) hX dL_law_953 (by decide) ?_
  refine kr_iadd hX dL_law_954 ?_
  refine kr_sld hX hS dL_law_955 (lw_ix (k := 2) (by omega) hLL) ?_
  refine kr_dV (c1 := 9) [_, _] hX km_L_118 dL_law_956 (sp_draw hp hw) rfl rfl ⟨_, _, rfl⟩ (by decide) (Nat.le_of_ble_eq_true rfl) (Nat.le_of_ble_eq_true rfl) (Nat.le_of_ble_eq_true rfl) hp.1 ?_
  refine kr_aload_n (i := 2) hX dL_law_959 rfl rfl ?_
  refine kr_aload_n (i := 0) hX dL_law_960 rfl rfl ?_
  refine kr_iload_n (i := 3) hX dL_law_961 rfl rfl ?_
  refine kr_iconst (v := 1) hX dL_law_962 (by decide) ?_
  refine kr_iadd hX dL_law_963 ?_
  refine kr_sld hX hS dL_law_964 (lw_ix (k := 1) (by omega) hLL) ?_
  refine kr_aload_n (i := 0) hX dL_law_965 rfl rfl ?_
  refine kr_iload_n (i := 3) hX dL_law_966 rfl rfl ?_
  refine kr_iconst (v := 2) hX dL_law_967 (by decide) ?_
  refine kr_iadd hX dL_law_968 ?_
  refine kr_sld hX hS dL_law_969 (lw_ix (k := 2) (by omega) hLL) ?_
  refine kr_dV (c1 := 10) [_, _] hX km_L_121 dL_law_970 (xs_draw hm e) rfl rfl ⟨_, _, rfl⟩ (by decide) (Nat.le_of_ble_eq_true rfl) (Nat.le_of_ble_eq_true rfl) (Nat.le_of_ble_eq_true rfl) (md_k hm) ?_
  refine kr_icmp_eq (tgt := 1199) hX dL_law_973 (by decide) (fun _ => hnext _ hI) (fun c => absurd rfl c)
set_option maxHeartbeats 4000000 in
set_option maxRecDepth 100000 in
theorem lw_c_keep {G : kt_G} {X : kt_X} (hX : kt_ok G X RL code 4 9 600000 7302250) {b L : Nat} {xs : Nat → Int32} (hS : kt_XS G X b L xs) (hLL : L ≤ 2560) {σ : kt_Y} {o m : Nat} (hp : kt_kt σ o) (hm : kt_md σ m) {i : Nat} {μ : kt_M} (hi : i + 5 ≤ L) (h : kInv μ o m) (hnext : ∀ μ1, kInv μ1 o m → kt_W G X 4 1199 [(0, .ref b), (1, .ref o), (2, .ref m), (3, .int (nI i))] [] σ μ1 541 5855 (lw_ZX X b)) : kt_W G X 4 978 [(0, .ref b), (1, .ref o), (2, .ref m), (3, .int (nI i))] [] σ μ 541 5855 (lw_ZX X b) := by
  obtain ⟨s0, s1, l0, hg, h9, hkk, ⟨hL, hL2⟩, hd, hw, himk⟩ := h.pre
  have hc := h9.1
  have hn := h9.2.1
  obtain ⟨n, μ1, e, hI⟩ := st_keep h (xs (nI i + 1 : Int32).toNatClampNeg)
  refine kr_aload_n (i := 1) hX dL_law_978 rfl rfl ?_
  refine kr_aload_n (i := 0) hX dL_law_979 rfl rfl ?_
  refine kr_iload_n (i := 3) hX dL_law_980 rfl rfl ?_
  refine kr_iconst (v := 1) hX dL_law_981 (by decide) ?_
  refine kr_iadd hX dL_law_982 ?_
  refine kr_sld hX hS dL_law_983 (lw_ix (k := 1) (by omega) hLL) ?_
  refine kr_dV (c1 := 9) [_] hX km_L_122 dL_law_984 (sp_ukeep hp hc hkk) rfl rfl ⟨_, _, rfl⟩ (by decide) (Nat.le_of_ble_eq_true rfl) (Nat.le_of_ble_eq_true rfl) (Nat.le_of_ble_eq_true rfl) hp.1 ?_
  refine kr_aload_n (i := 2) hX dL_law_987 rfl rfl ?_
  refine kr_aload_n (i := 0) hX dL_law_988 rfl rfl ?_
  refine kr_iload_n (i := 3) hX dL_law_989 rfl rfl ?_
  refine kr_iconst (v := 1) hX dL_law_990 (by decide) ?_
  refine kr_iadd hX dL_law_991 ?_
  refine kr_sld hX hS dL_law_992 (lw_ix (k := 1) (by omega) hLL) ?_
  refine kr_dV (c1 := 10) [_] hX km_L_125 dL_law_993 (xs_keep hm e) rfl rfl ⟨_, _, rfl⟩ (by decide) (Nat.le_of_ble_eq_true rfl) (Nat.le_of_ble_eq_true rfl) (Nat.le_of_ble_eq_true rfl) (md_k hm) ?_
  refine kr_icmp_eq (tgt := 1199) hX dL_law_996 (by decide) (fun _ => hnext _ hI) (fun c => absurd rfl c)
set_option maxHeartbeats 4000000 in
set_option maxRecDepth 100000 in
theorem lw_c_back {G : kt_G} {X : kt_X} (hX : kt_ok G X RL code 4 9 600000 7302250) {b L : Nat} {xs : Nat → Int32} (hS : kt_XS G X b L xs) (hLL : L ≤ 2560) {σ : kt_Y} {o m : Nat} (hp : kt_kt σ o) (hm : kt_md σ m) {i : Nat} {μ : kt_M} (hi : i + 5 ≤ L) (h : kInv μ o m) (hnext : ∀ μ1, kInv μ1 o m → kt_W G X 4 1199 [(0, .ref b), (1, .ref o), (2, .ref m), (3, .int (nI i))] [] σ μ1 541 5855 (lw_ZX X b)) : kt_W G X 4 1001 [(0, .ref b), (1, .ref o), (2, .ref m), (3, .int (nI i))] [] σ μ 541 5855 (lw_ZX X b) := by
  obtain ⟨s0, s1, l0, hg, h9, hkk, ⟨hL, hL2⟩, hd, hw, himk⟩ := h.pre
  have hc := h9.1
  have hn := h9.2.1
  obtain ⟨sI, hsI⟩ := himk (xs (nI i + 1 : Int32).toNatClampNeg)
  obtain ⟨n, μ1, e, hI⟩ := st_back h (xs (nI i + 1 : Int32).toNatClampNeg)
  refine kr_aload_n (i := 1) hX dL_law_1001 rfl rfl ?_
  refine kr_aload_n (i := 0) hX dL_law_1002 rfl rfl ?_
  refine kr_iload_n (i := 3) hX dL_law_1003 rfl rfl ?_
  refine kr_iconst (v := 1) hX dL_law_1004 (by decide) ?_
  refine kr_iadd hX dL_law_1005 ?_
  refine kr_sld hX hS dL_law_1006 (lw_ix (k := 1) (by omega) hLL) ?_
  refine kr_dV (c1 := 9) [_] hX km_L_126 dL_law_1007 (sp_uback hp hsI) rfl rfl ⟨_, _, rfl⟩ (by decide) (Nat.le_of_ble_eq_true rfl) (Nat.le_of_ble_eq_true rfl) (Nat.le_of_ble_eq_true rfl) hp.1 ?_
  refine kr_aload_n (i := 2) hX dL_law_1010 rfl rfl ?_
  refine kr_aload_n (i := 0) hX dL_law_1011 rfl rfl ?_
  refine kr_iload_n (i := 3) hX dL_law_1012 rfl rfl ?_
  refine kr_iconst (v := 1) hX dL_law_1013 (by decide) ?_
  refine kr_iadd hX dL_law_1014 ?_
  refine kr_sld hX hS dL_law_1015 (lw_ix (k := 1) (by omega) hLL) ?_
  refine kr_dV (c1 := 10) [_] hX km_L_129 dL_law_1016 (xs_back hm e) rfl rfl ⟨_, _, rfl⟩ (by decide) (Nat.le_of_ble_eq_true rfl) (Nat.le_of_ble_eq_true rfl) (Nat.le_of_ble_eq_true rfl) (md_k hm) ?_
  refine kr_icmp_eq (tgt := 1199) hX dL_law_1019 (by decide) (fun _ => hnext _ hI) (fun c => absurd rfl c)
set_option maxHeartbeats 4000000 in
set_option maxRecDepth 100000 in
theorem lw_c_sheet {G : kt_G} {X : kt_X} (hX : kt_ok G X RL code 4 9 600000 7302250) {b L : Nat} {xs : Nat → Int32} (hS : kt_XS G X b L xs) (hLL : L ≤ 2560) {σ : kt_Y} {o m : Nat} (hp : kt_kt σ o) (hm : kt_md σ m) {i : Nat} {μ : kt_M} (hi : i + 5 ≤ L) (h : kInv μ o m) (hnext : ∀ μ1, kInv μ1 o m → kt_W G X 4 1199 [(0, .ref b), (1, .ref o), (2, .ref m), (3, .int (nI i))] [] σ μ1 541 5855 (lw_ZX X b)) : kt_W G X 4 1024 [(0, .ref b), (1, .ref o), (2, .ref m), (3, .int (nI i))] [] σ μ 541 5855 (lw_ZX X b) := by
  obtain ⟨s0, s1, l0, hg, h9, hkk, ⟨hL, hL2⟩, hd, hw, himk⟩ := h.pre
  have hc := h9.1
  have hn := h9.2.1
  obtain ⟨n, μ1, e, hI⟩ := st_sheet h (xs (nI i + 1 : Int32).toNatClampNeg) (xs (nI i + 2 : Int32).toNatClampNeg) (xs (nI i + 3 : Int32).toNatClampNeg)
  refine kr_aload_n (i := 1) hX dL_law_1024 rfl rfl ?_
  refine kr_aload_n (i := 0) hX dL_law_1025 rfl rfl ?_
  refine kr_iload_n (i := 3) hX dL_law_1026 rfl rfl ?_
  refine kr_iconst (v := 1) hX dL_law_1027 (by decide) ?_
  refine kr_iadd hX dL_law_1028 ?_
  refine kr_sld hX hS dL_law_1029 (lw_ix (k := 1) (by omega) hLL) ?_
  refine kr_aload_n (i := 0) hX dL_law_1030 rfl rfl ?_
  refine kr_iload_n (i := 3) hX dL_law_1031 rfl rfl ?_
  refine kr_iconst (v := 2) hX dL_law_1032 (by decide) ?_
  refine kr_iadd hX dL_law_1033 ?_
  refine kr_sld hX hS dL_law_1034 (lw_ix (k := 2) (by omega) hLL) ?_
  refine kr_aload_n (i := 0) hX dL_law_1035 rfl rfl ?_
  refine kr_iload_n (i := 3) hX dL_law_1036 rfl rfl ?_
  refine kr_iconst (v := 3) hX dL_law_1037 (by decide) ?_
  refine kr_iadd hX dL_law_1038 ?_
  refine kr_sld hX hS dL_law_1039 (lw_ix (k := 3) (by omega) hLL) ?_
  refine kr_dV (c1 := 9) [_, _, _] hX km_L_130 dL_law_1040 (sp_sheet hp) rfl rfl ⟨_, _, rfl⟩ (by decide) (Nat.le_of_ble_eq_true rfl) (Nat.le_of_ble_eq_true rfl) (Nat.le_of_ble_eq_true rfl) hp.1 ?_
  refine kr_aload_n (i := 2) hX dL_law_1043 rfl rfl ?_
  refine kr_aload_n (i := 0) hX dL_law_1044 rfl rfl ?_
  refine kr_iload_n (i := 3) hX dL_law_1045 rfl rfl ?_
  refine kr_iconst (v := 1) hX dL_law_1046 (by decide) ?_
  refine kr_iadd hX dL_law_1047 ?_
  refine kr_sld hX hS dL_law_1048 (lw_ix (k := 1) (by omega) hLL) ?_
  refine kr_aload_n (i := 0) hX dL_law_1049 rfl rfl ?_
  refine kr_iload_n (i := 3) hX dL_law_1050 rfl rfl ?_
  refine kr_iconst (v := 2) hX dL_law_1051 (by decide) ?_
  refine kr_iadd hX dL_law_1052 ?_
  refine kr_sld hX hS dL_law_1053 (lw_ix (k := 2) (by omega) hLL) ?_
  refine kr_aload_n (i := 0) hX dL_law_1054 rfl rfl ?_
  refine kr_iload_n (i := 3) hX dL_law_1055 rfl rfl ?_
  refine kr_iconst (v := 3) hX dL_law_1056 (by decide) ?_
  refine kr_iadd hX dL_law_1057 ?_
  refine kr_sld hX hS dL_law_1058 (lw_ix (k := 3) (by omega) hLL) ?_
  refine kr_dV (c1 := 10) [_, _, _] hX km_L_133 dL_law_1059 (xs_sheet hm e) rfl rfl ⟨_, _, rfl⟩ (by decide) (Nat.le_of_ble_eq_true rfl) (Nat.le_of_ble_eq_true rfl) (Nat.le_of_ble_eq_true rfl) (md_k hm) ?_
  refine kr_icmp_eq (tgt := 1199) hX dL_law_1062 (by decide) (fun _ => hnext _ hI) (fun c => absurd rfl c)
set_option maxHeartbeats 4000000 in
set_option maxRecDepth 100000 in
theorem lw_c_lay {G : kt_G} {X : kt_X} (hX : kt_ok G X RL code 4 9 600000 7302250) {b L : Nat} {xs : Nat → Int32} (hS : kt_XS G X b L xs) (hLL : L ≤ 2560) {σ : kt_Y} {o m : Nat} (hp : kt_kt σ o) (hm : kt_md σ m) {i : Nat} {μ : kt_M} (hi : i + 5 ≤ L) (h : kInv μ o m) (hnext : ∀ μ1, kInv μ1 o m → kt_W G X 4 1199 [(0, .ref b), (1, .ref o), (2, .ref m), (3, .int (nI i))] [] σ μ1 541 5855 (lw_ZX X b)) : kt_W G X 4 1067 [(0, .ref b), (1, .ref o), (2, .ref m), (3, .int (nI i))] [] σ μ 541 5855 (lw_ZX X b) := by
  obtain ⟨s0, s1, l0, hg, h9, hkk, ⟨hL, hL2⟩, hd, hw, himk⟩ := h.pre
  have hc := h9.1
  have hn := h9.2.1
  obtain ⟨n, μ1, e, hI⟩ := st_lay h (xs (nI i + 1 : Int32).toNatClampNeg) (xs (nI i + 2 : Int32).toNatClampNeg) (xs (nI i + 3 : Int32).toNatClampNeg)
  refine kr_aload_n (i := 1) hX dL_law_1067 rfl rfl ?_
  refine kr_aload_n (i := 0) hX dL_law_1068 rfl rfl ?_
  refine kr_iload_n (i := 3) hX dL_law_1069 rfl rfl ?_
  refine kr_iconst (v := 1) hX dL_law_1070 (by decide) ?_
  refine kr_iadd hX dL_law_1071 ?_
  refine kr_sld hX hS dL_law_1072 (lw_ix (k := 1) (by omega) hLL) ?_
  refine kr_aload_n (i := 0) hX dL_law_1073 rfl rfl ?_
  refine kr_iload_n (i := 3) hX dL_law_1074 rfl rfl ?_
  refine kr_iconst (v := 2) hX dL_law_1075 (by decide) ?_
  refine kr_iadd hX dL_law_1076 ?_
  refine kr_sld hX hS dL_law_1077 (lw_ix (k := 2) (by omega) hLL) ?_
  refine kr_aload_n (i := 0) hX dL_law_1078 rfl rfl ?_
  refine kr_iload_n (i := 3) hX dL_law_1079 rfl rfl ?_
  refine kr_iconst (v := 3) hX dL_law_1080 (by decide) ?_
  refine kr_iadd hX dL_law_1081 ?_
  refine kr_sld hX hS dL_law_1082 (lw_ix (k := 3) (by omega) hLL) ?_
  refine kr_dV (c1 := 9) [_, _, _] hX km_L_134 dL_law_1083 (sp_lay hp) rfl rfl ⟨_, _, rfl⟩ (by decide) (Nat.le_of_ble_eq_true rfl) (Nat.le_of_ble_eq_true rfl) (Nat.le_of_ble_eq_true rfl) hp.1 ?_
  refine kr_aload_n (i := 2) hX dL_law_1086 rfl rfl ?_
  refine kr_aload_n (i := 0) hX dL_law_1087 rfl rfl ?_
  refine kr_iload_n (i := 3) hX dL_law_1088 rfl rfl ?_
  refine kr_iconst (v := 1) hX dL_law_1089 (by decide) ?_
  refine kr_iadd hX dL_law_1090 ?_
  refine kr_sld hX hS dL_law_1091 (lw_ix (k := 1) (by omega) hLL) ?_
  refine kr_aload_n (i := 0) hX dL_law_1092 rfl rfl ?_
  refine kr_iload_n (i := 3) hX dL_law_1093 rfl rfl ?_
  refine kr_iconst (v := 2) hX dL_law_1094 (by decide) ?_
  refine kr_iadd hX dL_law_1095 ?_
  refine kr_sld hX hS dL_law_1096 (lw_ix (k := 2) (by omega) hLL) ?_
  refine kr_aload_n (i := 0) hX dL_law_1097 rfl rfl ?_
  refine kr_iload_n (i := 3) hX dL_law_1098 rfl rfl ?_
  refine kr_iconst (v := 3) hX dL_law_1099 (by decide) ?_
  refine kr_iadd hX dL_law_1100 ?_
  refine kr_sld hX hS dL_law_1101 (lw_ix (k := 3) (by omega) hLL) ?_
  refine kr_dV (c1 := 10) [_, _, _] hX km_L_137 dL_law_1102 (xs_lay hm e) rfl rfl ⟨_, _, rfl⟩ (by decide) (Nat.le_of_ble_eq_true rfl) (Nat.le_of_ble_eq_true rfl) (Nat.le_of_ble_eq_true rfl) (md_k hm) ?_
  refine kr_icmp_eq (tgt := 1199) hX dL_law_1105 (by decide) (fun _ => hnext _ hI) (fun c => absurd rfl c)
set_option maxHeartbeats 4000000 in
set_option maxRecDepth 100000 in
theorem lw_c_read {G : kt_G} {X : kt_X} (hX : kt_ok G X RL code 4 9 600000 7302250) {b L : Nat} {xs : Nat → Int32} (hS : kt_XS G X b L xs) (hLL : L ≤ 2560) {σ : kt_Y} {o m : Nat} (hp : kt_kt σ o) (hm : kt_md σ m) {i : Nat} {μ : kt_M} (hi : i + 5 ≤ L) (h : kInv μ o m) (hnext : ∀ μ1, kInv μ1 o m → kt_W G X 4 1199 [(0, .ref b), (1, .ref o), (2, .ref m), (3, .int (nI i))] [] σ μ1 541 5855 (lw_ZX X b)) : kt_W G X 4 1110 [(0, .ref b), (1, .ref o), (2, .ref m), (3, .int (nI i))] [] σ μ 541 5855 (lw_ZX X b) := by
  obtain ⟨s0, s1, l0, hg, h9, hkk, ⟨hL, hL2⟩, hd, hw, himk⟩ := h.pre
  have hc := h9.1
  have hn := h9.2.1
  obtain ⟨n, μ1, e, hI⟩ := st_read h (xs (nI i + 1 : Int32).toNatClampNeg) (xs (nI i + 2 : Int32).toNatClampNeg) (xs (nI i + 3 : Int32).toNatClampNeg) (xs (nI i + 4 : Int32).toNatClampNeg)
  refine kr_aload_n (i := 1) hX dL_law_1110 rfl rfl ?_
  refine kr_aload_n (i := 0) hX dL_law_1111 rfl rfl ?_
  refine kr_iload_n (i := 3) hX dL_law_1112 rfl rfl ?_
  refine kr_iconst (v := 1) hX dL_law_1113 (by decide) ?_
  refine kr_iadd hX dL_law_1114 ?_
  refine kr_sld hX hS dL_law_1115 (lw_ix (k := 1) (by omega) hLL) ?_
  refine kr_aload_n (i := 0) hX dL_law_1116 rfl rfl ?_
  refine kr_iload_n (i := 3) hX dL_law_1117 rfl rfl ?_
  refine kr_iconst (v := 2) hX dL_law_1118 (by decide) ?_
  refine kr_iadd hX dL_law_1119 ?_
  refine kr_sld hX hS dL_law_1120 (lw_ix (k := 2) (by omega) hLL) ?_
  refine kr_aload_n (i := 0) hX dL_law_1121 rfl rfl ?_
  refine kr_iload_n (i := 3) hX dL_law_1122 rfl rfl ?_
  refine kr_iconst (v := 3) hX dL_law_1123 (by decide) ?_
  refine kr_iadd hX dL_law_1124 ?_
  refine kr_sld hX hS dL_law_1125 (lw_ix (k := 3) (by omega) hLL) ?_
  refine kr_aload_n (i := 0) hX dL_law_1126 rfl rfl ?_
  refine kr_iload_n (i := 3) hX dL_law_1127 rfl rfl ?_
  refine kr_iconst (v := 4) hX dL_law_1128 (by decide) ?_
  refine kr_iadd hX dL_law_1129 ?_
  refine kr_sld hX hS dL_law_1130 (lw_ix (k := 4) (by omega) hLL) ?_
  refine kr_dV (c1 := 9) [_, _, _, _] hX km_L_138 dL_law_1131 (sp_read hp) rfl rfl ⟨_, _, rfl⟩ (by decide) (Nat.le_of_ble_eq_true rfl) (Nat.le_of_ble_eq_true rfl) (Nat.le_of_ble_eq_true rfl) hp.1 ?_
  refine kr_aload_n (i := 2) hX dL_law_1134 rfl rfl ?_
  refine kr_aload_n (i := 0) hX dL_law_1135 rfl rfl ?_
  refine kr_iload_n (i := 3) hX dL_law_1136 rfl rfl ?_
  refine kr_iconst (v := 1) hX dL_law_1137 (by decide) ?_
  refine kr_iadd hX dL_law_1138 ?_
  refine kr_sld hX hS dL_law_1139 (lw_ix (k := 1) (by omega) hLL) ?_
  refine kr_aload_n (i := 0) hX dL_law_1140 rfl rfl ?_
  refine kr_iload_n (i := 3) hX dL_law_1141 rfl rfl ?_
  refine kr_iconst (v := 2) hX dL_law_1142 (by decide) ?_
  refine kr_iadd hX dL_law_1143 ?_
  refine kr_sld hX hS dL_law_1144 (lw_ix (k := 2) (by omega) hLL) ?_
  refine kr_aload_n (i := 0) hX dL_law_1145 rfl rfl ?_
  refine kr_iload_n (i := 3) hX dL_law_1146 rfl rfl ?_
  refine kr_iconst (v := 3) hX dL_law_1147 (by decide) ?_
  refine kr_iadd hX dL_law_1148 ?_
  refine kr_sld hX hS dL_law_1149 (lw_ix (k := 3) (by omega) hLL) ?_
  refine kr_aload_n (i := 0) hX dL_law_1150 rfl rfl ?_
  refine kr_iload_n (i := 3) hX dL_law_1151 rfl rfl ?_
  refine kr_iconst (v := 4) hX dL_law_1152 (by decide) ?_
  refine kr_iadd hX dL_law_1153 ?_
  refine kr_sld hX hS dL_law_1154 (lw_ix (k := 4) (by omega) hLL) ?_
  refine kr_dV (c1 := 10) [_, _, _, _] hX km_L_141 dL_law_1155 (xs_read hm e) rfl rfl ⟨_, _, rfl⟩ (by decide) (Nat.le_of_ble_eq_true rfl) (Nat.le_of_ble_eq_true rfl) (Nat.le_of_ble_eq_true rfl) (md_k hm) ?_
  refine kr_icmp_eq (tgt := 1199) hX dL_law_1158 (by decide) (fun _ => hnext _ hI) (fun c => absurd rfl c)
set_option maxHeartbeats 4000000 in
set_option maxRecDepth 100000 in
theorem lw_c_torn {G : kt_G} {X : kt_X} (hX : kt_ok G X RL code 4 9 600000 7302250) {b L : Nat} {xs : Nat → Int32} (hS : kt_XS G X b L xs) (hLL : L ≤ 2560) {σ : kt_Y} {o m : Nat} (hp : kt_kt σ o) (hm : kt_md σ m) {i : Nat} {μ : kt_M} (hi : i + 5 ≤ L) (h : kInv μ o m) (hnext : ∀ μ1, kInv μ1 o m → kt_W G X 4 1199 [(0, .ref b), (1, .ref o), (2, .ref m), (3, .int (nI i))] [] σ μ1 541 5855 (lw_ZX X b)) : kt_W G X 4 1163 [(0, .ref b), (1, .ref o), (2, .ref m), (3, .int (nI i))] [] σ μ 541 5855 (lw_ZX X b) := by
  obtain ⟨s0, s1, l0, hg, h9, hkk, ⟨hL, hL2⟩, hd, hw, himk⟩ := h.pre
  have hc := h9.1
  have hn := h9.2.1
  obtain ⟨n, μ1, e, hI⟩ := st_torn h
  refine kr_aload_n (i := 1) hX dL_law_1163 rfl rfl ?_
  refine kr_dV (c1 := 9) [] hX km_L_142 dL_law_1164 (sp_torn hp) rfl rfl ⟨_, _, rfl⟩ (by decide) (Nat.le_of_ble_eq_true rfl) (Nat.le_of_ble_eq_true rfl) (Nat.le_of_ble_eq_true rfl) hp.1 ?_
  refine kr_aload_n (i := 2) hX dL_law_1167 rfl rfl ?_
  refine kr_dV (c1 := 10) [] hX km_L_145 dL_law_1168 (xs_torn hm e) rfl rfl ⟨_, _, rfl⟩ (by decide) (Nat.le_of_ble_eq_true rfl) (Nat.le_of_ble_eq_true rfl) (Nat.le_of_ble_eq_true rfl) (md_k hm) ?_
  refine kr_icmp_eq (tgt := 1199) hX dL_law_1171 (by decide) (fun _ => hnext _ hI) (fun c => absurd rfl c)
set_option maxHeartbeats 4000000 in
set_option maxRecDepth 100000 in
theorem lw_c_count {G : kt_G} {X : kt_X} (hX : kt_ok G X RL code 4 9 600000 7302250) {b L : Nat} {xs : Nat → Int32} (hS : kt_XS G X b L xs) (hLL : L ≤ 2560) {σ : kt_Y} {o m : Nat} (hp : kt_kt σ o) (hm : kt_md σ m) {i : Nat} {μ : kt_M} (hi : i + 5 ≤ L) (h : kInv μ o m) (hnext : ∀ μ1, kInv μ1 o m → kt_W G X 4 1199 [(0, .ref b), (1, .ref o), (2, .ref m), (3, .int (nI i))] [] σ μ1 541 5855 (lw_ZX X b)) : kt_W G X 4 1176 [(0, .ref b), (1, .ref o), (2, .ref m), (3, .int (nI i))] [] σ μ 541 5855 (lw_ZX X b) := by
  obtain ⟨s0, s1, l0, hg, h9, hkk, ⟨hL, hL2⟩, hd, hw, himk⟩ := h.pre
  have hc := h9.1
  have hn := h9.2.1
  obtain ⟨n, μ1, e, hI⟩ := st_count h (xs (nI i + 1 : Int32).toNatClampNeg)
  refine kr_aload_n (i := 1) hX dL_law_1176 rfl rfl ?_
  refine kr_aload_n (i := 0) hX dL_law_1177 rfl rfl ?_
  refine kr_iload_n (i := 3) hX dL_law_1178 rfl rfl ?_
  refine kr_iconst (v := 1) hX dL_law_1179 (by decide) ?_
  refine kr_iadd hX dL_law_1180 ?_
  refine kr_sld hX hS dL_law_1181 (lw_ix (k := 1) (by omega) hLL) ?_
  refine kr_dV (c1 := 9) [_] hX km_L_146 dL_law_1182 (sp_count hp hkk) rfl rfl ⟨_, _, rfl⟩ (by decide) (Nat.le_of_ble_eq_true rfl) (Nat.le_of_ble_eq_true rfl) (Nat.le_of_ble_eq_true rfl) hp.1 ?_
  refine kr_aload_n (i := 2) hX dL_law_1185 rfl rfl ?_
  refine kr_aload_n (i := 0) hX dL_law_1186 rfl rfl ?_
  refine kr_iload_n (i := 3) hX dL_law_1187 rfl rfl ?_
  refine kr_iconst (v := 1) hX dL_law_1188 (by decide) ?_
  refine kr_iadd hX dL_law_1189 ?_
  refine kr_sld hX hS dL_law_1190 (lw_ix (k := 1) (by omega) hLL) ?_
  refine kr_dV (c1 := 10) [_] hX km_L_149 dL_law_1191 (xs_count hm e) rfl rfl ⟨_, _, rfl⟩ (by decide) (Nat.le_of_ble_eq_true rfl) (Nat.le_of_ble_eq_true rfl) (Nat.le_of_ble_eq_true rfl) (md_k hm) ?_
  refine kr_icmp_eq (tgt := 1199) hX dL_law_1194 (by decide) (fun _ => hnext _ hI) (fun c => absurd rfl c)
theorem lw_sub5 {L : Nat} (h : L ≤ 2560) : (nI L - 5).toInt = (L : Int) - 5 := by
  rw [Int32.toInt_sub, nI_toInt (by omega), show (5 : Int32).toInt = 5 from by decide]
  exact Int.bmod_eq_of_le (by omega) (by omega)
set_option maxHeartbeats 4000000 in
set_option maxRecDepth 100000 in
theorem lw_loop {G : kt_G} {X : kt_X} (hX : kt_ok G X RL code 4 9 600000 7302250) {b L : Nat} {xs : Nat → Int32} (hS : kt_XS G X b L xs) (hLL : L ≤ 2560) {σ : kt_Y} {o m : Nat} (hp : kt_kt σ o) (hm : kt_md σ m) : ∀ (n i : Nat) (μ : kt_M), L ≤ i + n → i ≤ L → kInv μ o m → kt_W G X 4 18 [(0, .ref b), (1, .ref o), (2, .ref m), (3, .int (nI i))] [] σ μ 541 5855 (lw_ZX X b) := by
  intro n
  induction n with
  | zero =>
    intro i μ hin hiL h
    refine kr_iload_n (i := 3) hX dL_law_18 rfl rfl ?_
    refine kr_aload_n (i := 0) hX dL_law_19 rfl rfl ?_
    refine kr_sln hX hS dL_law_20 ?_
    refine kr_iconst (v := 5) hX dL_law_21 (by decide) ?_
    refine kr_isub hX dL_law_22 ?_
    refine kr_icmp_gt (tgt := 1205) hX dL_law_23 (by decide) (fun c => ?_) (fun c => ?_)
    · refine kr_iconst (v := 1) hX dL_law_1205 (by decide) ?_
      exact kr_lwret hX hS dL_law_1206 (Nat.le_of_ble_eq_true rfl) (Nat.le_of_ble_eq_true rfl)
    · exfalso
      rw [Int32.lt_iff_toInt_lt, lw_sub5 hLL, nI_toInt (by omega)] at c
      omega
  | succ n ih =>
    intro i μ hin hiL h
    refine kr_iload_n (i := 3) hX dL_law_18 rfl rfl ?_
    refine kr_aload_n (i := 0) hX dL_law_19 rfl rfl ?_
    refine kr_sln hX hS dL_law_20 ?_
    refine kr_iconst (v := 5) hX dL_law_21 (by decide) ?_
    refine kr_isub hX dL_law_22 ?_
    refine kr_icmp_gt (tgt := 1205) hX dL_law_23 (by decide) (fun c => ?_) (fun c => ?_)
    · refine kr_iconst (v := 1) hX dL_law_1205 (by decide) ?_
      exact kr_lwret hX hS dL_law_1206 (Nat.le_of_ble_eq_true rfl) (Nat.le_of_ble_eq_true rfl)
    have hi5 : i + 5 ≤ L := by
      rw [Int32.lt_iff_toInt_lt, lw_sub5 hLL, nI_toInt (by omega)] at c
      omega
    have hnext : ∀ μ1, kInv μ1 o m → kt_W G X 4 1199 [(0, .ref b), (1, .ref o), (2, .ref m), (3, .int (nI i))] [] σ μ1 541 5855 (lw_ZX X b) := fun μ1 hI => by
      refine kr_iinc (v := nI (i + 5)) hX dL_law_1199 rfl (nI_add i 5) (by decide) rfl rfl ?_
      refine kr_goto (tgt := 18) hX dL_law_1202 (by decide) ?_
      exact ih (i + 5) μ1 (by omega) hi5 hI
    refine kr_aload_n (i := 0) hX dL_law_26 rfl rfl ?_
    refine kr_iload_n (i := 3) hX dL_law_27 rfl rfl ?_
    refine kr_sld hX hS dL_law_28 (vp_in_nI (by omega) (by omega)) ?_
    refine kr_bipush (v := 63) hX dL_law_29 (by decide) ?_
    refine kr_iand hX dL_law_31 ?_
    refine kr_topi (fun v ev => ?_)
    clear ev
    by_cases c_0 : v = 0
    · refine kr_tabIn (tgt := 180) (off := 148) hX dL_law_32 (by rw [c_0]; decide) (by rw [c_0]; decide) (by rw [c_0]; rfl) (by decide) ?_
      exact lw_c_feed hX hS hLL hp hm hi5 h hnext
    by_cases c_1 : v = 1
    · refine kr_tabIn (tgt := 203) (off := 171) hX dL_law_32 (by rw [c_1]; decide) (by rw [c_1]; decide) (by rw [c_1]; rfl) (by decide) ?_
      exact lw_c_end hX hS hLL hp hm hi5 h hnext
    by_cases c_2 : v = 2
    · refine kr_tabIn (tgt := 226) (off := 194) hX dL_law_32 (by rw [c_2]; decide) (by rw [c_2]; decide) (by rw [c_2]; rfl) (by decide) ?_
      exact lw_c_text hX hS hLL hp hm hi5 h hnext
    by_cases c_3 : v = 3
    · refine kr_tabIn (tgt := 239) (off := 207) hX dL_law_32 (by rw [c_3]; decide) (by rw [c_3]; decide) (by rw [c_3]; rfl) (by decide) ?_
      exact lw_c_fault hX hS hLL hp hm hi5 h hnext
    by_cases c_4 : v = 4
    · refine kr_tabIn (tgt := 252) (off := 220) hX dL_law_32 (by rw [c_4]; decide) (by rw [c_4]; decide) (by rw [c_4]; rfl) (by decide) ?_
      exact lw_c_program hX hS hLL hp hm hi5 h hnext
    by_cases c_5 : v = 5
    · refine kr_tabIn (tgt := 285) (off := 253) hX dL_law_32 (by rw [c_5]; decide) (by rw [c_5]; decide) (by rw [c_5]; rfl) (by decide) ?_
      exact lw_c_block hX hS hLL hp hm hi5 h hnext
    by_cases c_6 : v = 6
    · refine kr_tabIn (tgt := 328) (off := 296) hX dL_law_32 (by rw [c_6]; decide) (by rw [c_6]; decide) (by rw [c_6]; rfl) (by decide) ?_
      exact lw_c_act hX hS hLL hp hm hi5 h hnext
    by_cases c_7 : v = 7
    · refine kr_tabIn (tgt := 381) (off := 349) hX dL_law_32 (by rw [c_7]; decide) (by rw [c_7]; decide) (by rw [c_7]; rfl) (by decide) ?_
      exact lw_c_range hX hS hLL hp hm hi5 h hnext
    by_cases c_8 : v = 8
    · refine kr_tabIn (tgt := 424) (off := 392) hX dL_law_32 (by rw [c_8]; decide) (by rw [c_8]; decide) (by rw [c_8]; rfl) (by decide) ?_
      exact lw_c_along hX hS hLL hp hm hi5 h hnext
    by_cases c_9 : v = 9
    · refine kr_tabIn (tgt := 477) (off := 445) hX dL_law_32 (by rw [c_9]; decide) (by rw [c_9]; decide) (by rw [c_9]; rfl) (by decide) ?_
      exact lw_c_outcome hX hS hLL hp hm hi5 h hnext
    by_cases c_10 : v = 10
    · refine kr_tabIn (tgt := 500) (off := 468) hX dL_law_32 (by rw [c_10]; decide) (by rw [c_10]; decide) (by rw [c_10]; rfl) (by decide) ?_
      exact lw_c_known hX hS hLL hp hm hi5 h hnext
    by_cases c_11 : v = 11
    · refine kr_tabIn (tgt := 533) (off := 501) hX dL_law_32 (by rw [c_11]; decide) (by rw [c_11]; decide) (by rw [c_11]; rfl) (by decide) ?_
      exact lw_c_why hX hS hLL hp hm hi5 h hnext
    by_cases c_12 : v = 12
    · refine kr_tabIn (tgt := 566) (off := 534) hX dL_law_32 (by rw [c_12]; decide) (by rw [c_12]; decide) (by rw [c_12]; rfl) (by decide) ?_
      exact lw_c_dominates hX hS hLL hp hm hi5 h hnext
    by_cases c_13 : v = 13
    · refine kr_tabIn (tgt := 599) (off := 567) hX dL_law_32 (by rw [c_13]; decide) (by rw [c_13]; decide) (by rw [c_13]; rfl) (by decide) ?_
      exact lw_c_loop hX hS hLL hp hm hi5 h hnext
    by_cases c_14 : v = 14
    · refine kr_tabIn (tgt := 632) (off := 600) hX dL_law_32 (by rw [c_14]; decide) (by rw [c_14]; decide) (by rw [c_14]; rfl) (by decide) ?_
      exact lw_c_thread hX hS hLL hp hm hi5 h hnext
    by_cases c_15 : v = 15
    · refine kr_tabIn (tgt := 665) (off := 633) hX dL_law_32 (by rw [c_15]; decide) (by rw [c_15]; decide) (by rw [c_15]; rfl) (by decide) ?_
      exact lw_c_threads hX hS hLL hp hm hi5 h hnext
    by_cases c_16 : v = 16
    · refine kr_tabIn (tgt := 688) (off := 656) hX dL_law_32 (by rw [c_16]; decide) (by rw [c_16]; decide) (by rw [c_16]; rfl) (by decide) ?_
      exact lw_c_fold hX hS hLL hp hm hi5 h hnext
    by_cases c_17 : v = 17
    · refine kr_tabIn (tgt := 701) (off := 669) hX dL_law_32 (by rw [c_17]; decide) (by rw [c_17]; decide) (by rw [c_17]; rfl) (by decide) ?_
      exact lw_c_sweep hX hS hLL hp hm hi5 h hnext
    by_cases c_18 : v = 18
    · refine kr_tabIn (tgt := 714) (off := 682) hX dL_law_32 (by rw [c_18]; decide) (by rw [c_18]; decide) (by rw [c_18]; rfl) (by decide) ?_
      exact lw_c_limit hX hS hLL hp hm hi5 h hnext
    by_cases c_19 : v = 19
    · refine kr_tabIn (tgt := 737) (off := 705) hX dL_law_32 (by rw [c_19]; decide) (by rw [c_19]; decide) (by rw [c_19]; rfl) (by decide) ?_
      exact lw_c_input hX hS hLL hp hm hi5 h hnext
    by_cases c_20 : v = 20
    · refine kr_tabIn (tgt := 770) (off := 738) hX dL_law_32 (by rw [c_20]; decide) (by rw [c_20]; decide) (by rw [c_20]; rfl) (by decide) ?_
      exact lw_c_ran hX hS hLL hp hm hi5 h hnext
    by_cases c_21 : v = 21
    · refine kr_tabIn (tgt := 803) (off := 771) hX dL_law_32 (by rw [c_21]; decide) (by rw [c_21]; decide) (by rw [c_21]; rfl) (by decide) ?_
      exact lw_c_wrote hX hS hLL hp hm hi5 h hnext
    by_cases c_22 : v = 22
    · refine kr_tabIn (tgt := 836) (off := 804) hX dL_law_32 (by rw [c_22]; decide) (by rw [c_22]; decide) (by rw [c_22]; rfl) (by decide) ?_
      exact lw_c_path hX hS hLL hp hm hi5 h hnext
    by_cases c_23 : v = 23
    · refine kr_tabIn (tgt := 869) (off := 837) hX dL_law_32 (by rw [c_23]; decide) (by rw [c_23]; decide) (by rw [c_23]; rfl) (by decide) ?_
      exact lw_c_saved hX hS hLL hp hm hi5 h hnext
    by_cases c_24 : v = 24
    · refine kr_tabIn (tgt := 902) (off := 870) hX dL_law_32 (by rw [c_24]; decide) (by rw [c_24]; decide) (by rw [c_24]; rfl) (by decide) ?_
      exact lw_c_lead hX hS hLL hp hm hi5 h hnext
    by_cases c_25 : v = 25
    · refine kr_tabIn (tgt := 945) (off := 913) hX dL_law_32 (by rw [c_25]; decide) (by rw [c_25]; decide) (by rw [c_25]; rfl) (by decide) ?_
      exact lw_c_draw hX hS hLL hp hm hi5 h hnext
    by_cases c_26 : v = 26
    · refine kr_tabIn (tgt := 978) (off := 946) hX dL_law_32 (by rw [c_26]; decide) (by rw [c_26]; decide) (by rw [c_26]; rfl) (by decide) ?_
      exact lw_c_keep hX hS hLL hp hm hi5 h hnext
    by_cases c_27 : v = 27
    · refine kr_tabIn (tgt := 1001) (off := 969) hX dL_law_32 (by rw [c_27]; decide) (by rw [c_27]; decide) (by rw [c_27]; rfl) (by decide) ?_
      exact lw_c_back hX hS hLL hp hm hi5 h hnext
    by_cases c_28 : v = 28
    · refine kr_tabIn (tgt := 1024) (off := 992) hX dL_law_32 (by rw [c_28]; decide) (by rw [c_28]; decide) (by rw [c_28]; rfl) (by decide) ?_
      exact lw_c_sheet hX hS hLL hp hm hi5 h hnext
    by_cases c_29 : v = 29
    · refine kr_tabIn (tgt := 1067) (off := 1035) hX dL_law_32 (by rw [c_29]; decide) (by rw [c_29]; decide) (by rw [c_29]; rfl) (by decide) ?_
      exact lw_c_lay hX hS hLL hp hm hi5 h hnext
    by_cases c_30 : v = 30
    · refine kr_tabIn (tgt := 1110) (off := 1078) hX dL_law_32 (by rw [c_30]; decide) (by rw [c_30]; decide) (by rw [c_30]; rfl) (by decide) ?_
      exact lw_c_read hX hS hLL hp hm hi5 h hnext
    by_cases c_31 : v = 31
    · refine kr_tabIn (tgt := 1163) (off := 1131) hX dL_law_32 (by rw [c_31]; decide) (by rw [c_31]; decide) (by rw [c_31]; rfl) (by decide) ?_
      exact lw_c_torn hX hS hLL hp hm hi5 h hnext
    by_cases c_32 : v = 32
    · refine kr_tabIn (tgt := 1176) (off := 1144) hX dL_law_32 (by rw [c_32]; decide) (by rw [c_32]; decide) (by rw [c_32]; rfl) (by decide) ?_
      exact lw_c_count hX hS hLL hp hm hi5 h hnext
    refine kr_tabOut (tgt := 1199) hX dL_law_32 (by have q_0 := kt_ne c_0 (z := 0) (by decide); have q_1 := kt_ne c_1 (z := 1) (by decide); have q_2 := kt_ne c_2 (z := 2) (by decide); have q_3 := kt_ne c_3 (z := 3) (by decide); have q_4 := kt_ne c_4 (z := 4) (by decide); have q_5 := kt_ne c_5 (z := 5) (by decide); have q_6 := kt_ne c_6 (z := 6) (by decide); have q_7 := kt_ne c_7 (z := 7) (by decide); have q_8 := kt_ne c_8 (z := 8) (by decide); have q_9 := kt_ne c_9 (z := 9) (by decide); have q_10 := kt_ne c_10 (z := 10) (by decide); have q_11 := kt_ne c_11 (z := 11) (by decide); have q_12 := kt_ne c_12 (z := 12) (by decide); have q_13 := kt_ne c_13 (z := 13) (by decide); have q_14 := kt_ne c_14 (z := 14) (by decide); have q_15 := kt_ne c_15 (z := 15) (by decide); have q_16 := kt_ne c_16 (z := 16) (by decide); have q_17 := kt_ne c_17 (z := 17) (by decide); have q_18 := kt_ne c_18 (z := 18) (by decide); have q_19 := kt_ne c_19 (z := 19) (by decide); have q_20 := kt_ne c_20 (z := 20) (by decide); have q_21 := kt_ne c_21 (z := 21) (by decide); have q_22 := kt_ne c_22 (z := 22) (by decide); have q_23 := kt_ne c_23 (z := 23) (by decide); have q_24 := kt_ne c_24 (z := 24) (by decide); have q_25 := kt_ne c_25 (z := 25) (by decide); have q_26 := kt_ne c_26 (z := 26) (by decide); have q_27 := kt_ne c_27 (z := 27) (by decide); have q_28 := kt_ne c_28 (z := 28) (by decide); have q_29 := kt_ne c_29 (z := 29) (by decide); have q_30 := kt_ne c_30 (z := 30) (by decide); have q_31 := kt_ne c_31 (z := 31) (by decide); have q_32 := kt_ne c_32 (z := 32) (by decide); omega) (by decide) ?_
    exact hnext μ h

theorem kt_kt.ag {σ σ' : kt_Y} {o : Nat} (h : kt_kt σ o) (ha : kt_ag o (o + 522) σ σ') : kt_kt σ' o := by
  obtain ⟨hk0, hr0, hr1, hr2, hr3, hr4, hr5, hr6, hr7, hr8, hr9, hr10, hr11, hr12, hk152, hk153, hk369, hk370, hk371, hrd, hdr, hor, hcu, hfw, hpt, hrn, hdi, him, hsh⟩ := h
  have g0 := ha o (by omega) (by omega)
  have g := fun x (h : x < 522) => ha (o + x) (by omega) (by omega)
  exact ⟨g0.1.trans hk0, (g0.2 0).trans hr0, (g0.2 1).trans hr1, (g0.2 2).trans hr2, (g0.2 3).trans hr3, (g0.2 4).trans hr4, (g0.2 5).trans hr5, (g0.2 6).trans hr6, (g0.2 7).trans hr7, (g0.2 8).trans hr8, (g0.2 9).trans hr9, (g0.2 10).trans hr10, (g0.2 11).trans hr11, (g0.2 12).trans hr12, (g 152 (by decide)).1.trans hk152, (g 153 (by decide)).1.trans hk153, (g 369 (by decide)).1.trans hk369, (g 370 (by decide)).1.trans hk370, (g 371 (by decide)).1.trans hk371, hrd.ag (ha.sub (by omega) (by omega)), hdr.ag (ha.sub (by omega) (by omega)), hor.ag (ha.sub (by omega) (by omega)), hcu.ag (ha.sub (by omega) (by omega)), hfw.ag (ha.sub (by omega) (by omega)), hpt.ag (ha.sub (by omega) (by omega)), hrn.ag (ha.sub (by omega) (by omega)), hdi.ag (ha.sub (by omega) (by omega)), fun k hk => ⟨((g 152 (by decide)).2 k).trans (him k hk).1, (him k hk).2.ag (ha.sub (by omega) (by omega))⟩, fun k hk => ⟨((g 371 (by decide)).2 k).trans (hsh k hk).1, (hsh k hk).2.ag (ha.sub (by omega) (by omega))⟩⟩
set_option maxHeartbeats 4000000 in
set_option maxRecDepth 100000 in
theorem whole_start {p : Program} {e : Env} {s : State} {m : MethodId} {below : List Frame} {meth : Method} {c : Code} (l : Launch) (hflags : l.flags = flags0) {b L : Nat} {xs : Nat → Int32} (hL : L ≤ 2560) (C0 : lw_At p s m meth c b L xs) : W p l e room_1 s m #[Value.ref b] below meth c s.heap [] 0 0 (lw_Z below #[Value.ref b] s) (entryFrame m ([Value.ref b] : List Value).toArray 4) := by
  obtain ⟨hx, hb, hr, hml, hown, hts, hX, hbl, hlocks, hgv⟩ := id C0
  obtain ⟨G, hGl, hGb, hK⟩ := lw_K l hts hgv
  have hok : kt_ok G (p, l, e, room_1, s, m, #[Value.ref b], below, meth, c) RL code 4 9 600000 7302250 := ⟨hx, hb, hml, hown, fun w h => hts w (List.mem_filter.mp h).1, hK, by rw [hGb]; exact Nat.le_refl _, hlocks, hGl.symm, ⟨Nat.le_of_ble_eq_true rfl, Nat.le_of_ble_eq_true rfl⟩, Nat.le_refl _, Nat.le_refl _⟩
  have hXS : kt_XS G (p, l, e, room_1, s, m, #[Value.ref b], below, meth, c) b L xs := ⟨hX, hbl, hGb, rfl, rfl, hb, hr⟩
  have hl := lv_entry ([.ref b]) (n := 4) (Nat.le_of_ble_eq_true rfl)
  rw [lg_entry_eq]
  generalize (lg_sl ([.ref b]) ++ List.replicate (4 - (lg_sl ([.ref b])).length) Slot.unset).toArray = ls at hl ⊢
  have hl : lv_has ls 4 [(0, .ref b)] := hl
  generalize ho : s.heap.size = o
  have hH : kt_H G ((fun _ => none, fun _ _ => none, o) : kt_Y) ((fun _ _ => 0, fun _ _ => 0) : kt_M) s.heap := ⟨ho, by rw [hGb, ho]; exact Nat.le_refl _, (fun a h => by cases h), (fun a h => by cases h)⟩
  have key : kt_W G (p, l, e, room_1, s, m, #[Value.ref b], below, meth, c) 4 0 [(0, .ref b)] [] ((fun _ => none, fun _ _ => none, o) : kt_Y) ((fun _ _ => 0, fun _ _ => 0) : kt_M) 0 0 (lw_ZX (p, l, e, room_1, s, m, #[Value.ref b], below, meth, c) b) := by
    generalize hσ : ((fun _ => none, fun _ _ => none, o) : kt_Y) = σ
    generalize ((fun _ _ => 0, fun _ _ => 0) : kt_M) = μ
    have ht : kt_t σ = o := by rw [← hσ]; rfl
    clear hσ
    have hX := hok
    refine kr_nO (c0 := 9) o ht hX kw_19 kw_20 kw_1 kc_9 kd_9 dL_law_0 (Nat.le_of_ble_eq_true rfl) (Nat.le_of_ble_eq_true rfl) ?_
    refine kr_dup hX dL_law_3 rfl ?_
    refine kr_callI [] hX km_L_9 dL_law_4 (mk_kt (by rw [kt_k_nA, if_pos rfl]) rfl (fun k => by rw [kt_i_z, if_pos rfl])) rfl rfl (by decide) (Nat.le_of_ble_eq_true rfl) (Nat.le_of_ble_eq_true rfl) (Nat.le_of_ble_eq_true rfl) ?_
    intro r1 σ1 μ1 hI1
    have hr1 := hI1.1
    subst hr1
    refine kr_astore_n (i := 1) hX dL_law_7 rfl (by decide) rfl rfl ?_
    refine kr_nO (c0 := 10) (o + 522) (by exact hI1.2.1) hX kw_1011 kw_1012 kw_11 kc_10 kd_10 dL_law_8 (Nat.le_of_ble_eq_true rfl) (Nat.le_of_ble_eq_true rfl) ?_
    refine kr_dup hX dL_law_11 rfl ?_
    refine kr_callI [] hX km_L_12 dL_law_12 (mk_md (by rw [kt_k_nA, if_pos rfl]) rfl (fun k => by rw [kt_i_z, if_pos rfl])) rfl rfl (by decide) (Nat.le_of_ble_eq_true rfl) (Nat.le_of_ble_eq_true rfl) (Nat.le_of_ble_eq_true rfl) ?_
    intro r2 σ2 μ2 hI2
    have hr2 := hI2.1
    subst hr2
    refine kr_astore_n (i := 2) hX dL_law_15 rfl (by decide) rfl rfl ?_
    refine kr_iconst (v := 0) hX dL_law_16 (by decide) ?_
    refine kr_istore_n (i := 3) hX dL_law_17 rfl (by decide) rfl rfl ?_
    refine kr_wid (cs' := 541) (ss' := 5855) (Nat.le_of_ble_eq_true rfl) (Nat.le_of_ble_eq_true rfl) ?_
    have hp : kt_kt σ2 o := hI1.2.2.2.2.1.ag (fun x h1 h2 => ⟨by rw [(hI2.O.1 x (by omega)).1, kt_k_nA, if_neg (by omega)], fun k => by rw [(hI2.O.1 x (by omega)).2 k, kt_r_nA, if_neg (by omega)]⟩)
    exact lw_loop hX hXS hL hp hI2.2.2.2.2.1 L 0 μ2 (by omega) (Nat.zero_le _) (kInv.start hI1 hI2)
  exact key s.heap [] ls hH va_S.rf hl

-- ===== YOUR PART ENDS =====
set_option maxHeartbeats 4000000 in
theorem lw_walk (l : Launch) (hflags : l.flags = flags0) (b : Addr) (xs : List Int32) : MetFree l x (headSpec (Jvm.Cond.code x code maxLocals ret :: tables_1) room_1) (lw_P b xs) (fun _ _ _ _ _ => True) lw_Q := by
  refine MetFree.of_bodyS (code := code) (maxLocals := maxLocals) (ret := ret) (by decide) ?_ ?_
  · intro args s m h hn
    obtain ⟨meth, c, h1, h2, h3, h4, h5, h6, -, -⟩ := Cond.code_spec hn (atoms_spec (ws := Jvm.Cond.code x code maxLocals ret :: tables_1) h _ List.mem_cons_self)
    exact ⟨meth, c, h1, h2, h3, h4, h5, h6⟩
  · intro p e s m args below meth c s₁ B hml0 hP _
    obtain ⟨rfl, hx, hbd, hgv⟩ := hP
    obtain ⟨scr, harrAt, hlist, hof, hsmall⟩ := hx
    obtain ⟨hcb, hkn, -, -⟩ := State.arrayAt?_spec harrAt
    have hown : s.vm.findClass R_law = some m.cls := findClass_of_methodNamed B.named
    have hts0 : ∀ c ∈ (Jvm.Cond.code x code maxLocals ret :: tables_1), c.before #[Value.ref b] s = true := atoms_spec (ws := Jvm.Cond.code x code maxLocals ret :: tables_1) B.pre
    have hts : ∀ w ∈ lw_tbl, w.before #[Value.ref b] s = true := k2_hts_sels lw_privs (fun w hw => hts0 w (List.mem_cons_of_mem _ hw)) lw_privs_ok
    have hml : c.maxLocals = 4 := B.maxLocals_eq (hts0 _ List.mem_cons_self)
    have X₀ : Stand p l e room_1 s m #[Value.ref b] below meth c s₁ [] 0 0 := Stand.of_body B
    have hh0 : s₁.heap = s.heap := by rw [B.state]; rfl
    have hsz : scr.slots.size = xs.length := by rw [← Array.length_toList, hlist, List.length_map]
    have hval : ∀ j : Nat, j < xs.length → scr.slots[j]? = some (.int (xs.getD j 0)) := fun j hj => by
      rw [← Array.getElem?_toList, hlist]
      simp [hj]
    have hbl : b < s.heap.size := (Array.getElem?_eq_some_iff.mp hcb).1
    have hX : va_X b xs.length (fun j => xs.getD j 0) s s.heap := ⟨scr, hcb, hof, hkn, hsz, hval⟩
    have K : W p l e room_1 s m #[Value.ref b] below meth c s₁.heap [] 0 0 (lw_Z below #[Value.ref b] s) (entryFrame m ([Value.ref b] : List Value).toArray 4) := by
      rw [hh0]
      exact whole_start l hflags hbd ⟨B.exec, B.bytes, B.returns, hml, hown, hts, hX, hbl, B.notSynchronized, hgv⟩
    obtain ⟨t, a1, o, b1, b2, b3⟩ := K s₁ rfl X₀
    exact ⟨t, o, a1, b1, b2, b3⟩
theorem lw_pre_spec {args : Array Value} {s : State} (h : (Jvm.Cond.and given_1 narrow_1).before args s = true) (hr : rest_1_c.before args s = true) : ∃ (b : Addr) (xs : List Int32), lw_P b xs args s := by
  have hs := flat_of_before _ h
  have hq := flat_of_before _ hr
  have hc : (Cond.count 1).before args s = true := hs _ (by decide +kernel)
  have harr : (Cond.arrayOf (.arg 0) .int).before args s = true := hs _ (by decide +kernel)
  have hle : (Cond.le (.length (.arg 0)) (.int 2560)).before args s = true := hs _ (by decide +kernel)
  have hlen : (Cond.isInt (.length (.arg 0))).before args s = true := hq _ (by decide +kernel)
  have hall : (Cond.all (.arg 0) (.isInt (.elem (.arg 0) (.index 0)))).before args s = true := hq _ (by decide +kernel)
  obtain ⟨b, xs, hb, hx⟩ := State.ints_of_pre rfl harr hlen hall
  have hsm : xs.length < 2 ^ 31 := hx.choose_spec.2.2.2
  have hev : (Term.length (.arg 0)).eval args s none [] s = some (.int xs.length.toInt32) := hx.length_eval hb
  have hv := Cond.le_ints hev (show (Term.int 2560).eval args s none [] s = some (.int 2560) from rfl)
  have hd : xs.length.toInt32 ≤ 2560 := by
    simpa [Cond.before, Cond.holds, hv] using hle
  have hN : xs.length ≤ 2560 := (Int32.ofNat_le_ofNat hsm (by decide)).mp (show Int32.ofNat xs.length ≤ Int32.ofNat 2560 from hd)
  exact ⟨b, xs, Cond.one_arg hc (show args[0]? = some (.ref b) from hb), hx, hN, h⟩
theorem lw_comes (l : Launch) (hflags : l.flags = flags0) : Comes l x (Jvm.Cond.code x code maxLocals ret :: tables_1) room_1 (fun tb e args s => Calls_1 tb e args s ∧ rest_1 tb e args s ∧ Pre_1 tb e args s)
    (fun _ _ args s o t => lw_Q args s o t) := by
  intro p e ha hc hk s m args below hf hfit hheap happ hpre
  obtain ⟨b, xs, hP⟩ := lw_pre_spec hpre.2.2 hpre.2.1
  obtain ⟨k, o, h1, h2, h3, hQ⟩ := lw_walk l hflags b xs p e ha hc hk s m args below hf ((Spec.applies_iff_loose hf).mp happ).1 hP trivial
  exact ⟨k, o, h1, h2, h3, hQ⟩
theorem lw_frame {s t : State} {o : Outcome} {args : Array Value} (h : Framed s o t [] 600000 7302250) :
    Framed s o t (fieldLocs frame_1_writes args s ++ arrayLocs frame_1_arrays args s ++ staticLocs frame_1_statics s) 600000 7302250 := h
theorem lw_limb (L : Cond) (hL : ∀ (args : Array Value) (s t : State), L.after args s (.returned (some (.int 1))) t = true) :
    ArmFor flags0 classFile x code maxLocals ret World_1 tables_1 room_1 Calls_1 rest_1 Pre_1
      (fun tb e a s o t => postC L tb e a s o t ∧ Framed s o t (fieldLocs frame_1_writes a s ++ arrayLocs frame_1_arrays a s ++ staticLocs frame_1_statics s) 600000 7302250) := by
  intro l hflags _ _ p e ha hc hk s m args below hf hfit hheap happ hpre
  obtain ⟨k, o, h1, h2, h3, rfl, hF⟩ := lw_comes l hflags p e ha hc hk s m args below hf hfit hheap happ hpre
  exact ⟨k, _, h1, h2, h3, hL args s _, lw_frame hF⟩
theorem i_vc : Claimed_1_1 ∧ Claimed_1_2 := ⟨lw_limb limb_1_1 (fun args s t => by simp [limb_1_1, Cond.after, Cond.holds, Cond.value]), lw_limb limb_1_2 (fun args s t => Cond.after_iff.mpr (by
  first | (rw [show limb_1_2 = Cond.eq .result (.int 1) from rfl, Cond.eq_ints (x := 1) (y := 1) rfl rfl]; simp; done) | (simp [limb_1_2, Cond.value, Term.eval]; done)))⟩


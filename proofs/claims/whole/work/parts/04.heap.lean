/-! the heap that holds a memory: reading, writing, making -/
section KH
variable {G : kt_G} {σ σ' : kt_Y} {μ μ' : kt_M} {H H1 : Heap} {a : Nat}
theorem kt_cell_ext {aC : Nat → ClassId} {x : Nat} (h1 : kt_k σ' x = kt_k σ x) (h2 : kt_r σ' x = kt_r σ x) (h3 : kt_i μ' x = kt_i μ x) (h4 : kt_l μ' x = kt_l μ x) : kt_cell aC σ' μ' x = kt_cell aC σ μ x := by
  have e : ∀ c, kt_fs σ' μ' x c = kt_fs σ μ x c := fun c => by unfold kt_fs kt_fv; rw [h2, h3]
  unfold kt_cell
  rw [h1, h2, h3, h4]
  simp only [e]
theorem kt_H.at (h : kt_H G σ μ H) {kd : Nat × Nat} (hk : kt_k σ a = some kd) : va_at (kt_kn G) vwCl (a, kt_cell (kt_aC G) σ μ a) H := h.2.2.2 a (by rw [hk]; rfl)
theorem kt_H.A (h : kt_H G σ μ H) {kd : Nat × Nat} (hk : kt_k σ a = some kd) : kt_A G a := (h.2.2.1 a (by rw [hk]; rfl)).1
theorem kt_one {D : va_G} {q : Nat × va_E} (h : va_at D vwCl q H) : va_P D vwCl [q] H := by
  intro k x hx
  have hz : k < 1 := (List.getElem?_eq_some_iff.mp hx).1
  rw [show k = 0 by omega] at hx
  cases hx
  exact h
theorem kt_H.P (h : kt_H G σ μ H) {kd : Nat × Nat} (hk : kt_k σ a = some kd) : va_P (kt_kn G) vwCl [(a, kt_cell (kt_aC G) σ μ a)] H := kt_one (h.at hk)
theorem kt_H.put (h : kt_H G σ μ H) (z : H1.size = H.size) (oq : ∀ q : Nat, q ≠ a → H1[q]? = H[q]?) (hk : kt_k σ' = kt_k σ) (ht : kt_t σ' = kt_t σ) (hc : ∀ x, x ≠ a → kt_cell (kt_aC G) σ' μ' x = kt_cell (kt_aC G) σ μ x) (ha : va_at (kt_kn G) vwCl (a, kt_cell (kt_aC G) σ' μ' a) H1) : kt_H G σ' μ' H1 := by
  refine ⟨by rw [z, ht]; exact h.1, by rw [ht]; exact h.2.1, fun x hx => ?_, fun x hx => ?_⟩
  · rw [hk] at hx; rw [ht]; exact h.2.2.1 x hx
  · by_cases hxa : x = a
    · rw [hxa]; exact ha
    · rw [hc x hxa]
      rw [hk] at hx
      exact (h.2.2.2 x hx).kept (oq x hxa)
theorem va_up_ne' {α : Type} {f : Nat → α} {k j : Nat} {v : α} (h : j ≠ k) : va_up f k v j = f j := if_neg h
theorem va_up_eq' {α : Type} {f : Nat → α} {k : Nat} {v : α} : va_up f k v k = v := if_pos rfl
theorem kt_i_sia {k : Nat} {v : Int32} : kt_i (kt_si μ a k v) a = va_up (kt_i μ a) k v := va_up_eq' (f := kt_i μ)
theorem kt_l_sla {k : Nat} {v : Int64} : kt_l (kt_sl μ a k v) a = va_up (kt_l μ a) k v := va_up_eq' (f := kt_l μ)
theorem kt_r_sra {k : Nat} {v : Option Nat} : kt_r (kt_sr σ a k v) a = va_up (kt_r σ a) k v := va_up_eq' (f := kt_r σ)
theorem kt_cell_si {aC : Nat → ClassId} {k x : Nat} {v : Int32} (h : x ≠ a) : kt_cell aC σ (kt_si μ a k v) x = kt_cell aC σ μ x := kt_cell_ext rfl rfl (va_up_ne' h) rfl
theorem kt_cell_sl {aC : Nat → ClassId} {k x : Nat} {v : Int64} (h : x ≠ a) : kt_cell aC σ (kt_sl μ a k v) x = kt_cell aC σ μ x := kt_cell_ext rfl rfl rfl (va_up_ne' h)
theorem kt_cell_sr {aC : Nat → ClassId} {k x : Nat} {v : Option Nat} (h : x ≠ a) : kt_cell aC (kt_sr σ a k v) μ x = kt_cell aC σ μ x := kt_cell_ext rfl (va_up_ne' h) rfl rfl
theorem kt_cell_o {aC : Nat → ClassId} {c : Nat} (h : kt_k σ a = some (0, c)) : kt_cell aC σ μ a = .inr (c, kt_fs σ μ a c) := by unfold kt_cell; rw [h]
theorem kt_cell_i {aC : Nat → ClassId} {n : Nat} (h : kt_k σ a = some (1, n)) : kt_cell aC σ μ a = .inl (aC 1, n, .inl (kt_i μ a)) := by unfold kt_cell; rw [h]
theorem kt_cell_l {aC : Nat → ClassId} {n : Nat} (h : kt_k σ a = some (2, n)) : kt_cell aC σ μ a = .inl (aC 2, n, .inr (.inl (kt_l μ a))) := by unfold kt_cell; rw [h]
theorem kt_cell_z {aC : Nat → ClassId} {n : Nat} (h : kt_k σ a = some (3, n)) : kt_cell aC σ μ a = .inl (aC 3, n, .inl (kt_i μ a)) := by unfold kt_cell; rw [h]
theorem kt_cell_q {aC : Nat → ClassId} {t n : Nat} (h : kt_k σ a = some (t + 4, n)) : kt_cell aC σ μ a = .inl (aC (t + 4), n, .inr (.inr (.inr (.inr (kt_r σ a))))) := by unfold kt_cell; rw [h]
theorem kt_fs_get {c k : Nat} (h : k < kt_n c) : (kt_fs σ μ a c)[k]? = some (kt_fv σ μ a c k) := by
  unfold kt_fs
  rw [List.getElem?_map, List.getElem?_range h]
  rfl
theorem kt_fs_len {c : Nat} : (kt_fs σ μ a c).length = kt_n c := by unfold kt_fs; rw [List.length_map, List.length_range]
theorem kt_fs_V {c k : Nat} (h : k < kt_n c) : vp_V (kt_fs σ μ a c) k = kt_fv σ μ a c k := by
  unfold vp_V
  rw [List.getD_eq_getElem?_getD, kt_fs_get h]
  rfl
theorem kt_fv_i {c k : Nat} (h : kt_ir (kt_ty c k) = false) : kt_fv σ μ a c k = .int (kt_i μ a k) := by unfold kt_fv; rw [h]; rfl
theorem kt_fv_r {c k : Nat} (h : kt_ir (kt_ty c k) = true) : kt_fv σ μ a c k = va_rf (kt_r σ a k) := by unfold kt_fv; rw [h]; rfl
/-- what is known of a class, of a field's entry in a class's pool -/
def kt_CL (c : Nat) (C : String) (T : u_T) : Prop := vwCl[c]? = some (C, T, kt_n c) ∧ (∀ w ∈ u_ws C T (kt_n c), w ∈ kt_T) ∧ (∀ j, j < kt_n c → parseFieldDescriptor (T j).2.2.1 = some (kt_ty c j)) ∧ ∀ a, a < kt_n c → ∀ b, b < kt_n c → a ≠ b → (T a).2.1 ≠ (T b).2.1
def kt_FL (own : String) (idx c k : Nat) (fin : Bool) : Prop := ∃ (C : String) (T : u_T), kt_CL c C T ∧ k < kt_n c ∧ Cond.fieldLink own idx (T k).1 (T k).2.1 (T k).2.2.1 ∈ kt_T ∧ (T k).2.2.2 = fin
end KH
section KR
variable {G : kt_G} {X : kt_X} {own : String} {cc : ByteArray} {nL d mc ms pc cs ss : Nat} {lv : List (Nat × Value)} {st : List Value} {σ : kt_Y} {μ : kt_M} {Z : State → Prop} {a idx c0 k : Nat}
theorem kr_geti (hX : kt_ok G X own cc nL d mc ms) (hF : ∃ fin, kt_FL own idx c0 k fin) (hdg : decode cc pc = .ok (.getfield idx, 3)) (hi : kt_ir (kt_ty c0 k) = false) (hk : kt_k σ a = some (0, c0)) (kk : kt_W G X nL (pc + 3) lv (.int (kt_i μ a k) :: st) σ μ cs ss Z) : kt_W G X nL pc lv (.ref a :: st) σ μ cs ss Z := by
  obtain ⟨p, l, e, R, s, m, args, below, meth, c⟩ := X
  obtain ⟨hx, hb, hml, hown, hts, hK, h0, hlk, hla, hrm, hmc, hms⟩ := hX
  intro H locs ls hH hS hl
  obtain ⟨fin, C, T, ⟨hc, hin, hty, hnm⟩, hkn, hlink, hfin⟩ := hF
  have hP := hH.P hk
  rw [kt_cell_o hk] at hP
  exact va_get (D := kt_kn G) (T := T) hx hb hts hin hown hK.1 hP 0 rfl hc k hkn (hts _ hlink) (fun _ h9 => h9) (by rw [kt_fs_get hkn, kt_fv_i hi]) hdg (kk H locs ls hH hS hl)
theorem kr_getr (hX : kt_ok G X own cc nL d mc ms) (hF : ∃ fin, kt_FL own idx c0 k fin) (hdg : decode cc pc = .ok (.getfield idx, 3)) (hi : kt_ir (kt_ty c0 k) = true) {b : Nat} (hk : kt_k σ a = some (0, c0)) (hr : kt_r σ a k = some b) (kk : kt_W G X nL (pc + 3) lv (.ref b :: st) σ μ cs ss Z) : kt_W G X nL pc lv (.ref a :: st) σ μ cs ss Z := by
  obtain ⟨p, l, e, R, s, m, args, below, meth, c⟩ := X
  obtain ⟨hx, hb, hml, hown, hts, hK, h0, hlk, hla, hrm, hmc, hms⟩ := hX
  intro H locs ls hH hS hl
  obtain ⟨fin, C, T, ⟨hc, hin, hty, hnm⟩, hkn, hlink, hfin⟩ := hF
  have hP := hH.P hk
  rw [kt_cell_o hk] at hP
  exact va_get (D := kt_kn G) (T := T) hx hb hts hin hown hK.1 hP 0 rfl hc k hkn (hts _ hlink) (fun _ h9 => h9) (by rw [kt_fs_get hkn, kt_fv_r hi, hr]; rfl) hdg (kk H locs ls hH hS hl)
/-- a field's writing, once: any value that fits -/
theorem kt_putW {p : Program} {l : Launch} {e : Env} {R : Room} {s : State} {m : MethodId} {args : Array Value} {below : List Frame} {meth : Method} {c : Code} {H : Heap} {locs : List Loc} {ls : Array Slot} {v : Value} {σ' : kt_Y} {μ' : kt_M}
    (hX : kt_ok G (p, l, e, R, s, m, args, below, meth, c) own cc nL d mc ms) {fin : Bool} (hF : kt_FL own idx c0 k fin) (hfc : fin = true → meth.name = "<init>" ∧ ∃ (C : String) (T : u_T), vwCl[c0]? = some (C, T, kt_n c0) ∧ (T k).1 = own) (hdg : decode cc pc = .ok (.putfield idx, 3)) (hk : kt_k σ a = some (0, c0)) (hn : narrow (kt_ty c0 k) v = v) (hfit : fits (kt_ty c0 k) v = true)
    (hk' : kt_k σ' = kt_k σ) (ht' : kt_t σ' = kt_t σ) (hc' : ∀ x, x ≠ a → kt_cell (kt_aC G) σ' μ' x = kt_cell (kt_aC G) σ μ x) (hv : ∀ j, j < kt_n c0 → updV (vp_V (kt_fs σ μ a c0)) k v j = vp_V (kt_fs σ' μ' a c0) j)
    (hH : kt_H G σ μ H) (hS0 : va_S (kt_A G) s.heap H locs) (hl : lv_has ls nL lv) (kk : kt_W G (p, l, e, R, s, m, args, below, meth, c) nL (pc + 3) lv st σ' μ' cs ss Z) : W p l e R s m args below meth c H locs cs ss Z (F0 m pc ls (v :: .ref a :: st)) := by
  obtain ⟨hx, hb, hml, hown, hts, hK, h0, hlk, hla, hrm, hmc, hms⟩ := hX
  obtain ⟨C, T, ⟨hc, hin, hty, hnm⟩, hkn, hlink, hfin⟩ := hF
  have hap := va_apart (own := own) hts hin (kt_ty c0) hty hnm hK.1 hc
  have hat := hH.at hk
  rw [kt_cell_o hk] at hat
  obtain ⟨r, h1, cell, q1, q2, q3, q4⟩ := hat
  have hr : r = (C, T, kt_n c0) := Option.some.inj (h1.symm.trans hc)
  subst hr
  obtain ⟨hS, hfcl, kC, hkC, hkind⟩ := hK.1.1 c0 _ hc
  obtain ⟨cf, kf, fi, f, hi, hsl⟩ := hS k hkn
  have hlay := hts _ (hin _ (u_in_lay hkn))
  unfold u_lay at hlay
  have hst := (u_facts hfcl hkC (u_lays hts hin hkn) hi).1
  have fin' : ∀ (H' : Heap) (j : Nat), H'[a]? = some (cell.setSlot (G.2.1 c0 k) v) → H'.size = H.size → (∀ q, q ≠ a → H'[q]? = H[q]?) → W p l e R s m args below meth c H' (locs ++ [⟨a, j⟩]) cs ss Z (F0 m (pc + 3) ls st) := by
    intro H' j e1 e2 e3
    refine kk H' _ ls (hH.put e2 e3 hk' ht' hc' ?_) (hS0.put e2 e3 (hH.A hk)) hl
    rw [kt_cell_o (by rw [hk']; exact hk)]
    exact ⟨_, hc, t_OB.to (V := updV (vp_V (kt_fs σ μ a c0)) k v) ⟨_, e1, q2, q3, t_set q4 hap hkn v⟩ (fun j hj => hv j hj)⟩
  cases fin with
  | false =>
    rw [if_neg (by rw [hfin]; decide)] at hlay
    have h6 := u_store hfcl hkC hkind hlay hi (hty k hkn) hn hfit
    refine W.putK hx hb (f := f) ⟨hown, hts _ hlink, ⟨_, _, _, hi⟩, hst⟩ (by rw [q2]; exact h6) q1 q3 (by rw [hsl]; exact k2_hasslot (q4 k hkn)) rfl rfl hdg fun H' e1 e2 e3 => ?_
    rw [hsl] at e1 ⊢
    exact fin' H' _ e1 e2 e3
  | true =>
    rw [if_pos hfin] at hlay
    obtain ⟨hini, C2, T2, hc2, hdecl⟩ := hfc rfl
    have hcc : (C2, T2, kt_n c0) = (C, T, kt_n c0) := Option.some.inj (hc2.symm.trans hc)
    have hTT : T2 = T := by injection hcc with _ h; injection h
    subst hTT
    have hcf : m.cls = cf := by
      obtain ⟨_, _, c', _, _, _, -, -, hf', -, -, -, hown2, -⟩ := Cond.laysFinal_spec hlay
      have e1 : c' = cf := by have := hi.symm.trans hf'; simp at this; exact this.1.symm
      rw [hdecl] at hown2
      rw [← e1]; exact Option.some.inj (hown.symm.trans hown2)
    have h6 := u_fits hfcl hkC hkind (Or.inr hlay) hi (hty k hkn) hn hfit
    refine W.putFinK hx hb hown (hts _ hlink) hi hst hcf hini (by rw [q2]; exact h6) q1 q3 (by rw [hsl]; exact k2_hasslot (q4 k hkn)) rfl rfl hdg fun H' e1 e2 e3 => ?_
    rw [hsl] at e1 ⊢
    exact fin' H' _ e1 e2 e3
theorem kt_up_fv_i {v : Int32} (hi : kt_ir (kt_ty c0 k) = false) : ∀ j, j < kt_n c0 → updV (vp_V (kt_fs σ μ a c0)) k (.int v) j = vp_V (kt_fs σ (kt_si μ a k v) a c0) j := by
  intro j hj
  rw [kt_fs_V hj]
  unfold updV
  by_cases h : j = k
  · subst h
    rw [if_pos rfl, kt_fv_i hi, kt_i_sia, va_up_eq']
  · rw [if_neg h, kt_fs_V hj]
    unfold kt_fv
    have e1 : kt_i (kt_si μ a k v) a j = kt_i μ a j := by rw [kt_i_sia, va_up_ne' h]
    rw [e1]
theorem kt_up_fv_r {v : Option Nat} (hi : kt_ir (kt_ty c0 k) = true) : ∀ j, j < kt_n c0 → updV (vp_V (kt_fs σ μ a c0)) k (va_rf v) j = vp_V (kt_fs (kt_sr σ a k v) μ a c0) j := by
  intro j hj
  rw [kt_fs_V hj]
  unfold updV
  by_cases h : j = k
  · subst h
    rw [if_pos rfl, kt_fv_r hi, kt_r_sra, va_up_eq']
  · rw [if_neg h, kt_fs_V hj]
    unfold kt_fv
    have e1 : kt_r (kt_sr σ a k v) a j = kt_r σ a j := by rw [kt_r_sra, va_up_ne' h]
    rw [e1]
/-- a field that isn't final: an int -/
theorem kr_puti (hX : kt_ok G X own cc nL d mc ms) (hF : kt_FL own idx c0 k false) (hdg : decode cc pc = .ok (.putfield idx, 3)) {v : Int32} (hi : kt_ir (kt_ty c0 k) = false) (hn : narrow (kt_ty c0 k) (.int v) = .int v) (hfit : fits (kt_ty c0 k) (.int v) = true) (hk : kt_k σ a = some (0, c0)) (kk : kt_W G X nL (pc + 3) lv st σ (kt_si μ a k v) cs ss Z) : kt_W G X nL pc lv (.int v :: .ref a :: st) σ μ cs ss Z := by
  obtain ⟨p, l, e, R, s, m, args, below, meth, c⟩ := X
  intro H locs ls hH hS hl
  exact kt_putW (σ' := σ) (μ' := kt_si μ a k v) hX hF (fun h => by cases h) hdg hk hn hfit rfl rfl (fun x hx => kt_cell_si hx) (kt_up_fv_i hi) hH hS hl kk
def kt_mn (X : kt_X) : String := match X with | (_, _, _, _, _, _, _, _, meth, _) => meth.name
/-- a final field in a constructor: a reference -/
theorem kr_putr (hX : kt_ok G X own cc nL d mc ms) {fin : Bool} (hF : kt_FL own idx c0 k fin) (hfc : fin = true → kt_mn X = "<init>" ∧ ∃ (C : String) (T : u_T), vwCl[c0]? = some (C, T, kt_n c0) ∧ (T k).1 = own) (hdg : decode cc pc = .ok (.putfield idx, 3)) {b : Nat} (hi : kt_ir (kt_ty c0 k) = true) (hn : narrow (kt_ty c0 k) (.ref b) = .ref b) (hfit : fits (kt_ty c0 k) (.ref b) = true) (hk : kt_k σ a = some (0, c0)) (kk : kt_W G X nL (pc + 3) lv st (kt_sr σ a k (some b)) μ cs ss Z) : kt_W G X nL pc lv (.ref b :: .ref a :: st) σ μ cs ss Z := by
  obtain ⟨p, l, e, R, s, m, args, below, meth, c⟩ := X
  intro H locs ls hH hS hl
  exact kt_putW (σ' := kt_sr σ a k (some b)) (μ' := μ) hX hF hfc hdg hk hn hfit rfl rfl (fun x hx => kt_cell_sr hx) (kt_up_fv_r (v := some b) hi) hH hS hl kk
/-! arrays -/
theorem kr_iald (hX : kt_ok G X own cc nL d mc ms) (hdg : decode cc pc = .ok (.iaload, 1)) {i : Int32} {n : Nat} (hk : kt_k σ a = some (1, n)) (hin : vp_in i n) (kk : kt_W G X nL (pc + 1) lv (.int (kt_i μ a i.toNatClampNeg) :: st) σ μ cs ss Z) : kt_W G X nL pc lv (.int i :: .ref a :: st) σ μ cs ss Z := by
  obtain ⟨p, l, e, R, s, m, args, below, meth, c⟩ := X
  obtain ⟨hx, hb, hml, hown, hts, hK, h0, hlk, hla, hrm, hmc, hms⟩ := hX
  intro H locs ls hH hS hl
  have hP := hH.P hk
  rw [kt_cell_i hk] at hP
  exact va_iald hx hb hK.1 hP 0 1 rfl rfl hin hdg (kk H locs ls hH hS hl)
theorem kr_lald (hX : kt_ok G X own cc nL d mc ms) (hdg : decode cc pc = .ok (.laload, 1)) {i : Int32} {n : Nat} (hk : kt_k σ a = some (2, n)) (hin : vp_in i n) (kk : kt_W G X nL (pc + 1) lv (.long (kt_l μ a i.toNatClampNeg) :: st) σ μ cs ss Z) : kt_W G X nL pc lv (.int i :: .ref a :: st) σ μ cs ss Z := by
  obtain ⟨p, l, e, R, s, m, args, below, meth, c⟩ := X
  obtain ⟨hx, hb, hml, hown, hts, hK, h0, hlk, hla, hrm, hmc, hms⟩ := hX
  intro H locs ls hH hS hl
  have hP := hH.P hk
  rw [kt_cell_l hk] at hP
  exact va_lald hx hb hK.1 hP 0 2 rfl rfl hin hdg (kk H locs ls hH hS hl)
theorem kr_bald (hX : kt_ok G X own cc nL d mc ms) (hdg : decode cc pc = .ok (.baload, 1)) {i : Int32} {n : Nat} (hk : kt_k σ a = some (3, n)) (hin : vp_in i n) (kk : kt_W G X nL (pc + 1) lv (.int (kt_i μ a i.toNatClampNeg) :: st) σ μ cs ss Z) : kt_W G X nL pc lv (.int i :: .ref a :: st) σ μ cs ss Z := by
  obtain ⟨p, l, e, R, s, m, args, below, meth, c⟩ := X
  obtain ⟨hx, hb, hml, hown, hts, hK, h0, hlk, hla, hrm, hmc, hms⟩ := hX
  intro H locs ls hH hS hl
  have hP := hH.P hk
  rw [kt_cell_z hk] at hP
  exact va_zald hx hb hK.1 hP 0 3 rfl rfl hin hdg (kk H locs ls hH hS hl)
def kt_oc (t : Nat) : String := match t with | 0 => RX0 | 1 => RX4 | 2 => RX5 | _ => RX8
theorem kt_tys_q (aC : Nat → ClassId) {t : Nat} (ht : t < 4) : (kt_tys aC)[t + 4]? = some (aC (t + 4), .object (kt_oc t)) := by
  match t, ht with
  | 0, _ => rfl
  | 1, _ => rfl
  | 2, _ => rfl
  | 3, _ => rfl
theorem kr_aald (hX : kt_ok G X own cc nL d mc ms) (hdg : decode cc pc = .ok (.aaload, 1)) {i : Int32} {t n b : Nat} (ht : t < 4) (hk : kt_k σ a = some (t + 4, n)) (hin : vp_in i n) (hr : kt_r σ a i.toNatClampNeg = some b) (kk : kt_W G X nL (pc + 1) lv (.ref b :: st) σ μ cs ss Z) : kt_W G X nL pc lv (.int i :: .ref a :: st) σ μ cs ss Z := by
  obtain ⟨p, l, e, R, s, m, args, below, meth, c⟩ := X
  obtain ⟨hx, hb, hml, hown, hts, hK, h0, hlk, hla, hrm, hmc, hms⟩ := hX
  intro H locs ls hH hS hl
  have hP := hH.P hk
  rw [kt_cell_q hk] at hP
  refine va_aldq hx hb hK.1 hP 0 (t + 4) rfl (kt_tys_q _ ht) hin hdg ?_
  rw [hr]
  exact kk H locs ls hH hS hl
theorem kr_alen (hX : kt_ok G X own cc nL d mc ms) (hdg : decode cc pc = .ok (.arraylength, 1)) {t n : Nat} (hk : kt_k σ a = some (t + 1, n)) (ht : t < 7) {v : Int32} (hv : Int32.ofNat n = v) (kk : kt_W G X nL (pc + 1) lv (.int v :: st) σ μ cs ss Z) : kt_W G X nL pc lv (.ref a :: st) σ μ cs ss Z := by
  obtain ⟨p, l, e, R, s, m, args, below, meth, c⟩ := X
  obtain ⟨hx, hb, hml, hown, hts, hK, h0, hlk, hla, hrm, hmc, hms⟩ := hX
  intro H locs ls hH hS hl
  have hP := hH.P hk
  match t, ht, hk with
  | 0, _, hk => rw [kt_cell_i hk] at hP; exact va_alen hx hb hK.1 hP 0 1 rfl rfl hv hdg (kk H locs ls hH hS hl)
  | 1, _, hk => rw [kt_cell_l hk] at hP; exact va_alen hx hb hK.1 hP 0 2 rfl rfl hv hdg (kk H locs ls hH hS hl)
  | 2, _, hk => rw [kt_cell_z hk] at hP; exact va_alen hx hb hK.1 hP 0 3 rfl rfl hv hdg (kk H locs ls hH hS hl)
  | t + 3, ht, hk => rw [kt_cell_q (t := t) hk] at hP; exact va_alen hx hb hK.1 hP 0 (t + 4) rfl (kt_tys_q _ (by omega)) hv hdg (kk H locs ls hH hS hl)
theorem kr_iast (hX : kt_ok G X own cc nL d mc ms) (hdg : decode cc pc = .ok (.iastore, 1)) {i x : Int32} {n : Nat} (hk : kt_k σ a = some (1, n)) (hin : vp_in i n) (kk : kt_W G X nL (pc + 1) lv st σ (kt_si μ a i.toNatClampNeg x) cs ss Z) : kt_W G X nL pc lv (.int x :: .int i :: .ref a :: st) σ μ cs ss Z := by
  obtain ⟨p, l, e, R, s, m, args, below, meth, c⟩ := X
  obtain ⟨hx, hb, hml, hown, hts, hK, h0, hlk, hla, hrm, hmc, hms⟩ := hX
  intro H locs ls hH hS hl
  have hat := hH.at hk
  rw [kt_cell_i hk] at hat
  refine W.iast hx hb hat ((hK.1.2 1 _ rfl).1 n (fun j => .int (kt_i μ a j))) (fun q => by cases q) (by show ¬ (i < 0 ∨ (arrV _ _ _).slots.size ≤ _); rw [arrV_size]; exact hin) rfl rfl hdg fun H1 e z oq => ?_
  refine kk H1 _ ls (hH.put z oq rfl rfl (fun x hx => kt_cell_si hx) ?_) (hS.put z oq (hH.A hk)) hl
  rw [kt_cell_i (μ := kt_si μ a i.toNatClampNeg x) hk]
  show H1[a]? = some (vp_cell _ _)
  rw [e, vp_cell_i, vp_cell_i, arrV_store]
  congr 2
  funext q
  rw [kt_i_sia]
  by_cases hq : q = i.toNatClampNeg
  · rw [hq, va_up_eq']; exact if_pos rfl
  · rw [va_up_ne' hq]; exact if_neg hq
theorem kr_last (hX : kt_ok G X own cc nL d mc ms) (hdg : decode cc pc = .ok (.lastore, 1)) {i : Int32} {x : Int64} {n : Nat} (hk : kt_k σ a = some (2, n)) (hin : vp_in i n) (kk : kt_W G X nL (pc + 1) lv st σ (kt_sl μ a i.toNatClampNeg x) cs ss Z) : kt_W G X nL pc lv (.long x :: .int i :: .ref a :: st) σ μ cs ss Z := by
  obtain ⟨p, l, e, R, s, m, args, below, meth, c⟩ := X
  obtain ⟨hx, hb, hml, hown, hts, hK, h0, hlk, hla, hrm, hmc, hms⟩ := hX
  intro H locs ls hH hS hl
  have hat := hH.at hk
  rw [kt_cell_l hk] at hat
  refine W.last hx hb hat ((hK.1.2 2 _ rfl).1 n (fun j => .long (kt_l μ a j))) (fun q => by cases q) (by show ¬ (i < 0 ∨ (arrV _ _ _).slots.size ≤ _); rw [arrV_size]; exact hin) rfl rfl hdg fun H1 e z oq => ?_
  refine kk H1 _ ls (hH.put z oq rfl rfl (fun x hx => kt_cell_sl hx) ?_) (hS.put z oq (hH.A hk)) hl
  rw [kt_cell_l (μ := kt_sl μ a i.toNatClampNeg x) hk]
  show H1[a]? = some (vp_cell _ _)
  rw [e, vp_cell_l, vp_cell_l, arrV_store]
  congr 2
  funext q
  rw [kt_l_sla]
  by_cases hq : q = i.toNatClampNeg
  · rw [hq, va_up_eq']; exact if_pos rfl
  · rw [va_up_ne' hq]; exact if_neg hq
theorem kr_bast (hX : kt_ok G X own cc nL d mc ms) (hdg : decode cc pc = .ok (.bastore, 1)) {i x : Int32} {n : Nat} (hv : x = 0 ∨ x = 1) (hk : kt_k σ a = some (3, n)) (hin : vp_in i n) (kk : kt_W G X nL (pc + 1) lv st σ (kt_si μ a i.toNatClampNeg x) cs ss Z) : kt_W G X nL pc lv (.int x :: .int i :: .ref a :: st) σ μ cs ss Z := by
  obtain ⟨p, l, e, R, s, m, args, below, meth, c⟩ := X
  obtain ⟨hx, hb, hml, hown, hts, hK, h0, hlk, hla, hrm, hmc, hms⟩ := hX
  intro H locs ls hH hS hl
  have hat := hH.at hk
  rw [kt_cell_z hk] at hat
  have hnar : narrow .boolean (.int x) = .int x := by rcases hv with h | h <;> subst h <;> decide
  refine W.zast hx hb hat ((hK.1.2 3 _ rfl).1 n (fun j => .int (kt_i μ a j))) (fun q => by cases q) (by show ¬ (i < 0 ∨ (arrV _ _ _).slots.size ≤ _); rw [arrV_size]; exact hin) rfl rfl hdg fun H1 e z oq => ?_
  refine kk H1 _ ls (hH.put z oq rfl rfl (fun x hx => kt_cell_si hx) ?_) (hS.put z oq (hH.A hk)) hl
  rw [kt_cell_z (μ := kt_si μ a i.toNatClampNeg x) hk]
  show H1[a]? = some (vp_cell _ _)
  rw [e, vp_cell_i, vp_cell_i, arrV_store]
  congr 2
  funext q
  rw [kt_i_sia]
  by_cases hq : q = i.toNatClampNeg
  · rw [hq, va_up_eq']; exact (if_pos rfl).trans hnar
  · rw [va_up_ne' hq]; exact if_neg hq
theorem kr_aast (hX : kt_ok G X own cc nL d mc ms) (hdg : decode cc pc = .ok (.aastore, 1)) {i : Int32} {t n b c1 : Nat} (ht : t < 4) (hk : kt_k σ a = some (t + 4, n)) (hb1 : kt_k σ b = some (0, c1)) {T : u_T} {N : Nat} (hc1 : vwCl[c1]? = some (kt_oc t, T, N)) (hin : vp_in i n) (kk : kt_W G X nL (pc + 1) lv st (kt_sr σ a i.toNatClampNeg (some b)) μ cs ss Z) : kt_W G X nL pc lv (.ref b :: .int i :: .ref a :: st) σ μ cs ss Z := by
  obtain ⟨p, l, e, R, s, m, args, below, meth, c⟩ := X
  obtain ⟨hx, hb, hml, hown, hts, hK, h0, hlk, hla, hrm, hmc, hms⟩ := hX
  intro H locs ls hH hS hl
  have hat := hH.at hk
  rw [kt_cell_q hk] at hat
  have hvt := hH.at hb1
  rw [kt_cell_o hb1] at hvt
  have hlt : i.toNatClampNeg < n := Nat.not_le.mp fun q => hin (Or.inr q)
  have hi0 : ¬ i < 0 := fun q => hin (Or.inl q)
  obtain ⟨r', hr', cellV, g1, g2, g3, -⟩ := hvt
  have hcls := (hK.1.1 c1 _ hc1).2
  obtain ⟨kA, comp, k1, k2, k3, -⟩ := (hK.1.2 (t + 4) _ (kt_tys_q _ ht)).2
  have hcomp : comp = (kt_kn G).1 c1 := Option.some.inj (k3.symm.trans hcls.1)
  subst hcomp
  obtain ⟨kC, hkC, -⟩ := hcls.2
  refine W.aast hx hb hat (fun q h => by cases h) (fun h => by cases h) k1 k2 rfl hkC ⟨hi0, by show _ < (arrV _ _ _).slots.size; rw [arrV_size]; exact hlt⟩ g1 (fun q h => by rw [g3] at h; cases h) (by rw [g2]; exact hkC) (by rw [g2]; exact va_assign hcls) rfl rfl hdg fun H1 e z oq => ?_
  refine kk H1 _ ls (hH.put z oq rfl rfl (fun x hx => kt_cell_sr hx) ?_) (hS.put z oq (hH.A hk)) hl
  rw [kt_cell_q (σ := kt_sr σ a i.toNatClampNeg (some b)) (μ := μ) hk]
  show H1[a]? = some (vp_cell _ _)
  rw [e, vp_cell_q, vp_cell_q, arrV_store]
  congr 2
  funext q
  rw [kt_r_sra]
  by_cases hq : q = i.toNatClampNeg
  · rw [hq, va_up_eq']; exact if_pos rfl
  · rw [va_up_ne' hq]; exact if_neg hq
end KR

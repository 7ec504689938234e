/-! PURE: a block as it is made: its acts so far; the model's cells from c in the row x -/
def AC (μ ν : kt_M) (kb x c na : Nat) (f : Nat → Nat × Nat × Nat) : Prop := kt_i μ kb 0 = nI na ∧ kt_i ν x c = nI na ∧ ∀ i, i < na → ((kt_i μ (kb + 1) i = nI (f i).1 ∧ kt_i μ (kb + 2) i = nI (f i).2.1 ∧ ((f i).1 < 4 → kt_i μ (kb + 3) i = nI (f i).2.2)) ∧ (kt_i ν x (c + (1 + 3 * i)) = nI (f i).1 ∧ kt_i ν x (c + (1 + 3 * i + 1)) = nI (f i).2.1 ∧ kt_i ν x (c + (1 + 3 * i + 2)) = if (f i).1 < 4 then nI (f i).2.2 else -4)) ∧ (f i).1 ≤ 5 ∧ (f i).2.1 < 4 ∧ ((f i).1 < 3 → (f i).2.2 ≤ 50) ∧ ((f i).1 = 3 → (f i).2.2 < 4)
theorem AC.ext {μ ν μ' ν' : kt_M} {kb x c na : Nat} {f : Nat → Nat × Nat × Nat} (h : AC μ ν kb x c na f) (hna : na ≤ 4) (hμ : ∀ y z, kb ≤ y → y < kb + 4 → (y = kb → z = 0) → kt_i μ' y z = kt_i μ y z) (hν : ∀ z, c ≤ z → z < c + 13 → kt_i ν' x z = kt_i ν x z) : AC μ' ν' kb x c na f := by
  refine ⟨by rw [hμ _ _ (by omega) (by omega) (fun _ => rfl)]; exact h.1, by rw [hν _ (by omega) (by omega)]; exact h.2.1, fun i hi => ?_⟩
  rw [hμ (kb + 1) i (by omega) (by omega) (by omega), hμ (kb + 2) i (by omega) (by omega) (by omega), hμ (kb + 3) i (by omega) (by omega) (by omega), hν _ (by omega) (by omega), hν (c + (1 + 3 * i + 1)) (by omega) (by omega), hν (c + (1 + 3 * i + 2)) (by omega) (by omega)]
  exact h.2.2 i hi
theorem AC.add {μ ν μ' ν' : kt_M} {kb x c na ki va op : Nat} {f : Nat → Nat × Nat × Nat} (h : AC μ ν kb x c na f) (hki : ki ≤ 5) (hva : va < 4) (h50 : ki < 3 → op ≤ 50) (h4 : ki = 3 → op < 4) (m0 : kt_i μ' kb 0 = nI (na + 1)) (m1 : kt_i μ' (kb + 1) na = nI ki) (m2 : kt_i μ' (kb + 2) na = nI va) (m3 : ki < 4 → kt_i μ' (kb + 3) na = nI op) (mo : ∀ y z, kb < y → y < kb + 4 → z ≠ na → kt_i μ' y z = kt_i μ y z) (n0 : kt_i ν' x c = nI (na + 1)) (n1 : kt_i ν' x (c + (1 + 3 * na)) = nI ki) (n2 : kt_i ν' x (c + (1 + 3 * na + 1)) = nI va) (n3 : kt_i ν' x (c + (1 + 3 * na + 2)) = if ki < 4 then nI op else -4) (no : ∀ z, c < z → z < c + (1 + 3 * na) → kt_i ν' x z = kt_i ν x z) : AC μ' ν' kb x c (na + 1) (fun i => if i = na then (ki, va, op) else f i) := by
  refine ⟨m0, n0, fun i hi => ?_⟩
  by_cases e : i = na
  · subst e
    simp only [if_pos]
    exact ⟨⟨⟨m1, m2, m3⟩, n1, n2, n3⟩, hki, hva, h50, h4⟩
  · simp only [if_neg e]
    rw [mo (kb + 1) i (by omega) (by omega) e, mo (kb + 2) i (by omega) (by omega) e, mo (kb + 3) i (by omega) (by omega) e, no _ (by omega) (by omega), no (c + (1 + 3 * i + 1)) (by omega) (by omega), no (c + (1 + 3 * i + 2)) (by omega) (by omega)]
    exact h.2.2 i (by omega)
theorem dv_ex (s : Int32) {k : Nat} (h0 : 0 < k) (hk : k < 2 ^ 31) : ∃ j, j < k ∧ k_rem (k_dr (k_sd s)) (nI k) = nI j := by
  obtain ⟨j, hj, e⟩ := k_dr_nI (k_sd s)
  exact ⟨j % k, Nat.mod_lt _ h0, by rw [e, k_rem_nI (by omega) h0 hk]⟩
theorem d_nx_e {μ : kt_M} {p : Nat} : kt_i (d_nx μ p) p 0 = k_sd (kt_i μ p 0) := kt_i_sie
/-- one act is drawn -/
theorem pu_dact {n m p c na kb : Nat} {μ ν : kt_M} {f : Nat → Nat × Nat × Nat} (hc : c + 20 ≤ 1284) (hna : na < 4) (hkb : kb + 4 ≤ p) (hs : kt_i μ p 0 = kt_i ν m 28) (h : AC μ ν kb (m + 1) c na f) : ∃ f' ν1, x_drawsAct n m ν (nI c) = some ((), ν1) ∧ AC (d_act μ p kb) ν1 kb (m + 1) c (na + 1) f' ∧ kt_i (d_act μ p kb) p 0 = kt_i ν1 m 28 ∧ (∀ y z, ¬ (y = m ∧ z = 28) → ¬ (y = m + 1 ∧ c ≤ z ∧ z < c + 13) → kt_i ν1 y z = kt_i ν y z) := by
  obtain ⟨ki, hki, eki⟩ := dv_ex (kt_i μ p 0) (k := 6) (by decide) (by decide)
  obtain ⟨va, hva, eva⟩ := dv_ex (k_sd (kt_i μ p 0)) (k := 4) (by decide) (by decide)
  have c1 : d_val μ p 6 = nI ki := (d_val_e (k := 6) (by decide) (by decide)).trans eki
  have c2 : d_val (d_nx μ p) p 4 = nI va := (d_val_e (k := 4) (by decide) (by decide)).trans (by rw [d_nx_e]; exact eva)
  have c3 : kt_i (d_nx (d_nx μ p) p) p 0 = k_sd (k_sd (kt_i μ p 0)) := by rw [d_nx_e, d_nx_e]
  have c4 : ∀ y z, y ≠ p → kt_i (d_nx (d_nx μ p) p) y z = kt_i μ y z := fun y z q => by rw [d_nx_out q, d_nx_out q]
  have hpos : nI c + 1 + 3 * nI na = nI (c + 1 + 3 * na) := by rw [show (1 : Int32) = nI 1 from rfl, show (3 : Int32) = nI 3 from rfl, nI_mul, nI_add, nI_add]
  have hmod : ∃ ν5, x_drawsAct n m ν (nI c) = (if nI ki = 0 then kq_b2 (x_gets n m ν5) (fun r w => x_drawsAct_J116 n m (nI (c + 1 + 3 * na + 2)) (k_rem r 51) w) else if 2 < nI ki then (if nI ki = 3 then kq_b2 (x_gets n m ν5) (fun r w => x_drawsAct_J116 n m (nI (c + 1 + 3 * na + 2)) (k_rem r 4) w) else x_drawsAct_J116 n m (nI (c + 1 + 3 * na + 2)) (-4) ν5) else kq_b2 (x_gets n m ν5) (fun r w => x_drawsAct_J116 n m (nI (c + 1 + 3 * na + 2)) (k_rem r 5) w)) ∧ kt_i ν5 m 28 = k_sd (k_sd (kt_i μ p 0)) ∧ kt_i ν5 (m + 1) c = nI (na + 1) ∧ kt_i ν5 (m + 1) (c + 1 + 3 * na) = nI ki ∧ kt_i ν5 (m + 1) (c + 1 + 3 * na + 1) = nI va ∧ ∀ y z, ¬ (y = m ∧ z = 28) → ¬ (y = m + 1 ∧ (z = c ∨ z = c + 1 + 3 * na ∨ z = c + 1 + 3 * na + 1)) → kt_i ν5 y z = kt_i ν y z := by
    refine ⟨kt_si (kt_si (kt_si (kt_si (kt_si ν (m + 1) c (nI (na + 1))) m 28 (k_sd (kt_i μ p 0))) (m + 1) (c + 1 + 3 * na) (nI ki)) m 28 (k_sd (k_sd (kt_i μ p 0)))) (m + 1) (c + 1 + 3 * na + 1) (nI va), ?_, ?_, ?_, ?_, ?_, ?_⟩
    · have g3 : kt_i (kt_si (kt_si (kt_si (kt_si (kt_si ν (m + 1) c (nI (na + 1))) m 28 (k_sd (kt_i μ p 0))) (m + 1) (c + 1 + 3 * na) (nI ki)) m 28 (k_sd (k_sd (kt_i μ p 0)))) (m + 1) (c + 1 + 3 * na + 1) (nI va)) (m + 1) (c + 1 + 3 * na) = nI ki := by
        rw [kt_i_sik (by omega), kt_i_sin (by omega), kt_i_sie]
      have g1 : x_gets n m (kt_si ν (m + 1) c (nI (na + 1))) = some (k_dr (k_sd (kt_i μ p 0)), kt_si (kt_si ν (m + 1) c (nI (na + 1))) m 28 (k_sd (kt_i μ p 0))) := by
        rw [pu_gets, kt_i_sin (by omega), ← hs]
      have g2 : x_gets n m (kt_si (kt_si (kt_si ν (m + 1) c (nI (na + 1))) m 28 (k_sd (kt_i μ p 0))) (m + 1) (c + 1 + 3 * na) (nI ki)) = some (k_dr (k_sd (k_sd (kt_i μ p 0))), kt_si (kt_si (kt_si (kt_si ν (m + 1) c (nI (na + 1))) m 28 (k_sd (kt_i μ p 0))) (m + 1) (c + 1 + 3 * na) (nI ki)) m 28 (k_sd (k_sd (kt_i μ p 0)))) := by
        rw [pu_gets, kt_i_sin (show m ≠ m + 1 by omega), kt_i_sie]
      have e6 : k_dr (k_sd (kt_i μ p 0)) - k_dr (k_sd (kt_i μ p 0)) / 6 * 6 = nI ki := eki
      have e4 : k_dr (k_sd (k_sd (kt_i μ p 0))) - k_dr (k_sd (k_sd (kt_i μ p 0))) / 4 * 4 = nI va := eva
      unfold x_drawsAct
      rw [kq_ck_t (pu_kin (by omega) (by decide)), kq_ck_t (pu_kin (by omega) (by decide)), kq_ck_t (pu_kin (by omega) (by decide)), nI_clamp (show c < 2 ^ 31 by omega), h.2.1, nI_1, hpos]
      simp only [kq_lt]
      rw [kq_b2_s g1, kq_ck_t (pu_kin (by omega) (by decide)), nI_clamp (show c + 1 + 3 * na < 2 ^ 31 by omega), e6, kq_b2_s g2, nI_1, kq_ck_t (pu_kin (by omega) (by decide)), nI_clamp (show c + 1 + 3 * na + 1 < 2 ^ 31 by omega), e4, g3, kq_ck_t (pu_kin (by omega) (by decide)), show nI (c + 1 + 3 * na) + 2 = nI (c + 1 + 3 * na + 2) from nI_add _ 2]
      by_cases k0 : nI ki = 0
      · rw [if_pos k0, if_pos k0]; rfl
      · rw [if_neg k0, if_neg k0, kq_ck_t (pu_kin (by omega) (by decide))]
        by_cases k2 : 2 < nI ki
        · rw [if_pos k2, if_pos k2, kq_ck_t (pu_kin (by omega) (by decide))]; rfl
        · rw [if_neg k2, if_neg k2]; rfl
    · rw [kt_i_sin (by omega), kt_i_sie]
    · rw [kt_i_sik (by omega), kt_i_sin (by omega), kt_i_sik (by omega), kt_i_sin (by omega), kt_i_sie]
    · rw [kt_i_sik (by omega), kt_i_sin (by omega), kt_i_sie]
    · rw [kt_i_sie]
    · intro y z q1 q2
      rw [kt_i_si, if_neg (by omega), kt_i_si, if_neg (by omega), kt_i_si, if_neg (by omega), kt_i_si, if_neg (by omega), kt_i_si, if_neg (by omega)]
  obtain ⟨ν5, hT, v28, v0, v1, v2, vo⟩ := hmod
  have fin : ∃ op ν1 oc μ3, (if nI ki = 0 then kq_b2 (x_gets n m ν5) (fun r w => x_drawsAct_J116 n m (nI (c + 1 + 3 * na + 2)) (k_rem r 51) w) else if 2 < nI ki then (if nI ki = 3 then kq_b2 (x_gets n m ν5) (fun r w => x_drawsAct_J116 n m (nI (c + 1 + 3 * na + 2)) (k_rem r 4) w) else x_drawsAct_J116 n m (nI (c + 1 + 3 * na + 2)) (-4) ν5) else kq_b2 (x_gets n m ν5) (fun r w => x_drawsAct_J116 n m (nI (c + 1 + 3 * na + 2)) (k_rem r 5) w)) = some ((), ν1) ∧ d_opn (d_nx (d_nx μ p) p) p (nI ki) = (oc, μ3) ∧ (ki < 4 → oc = nI op) ∧ (ki < 3 → op ≤ 50) ∧ (ki = 3 → op < 4) ∧ kt_i μ3 p 0 = kt_i ν1 m 28 ∧ (∀ y z, y ≠ p → kt_i μ3 y z = kt_i μ y z) ∧ kt_i ν1 (m + 1) (c + 1 + 3 * na + 2) = (if ki < 4 then nI op else -4) ∧ (∀ y z, ¬ (y = m ∧ z = 28) → ¬ (y = m + 1 ∧ z = c + 1 + 3 * na + 2) → kt_i ν1 y z = kt_i ν5 y z) := by
    have hJ : ∀ (v : Int32) (w : kt_M), x_drawsAct_J116 n m (nI (c + 1 + 3 * na + 2)) v w = some ((), kt_si w (m + 1) (c + 1 + 3 * na + 2) v) := fun v w => by
      unfold x_drawsAct_J116
      rw [kq_ck_t (pu_kin (by omega) (by decide)), nI_clamp (by omega)]
      simp only [kq_lt]
    have hd : ∀ k, 0 < k → k ≤ 51 → ki < 4 → (ki < 3 → k ≤ 51) → (ki = 3 → k = 4) → ∃ op, op < k ∧ d_val (d_nx (d_nx μ p) p) p (nI k) = nI op ∧ kq_b2 (x_gets n m ν5) (fun r w => x_drawsAct_J116 n m (nI (c + 1 + 3 * na + 2)) (k_rem r (nI k)) w) = some ((), kt_si (kt_si ν5 m 28 (k_sd (k_sd (k_sd (kt_i μ p 0))))) (m + 1) (c + 1 + 3 * na + 2) (nI op)) := fun k k0 k1 _ _ _ => by
      obtain ⟨op, hop, eop⟩ := dv_ex (k_sd (k_sd (kt_i μ p 0))) (k := k) k0 (by omega)
      refine ⟨op, hop, (d_val_e k0 (by omega)).trans (by rw [c3]; exact eop), ?_⟩
      rw [kq_b2_s pu_gets, hJ, v28, eop]
    have hz : ∀ (op : Nat) (v : Int32), ki < 4 → v = nI op → kt_i (d_nx (d_nx (d_nx μ p) p) p) p 0 = kt_i (kt_si (kt_si ν5 m 28 (k_sd (k_sd (k_sd (kt_i μ p 0))))) (m + 1) (c + 1 + 3 * na + 2) v) m 28 ∧ (∀ y z, y ≠ p → kt_i (d_nx (d_nx (d_nx μ p) p) p) y z = kt_i μ y z) ∧ kt_i (kt_si (kt_si ν5 m 28 (k_sd (k_sd (k_sd (kt_i μ p 0))))) (m + 1) (c + 1 + 3 * na + 2) v) (m + 1) (c + 1 + 3 * na + 2) = (if ki < 4 then nI op else -4) ∧ (∀ y z, ¬ (y = m ∧ z = 28) → ¬ (y = m + 1 ∧ z = c + 1 + 3 * na + 2) → kt_i (kt_si (kt_si ν5 m 28 (k_sd (k_sd (k_sd (kt_i μ p 0))))) (m + 1) (c + 1 + 3 * na + 2) v) y z = kt_i ν5 y z) := fun op v k4 e => by
      refine ⟨?_, fun y z q => ?_, ?_, fun y z q1 q2 => ?_⟩
      · rw [d_nx_e, c3, kt_i_sin (by omega), kt_i_sie]
      · rw [d_nx_out q, c4 y z q]
      · rw [kt_i_sie, if_pos k4, e]
      · rw [kt_i_si, if_neg q2, kt_i_si, if_neg q1]
    have hcs : ki = 0 ∨ ki = 1 ∨ ki = 2 ∨ ki = 3 ∨ ki = 4 ∨ ki = 5 := by omega
    rcases hcs with e | e | e | e | e | e
    · subst e
      obtain ⟨op, h1, h2, h3⟩ := hd 51 (by decide) (by decide) (by decide) (by decide) (by decide)
      obtain ⟨z1, z2, z3, z4⟩ := hz op (nI op) (by decide) rfl
      exact ⟨op, _, nI op, d_nx (d_nx (d_nx μ p) p) p, h3, (show d_opn (d_nx (d_nx μ p) p) p (nI 0) = (d_val (d_nx (d_nx μ p) p) p 51, d_nx (d_nx (d_nx μ p) p) p) from rfl).trans (by rw [show d_val (d_nx (d_nx μ p) p) p 51 = nI op from h2]), fun _ => rfl, fun _ => by omega, fun q => by omega, z1, z2, z3, z4⟩
    · subst e
      obtain ⟨op, h1, h2, h3⟩ := hd 5 (by decide) (by decide) (by decide) (by decide) (by decide)
      obtain ⟨z1, z2, z3, z4⟩ := hz op (nI op) (by decide) rfl
      exact ⟨op, _, nI op, d_nx (d_nx (d_nx μ p) p) p, h3, (show d_opn (d_nx (d_nx μ p) p) p (nI 1) = (d_val (d_nx (d_nx μ p) p) p 5, d_nx (d_nx (d_nx μ p) p) p) from rfl).trans (by rw [show d_val (d_nx (d_nx μ p) p) p 5 = nI op from h2]), fun _ => rfl, fun _ => by omega, fun q => by omega, z1, z2, z3, z4⟩
    · subst e
      obtain ⟨op, h1, h2, h3⟩ := hd 5 (by decide) (by decide) (by decide) (by decide) (by decide)
      obtain ⟨z1, z2, z3, z4⟩ := hz op (nI op) (by decide) rfl
      exact ⟨op, _, nI op, d_nx (d_nx (d_nx μ p) p) p, h3, (show d_opn (d_nx (d_nx μ p) p) p (nI 2) = (d_val (d_nx (d_nx μ p) p) p 5, d_nx (d_nx (d_nx μ p) p) p) from rfl).trans (by rw [show d_val (d_nx (d_nx μ p) p) p 5 = nI op from h2]), fun _ => rfl, fun _ => by omega, fun q => by omega, z1, z2, z3, z4⟩
    · subst e
      obtain ⟨op, h1, h2, h3⟩ := hd 4 (by decide) (by decide) (by decide) (by decide) (by decide)
      obtain ⟨z1, z2, z3, z4⟩ := hz op (nI op) (by decide) rfl
      exact ⟨op, _, nI op, d_nx (d_nx (d_nx μ p) p) p, h3, (show d_opn (d_nx (d_nx μ p) p) p (nI 3) = (d_val (d_nx (d_nx μ p) p) p 4, d_nx (d_nx (d_nx μ p) p) p) from rfl).trans (by rw [show d_val (d_nx (d_nx μ p) p) p 4 = nI op from h2]), fun _ => rfl, fun q => by omega, fun q => by omega, z1, z2, z3, z4⟩
    · subst e
      refine ⟨0, _, 0, d_nx (d_nx μ p) p, hJ (-4) ν5, rfl, fun q => by omega, fun q => by omega, fun q => by omega, ?_, c4, ?_, fun y z q1 q2 => ?_⟩
      · rw [c3, kt_i_sin (by omega), v28]
      · rw [kt_i_sie]; rfl
      · rw [kt_i_si, if_neg q2]
    · subst e
      refine ⟨0, _, 0, d_nx (d_nx μ p) p, hJ (-4) ν5, rfl, fun q => by omega, fun q => by omega, fun q => by omega, ?_, c4, ?_, fun y z q1 q2 => ?_⟩
      · rw [c3, kt_i_sin (by omega), v28]
      · rw [kt_i_sie]; rfl
      · rw [kt_i_si, if_neg q2]
  obtain ⟨op, ν1, oc, μ3, f1, f2, f3, f4, f5, f6, f7, f8, f9⟩ := fin
  have hda : d_act μ p kb = m_add μ3 kb (nI ki) (nI va) oc := by
    unfold d_act
    rw [c1, c2, f2]
  have h30 : kt_i μ3 kb 0 = nI na := by rw [f7 _ _ (by omega)]; exact h.1
  have hma : m_add μ3 kb (nI ki) (nI va) oc = kt_si (kt_si (kt_si (kt_si μ3 (kb + 1) na (nI ki)) (kb + 2) na (nI va)) (kb + 3) na oc) kb 0 (nI (na + 1)) := by
    unfold m_add
    rw [h30, nI_clamp (by omega), nI_1]
  rw [hda, hma, hT]
  refine ⟨_, ν1, f1, h.add (ki := ki) (va := va) (op := op) (by omega) hva f4 f5 kt_i_sie ?_ ?_ (fun q => ?_) (fun y z q1 q2 q3 => ?_) ?_ ?_ ?_ ?_ (fun z q1 q2 => ?_), ?_, fun y z q1 q2 => ?_⟩
  · rw [kt_i_sin (by omega), kt_i_sin (by omega), kt_i_sin (by omega), kt_i_sie]
  · rw [kt_i_sin (by omega), kt_i_sin (by omega), kt_i_sie]
  · rw [kt_i_sin (by omega), kt_i_sie, f3 q]
  · rw [kt_i_sin (by omega), kt_i_sik q3, kt_i_sik q3, kt_i_sik q3, f7 _ _ (by omega)]
  · rw [f9 _ _ (by omega) (by omega)]; exact v0
  · rw [show c + (1 + 3 * na) = c + 1 + 3 * na by omega, f9 _ _ (by omega) (by omega)]; exact v1
  · rw [show c + (1 + 3 * na + 1) = c + 1 + 3 * na + 1 by omega, f9 _ _ (by omega) (by omega)]; exact v2
  · rw [show c + (1 + 3 * na + 2) = c + 1 + 3 * na + 2 by omega]; exact f8
  · rw [f9 _ _ (by omega) (by omega), vo _ _ (by omega) (by omega)]
  · rw [kt_i_sin (by omega), kt_i_sin (by omega), kt_i_sin (by omega), kt_i_sin (by omega)]; exact f6
  · rw [f9 y z q1 (by omega), vo y z q1 (by omega)]

/-! PURE: the reading of a text; class's reader at p, model's cells of m -/
def TB (μ ν : kt_M) (p m L : Nat) : Prop := L ≤ 200 ∧ kt_i μ p 1 = nI L ∧ kt_i ν m 6 = nI L ∧ ∀ i, i < L → ∃ c, c ≤ 127 ∧ kt_i μ (p + 1) i = nI c ∧ kt_i ν (m + 5) i = nI c
theorem TB.ext {μ ν μ' ν' : kt_M} {p m L : Nat} (h : TB μ ν p m L) (h1 : kt_i μ' p 1 = kt_i μ p 1) (h2 : kt_i ν' m 6 = kt_i ν m 6) (h3 : ∀ z, kt_i μ' (p + 1) z = kt_i μ (p + 1) z) (h4 : ∀ z, kt_i ν' (m + 5) z = kt_i ν (m + 5) z) : TB μ' ν' p m L :=
  ⟨h.1, h1.trans h.2.1, h2.trans h.2.2.1, fun i hi => by rw [h3, h4]; exact h.2.2.2 i hi⟩
/-- no fault yet; the token at hand -/
def TK (μ ν : kt_M) (p m L s t e : Nat) : Prop := TB μ ν p m L ∧ (kt_i μ p 2 = 0 ∧ kt_i ν m 11 = 0) ∧ (kt_i μ p 5 = nI s ∧ kt_i ν m 8 = nI s) ∧ (kt_i μ p 6 = nI e ∧ kt_i ν m 7 = nI e) ∧ (kt_i μ p 4 = nI t ∧ kt_i ν m 9 = nI t) ∧ s ≤ e ∧ e ≤ L ∧ t ≤ 3 ∧ (1 ≤ t → s < e) ∧ (t = 2 → ∃ d, d ≤ 99 ∧ k_numL μ p (e - s) s 0 = nI d ∧ kt_i ν m 10 = nI d)
/-- a fault -/
def FT (μ ν : kt_M) (p m : Nat) : Prop := ∃ f, 1 ≤ f ∧ f ≤ 6 ∧ kt_i μ p 2 = nI f ∧ kt_i ν m 11 = nI f ∧ kt_i μ p 3 = kt_i ν m 12
/-- what reading leaves as it was -/
def FR (m : Nat) (ν ν' : kt_M) : Prop := ∀ y z, ¬ (y = m ∧ 7 ≤ z ∧ z ≤ 12) → kt_i ν' y z = kt_i ν y z
theorem FR.rfl' {m : Nat} {ν : kt_M} : FR m ν ν := fun _ _ _ => rfl
theorem FR.trans {m : Nat} {ν ν' ν'' : kt_M} (h : FR m ν ν') (h2 : FR m ν' ν'') : FR m ν ν'' := fun y z q => (h2 y z q).trans (h y z q)
theorem FT.ext {μ ν μ' ν' : kt_M} {p m : Nat} (h : FT μ ν p m) (h2 : kt_i μ' p 2 = kt_i μ p 2) (h3 : kt_i μ' p 3 = kt_i μ p 3) (h11 : kt_i ν' m 11 = kt_i ν m 11) (h12 : kt_i ν' m 12 = kt_i ν m 12) : FT μ' ν' p m := by
  obtain ⟨f, a, b, c, d, e⟩ := h
  exact ⟨f, a, b, by rw [h2]; exact c, by rw [h11]; exact d, by rw [h3, h12]; exact e⟩
theorem FT.n0 {μ ν : kt_M} {p m : Nat} (h : FT μ ν p m) : ¬ kt_i ν m 11 = 0 ∧ ¬ kt_i ν m 11 ≤ 0 := by
  obtain ⟨f, a, b, c, d, e⟩ := h
  rw [d]
  exact ⟨fun q => by have := (nI_eq (b := 0) (by omega) (by decide)).mp q; omega, fun q => by have := (nI_leI (b := 0) (by omega) (by decide)).mp q; omega⟩
theorem k_numL_ext {μ μ' : kt_M} {p : Nat} (h1 : kt_i μ' p 1 = kt_i μ p 1) (h3 : ∀ z, kt_i μ' (p + 1) z = kt_i μ (p + 1) z) : ∀ (n j : Nat) (v : Int32), k_numL μ' p n j v = k_numL μ p n j v
  | 0, _, _ => rfl
  | n + 1, j, v => by
    have e : k_by μ' p (nI j) = k_by μ p (nI j) := by unfold k_by k_byc; rw [h1, h3]
    rw [k_numL, k_numL, e, k_numL_ext h1 h3 n]
theorem TK.ext {μ ν μ' ν' : kt_M} {p m L s t e : Nat} (h : TK μ ν p m L s t e) (hμ : ∀ z, kt_i μ' p z = kt_i μ p z) (hμ1 : ∀ z, kt_i μ' (p + 1) z = kt_i μ (p + 1) z) (hν : ∀ z, 6 ≤ z → z ≤ 12 → kt_i ν' m z = kt_i ν m z) (hν5 : ∀ z, kt_i ν' (m + 5) z = kt_i ν (m + 5) z) : TK μ' ν' p m L s t e := by
  obtain ⟨a, ⟨b1, b2⟩, ⟨c1, c2⟩, ⟨d1, d2⟩, ⟨e1, e2⟩, f1, f2, f3, f4, f5⟩ := h
  refine ⟨a.ext (hμ 1) (hν 6 (by decide) (by decide)) hμ1 hν5, ⟨by rw [hμ]; exact b1, by rw [hν _ (by decide) (by decide)]; exact b2⟩, ⟨by rw [hμ]; exact c1, by rw [hν _ (by decide) (by decide)]; exact c2⟩, ⟨by rw [hμ]; exact d1, by rw [hν _ (by decide) (by decide)]; exact d2⟩, ⟨by rw [hμ]; exact e1, by rw [hν _ (by decide) (by decide)]; exact e2⟩, f1, f2, f3, f4, fun q => ?_⟩
  obtain ⟨d, g1, g2, g3⟩ := f5 q
  exact ⟨d, g1, by rw [k_numL_ext (hμ 1) hμ1]; exact g2, by rw [hν _ (by decide) (by decide)]; exact g3⟩
theorem pu_byte {n m p L i : Nat} {μ ν : kt_M} (h : TB μ ν p m L) (hi : i < L) : x_byteAt n m ν (nI i) = some (kt_i ν (m + 5) i, ν) := by
  have hL := h.1
  unfold x_byteAt
  rw [h.2.2.1, if_neg (fun q => by have := (nI_leI (by omega) (by omega)).mp q; omega), kq_ck_t (pu_kin (by omega) (by decide)), nI_clamp (by omega)]
theorem pu_byteE {n m p L i : Nat} {μ ν : kt_M} (h : TB μ ν p m L) (hi : L ≤ i) (hi2 : i < 2 ^ 31) : x_byteAt n m ν (nI i) = some (-1, ν) := by
  have hL := h.1
  unfold x_byteAt
  rw [h.2.2.1, if_pos ((nI_leI (by omega) hi2).mpr hi)]
theorem k_sort_nI : ∀ c, c ≤ 127 → k_sort (nI c) = if 97 ≤ c ∧ c ≤ 122 then 1 else if 48 ≤ c ∧ c ≤ 57 then 2 else if c = 59 ∨ c = 60 ∨ c = 61 then 3 else 4 := by decide +kernel
theorem pu_inN {n c a b : Nat} {lo hi : Int64} (hlo : lo = (nI a).toInt64) (hhi : hi = (nI b).toInt64) (hc : c < 2 ^ 31) (ha : a < 2 ^ 31) (hb : b < 2 ^ 31) : x_in n (Int32.toInt64 (nI c)) lo hi = some (kt_f (a ≤ c ∧ c ≤ b)) := by
  rw [pu_in hlo hhi]
  congr 1
  exact kt_f_iff (by rw [nI_leI ha hc, nI_leI hc hb])
theorem pu_in97 {n c : Nat} (hc : c ≤ 127) : x_in n (Int32.toInt64 (nI c)) 97 122 = some (kt_f (97 ≤ c ∧ c ≤ 122)) := pu_inN (a := 97) (b := 122) rfl rfl (by omega) (by decide) (by decide)
theorem pu_in48 {n c : Nat} (hc : c ≤ 127) : x_in n (Int32.toInt64 (nI c)) 48 57 = some (kt_f (48 ≤ c ∧ c ≤ 57)) := pu_inN (a := 48) (b := 57) rfl rfl (by omega) (by decide) (by decide)
theorem pu_inad {n c : Nat} (hc : c ≤ 127) : x_in n (Int32.toInt64 (nI c)) 97 100 = some (kt_f (97 ≤ c ∧ c ≤ 100)) := pu_inN (a := 97) (b := 100) rfl rfl (by omega) (by decide) (by decide)
theorem m_set {ν : kt_M} {m k : Nat} {v : Int32} (hk : 7 ≤ k ∧ k ≤ 12) : FR m ν (kt_si ν m k v) := fun y z q => by rw [kt_i_si, if_neg (by omega)]
/-- blanks -/
theorem pu_skip {n m p L : Nat} {μ : kt_M} : ∀ (fu a : Nat) (ν : kt_M), TB μ ν p m L → kt_i ν m 7 = nI a → a ≤ L → L < a + fu → ∃ ν1, x_reads_L8 n m fu ν = x_reads_B8 n m (fun _ => none) ν1 ∧ kt_i ν1 m 7 = nI (k_skip (k_T μ p) (L - a) a) ∧ (k_skip (k_T μ p) (L - a) a < L → ¬ kt_i μ (p + 1) (k_skip (k_T μ p) (L - a) a) = 32) ∧ (∀ y z, ¬ (y = m ∧ z = 7) → kt_i ν1 y z = kt_i ν y z)
  | 0, a, ν, hT, h7, h1, h2 => by omega
  | fu + 1, a, ν, hT, h7, h1, h2 => by
    have hL := hT.1
    rw [x_reads_L8]
    by_cases e : a = L
    · subst e
      rw [Nat.sub_self]
      refine ⟨ν, ?_, h7, fun q => absurd q (by show ¬ a < a; omega), fun _ _ _ => rfl⟩
      unfold x_reads_B8
      rw [h7, kq_b2_s (pu_byteE hT (Nat.le_refl _) (by omega)), kq_b2_s (pu_byteE hT (Nat.le_refl _) (by omega)), if_neg (by decide), if_neg (by decide)]
    · have ha : a < L := by omega
      obtain ⟨c, c1, c2, c3⟩ := hT.2.2.2 a ha
      have hb : x_byteAt n m ν (nI a) = some (nI c, ν) := (pu_byte hT ha).trans (pu_pair c3 rfl)
      rw [show L - a = (L - (a + 1)) + 1 by omega, k_skip]
      by_cases q : nI c = 32
      · rw [if_pos (show k_T μ p a = 32 from c2.trans q)]
        have hst : x_reads_B8 n m (x_reads_L8 n m fu) ν = x_reads_L8 n m fu (kt_si ν m 7 (nI (a + 1))) := by
          unfold x_reads_B8
          rw [h7, kq_b2_s hb, if_pos q]
          simp only [kq_lt]
          rw [h7, nI_1]
        rw [hst]
        obtain ⟨ν1, a1, a2, a3, a4⟩ := pu_skip (n := n) (m := m) (p := p) (L := L) (μ := μ) fu (a + 1) (kt_si ν m 7 (nI (a + 1))) (hT.ext rfl (kt_i_sik (by decide)) (fun _ => rfl) (fun _ => kt_i_sin (by omega))) kt_i_sie (by omega) (by omega)
        exact ⟨ν1, a1, a2, a3, fun y z q2 => by rw [a4 y z q2, kt_i_si, if_neg q2]⟩
      · rw [if_neg (show ¬ k_T μ p a = 32 from fun z => q (c2.symm.trans z))]
        refine ⟨ν, ?_, h7, fun _ z => q (c2.symm.trans z), fun _ _ _ => rfl⟩
        unfold x_reads_B8
        rw [h7, kq_b2_s hb, kq_b2_s hb, if_neg q, if_neg q]
/-- letters -/
theorem pu_let {n m p L : Nat} {μ : kt_M} : ∀ (fu e : Nat) (ν : kt_M), TB μ ν p m L → kt_i ν m 7 = nI e → e ≤ L → L < e + fu → ∃ ν1, x_reads_L82 n m fu ν = some ((), ν1) ∧ kt_i ν1 m 7 = nI (k_run (k_T μ p) 1 (L - e) e) ∧ (∀ y z, ¬ (y = m ∧ z = 7) → kt_i ν1 y z = kt_i ν y z)
  | 0, e, ν, hT, h7, h1, h2 => by omega
  | fu + 1, e, ν, hT, h7, h1, h2 => by
    have hL := hT.1
    rw [x_reads_L82]
    unfold x_reads_B82
    rw [h7]
    by_cases q : e = L
    · subst q
      rw [Nat.sub_self, kq_b2_s (pu_byteE hT (Nat.le_refl _) (by omega)), kq_b1_s (show x_in n (Int32.toInt64 (-1)) 97 122 = some 0 from rfl), if_pos rfl]
      exact ⟨ν, rfl, h7, fun _ _ _ => rfl⟩
    · have he : e < L := by omega
      obtain ⟨c, c1, c2, c3⟩ := hT.2.2.2 e he
      rw [kq_b2_s ((pu_byte hT he).trans (pu_pair c3 rfl)), kq_b1_s (pu_in97 c1), show L - e = (L - (e + 1)) + 1 by omega, k_run, show k_T μ p e = nI c from c2, k_sort_nI c c1]
      by_cases q2 : 97 ≤ c ∧ c ≤ 122
      · rw [if_pos q2, if_pos rfl, if_neg (kz.f.t q2)]
        simp only [kq_lt]
        rw [h7, nI_1]
        obtain ⟨ν1, a1, a2, a3⟩ := pu_let (n := n) (m := m) (p := p) (L := L) (μ := μ) fu (e + 1) (kt_si ν m 7 (nI (e + 1))) (hT.ext rfl (kt_i_sik (by decide)) (fun _ => rfl) (fun _ => kt_i_sin (by omega))) kt_i_sie (by omega) (by omega)
        exact ⟨ν1, a1, a2, fun y z q3 => by rw [a3 y z q3, kt_i_si, if_neg q3]⟩
      · rw [if_neg q2, if_pos (kz.f.n q2), if_neg (by split; decide; split <;> decide)]
        exact ⟨ν, rfl, h7, fun _ _ _ => rfl⟩
/-- figures -/
theorem pu_dig {n m p L s : Nat} {μ : kt_M} : ∀ (fu e d : Nat) (ν : kt_M), TB μ ν p m L → kt_i ν m 7 = nI e → kt_i ν m 8 = nI s → kt_i ν m 10 = nI d → s ≤ e → e ≤ L → L < e + fu → d ≤ 99 → (e = s → d = 0) → (e = s + 1 → d ≤ 9) → ∃ ν1 d1, x_reads_L140 n m fu ν = x_reads_J236 n m (if s + 2 < k_run (k_T μ p) 2 (L - e) e then 0 else 1) ν1 ∧ kt_i ν1 m 7 = nI (k_run (k_T μ p) 2 (L - e) e) ∧ d1 ≤ 99 ∧ kt_i ν1 m 10 = nI d1 ∧ (k_run (k_T μ p) 2 (L - e) e ≤ s + 2 → k_numL μ p (k_run (k_T μ p) 2 (L - e) e - e) e (nI d) = nI d1) ∧ (∀ y z, ¬ (y = m ∧ (z = 7 ∨ z = 10)) → kt_i ν1 y z = kt_i ν y z)
  | 0, e, d, ν, hT, h7, h8, h10, h1, h2, h3, h4, h5, h6 => by omega
  | fu + 1, e, d, ν, hT, h7, h8, h10, h1, h2, h3, h4, h5, h6 => by
    have hL := hT.1
    rw [x_reads_L140]
    have hstop : k_run (k_T μ p) 2 (L - e) e = e → (if (2 : Int32) < kt_i ν m 7 - kt_i ν m 8 then x_reads_J236 n m 0 ν else x_reads_J236 n m 1 ν) = x_reads_J236 n m (if s + 2 < k_run (k_T μ p) 2 (L - e) e then 0 else 1) ν := fun hr => by
      rw [hr, h7, h8, nI_sub h1]
      by_cases q : s + 2 < e
      · rw [if_pos q, if_pos (show 2 < nI (e - s) from nI_lt (a := 2) (by omega) (by omega))]
      · rw [if_neg q, if_neg (fun z => by have := (nI_ltI (a := 2) (by decide) (by omega)).mp z; omega)]
    by_cases q : e = L
    · have hr : k_run (k_T μ p) 2 (L - e) e = e := by rw [q, Nat.sub_self]; rfl
      refine ⟨ν, d, ?_, by rw [hr]; exact h7, h4, h10, fun _ => by rw [hr, Nat.sub_self]; rfl, fun _ _ _ => rfl⟩
      rw [← hstop hr]
      unfold x_reads_B140
      rw [h7, kq_b2_s (pu_byteE hT (by omega) (by omega)), kq_b1_s (show x_in n (Int32.toInt64 (-1)) 48 57 = some 0 from rfl), if_pos rfl, h7]
    · have he : e < L := by omega
      obtain ⟨c, c1, c2, c3⟩ := hT.2.2.2 e he
      have hb : x_byteAt n m ν (nI e) = some (nI c, ν) := (pu_byte hT he).trans (pu_pair c3 rfl)
      by_cases q2 : 48 ≤ c ∧ c ≤ 57
      · have hr : k_run (k_T μ p) 2 (L - e) e = k_run (k_T μ p) 2 (L - (e + 1)) (e + 1) := by
          rw [show L - e = (L - (e + 1)) + 1 by omega, k_run, show k_T μ p e = nI c from c2, k_sort_nI c c1, if_neg (show ¬ (97 ≤ c ∧ c ≤ 122) by omega), if_pos q2, if_pos rfl]
        have hle := k_run_le (k_T μ p) 2 (L - (e + 1)) (e + 1)
        rw [hr]
        obtain ⟨d', hd1, hd2, hd3, hd4⟩ : ∃ d', x_reads_B140 n m (x_reads_L140 n m fu) ν = x_reads_L140 n m fu (kt_si (kt_si ν m 10 (nI d')) m 7 (nI (e + 1))) ∧ d' ≤ 99 ∧ (e + 1 = s + 1 → d' ≤ 9) ∧ (e < s + 2 → (10 : Int32) * nI d + nI c - 48 = nI d') := by
          unfold x_reads_B140
          rw [h7, kq_b2_s hb, kq_b1_s (pu_in48 c1), if_neg (kz.f.t q2), h7, h8, nI_sub h1]
          have h1048 : (10 : Int32) * nI d + nI c - 48 = nI (10 * d + c - 48) := by
            rw [show (10 : Int32) = nI 10 from rfl, nI_mul, nI_add, show (48 : Int32) = nI 48 from rfl, nI_sub (by omega)]
          by_cases q3 : s + 2 ≤ e
          · rw [if_pos (show 2 ≤ nI (e - s) from (nI_leI (a := 2) (by decide) (by omega)).mpr (by omega))]
            refine ⟨d, ?_, h4, fun z => by omega, fun z => by omega⟩
            unfold x_reads_J201
            simp only [kq_lt]
            rw [h10, kt_i_sik (by decide), h7, nI_1]
          · rw [if_neg (fun z => by have := (nI_leI (a := 2) (by decide) (by omega)).mp z; omega), kq_b2_s hb, h10, h1048]
            refine ⟨10 * d + c - 48, ?_, ?_, ?_, fun _ => rfl⟩
            · unfold x_reads_J201
              simp only [kq_lt]
              rw [kt_i_sik (by decide), h7, nI_1]
            · by_cases q4 : e = s
              · have := h5 q4; omega
              · have := h6 (by omega); omega
            · intro q4
              have := h5 (by omega); omega
        rw [hd1]
        obtain ⟨ν1, d1, a1, a2, a3, a4, a5, a6⟩ := pu_dig (n := n) (m := m) (p := p) (L := L) (s := s) (μ := μ) fu (e + 1) d' (kt_si (kt_si ν m 10 (nI d')) m 7 (nI (e + 1))) (hT.ext rfl (by rw [kt_i_sik (by decide), kt_i_sik (by decide)]) (fun _ => rfl) (fun _ => by rw [kt_i_sin (by omega), kt_i_sin (by omega)])) kt_i_sie (by rw [kt_i_sik (by decide), kt_i_sik (by decide)]; exact h8) (by rw [kt_i_sik (by decide), kt_i_sie]) (by omega) (by omega) (by omega) hd2 (fun z => by omega) hd3
        refine ⟨ν1, d1, a1, a2, a3, a4, fun z => ?_, fun y z q3 => by rw [a6 y z q3, kt_i_si, if_neg (by omega), kt_i_si, if_neg (by omega)]⟩
        rw [show k_run (k_T μ p) 2 (L - (e + 1)) (e + 1) - e = (k_run (k_T μ p) 2 (L - (e + 1)) (e + 1) - (e + 1)) + 1 by omega, k_numL, k_by_nI hT.2.1 hL he, c2, hd4 (by omega)]
        exact a5 z
      · have hr : k_run (k_T μ p) 2 (L - e) e = e := by
          rw [show L - e = (L - (e + 1)) + 1 by omega, k_run, show k_T μ p e = nI c from c2, k_sort_nI c c1, if_neg q2]
          refine if_neg ?_
          split
          · decide
          · split <;> decide
        refine ⟨ν, d, ?_, by rw [hr]; exact h7, h4, h10, fun _ => by rw [hr, Nat.sub_self]; rfl, fun _ _ _ => rfl⟩
        rw [← hstop hr]
        unfold x_reads_B140
        rw [h7, kq_b2_s hb, kq_b1_s (pu_in48 c1), if_pos (kz.f.n q2), h7]

theorem TK.mk' {μ ν : kt_M} {p m L s e t : Nat} (hT : TB μ ν p m L) (h2 : kt_i μ p 2 = 0) (h11 : kt_i ν m 11 = 0) (h8 : kt_i ν m 8 = nI s) (h7 : kt_i ν m 7 = nI e) (h9 : kt_i ν m 9 = nI t) (hse : s ≤ e) (heL : e ≤ L) (ht : t ≤ 3) (h1 : 1 ≤ t → s < e) (hd : t = 2 → ∃ d, d ≤ 99 ∧ k_numL μ p (e - s) s 0 = nI d ∧ kt_i ν m 10 = nI d) : TK (m_tk μ p s (nI t) e) ν p m L s t e := by
  refine ⟨hT.ext (m_tk_k (by decide)) rfl (fun z => m_tk_out (by omega)) (fun _ => rfl), ⟨by rw [m_tk_k (by decide)]; exact h2, h11⟩, ⟨m_tk_5, h8⟩, ⟨m_tk_6, h7⟩, ⟨m_tk_4, h9⟩, hse, heL, ht, h1, fun q => ?_⟩
  obtain ⟨d, g1, g2, g3⟩ := hd q
  exact ⟨d, g1, by rw [k_numL_ext (m_tk_k (by decide)) (fun z => m_tk_out (by omega))]; exact g2, g3⟩
theorem FT.mk' {μ ν : kt_M} {p m f s : Nat} (hf : 1 ≤ f ∧ f ≤ 6) (h5 : kt_i μ p 5 = nI s) (h11 : kt_i ν m 11 = nI f) (h12 : kt_i ν m 12 = nI s) : FT (m_fail μ p (nI f)) ν p m := by
  refine ⟨f, hf.1, hf.2, ?_, h11, ?_⟩
  · unfold m_fail; rw [kt_i_sik (by decide), kt_i_sie]
  · unfold m_fail; rw [kt_i_sie, h5, h12]
theorem pu_reqT {n m : Nat} {ν : kt_M} {f : Int32} : x_requires n m ν 1 f = some ((), ν) := by
  unfold x_requires; rw [if_neg (by decide)]
theorem pu_reqX {n m : Nat} {ν : kt_M} {a f : Int32} (h : ¬ kt_i ν m 11 = 0) : x_requires n m ν a f = some ((), ν) := by
  unfold x_requires
  by_cases q : a = 0
  · rw [if_pos q, if_neg h]
  · rw [if_neg q]
theorem pu_reqF {n m s : Nat} {ν : kt_M} {f : Int32} (h : kt_i ν m 11 = 0) (h8 : kt_i ν m 8 = nI s) : x_requires n m ν 0 f = some ((), kt_si (kt_si ν m 11 f) m 12 (nI s)) := by
  unfold x_requires
  rw [if_pos rfl, if_pos h]
  simp only [kq_lt]
  rw [kt_i_sik (by decide), h8]
theorem req_11 {ν : kt_M} {m s : Nat} {f : Int32} : kt_i (kt_si (kt_si ν m 11 f) m 12 (nI s)) m 11 = f := by rw [kt_i_sik (by decide), kt_i_sie]
theorem req_fr {ν : kt_M} {m s : Nat} {f : Int32} : FR m ν (kt_si (kt_si ν m 11 f) m 12 (nI s)) := (m_set (by decide)).trans (m_set (by decide))
theorem a_ok_of {μ : kt_M} {p s e : Nat} {t : Int32} {c : Prop} [Decidable c] (h : a_tok μ p = (s, t, e, decide c)) : a_ok μ p ↔ c := by
  unfold a_ok
  rw [h]
  exact decide_eq_true_iff
/-- the next token -/
theorem pu_adv {n m p L a : Nat} {μ ν : kt_M} (hn : 300 ≤ n) (hT : TB μ ν p m L) (h2 : kt_i μ p 2 = 0) (h11 : kt_i ν m 11 = 0) (h6 : kt_i μ p 6 = nI a) (h7 : kt_i ν m 7 = nI a) (ha : a ≤ L) : ∃ ν1, x_reads n m ν = some ((), ν1) ∧ FR m ν ν1 ∧ ((a_ok μ p ∧ ∃ s t e, TK (a_mem μ p) ν1 p m L s t e) ∨ (¬ a_ok μ p ∧ FT (a_mem μ p) ν1 p m)) := by
  have hL := hT.1
  have hat : a_tok μ p = k_tok (k_T μ p) L a := by unfold a_tok; rw [hT.2.1, h6, nI_clamp (by omega), nI_clamp (by omega)]
  unfold x_reads
  rw [h11, if_pos (by decide)]
  obtain ⟨ν1, a1, a2, a3, a4⟩ := pu_skip (n := n) (m := m) (p := p) (L := L) (μ := μ) n a ν hT h7 ha (by omega)
  rw [a1]
  have hle := k_skip_le (k_T μ p) (L - a) a
  obtain ⟨s, hs⟩ : ∃ s, k_skip (k_T μ p) (L - a) a = s := ⟨_, rfl⟩
  rw [hs] at a2 a3 hle
  have hf1 : FR m ν ν1 := fun y z q => a4 y z (by omega)
  have hT1 : TB μ ν1 p m L := hT.ext rfl (a4 _ _ (by omega)) (fun _ => rfl) (fun z => a4 _ _ (by omega))
  have h111 : kt_i ν1 m 11 = 0 := by rw [a4 _ _ (by omega)]; exact h11
  unfold x_reads_B8
  rw [a2]
  have hT2 : TB μ (kt_si ν1 m 8 (nI s)) p m L := hT1.ext rfl (kt_i_sik (by decide)) (fun _ => rfl) (fun z => kt_i_sin (by omega))
  have e7 : kt_i (kt_si ν1 m 8 (nI s)) m 7 = nI s := by rw [kt_i_sik (by decide)]; exact a2
  by_cases q : s < L
  · obtain ⟨c, c1, c2, c3⟩ := hT1.2.2.2 s q
    have hc32 : ¬ nI c = 32 := fun z => a3 q (c2.trans z)
    rw [kq_b2_s ((pu_byte hT1 q).trans (pu_pair c3 rfl)), if_neg hc32]
    simp only [kq_lt]
    rw [a2, e7, kq_b2_s ((pu_byte hT2 q).trans (pu_pair (show kt_i (kt_si ν1 m 8 (nI s)) (m + 5) s = nI c by rw [kt_i_sin (by omega)]; exact c3) rfl)), if_pos (show (0 : Int32) ≤ nI c from nI_pos' (by omega)), kq_b1_s (pu_in97 c1)]
    have hk := k_sort_nI c c1
    rw [← c2] at hk
    have hk : k_sort (k_T μ p s) = _ := hk
    by_cases q1 : 97 ≤ c ∧ c ≤ 122
    · rw [if_pos q1] at hk
      rw [if_neg (kz.f.t q1)]
      obtain ⟨ν3, b1, b2, b3⟩ := pu_let (n := n) (m := m) (p := p) (L := L) (μ := μ) n s (kt_si (kt_si ν1 m 8 (nI s)) m 9 1) (hT2.ext rfl (kt_i_sik (by decide)) (fun _ => rfl) (fun z => kt_i_sin (by omega))) (by rw [kt_i_sik (by decide)]; exact e7) (by omega) (by omega)
      have hr : k_run (k_T μ p) 1 (L - s) s = k_run (k_T μ p) 1 (L - (s + 1)) (s + 1) := by
        rw [show L - s = (L - (s + 1)) + 1 by omega, k_run, if_pos hk]
      have hrl := k_run_le (k_T μ p) 1 (L - (s + 1)) (s + 1)
      rw [hr] at b2
      have htok : a_tok μ p = (s, 1, k_run (k_T μ p) 1 (L - (s + 1)) (s + 1), decide (¬ ((1 : Int32) = 4 ∨ ((1 : Int32) = 2 ∧ 2 < k_run (k_T μ p) 1 (L - (s + 1)) (s + 1) - s)))) := by
        rw [hat, k_tok_1 hs q (Or.inl hk), hk]
      have hC : ¬ ((1 : Int32) = 4 ∨ ((1 : Int32) = 2 ∧ 2 < k_run (k_T μ p) 1 (L - (s + 1)) (s + 1) - s)) := fun z => z.elim (fun w => absurd w (by decide)) (fun w => absurd w.1 (by decide))
      have hm := (a_mem_of htok).2
      rw [if_pos hC] at hm
      have hfr : FR m ν ν3 := fun y z q2 => by rw [b3 y z (by omega), kt_i_si, if_neg (by omega), kt_i_si, if_neg (by omega), hf1 y z q2]
      refine ⟨ν3, b1, hfr, Or.inl ⟨(a_ok_of htok).mpr hC, s, 1, k_run (k_T μ p) 1 (L - (s + 1)) (s + 1), ?_⟩⟩
      rw [← hm]
      exact TK.mk' (hT.ext rfl (hfr _ _ (by omega)) (fun _ => rfl) (fun z => hfr _ _ (by omega))) h2 (by rw [b3 _ _ (by omega), kt_i_sik (by decide), kt_i_sik (by decide)]; exact h111) (by rw [b3 _ _ (by omega), kt_i_sik (by decide), kt_i_sie]) b2 (by rw [b3 _ _ (by omega), kt_i_sie]; rfl) (by omega) (by omega) (by decide) (fun _ => by omega) (fun z => absurd z (by decide))
    · rw [if_neg q1] at hk
      rw [if_pos (kz.f.n q1), kq_b1_s (pu_in48 c1)]
      by_cases q2 : 48 ≤ c ∧ c ≤ 57
      · rw [if_pos q2] at hk
        rw [if_neg (kz.f.t q2)]
        have hg : ∀ z, z ≠ 9 → z ≠ 10 → kt_i (kt_si (kt_si (kt_si ν1 m 8 (nI s)) m 9 2) m 10 0) m z = kt_i (kt_si ν1 m 8 (nI s)) m z := fun z z1 z2 => by rw [kt_i_sik z2, kt_i_sik z1]
        obtain ⟨ν3, d1, b1, b2, b3, b4, b5, b6⟩ := pu_dig (n := n) (m := m) (p := p) (L := L) (s := s) (μ := μ) n s 0 (kt_si (kt_si (kt_si ν1 m 8 (nI s)) m 9 2) m 10 0) (hT2.ext rfl (hg 6 (by decide) (by decide)) (fun _ => rfl) (fun z => by rw [kt_i_sin (by omega), kt_i_sin (by omega)])) (by rw [hg 7 (by decide) (by decide)]; exact e7) (by rw [hg 8 (by decide) (by decide), kt_i_sie]) (by rw [kt_i_sie]; rfl) (Nat.le_refl _) (by omega) (by omega) (by decide) (fun _ => rfl) (fun _ => by decide)
        have hr : k_run (k_T μ p) 2 (L - s) s = k_run (k_T μ p) 2 (L - (s + 1)) (s + 1) := by
          rw [show L - s = (L - (s + 1)) + 1 by omega, k_run, if_pos hk]
        have hrl := k_run_le (k_T μ p) 2 (L - (s + 1)) (s + 1)
        rw [hr] at b1 b2 b5
        rw [b1]
        unfold x_reads_J236
        have htok : a_tok μ p = (s, 2, k_run (k_T μ p) 2 (L - (s + 1)) (s + 1), decide (¬ ((2 : Int32) = 4 ∨ ((2 : Int32) = 2 ∧ 2 < k_run (k_T μ p) 2 (L - (s + 1)) (s + 1) - s)))) := by
          rw [hat, k_tok_1 hs q (Or.inr hk), hk]
        have hm := (a_mem_of htok).2
        generalize k_run (k_T μ p) 2 (L - (s + 1)) (s + 1) = e at b2 b5 hrl htok hm
        have hfr : FR m ν ν3 := fun y z q3 => by rw [b6 y z (by omega), kt_i_si, if_neg (by omega), kt_i_si, if_neg (by omega), kt_i_si, if_neg (by omega), hf1 y z q3]
        have g11 : kt_i ν3 m 11 = 0 := by rw [b6 _ _ (by omega), hg 11 (by decide) (by decide), kt_i_sik (by decide)]; exact h111
        have g8 : kt_i ν3 m 8 = nI s := by rw [b6 _ _ (by omega), hg 8 (by decide) (by decide), kt_i_sie]
        have g9 : kt_i ν3 m 9 = nI 2 := by rw [b6 _ _ (by omega), kt_i_sik (by decide), kt_i_sie]; rfl
        by_cases q3 : s + 2 < e
        · have hC : ¬ ¬ ((2 : Int32) = 4 ∨ ((2 : Int32) = 2 ∧ 2 < e - s)) := fun z => z (Or.inr ⟨rfl, by omega⟩)
          rw [if_neg hC] at hm
          rw [if_pos q3, kq_b2_s (pu_reqF g11 g8)]
          refine ⟨_, rfl, hfr.trans req_fr, Or.inr ⟨fun z => hC ((a_ok_of htok).mp z), ?_⟩⟩
          rw [← hm]
          exact FT.mk' (f := 1) (by decide) m_tk_5 req_11 kt_i_sie
        · have hC : ¬ ((2 : Int32) = 4 ∨ ((2 : Int32) = 2 ∧ 2 < e - s)) := fun z => z.elim (fun w => absurd w (by decide)) (fun w => by omega)
          rw [if_pos hC] at hm
          rw [if_neg q3, kq_b2_s pu_reqT]
          refine ⟨ν3, rfl, hfr, Or.inl ⟨(a_ok_of htok).mpr hC, s, 2, e, ?_⟩⟩
          rw [← hm]
          exact TK.mk' (hT.ext rfl (hfr _ _ (by omega)) (fun _ => rfl) (fun z => hfr _ _ (by omega))) h2 g11 g8 b2 g9 (by omega) (by omega) (by decide) (fun _ => by omega) (fun _ => ⟨d1, b3, b5 (by omega), b4⟩)
      · rw [if_neg q2] at hk
        rw [if_pos (kz.f.n q2)]
        have hg : ∀ z, z ≠ 9 → kt_i (kt_si (kt_si ν1 m 8 (nI s)) m 9 3) m z = kt_i (kt_si ν1 m 8 (nI s)) m z := fun z z1 => kt_i_sik z1
        have g11 : kt_i (kt_si (kt_si ν1 m 8 (nI s)) m 9 3) m 11 = 0 := by rw [hg 11 (by decide), kt_i_sik (by decide)]; exact h111
        have g8 : kt_i (kt_si (kt_si ν1 m 8 (nI s)) m 9 3) m 8 = nI s := by rw [hg 8 (by decide), kt_i_sie]
        have g7 : kt_i (kt_si (kt_si ν1 m 8 (nI s)) m 9 3) m 7 = nI s := by rw [hg 7 (by decide)]; exact e7
        have g9 : kt_i (kt_si (kt_si ν1 m 8 (nI s)) m 9 3) m 9 = nI 3 := by rw [kt_i_sie]; rfl
        have hfr : FR m ν (kt_si (kt_si ν1 m 8 (nI s)) m 9 3) := hf1.trans ((m_set (by decide)).trans (m_set (by decide)))
        generalize kt_si (kt_si ν1 m 8 (nI s)) m 9 3 = ν3 at g11 g8 g7 g9 hfr
        by_cases q3 : c = 59 ∨ c = 60 ∨ c = 61
        · rw [if_pos q3] at hk
          have hsel : (if nI c = 59 then x_reads_J272 n m 1 ν3 else if nI c = 60 then x_reads_J272 n m 1 ν3 else if nI c = 61 then x_reads_J272 n m 1 ν3 else x_reads_J272 n m 0 ν3) = x_reads_J272 n m 1 ν3 := by
            rcases q3 with z | z | z <;> subst z <;> rfl
          rw [hsel]
          unfold x_reads_J272
          rw [kq_b2_s pu_reqT]
          simp only [kq_lt]
          rw [g7, nI_1]
          have htok : a_tok μ p = (s, 3, s + 1, decide (¬ ((3 : Int32) = 4 ∨ ((3 : Int32) = 2 ∧ 2 < s + 1 - s)))) := by
            rw [hat, k_tok_2 hs q (by rw [hk]; decide), hk]
          have hC : ¬ ((3 : Int32) = 4 ∨ ((3 : Int32) = 2 ∧ 2 < s + 1 - s)) := fun z => z.elim (fun w => absurd w (by decide)) (fun w => absurd w.1 (by decide))
          have hm := (a_mem_of htok).2
          rw [if_pos hC] at hm
          refine ⟨_, rfl, hfr.trans (m_set (by decide)), Or.inl ⟨(a_ok_of htok).mpr hC, s, 3, s + 1, ?_⟩⟩
          rw [← hm]
          exact TK.mk' (hT.ext rfl (by rw [kt_i_sik (by decide)]; exact hfr _ _ (by omega)) (fun _ => rfl) (fun z => by rw [kt_i_sin (by omega)]; exact hfr _ _ (by omega))) h2 (by rw [kt_i_sik (by decide)]; exact g11) (by rw [kt_i_sik (by decide)]; exact g8) kt_i_sie (by rw [kt_i_sik (by decide)]; exact g9) (by omega) (by omega) (by decide) (fun _ => by omega) (fun z => absurd z (by decide))
        · rw [if_neg q3] at hk
          have hsel : (if nI c = 59 then x_reads_J272 n m 1 ν3 else if nI c = 60 then x_reads_J272 n m 1 ν3 else if nI c = 61 then x_reads_J272 n m 1 ν3 else x_reads_J272 n m 0 ν3) = x_reads_J272 n m 0 ν3 := by
            rw [if_neg (show ¬ nI c = 59 from fun z => q3 (Or.inl ((nI_eq (b := 59) (by omega) (by decide)).mp z))), if_neg (show ¬ nI c = 60 from fun z => q3 (Or.inr (Or.inl ((nI_eq (b := 60) (by omega) (by decide)).mp z)))), if_neg (show ¬ nI c = 61 from fun z => q3 (Or.inr (Or.inr ((nI_eq (b := 61) (by omega) (by decide)).mp z))))]
          rw [hsel]
          unfold x_reads_J272
          rw [kq_b2_s (pu_reqF g11 g8)]
          simp only [kq_lt]
          have htok : a_tok μ p = (s, 4, s + 1, decide (¬ ((4 : Int32) = 4 ∨ ((4 : Int32) = 2 ∧ 2 < s + 1 - s)))) := by
            rw [hat, k_tok_2 hs q (by rw [hk]; decide), hk]
          have hC : ¬ ¬ ((4 : Int32) = 4 ∨ ((4 : Int32) = 2 ∧ 2 < s + 1 - s)) := fun z => z (Or.inl rfl)
          have hm := (a_mem_of htok).2
          rw [if_neg hC] at hm
          refine ⟨_, rfl, (hfr.trans req_fr).trans (m_set (by decide)), Or.inr ⟨fun z => hC ((a_ok_of htok).mp z), ?_⟩⟩
          rw [← hm]
          exact FT.mk' (f := 1) (s := s) (by decide) m_tk_5 (by rw [kt_i_sik (by decide), req_11]; rfl) (by rw [kt_i_sik (by decide), kt_i_sie])
  · have hsL : s = L := by omega
    rw [kq_b2_s (pu_byteE hT1 (by omega) (by omega)), if_neg (by decide)]
    simp only [kq_lt]
    rw [a2, e7, kq_b2_s (pu_byteE hT2 (by omega) (by omega)), if_neg (by decide)]
    have htok : a_tok μ p = (s, 0, s, decide True) := by rw [hat, k_tok_0 hs q]; rfl
    have hm := (a_mem_of htok).2
    rw [if_pos trivial] at hm
    have hfr : FR m ν (kt_si (kt_si ν1 m 8 (nI s)) m 9 0) := hf1.trans ((m_set (by decide)).trans (m_set (by decide)))
    refine ⟨_, rfl, hfr, Or.inl ⟨(a_ok_of htok).mpr trivial, s, 0, s, ?_⟩⟩
    rw [← hm]
    exact TK.mk' (hT.ext rfl (hfr _ _ (by omega)) (fun _ => rfl) (fun z => hfr _ _ (by omega))) h2 (by rw [kt_i_sik (by decide), kt_i_sik (by decide)]; exact h111) (by rw [kt_i_sik (by decide), kt_i_sie]) (by rw [kt_i_sik (by decide)]; exact e7) (by rw [kt_i_sie]; rfl) (by omega) (by omega) (by decide) (fun z => absurd z (by decide)) (fun z => absurd z (by decide))

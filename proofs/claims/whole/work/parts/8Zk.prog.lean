/-! PURE: a program is read -/
theorem p_prL_out2 {p q x k : Nat} (h : x ≠ p ∧ x ≠ q ∧ (x < q + 7 ∨ q + 39 ≤ x)) : ∀ (n i : Nat) (μ : kt_M), i + n = 8 → kt_i (p_prL p q n i μ).2 x k = kt_i μ x k
  | 0, _, _, _ => p_fin_out h.1
  | n + 1, i, μ, hi => by
    rw [p_prL]
    split
    · exact p_fin_out h.1
    · split
      · rw [q_blk_out (by omega), p_grw_out (by omega)]
      · rw [p_prL_out2 h n (i + 1) _ (by omega), q_blk_out (by omega), p_grw_out (by omega)]
theorem q_prs_out2 {μ : kt_M} {p q x k : Nat} (h : x ≠ p ∧ x ≠ q ∧ (x < q + 7 ∨ q + 39 ≤ x)) : kt_i (q_prs μ p q).2 x k = kt_i μ x k := by
  unfold q_prs
  rw [kt_seal_eq]
  unfold p_prs
  have h1 : kt_i (a_adv (p_ini μ p q) p).2 x k = kt_i μ x k := by
    rw [a_adv_out h.1]; unfold p_ini; rw [kt_i_sin h.1, kt_i_sin h.1, kt_i_sin h.2.1]
  split
  · exact h1
  · rw [p_prL_out2 h 8 0 _ (by omega)]; exact h1
/-- i blocks have been read -/
def PS (μ ν : kt_M) (q m i : Nat) : Prop := kt_i μ q 3 = nI i ∧ kt_i ν (m + 2) 0 = nI i ∧ ∀ j, j < i → BX μ ν (q + 7 + 4 * j) (m + 2) (1 + 20 * j) j
theorem pu_L36X {n m p : Nat} {μ ν : kt_M} (fu : Nat) (h : FT μ ν p m) (hf : 0 < fu) : x_text_L36 n m fu ν = x_text_J57 n m ν := by
  obtain ⟨k, rfl⟩ : ∃ k, fu = k + 1 := ⟨fu - 1, by omega⟩
  rw [x_text_L36]
  unfold x_text_B36
  rw [if_neg h.n0.1]
/-- block after block -/
theorem pu_prL {n m p L q : Nat} (hn : 300 ≤ n) (hq : p + 2 ≤ q) : ∀ (fu k i : Nat) (μ ν : kt_M) (s t e : Nat), i + k = 8 → k + 2 < fu → TK μ ν p m L s t e → PS μ ν q m i → ∃ ν1, x_text_L36 n m fu ν = x_text_J57 n m ν1 ∧ FE m ν ν1 ∧ ((∃ N μ1 s e, N ≤ 8 ∧ p_prL p q k i μ = (if k_nmL μ1 q N 0 = true then (1, μ1) else (0, m_fail μ1 p 6)) ∧ TK μ1 ν1 p m L s 0 e ∧ PS μ1 ν1 q m N) ∨ ((p_prL p q k i μ).1 = 0 ∧ FT (p_prL p q k i μ).2 ν1 p m))
  | 0, k, i, μ, ν, s, t, e, h1, h2, h, hP => by omega
  | fu + 1, k, i, μ, ν, s, t, e, h1, h2, h, hP => by
    rw [x_text_L36]
    unfold x_text_B36
    rw [if_pos h.2.1.2]
    by_cases q0 : t = 0
    · subst q0
      have e4 : kt_i μ p 4 = 0 := (h.tok 0 (by decide)).1.mpr rfl
      rw [if_pos (show kt_i ν m 9 = 0 from (h.tok 0 (by decide)).2.mpr rfl)]
      have hpf : p_prL p q k i μ = p_fin μ p q i := by
        cases k with
        | zero => rfl
        | succ k => rw [p_prL, if_pos e4]
      refine ⟨ν, rfl, fun _ _ _ _ => rfl, Or.inl ⟨i, μ, s, e, by omega, ?_, h, hP⟩⟩
      rw [hpf]
      unfold p_fin
      rw [if_pos e4]
    · have e4 : ¬ kt_i μ p 4 = 0 := fun z => q0 ((h.tok 0 (by decide)).1.mp z)
      rw [if_neg (show ¬ kt_i ν m 9 = 0 from fun z => q0 ((h.tok 0 (by decide)).2.mp z))]
      by_cases ek : k = 0
      · subst ek
        have ei : i = 8 := by omega
        subst ei
        obtain ⟨ν1, a1, a2, a3⟩ := pu_rblk8 (n := n) h hP.2.1
        rw [kq_b2_s a1, pu_L36X fu a3 (by omega)]
        have hpf : p_prL p q 0 8 μ = (0, m_fail μ p (if kt_i μ p 4 = 1 then 5 else 2)) := by
          rw [p_prL]
          unfold p_fin
          rw [if_neg e4]
        rw [hpf]
        exact ⟨ν1, rfl, a2, Or.inr ⟨rfl, a3⟩⟩
      · obtain ⟨k', rfl⟩ : ∃ k', k = k' + 1 := ⟨k - 1, by omega⟩
        obtain ⟨ν1, a1, a2⟩ := pu_rblk (n := n) (q := q) (i := i) hn (by omega) hq h hP.2.1
        rw [kq_b2_s a1]
        have hpf : p_prL p q (k' + 1) i μ = if (q_blk (p_grw μ q i) p (q + 7 + 4 * i)).1 = 0 then (0, (q_blk (p_grw μ q i) p (q + 7 + 4 * i)).2) else p_prL p q k' (i + 1) (q_blk (p_grw μ q i) p (q + 7 + 4 * i)).2 := by
          rw [p_prL, if_neg e4]
        have hbo : ∀ y z, y ≠ p → (y < q + 7 + 4 * i ∨ q + 7 + 4 * i + 4 ≤ y) → kt_i (q_blk (p_grw μ q i) p (q + 7 + 4 * i)).2 y z = kt_i (p_grw μ q i) y z := fun y z z1 z2 => q_blk_out ⟨z1, z2⟩
        have hgo : ∀ y z, y ≠ q → y ≠ q + 7 + 4 * i → kt_i (p_grw μ q i) y z = kt_i μ y z := fun y z z1 z2 => p_grw_out ⟨z1, z2⟩
        have hg3 : kt_i (p_grw μ q i) q 3 = nI (i + 1) := by unfold p_grw; rw [kt_i_sie]
        rw [hpf]
        generalize q_blk (p_grw μ q i) p (q + 7 + 4 * i) = B at a2 hbo
        rcases a2 with ⟨o1, o2, o3, o4, s5, t5, e5, o5⟩ | ⟨o1, o2, o3⟩
        · rw [if_neg (show ¬ B.1 = 0 by rw [o1]; decide)]
          have hP1 : PS B.2 ν1 q m (i + 1) := by
            refine ⟨by rw [hbo _ _ (by omega) (by omega)]; exact hg3, by rw [o3, hP.2.1, nI_1], fun j hj => ?_⟩
            by_cases ej : j = i
            · subst ej; exact o4
            · exact (hP.2.2 j (by omega)).ext (fun y z z1 z2 => by rw [hbo y z (by omega) (by omega), hgo y z (by omega) (by omega)]) (fun w w1 => o2 _ _ (by omega) (by omega))
          obtain ⟨ν2, g1, g2, g3⟩ := pu_prL (n := n) (m := m) (L := L) hn hq fu k' (i + 1) B.2 ν1 s5 t5 e5 (by omega) (by omega) o5 hP1
          exact ⟨ν2, g1, fun y z z1 z2 => by rw [g2 y z z1 z2, o2 y z z1 (by omega)], g3⟩
        · rw [if_pos o1, pu_L36X fu o3 (by omega)]
          exact ⟨ν1, rfl, o2, Or.inr ⟨rfl, o3⟩⟩
/-- whether each block is there -/
theorem pu_ok {m q N j : Nat} {μ ν : kt_M} (hN : N ≤ 8) (h3 : kt_i μ q 3 = nI N) (hB : BX μ ν (q + 7 + 4 * j) (m + 2) (1 + 20 * j) j) : (k_nm μ q (q + 7 + 4 * j) ↔ ¬ (nI N ≤ kt_i ν (m + 2) (1 + 20 * j + 14)) ∧ ¬ (nI N ≤ kt_i ν (m + 2) (1 + 20 * j + 15))) ∧ (k_nm μ q (q + 7 + 4 * j) → ∃ D, WB D N ∧ db_or D = j ∧ CB μ (q + 7 + 4 * j) (db_org D 0) ∧ MX ν (m + 2) (1 + 20 * j) D) := by
  obtain ⟨D, d1, d2, d3, d4⟩ := hB
  have hen : db_en D ≤ 3 := d1.2.2.1
  have hed : kb_edges (kt_i μ (q + 7 + 4 * j) 4) = nI (db_ne D) := by rw [d3.2.2.1]; exact kb_ed_nI hen rfl
  have hne := db_ne_le D
  have hn1 : (¬ kb_edges (kt_i μ (q + 7 + 4 * j) 4) ≤ 0) ↔ 1 ≤ db_en D := by
    rw [hed]
    constructor
    · intro z
      refine Nat.one_le_iff_ne_zero.mpr (fun w => z ?_)
      unfold db_ne; rw [if_pos w]; decide
    · intro z w
      have := (nI_leI (b := 0) (by omega) (by decide)).mp w
      unfold db_ne at this
      rw [if_neg (by omega)] at this
      split at this <;> omega
  have hn2 : (¬ kb_edges (kt_i μ (q + 7 + 4 * j) 4) ≤ 1) ↔ 2 ≤ db_en D := by
    rw [hed]
    constructor
    · intro z
      refine Nat.le_of_not_lt (fun w => z ?_)
      refine (nI_leI (b := 1) (by omega) (by decide)).mpr ?_
      unfold db_ne
      by_cases w0 : db_en D = 0
      · rw [if_pos w0]; decide
      · rw [if_neg w0, if_pos (by omega)]; decide
    · intro z w
      have := (nI_leI (b := 1) (by omega) (by decide)).mp w
      unfold db_ne at this
      rw [if_neg (by omega), if_neg (by omega)] at this
      omega
  have hh : ∀ t, t < 8 → (k_hs μ q (nI t) ↔ t < N) := fun t ht => by
    unfold k_hs
    rw [h3, nI_ltI (by omega) (by omega)]
    exact ⟨fun z => z.2, fun z => ⟨nI_pos' (by omega), z⟩⟩
  have hm14 : ¬ (nI N ≤ kt_i ν (m + 2) (1 + 20 * j + 14)) ↔ (1 ≤ db_en D → db_t0 D < N) := by
    rw [d4.2.2.2.1]
    by_cases w : 1 ≤ db_en D
    · have ht := d1.2.2.2.1 w
      rw [if_pos w, nI_leI (by omega) (by omega)]
      exact ⟨fun z _ => by omega, fun z => by have := z w; omega⟩
    · rw [if_neg w]
      refine ⟨fun _ z => absurd z w, fun _ z => ?_⟩
      exact absurd (Int32.le_trans (show (0 : Int32) ≤ nI N from nI_pos' (by omega)) z) (by decide)
  have hm15 : ¬ (nI N ≤ kt_i ν (m + 2) (1 + 20 * j + 15)) ↔ (2 ≤ db_en D → db_t1 D < N) := by
    rw [d4.2.2.2.2.1]
    by_cases w : 2 ≤ db_en D
    · have ht := (d1.2.2.2.2.1 w).1
      rw [if_pos w, nI_leI (by omega) (by omega)]
      exact ⟨fun z _ => by omega, fun z => by have := z w; omega⟩
    · rw [if_neg w]
      refine ⟨fun _ z => absurd z w, fun _ z => ?_⟩
      exact absurd (Int32.le_trans (show (0 : Int32) ≤ nI N from nI_pos' (by omega)) z) (by decide)
  have key : k_nm μ q (q + 7 + 4 * j) ↔ (1 ≤ db_en D → db_t0 D < N) ∧ (2 ≤ db_en D → db_t1 D < N) := by
    unfold k_nm
    rw [hn1, hn2]
    constructor
    · intro z
      refine ⟨fun w => ?_, fun w => ?_⟩
      · have := z.1 w
        rw [show kt_i μ (q + 7 + 4 * j) 8 = nI (db_t0 D) from d3.2.2.2.1 w] at this
        exact (hh _ (d1.2.2.2.1 w)).mp this
      · have := z.2 w
        rw [show kt_i μ (q + 7 + 4 * j) 9 = nI (db_t1 D) from (d3.2.2.2.2.1 w).1] at this
        exact (hh _ (d1.2.2.2.2.1 w).1).mp this
    · intro z
      refine ⟨fun w => ?_, fun w => ?_⟩
      · rw [show kt_i μ (q + 7 + 4 * j) 8 = nI (db_t0 D) from d3.2.2.2.1 w]
        exact (hh _ (d1.2.2.2.1 w)).mpr (z.1 w)
      · rw [show kt_i μ (q + 7 + 4 * j) 9 = nI (db_t1 D) from (d3.2.2.2.2.1 w).1]
        exact (hh _ (d1.2.2.2.2.1 w).1).mpr (z.2 w)
  refine ⟨by rw [key, hm14, hm15], fun z => ⟨D, ?_, d2, d3, d4⟩⟩
  have z := key.mp z
  exact ⟨d1.1, d1.2.1, hen, z.1, fun w => ⟨z.2 w, (d1.2.2.2.2.1 w).2⟩, d1.2.2.2.2.2⟩
theorem pu_hab {n m q N : Nat} {μ ν : kt_M} (hN : N ≤ 8) (hP : PS μ ν q m N) : ∀ (fu i : Nat) (l : Prop) [Decidable l], i ≤ N → N < i + fu → x_hasAllBlocks_L4 n m fu (kt_f l) (nI i) ν = some (kt_f (l ∧ k_nmL μ q (N - i) i = true), ν)
  | 0, i, l, _, h1, h2 => by omega
  | fu + 1, i, l, _, h1, h2 => by
    rw [x_hasAllBlocks_L4]
    unfold x_hasAllBlocks_B4
    rw [show Int32.toNatClampNeg 0 = 0 from rfl, hP.2.1]
    by_cases e : i = N
    · rw [if_pos ((nI_leI (by omega) (by omega)).mpr (by omega)), kq_ck_t kt_f_01, e, Nat.sub_self]
      exact pu_pair (kt_f_iff ⟨fun z => ⟨z, rfl⟩, fun z => z.1⟩) rfl
    · rw [if_neg (fun z => by have := (nI_leI (by omega) (by omega)).mp z; omega), show N - i = (N - (i + 1)) + 1 by omega]
      have hpos : (1 : Int32) + 20 * nI i + 14 = nI (1 + 20 * i + 14) := by rw [show (1 : Int32) = nI 1 from rfl, show (20 : Int32) = nI 20 from rfl, show (14 : Int32) = nI 14 from rfl, nI_mul, nI_add, nI_add]
      have hok := (pu_ok hN hP.1 (hP.2.2 i (by omega))).1
      have rec0 : x_hasAllBlocks_L4 n m fu 0 (nI (i + 1)) ν = some (0, ν) := by
        have := pu_hab (n := n) hN hP fu (i + 1) False (by omega) (by omega)
        rw [kt_f_f (fun z : False => z), kt_f_f (fun z : False ∧ k_nmL μ q (N - (i + 1)) (i + 1) = true => z.1)] at this
        exact this
      by_cases hl : l
      · rw [kt_f_t hl, if_neg (show ¬ (1 : Int32) = 0 by decide), hpos, kq_ck_t (pu_kin (by omega) (by decide)), nI_clamp (show 1 + 20 * i + 14 < 2 ^ 31 by omega), nI_1]
        by_cases c1 : nI N ≤ kt_i ν (m + 2) (1 + 20 * i + 14)
        · rw [if_pos c1, rec0, k_nmL_f (fun z => (hok.mp z).1 c1), kt_f_f (fun z => absurd z.2 (by decide))]
        · rw [if_neg c1, nI_1, kq_ck_t (pu_kin (by omega) (by decide)), nI_clamp (show 1 + 20 * i + 14 + 1 < 2 ^ 31 by omega)]
          by_cases c2 : nI N ≤ kt_i ν (m + 2) (1 + 20 * i + 15)
          · rw [if_pos (show nI N ≤ kt_i ν (m + 2) (1 + 20 * i + 14 + 1) from c2), rec0, k_nmL_f (fun z => (hok.mp z).2 c2), kt_f_f (fun z => absurd z.2 (by decide))]
          · rw [if_neg (show ¬ nI N ≤ kt_i ν (m + 2) (1 + 20 * i + 14 + 1) from c2), k_nmL_t (hok.mpr ⟨c1, c2⟩)]
            have := pu_hab (n := n) hN hP fu (i + 1) True (by omega) (by omega)
            rw [kt_f_t trivial] at this
            rw [this]
            exact pu_pair (kt_f_iff ⟨fun z => ⟨hl, z.2⟩, fun z => ⟨trivial, z.2⟩⟩) rfl
      · rw [kt_f_f hl, if_pos rfl, nI_1, rec0, kt_f_f (fun z => hl z.1)]

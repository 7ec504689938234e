/-! PURE: an edge led elsewhere; a new original -/
def db_aim (D : DB) (x t : Nat) : DB := (D.1, D.2.1, D.2.2.1, (if x = 0 then t else D.2.2.2.1.1, if x = 0 then D.2.2.2.1.2 else t), D.2.2.2.2)
def dp_set (P : DP) (b : Nat) (D : DB) : DP := (P.1, fun i => if i = b then D else P.2 i)
theorem WB.aim {D : DB} {s x t : Nat} (h : WB D s) (ht : t < s) : WB (db_aim D x t) s := by
  obtain ⟨h1, h2, h3, h4, h5, h6⟩ := h
  refine ⟨h1, h2, h3, fun q => ?_, fun q => ⟨?_, (h5 q).2⟩, h6⟩
  · show (if x = 0 then t else db_t0 D) < s
    split
    · exact ht
    · exact h4 q
  · show (if x = 0 then db_t1 D else t) < s
    split
    · exact (h5 q).1
    · exact ht
theorem WP.set {P : DP} {N b : Nat} {D : DB} (h : WP P N) (hD : WB D P.1) : WP (dp_set P b D) N := ⟨h.1, fun i hi => by
  show WB (if i = b then D else P.2 i) P.1
  split
  · exact hD
  · exact h.2 i hi⟩
theorem pu_89 {x : Nat} (hx : x < 2) : (if nI x = 0 then 8 else 9 : Nat) = 8 + x := by
  have : x = 0 ∨ x = 1 := by omega
  rcases this with rfl | rfl <;> rfl
theorem db_ne_en {D : DB} {x : Nat} (h : x < db_ne D) : x + 1 ≤ db_en D := by
  unfold db_ne at h
  split at h
  · omega
  · split at h <;> omega
theorem CB.aim {μ : kt_M} {k x t : Nat} {D : DB} (h : CB μ k D) (hx : x < 2) : CB (kt_si μ k (8 + x) (nI t)) k (db_aim D x t) := by
  obtain ⟨c1, c2, c3, c4, c5, c6, c7⟩ := h
  refine ⟨by rw [kt_i_sik (by omega)]; exact c1, fun i hi => by rw [kt_i_sin (by omega), kt_i_sin (by omega), kt_i_sin (by omega)]; exact c2 i hi, by rw [kt_i_sik (by omega)]; exact c3, fun q => ?_, fun q => ⟨?_, by rw [kt_i_sik (by omega), kt_i_sik (by omega), kt_i_sik (by omega)]; exact (c5 q).2⟩, by rw [kt_i_sik (by omega)]; exact c6, by rw [kt_i_sik (by omega)]; exact c7⟩
  · show _ = nI (if x = 0 then t else db_t0 D)
    by_cases e : x = 0
    · subst e; rw [if_pos rfl]; exact kt_i_sie
    · rw [if_neg e, kt_i_sik (by omega)]; exact c4 q
  · show _ = nI (if x = 0 then db_t1 D else t)
    by_cases e : x = 0
    · rw [if_pos e, kt_i_sik (by omega)]; exact (c5 q).1
    · rw [if_neg e, show (9 : Nat) = 8 + x by omega]; exact kt_i_sie
theorem MB.aim {μ : kt_M} {m p b x t s : Nat} {D : DB} (h : MB μ m p b D) (hD : WB D s) (hx : x < db_ne D) : MB (kt_si μ (m + 1) (321 * p + 1 + 20 * b + (14 + x)) (nI t)) m p b (db_aim D x t) := by
  obtain ⟨m1, m2, m3, m4, m5, m6, m7, m8, m9⟩ := h
  have hx2 := db_ne_le D
  have hen := db_ne_en hx
  have hn := hD.1
  have he : ∀ w, w ≠ 14 + x → mr (kt_si μ (m + 1) (321 * p + 1 + 20 * b + (14 + x)) (nI t)) m p b w = mr μ m p b w := fun w hw => by unfold mr; rw [kt_i_sik (by omega)]
  have hs : mr (kt_si μ (m + 1) (321 * p + 1 + 20 * b + (14 + x)) (nI t)) m p b (14 + x) = nI t := kt_i_sie
  refine ⟨by rw [he _ (by omega)]; exact m1, fun i hi => ?_, by rw [he _ (by omega)]; exact m3, ?_, ?_, by rw [he _ (by omega)]; exact m6, by rw [he _ (by omega)]; exact m7, by rw [he _ (by omega)]; exact m8, by rw [he _ (by omega)]; exact m9⟩
  · have hi : i < db_na D := hi
    rw [he _ (by omega), he _ (by omega), he _ (by omega)]
    exact m2 i hi
  · show _ = if 1 ≤ db_en D then nI (if x = 0 then t else db_t0 D) else -4
    rw [if_pos (by omega)]
    by_cases e : x = 0
    · subst e; rw [if_pos rfl]; exact hs
    · rw [if_neg e, he _ (by omega), m4, if_pos (by omega)]
  · show _ = if 2 ≤ db_en D then nI (if x = 0 then db_t1 D else t) else -4
    by_cases e : x = 0
    · rw [if_pos e, he _ (by omega), m5]
    · have : x = 1 := by omega
      subst this
      rw [if_neg e, if_pos (by omega)]; exact hs
theorem CP.set {μ μ' : kt_M} {q b : Nat} {P : DP} {D : DB} (h : CP μ q P) (hD : CB μ' (q + 7 + 4 * b) D) (he : ∀ y k, q ≤ y → y < q + 7 + 4 * P.1 → ¬ (q + 7 + 4 * b ≤ y ∧ y < q + 7 + 4 * b + 4) → kt_i μ' y k = kt_i μ y k) : CP μ' q (dp_set P b D) := by
  refine ⟨by rw [he _ _ (by omega) (by omega) (by omega)]; exact h.1, fun i hi => ?_⟩
  show CB μ' (q + 7 + 4 * i) (if i = b then D else P.2 i)
  have hi : i < P.1 := hi
  by_cases e : i = b
  · subst e; rw [if_pos rfl]; exact hD
  · rw [if_neg e]; exact (h.2 i hi).ext (fun y k q1 q2 => he y k (by omega) (by omega) (by omega))
theorem MP.set {μ μ' : kt_M} {m p b : Nat} {P : DP} {D : DB} (h : MP μ m p P) (hP : WP P 16) (hD : MB μ' m p b D) (he : ∀ j, 321 * p ≤ j → j < 321 * p + 321 → ¬ (321 * p + 1 + 20 * b ≤ j ∧ j < 321 * p + 1 + 20 * b + 20) → kt_i μ' (m + 1) j = kt_i μ (m + 1) j) : MP μ' m p (dp_set P b D) := by
  have hs := hP.1
  refine ⟨by rw [he _ (by omega) (by omega) (by omega)]; exact h.1, fun i hi => ?_⟩
  show MB μ' m p i (if i = b then D else P.2 i)
  have hi : i < P.1 := hi
  by_cases e : i = b
  · subst e; rw [if_pos rfl]; exact hD
  · rw [if_neg e]; exact (h.2 i hi).tr (hP.2 i hi) (fun w hw => by unfold mr; exact he _ (by omega) (by omega) (by omega))
theorem MB.tgm {μ : kt_M} {m p b x s : Nat} {D : DB} (h : MB μ m p b D) (hx : x < db_ne D) : mr μ m p b (14 + x) = nI (db_tg D x) := by
  have hen := db_ne_en hx
  have := db_ne_le D
  unfold db_tg
  by_cases e : x = 0
  · subst e; rw [if_pos rfl]; exact h.2.2.2.1.trans (if_pos (by omega))
  · have : x = 1 := by omega
    subst this
    rw [if_neg e]; exact h.2.2.2.2.1.trans (if_pos (by omega))
theorem m_orgL_b {q b k y : Nat} (hy : q + 7 + 4 * b ≤ y ∧ y < q + 7 + 4 * b + 4) : ∀ (n i : Nat) (μ : kt_M), i ≤ b → b < i + n → kt_i (m_orgL q n i μ) y k = kt_i (kt_si μ (q + 7 + 4 * b) 10 (nI b)) y k
  | 0, i, μ, h1, h2 => by omega
  | n + 1, i, μ, h1, h2 => by
    rw [m_orgL]
    by_cases e : i = b
    · subst e
      rw [m_orgL_far _ _ _ (fun c c1 c2 => by omega)]
    · rw [m_orgL_b hy n (i + 1) _ (by omega) (by omega)]
      by_cases c : y = q + 7 + 4 * b ∧ k = 10
      · rw [kt_i_si, if_pos c, kt_i_si, if_pos c]
      · rw [kt_i_si, if_neg c, kt_i_sin (by omega), kt_i_si, if_neg c]
theorem cp_org {μ : kt_M} {q : Nat} {P : DP} (h3 : kt_i μ q 3 = nI P.1) (h : ∀ b, b < P.1 → CB (kt_si μ (q + 7 + 4 * b) 10 (nI b)) (q + 7 + 4 * b) (P.2 b)) : CP (m_orgL q P.1 0 μ) q P :=
  ⟨by rw [m_orgL_far _ _ _ (fun c c1 c2 => by omega)]; exact h3, fun b hb => (h b hb).ext (fun y k q1 q2 => m_orgL_b ⟨q1, q2⟩ _ _ _ (by omega) (by omega))⟩
theorem pu_anew {n m : Nat} {μ : kt_M} (hn : 330 ≤ n) : ∃ μ1, x_anew n m μ = some ((), μ1) ∧ (∀ y j, ¬ (y = m + 1 ∧ 321 ≤ j ∧ j < 642) → ¬ (y = m + 4 ∧ j < 2) → kt_i μ1 y j = kt_i μ y j) ∧ (∀ j, j < 321 → kt_i μ1 (m + 1) (321 * 1 + j) = kt_i μ (m + 1) (321 * 0 + j)) ∧ ∀ j, j < 2 → kt_i μ1 (m + 4) j = 0 := by
  unfold x_anew
  obtain ⟨μ1, a1, a2, a3⟩ := pu_cop (n := n) (m := m) (a := 0) (b := 1) (μ := μ) (by decide) (by decide) (by decide) hn
  rw [kq_b2_s (show x_copies n m μ 0 1 = _ from a1)]
  simp only [kq_lt]
  refine ⟨_, rfl, fun y j q1 q2 => ?_, fun j hj => ?_, fun j hj => ?_⟩
  · rw [show Int32.toNatClampNeg 0 = 0 from rfl, show Int32.toNatClampNeg 1 = 1 from rfl, kt_i_si, if_neg (by omega), kt_i_si, if_neg (by omega)]
    exact a2 y j (by omega)
  · rw [kt_i_sin (by omega), kt_i_sin (by omega)]; exact a3 j hj
  · have : j = 0 ∨ j = 1 := by omega
    rcases this with rfl | rfl
    · rw [show Int32.toNatClampNeg 1 = 1 from rfl, kt_i_sik (by decide)]; exact kt_i_sie
    · exact kt_i_sie
/-- a new original of both is in place -/
theorem kIS.new {μ μ' μ1 : kt_M} {o m : Nat} {P0 P1 P : DP} {PI : Nat → DP} {L lim : Nat} (h : kIS μ o m P0 P1 PI L lim) (hW : WO P) (hC : CP (m_orgL (o + 42) P.1 0 μ') (o + 42) P) (he : ∀ y k, kRc o m y k ∨ y = o + 4 ∨ y = o + 43 ∨ y = o + 82 ∨ y = o + 153 ∨ (o + 154 ≤ y ∧ y < o + 361) ∨ (o + 372 ≤ y ∧ y < o + 514) → y < m → kt_i μ' y k = kt_i μ y k) (h0 : MP μ1 m 0 P) (h1 : MP μ1 m 1 P) (h4 : ∀ j, j < 2 → kt_i μ1 (m + 4) j = 0) (hv : ∀ y k, y < m → kt_i μ1 y k = kt_i (ut_new μ' o P.1) y k) (hw : ∀ y k, m ≤ y → kRc o m y k → kt_i μ1 y k = kt_i μ y k) : kInv μ1 o m := by
  have hom := h.1
  have hP := hW.1.up
  have hs := hW.1.1
  have hs2 := hP.1
  obtain ⟨hcp, hfar⟩ := cp_cop (p := o + 81) hC hP (by omega)
  have hn : ∀ y k, y < m → kt_i μ1 y k = if y = o ∧ k = 15 then 0 else if y = o + 153 ∧ k = 1 then 0 else if y = o + 153 ∧ k = 0 then 0 else kt_i (m_pcpL (o + 81) (o + 42) P.1 0 (kt_si (m_orgL (o + 42) P.1 0 μ') (o + 81) 3 0)) y k := fun y k hy => by
    rw [hv y k hy]; unfold ut_new; rw [kt_i_si, kt_i_si, kt_i_si]
  have hd : ∀ y k, y < m → ¬ (y = o ∧ k = 15) → ¬ (y = o + 153 ∧ k < 2) → kt_i μ1 y k = kt_i (m_pcpL (o + 81) (o + 42) P.1 0 (kt_si (m_orgL (o + 42) P.1 0 μ') (o + 81) 3 0)) y k := fun y k q0 q1 q2 => by
    rw [hn y k q0, if_neg q1, if_neg (by omega), if_neg (by omega)]
  have hf : ∀ y k, y < m → ¬ (y = o ∧ k = 15) → ¬ (y = o + 153 ∧ k < 2) → (y < o + 81 ∨ o + 152 ≤ y ∨ y = o + 82) → kt_i μ1 y k = kt_i (m_orgL (o + 42) P.1 0 μ') y k := fun y k q0 q1 q2 q3 => by
    rw [hd y k q0 q1 q2, hfar y k (by omega) (by omega)]
  have hg : ∀ y k, y < m → ¬ (y = o ∧ k = 15) → ¬ (y = o + 153 ∧ k < 2) → (y < o + 49 ∨ o + 152 ≤ y ∨ y = o + 82) → (kRc o m y k ∨ y = o + 4 ∨ y = o + 43 ∨ y = o + 82 ∨ y = o + 153 ∨ (o + 154 ≤ y ∧ y < o + 361) ∨ (o + 372 ≤ y ∧ y < o + 514)) → kt_i μ1 y k = kt_i μ y k := fun y k q0 q1 q2 q3 q4 => by
    rw [hf y k q0 q1 q2 (by omega), m_orgL_far _ _ _ (fun b b1 b2 => by omega), he y k q4 q0]
  obtain ⟨d1, d2, d3, d4⟩ := h.2.2.2.2.1
  have h15 : kt_i μ1 o 15 = 0 := by rw [hn _ _ (by omega), if_pos ⟨rfl, rfl⟩]
  have hk : ∀ j, j < 2 → kt_i μ1 (o + 153) j = 0 := fun j hj => by
    rw [hn _ _ (by omega), if_neg (by omega)]
    by_cases e : j = 1
    · rw [if_pos ⟨rfl, e⟩]
    · rw [if_neg (by omega), if_pos ⟨rfl, by omega⟩]
  refine (h.prg (Q0 := P) (Q1 := P) (QI := PI) (fun y k hy => ?_) ⟨hW, hC.ext hs (fun y k q1 q2 => hf y k (by omega) (by omega) (by omega) (by omega)), h0⟩ ⟨hP, hcp.ext hs2 (fun y k q1 q2 => hd y k (by omega) (by omega) (by omega)), h1⟩ (fun j hj => ?_) ⟨d1.ext (fun k => hg _ k (by omega) (by omega) (by omega) (by omega) (by omega)), d2.ext (fun k => hg _ k (by omega) (by omega) (by omega) (by omega) (by omega)), d3.ext (fun k => hg _ k (by omega) (by omega) (by omega) (by omega) (by omega)), fun j hj => (d4 j hj).ext (fun k => hg _ k (by omega) (by omega) (by omega) (by omega) (by omega))⟩ (h.2.2.2.2.2.1.far (fun y k q1 q2 => hg y k (by omega) (by omega) (by omega) (by omega) (by omega))) (fun q => absurd h15 q) ⟨fun j => ?_, fun j hj => by rw [h4 j hj, hk j hj]⟩).inv
  · by_cases e : y < m
    · exact hg y k e (by unfold kRc at hy; omega) (by unfold kRc at hy; omega) (by unfold kRc at hy; omega) (Or.inl hy)
    · exact hw y k (by omega) hy
  · obtain ⟨i1, i2, i3⟩ := h.2.2.2.1 j hj
    exact ⟨i1, i2.ext i1.1 (fun y i q1 q2 => hg y i (by omega) (by omega) (by omega) (by omega) (by omega)), fun q => absurd (hk j hj) (by rw [q]; decide)⟩
  · by_cases e : j < 2
    · rw [hk j e]; exact Or.inl rfl
    · rw [hg _ _ (by omega) (by omega) (by omega) (by omega) (by omega)]; exact h.kp.1 j
theorem m_orgL_id {q : Nat} : ∀ (n i : Nat) (μ : kt_M), (∀ b, i ≤ b → b < i + n → kt_i μ (q + 7 + 4 * b) 10 = nI b) → ∀ y k, kt_i (m_orgL q n i μ) y k = kt_i μ y k
  | 0, i, μ, h, y, k => rfl
  | n + 1, i, μ, h, y, k => by
    have e : ∀ y k, kt_i (kt_si μ (q + 7 + 4 * i) 10 (nI i)) y k = kt_i μ y k := fun y k => by
      rw [kt_i_si]
      by_cases c : y = q + 7 + 4 * i ∧ k = 10
      · rw [if_pos c, c.1, c.2, h i (by omega) (by omega)]
      · rw [if_neg c]
    rw [m_orgL, m_orgL_id n (i + 1) _ (fun b b1 b2 => by rw [e]; exact h b (by omega) (by omega)), e]
theorem st_lead {μ : kt_M} {o m : Nat} (h : kInv μ o m) (a1 : Int32) (a2 : Int32) (a3 : Int32) : ∃ (n : Nat) (μ1 : kt_M), x_lead n m (ut_lead μ o a1 a2 a3).2 a1 a2 a3 = some ((ut_lead μ o a1 a2 a3).1, μ1) ∧ kInv μ1 o m := by
  obtain ⟨P0, P1, PI, L, lim, h⟩ := h
  have hom := h.1
  obtain ⟨hW, hC, hM⟩ := h.2.1
  have hP := hW.1.up
  have hs := hW.1.1
  refine ⟨4000, ?_⟩
  by_cases hg : k_he μ (o + 42) a1 a2 ∧ k_hs μ (o + 42) a3
  · obtain ⟨b, x, hb, hx, rfl, rfl⟩ := (cp_he hC hP (by decide)).mp hg.1
    obtain ⟨t, ht, rfl⟩ := (cp_hs hC (by omega)).mp hg.2
    have hx2 : x < 2 := by have := db_ne_le (P0.2 b); omega
    have hD := hP.2 b hb
    have hat : k_at μ (o + 42) (nI b) = o + 42 + 7 + 4 * b := k_at_nI hC.1 (by omega) hb
    have hu : ut_lead μ o (nI b) (nI x) (nI t) = (nI (db_tg (P0.2 b) x), ut_new (kt_si μ (o + 42 + 7 + 4 * b) (8 + x) (nI t)) o P0.1) := by
      unfold ut_lead
      rw [if_pos hg, hat, pu_89 hx2, hC.1, nI_clamp (by omega), cl_tg (hC.2 b hb) hD hx]
    rw [hu]
    dsimp only
    have hC2 : CP (kt_si μ (o + 42 + 7 + 4 * b) (8 + x) (nI t)) (o + 42) (dp_set P0 b (db_aim (P0.2 b) x t)) := hC.set ((hC.2 b hb).aim hx2) (fun y k q1 q2 q3 => kt_i_sin (by omega))
    have hW2 : WO (dp_set P0 b (db_aim (P0.2 b) x t)) := ⟨hW.1.set (hD.aim ht), fun i hi => by
      show db_or (if i = b then db_aim (P0.2 b) x t else P0.2 i) = i
      by_cases e : i = b
      · subst e; rw [if_pos rfl]; exact hW.2 i hb
      · rw [if_neg e]; exact hW.2 i hi⟩
    have hC3 : CP (m_orgL (o + 42) (dp_set P0 b (db_aim (P0.2 b) x t)).1 0 (kt_si μ (o + 42 + 7 + 4 * b) (8 + x) (nI t))) (o + 42) (dp_set P0 b (db_aim (P0.2 b) x t)) := by
      refine hC2.ext (N := 8) hs (fun y k _ _ => m_orgL_id _ _ _ (fun i i1 i2 => ?_) y k)
      have hi : i < P0.1 := by
        have : i < 0 + P0.1 := i2
        omega
      rw [kt_i_sik (by omega), (hC.2 i hi).2.2.2.2.2.1, hW.2 i hi]
    have hnm : ∀ y k, m ≤ y → kt_i (ut_new (kt_si μ (o + 42 + 7 + 4 * b) (8 + x) (nI t)) o P0.1) y k = kt_i μ y k := fun y k hy => by
      unfold ut_new
      rw [kt_i_sin (by omega), kt_i_sin (by omega), kt_i_sin (by omega), m_pcpL_out _ _ _ (by omega), kt_i_sin (by omega), m_orgL_far _ _ _ (fun c c1 c2 => by omega), kt_i_sin (by omega)]
    generalize hμc : ut_new (kt_si μ (o + 42 + 7 + 4 * b) (8 + x) (nI t)) o P0.1 = μc at hnm
    have hMc : MP μc m 0 P0 := hM.ext (fun j => hnm _ j (by omega))
    obtain ⟨r1, b1, b2⟩ := pu_isEdge (n := 4000) (a := nI b) (s := nI x) hMc hP (by decide) (by decide)
    obtain ⟨r2, c1, c2⟩ := pu_isBlock (n := 4000) (a := nI t) hMc (by decide) hP.1
    unfold x_lead
    rw [kq_b2_s (show x_isEdge 4000 m μc 0 (nI b) (nI x) = _ from b1), if_neg (b2.t ⟨b, x, hb, hx, rfl, rfl⟩), kq_b2_s (show x_isBlock 4000 m μc 0 (nI t) = _ from c1), if_neg (c2.t ⟨t, ht, rfl⟩), kq_b1_s (show x_at 4000 0 (nI b) (14 + nI x) = some (nI (321 * 0 + 1 + 20 * b + (14 + x))) by rw [show (14 : Int32) = nI 14 from rfl, nI_add]; exact pu_at (p := 0)), kq_ck_t (pu_kin (by omega) (by decide)), kq_ck_t (pu_kin (by omega) (by decide)), nI_clamp (by omega)]
    simp only [kq_lt]
    obtain ⟨μ1, e1, e2, e3, e4⟩ := pu_anew (n := 4000) (m := m) (μ := kt_si μc (m + 1) (321 * 0 + 1 + 20 * b + (14 + x)) (nI t)) (by decide)
    rw [kq_b2_s e1]
    have hMs : MP (kt_si μc (m + 1) (321 * 0 + 1 + 20 * b + (14 + x)) (nI t)) m 0 (dp_set P0 b (db_aim (P0.2 b) x t)) := hMc.set hP ((hMc.2 b hb).aim hD hx) (fun j j1 j2 j3 => kt_i_sik (by omega))
    refine ⟨μ1, pu_pair ((hMc.2 b hb).tgm (s := 0) hx) rfl, h.new (μ' := kt_si μ (o + 42 + 7 + 4 * b) (8 + x) (nI t)) hW2 hC3 (fun y k hy hm => kt_i_sin (by unfold kRc at hy; omega)) (hMs.far hW2.1.up (fun j j1 j2 => e2 _ _ (by omega) (by omega))) (hMs.cop hW2.1.up e3) e4 (fun y k hy => ?_) (fun y k hy hr => ?_)⟩
    · rw [e2 _ _ (by omega) (by omega), kt_i_sin (by omega), ← hμc]; rfl
    · unfold kRc at hr; rw [e2 _ _ (by omega) (by omega), kt_i_sin (by omega), hnm _ _ hy]
  · have hu : ut_lead μ o a1 a2 a3 = (-1, μ) := if_neg hg
    rw [hu]
    unfold x_lead
    refine ⟨μ, ?_, h.inv⟩
    obtain ⟨r1, b1, b2⟩ := pu_isEdge (n := 4000) (a := a1) (s := a2) hM hP (by decide) (by decide)
    obtain ⟨r2, c1, c2⟩ := pu_isBlock (n := 4000) (a := a3) hM (by decide) hP.1
    rw [kq_b2_s (show x_isEdge 4000 m μ 0 a1 a2 = _ from b1)]
    by_cases q1 : ∃ j x, j < P0.1 ∧ x < db_ne (P0.2 j) ∧ a1 = nI j ∧ a2 = nI x
    · rw [if_neg (b2.t q1), kq_b2_s (show x_isBlock 4000 m μ 0 a3 = _ from c1), if_pos (c2.n (fun q2 => hg ⟨(cp_he hC hP (by decide)).mpr q1, (cp_hs hC hP.1).mpr q2⟩))]
    · rw [if_pos (b2.n q1)]

/-! PURE: sweeping -/
def nb (R : Nat → Bool) : Nat → Nat
  | 0 => 0
  | i + 1 => nb R i + (if R i = true then 1 else 0)
def sel (R : Nat → Bool) : Nat → Nat → Nat
  | 0, _ => 0
  | s + 1, j => if R s = true ∧ nb R s = j then s else sel R s j
theorem nb_le {R : Nat → Bool} : ∀ i, nb R i ≤ i
  | 0 => Nat.le_refl 0
  | i + 1 => by have := nb_le (R := R) i; unfold nb; split <;> omega
theorem nb_mono {R : Nat → Bool} {i : Nat} : ∀ d, nb R i ≤ nb R (i + d)
  | 0 => Nat.le_refl _
  | d + 1 => by have := nb_mono (R := R) (i := i) d; show nb R i ≤ nb R (i + d) + _; split <;> omega
theorem nb_s {R : Nat → Bool} {i : Nat} (h : R i = true) : nb R (i + 1) = nb R i + 1 := by show nb R i + _ = _; rw [if_pos h]
theorem nb_n {R : Nat → Bool} {i : Nat} (h : ¬ R i = true) : nb R (i + 1) = nb R i := by show nb R i + _ = _; rw [if_neg h]; rfl
theorem nb_lt {R : Nat → Bool} {i j : Nat} (h : R i = true) (hij : i < j) : nb R i < nb R j := by
  have := nb_mono (R := R) (i := i + 1) (j - (i + 1))
  rw [show i + 1 + (j - (i + 1)) = j by omega, nb_s h] at this
  omega
theorem nb_all {R : Nat → Bool} : ∀ s, nb R s = s → ∀ i, i < s → R i = true ∧ nb R i = i
  | 0, h, i, hi => by omega
  | s + 1, h, i, hi => by
    have hl := nb_le (R := R) s
    by_cases c : R s = true
    · rw [nb_s c] at h
      by_cases e : i = s
      · subst e; exact ⟨c, by omega⟩
      · exact nb_all s (by omega) i (by omega)
    · rw [nb_n c] at h; omega
theorem sel_nb {R : Nat → Bool} {i : Nat} (h : R i = true) : ∀ s, i < s → sel R s (nb R i) = i
  | 0, hi => by omega
  | s + 1, hi => by
    unfold sel
    by_cases e : i = s
    · subst e; rw [if_pos ⟨h, rfl⟩]
    · rw [if_neg (fun q => by have := nb_lt h (show i < s by omega); omega)]
      exact sel_nb h s (by omega)
theorem sel_ex {R : Nat → Bool} {j : Nat} : ∀ s, j < nb R s → ∃ i, i < s ∧ R i = true ∧ nb R i = j
  | 0, h => absurd h (Nat.not_lt_zero _)
  | s + 1, h => by
    by_cases c : R s = true
    · rw [nb_s c] at h
      by_cases e : j = nb R s
      · exact ⟨s, by omega, c, e.symm⟩
      · obtain ⟨i, h1, h2⟩ := sel_ex s (show j < nb R s by omega); exact ⟨i, by omega, h2⟩
    · rw [nb_n c] at h
      obtain ⟨i, h1, h2⟩ := sel_ex s h; exact ⟨i, by omega, h2⟩
def db_mp (D : DB) (N : Nat → Nat) : Nat → DB
  | 0 => D
  | x + 1 => db_aim (db_mp D N x) x (N (db_tg D x))
theorem db_mp_en {D : DB} {N : Nat → Nat} : ∀ x, db_en (db_mp D N x) = db_en D
  | 0 => rfl
  | x + 1 => db_mp_en x
theorem db_mp_ne {D : DB} {N : Nat → Nat} (x : Nat) : db_ne (db_mp D N x) = db_ne D := by unfold db_ne; rw [db_mp_en]
theorem db_tg_aim {D : DB} {x t y : Nat} (hx : x < 2) (hy : y < 2) : db_tg (db_aim D x t) y = if y = x then t else db_tg D y := by
  have h1 : x = 0 ∨ x = 1 := by omega
  have h2 : y = 0 ∨ y = 1 := by omega
  rcases h1 with rfl | rfl <;> rcases h2 with rfl | rfl <;> rfl
theorem db_tg_mp {D : DB} {N : Nat → Nat} {y : Nat} (hy : y < 2) : ∀ x, x ≤ 2 → db_tg (db_mp D N x) y = if y < x then N (db_tg D y) else db_tg D y
  | 0, h => by rw [if_neg (by omega)]; rfl
  | x + 1, h => by
    show db_tg (db_aim (db_mp D N x) x (N (db_tg D x))) y = _
    rw [db_tg_aim (by omega) hy, db_tg_mp hy x (by omega)]
    by_cases e : y = x
    · subst e; rw [if_pos rfl, if_pos (by omega)]
    · rw [if_neg e]
      by_cases c : y < x
      · rw [if_pos c, if_pos (by omega)]
      · rw [if_neg c, if_neg (by omega)]
theorem db_aim_id {D : DB} {x : Nat} (hx : x < 2) : db_aim D x (db_tg D x) = D := by
  have h1 : x = 0 ∨ x = 1 := by omega
  rcases h1 with rfl | rfl <;> rfl
theorem db_mp_id {D : DB} {N : Nat → Nat} : ∀ x, x ≤ 2 → (∀ y, y < x → N (db_tg D y) = db_tg D y) → db_mp D N x = D
  | 0, _, _ => rfl
  | x + 1, h, hN => by
    show db_aim (db_mp D N x) x (N (db_tg D x)) = D
    rw [db_mp_id x (by omega) (fun y hy => hN y (by omega)), hN x (by omega), db_aim_id (by omega)]
theorem WB.mpx {D : DB} {N : Nat → Nat} {s : Nat} (h : WB D s) (hN : ∀ x, x < db_ne D → N (db_tg D x) < s) : ∀ x, x ≤ db_ne D → WB (db_mp D N x) s
  | 0, _ => h
  | x + 1, hx => (WB.mpx h hN x (by omega)).aim (hN x (by omega))
theorem WB.re {D : DB} {s s' : Nat} (h : WB D s) (ht : ∀ x, x < db_ne D → db_tg D x < s') : WB D s' := by
  obtain ⟨h1, h2, h3, h4, h5, h6⟩ := h
  refine ⟨h1, h2, h3, fun q => ht 0 ?_, fun q => ⟨ht 1 ?_, (h5 q).2⟩, h6⟩
  · unfold db_ne; rw [if_neg (by omega)]; split <;> decide
  · unfold db_ne; rw [if_neg (by omega), if_neg (by omega)]; decide
def db_map (D : DB) (N : Nat → Nat) : DB := db_mp D N (db_ne D)
def dp_sw (P : DP) (R : Nat → Bool) : DP := (nb R P.1, fun j => if j < nb R P.1 then db_map (P.2 (sel R P.1 j)) (nb R) else P.2 j)
/-- where an edge of a kept block goes is kept -/
def Kp (P : DP) (R : Nat → Bool) : Prop := ∀ i, i < P.1 → R i = true → ∀ x, x < db_ne (P.2 i) → R (db_tg (P.2 i) x) = true
theorem WP.sw {P : DP} {R : Nat → Bool} (hP : WP P 16) (hR : Kp P R) : WP (dp_sw P R) 16 := by
  have hs := hP.1
  have hl := nb_le (R := R) P.1
  refine ⟨by show nb R P.1 ≤ 16; omega, fun j hj => ?_⟩
  have hj : j < nb R P.1 := hj
  show WB (if j < nb R P.1 then db_map (P.2 (sel R P.1 j)) (nb R) else P.2 j) (nb R P.1)
  rw [if_pos hj]
  obtain ⟨i, h1, h2, h3⟩ := sel_ex P.1 hj
  rw [← h3, sel_nb h2 P.1 h1]
  have hD := hP.2 i h1
  have hlt : ∀ x, x < db_ne (P.2 i) → nb R (db_tg (P.2 i) x) < nb R P.1 := fun x hx => nb_lt (hR i h1 h2 x hx) (hD.tg hx)
  have hne := db_ne_le (P.2 i)
  refine (WB.mpx hD (fun x hx => by have := hlt x hx; omega) _ (Nat.le_refl _)).re (fun x hx => ?_)
  rw [db_mp_ne] at hx
  rw [db_tg_mp (by omega) _ hne, if_pos hx]
  exact hlt x hx
theorem dp_sw_id {P : DP} {R : Nat → Bool} (hP : WP P 16) (h : nb R P.1 = P.1) : dp_sw P R = P := by
  have ha := nb_all P.1 h
  unfold dp_sw
  rw [h]
  have : (fun j => if j < P.1 then db_map (P.2 (sel R P.1 j)) (nb R) else P.2 j) = P.2 := funext fun j => by
    by_cases c : j < P.1
    · rw [if_pos c]
      have e : sel R P.1 j = j := by have := sel_nb (ha j c).1 P.1 c; rw [(ha j c).2] at this; exact this
      rw [e]
      exact db_mp_id _ (db_ne_le _) (fun y hy => (ha _ ((hP.2 j c).tg hy)).2)
    · rw [if_neg c]
  rw [this]
theorem cl_kpL {p : Nat} {P : DP} {mk : Int32} (hP : WP P 16) : ∀ (n i : Nat) (μ : kt_M), i + n = P.1 → kt_i μ p 3 = nI P.1 → (∀ j, j < i → ib mk j = true → CB μ (p + 7 + 4 * nb (ib mk) j) (P.2 j)) → (∀ j, i ≤ j → j < P.1 → CB μ (p + 7 + 4 * j) (P.2 j)) → (∀ j, j < i → kt_i μ (p + 6) j = nI (nb (ib mk) j)) → (m_kpL p mk n i (nb (ib mk) i) μ).2 = nb (ib mk) P.1 ∧ kt_i (m_kpL p mk n i (nb (ib mk) i) μ).1 p 3 = nI P.1 ∧ (∀ j, j < P.1 → ib mk j = true → CB (m_kpL p mk n i (nb (ib mk) i) μ).1 (p + 7 + 4 * nb (ib mk) j) (P.2 j)) ∧ (∀ j, j < P.1 → kt_i (m_kpL p mk n i (nb (ib mk) i) μ).1 (p + 6) j = nI (nb (ib mk) j)) ∧ ∀ y k, ¬ (p + 6 ≤ y ∧ y < p + 71) → kt_i (m_kpL p mk n i (nb (ib mk) i) μ).1 y k = kt_i μ y k
  | 0, i, μ, h1, h3, ha, hb, hc => by
    have : i = P.1 := by omega
    subst this
    exact ⟨rfl, h3, ha, hc, fun _ _ _ => rfl⟩
  | n + 1, i, μ, h1, h3, ha, hb, hc => by
    have hs := hP.1
    have hi : i < P.1 := by omega
    have hl := nb_le (R := ib mk) i
    rw [m_kpL]
    unfold m_kp1
    have hbit := ib_bit (x := mk) (k := i) (by omega)
    by_cases c : ib mk i = true
    · have c0 : ¬ ((mk >>> (nI i &&& 31)) &&& 1) = 0 := fun q => by rw [hbit.mp q] at c; cases c
      dsimp only
      rw [if_neg c0]
      dsimp only
      rw [← nb_s c]
      obtain ⟨μ2, e2⟩ : ∃ μ2, μ2 = (if nI (nb (ib mk) i) = nI i then kt_si μ (p + 6) i (nI (nb (ib mk) i)) else kt_cpB (kt_si μ (p + 6) i (nI (nb (ib mk) i))) (p + 7 + 4 * nb (ib mk) i) (p + 7 + 4 * i)) := ⟨_, rfl⟩
      rw [← e2]
      have hx : ∀ y k, ¬ (y = p + 6 ∧ k = i) → ¬ (p + 7 + 4 * nb (ib mk) i ≤ y ∧ y < p + 7 + 4 * nb (ib mk) i + 4) → kt_i μ2 y k = kt_i μ y k := fun y k q1 q2 => by
        rw [e2]
        split
        · rw [kt_i_si, if_neg q1]
        · rw [kt_cpB_out q2, kt_i_si, if_neg q1]
      have h6 : kt_i μ2 (p + 6) i = nI (nb (ib mk) i) := by
        rw [e2]
        split
        · exact kt_i_sie
        · rw [kt_cpB_out (by omega)]; exact kt_i_sie
      have hcb : CB μ2 (p + 7 + 4 * nb (ib mk) i) (P.2 i) := by
        have hsrc : CB (kt_si μ (p + 6) i (nI (nb (ib mk) i))) (p + 7 + 4 * i) (P.2 i) := (hb i (Nat.le_refl i) hi).ext (fun y k q1 q2 => kt_i_sin (by omega))
        rw [e2]
        split
        · rename_i z
          have : nb (ib mk) i = i := (nI_eq (by omega) (by omega)).mp z
          rw [this] at hsrc ⊢; exact hsrc
        · rename_i z
          have : nb (ib mk) i ≠ i := fun q => z (by rw [q])
          exact hsrc.sm (hP.2 i hi) (kt_cpB_same (by omega))
      obtain ⟨r1, r2, r3, r4, r5⟩ := cl_kpL hP n (i + 1) μ2 (by omega) (by rw [hx _ _ (by omega) (by omega)]; exact h3) (fun j hj hr => by
        by_cases z : j = i
        · subst z; exact hcb
        · have := nb_lt hr (show j < i by omega)
          exact (ha j (by omega) hr).ext (fun y k q1 q2 => hx y k (by omega) (by omega))) (fun j j1 j2 => (hb j (by omega) j2).ext (fun y k q1 q2 => hx y k (by omega) (by omega))) (fun j hj => by
        by_cases z : j = i
        · subst z; exact h6
        · rw [hx _ _ (by omega) (by omega)]; exact hc j (by omega))
      exact ⟨r1, r2, r3, r4, fun y k q => by rw [r5 y k q, hx y k (by omega) (by omega)]⟩
    · have c0 : ((mk >>> (nI i &&& 31)) &&& 1) = 0 := hbit.mpr (by cases hq : ib mk i; rfl; exact absurd hq c)
      dsimp only
      rw [if_pos c0]
      dsimp only
      rw [← nb_n c]
      obtain ⟨r1, r2, r3, r4, r5⟩ := cl_kpL hP n (i + 1) (kt_si μ (p + 6) i (nI (nb (ib mk) (i + 1)))) (by omega) (by rw [kt_i_sin (by omega)]; exact h3) (fun j hj hr => by
        by_cases z : j = i
        · subst z; exact absurd hr c
        · exact (ha j (by omega) hr).ext (fun y k q1 q2 => kt_i_sin (by omega))) (fun j j1 j2 => (hb j (by omega) j2).ext (fun y k q1 q2 => kt_i_sin (by omega))) (fun j hj => by
        by_cases z : j = i
        · subst z; rw [kt_i_sie, nb_n c]
        · rw [kt_i_sik z]; exact hc j (by omega))
      exact ⟨r1, r2, r3, r4, fun y k q => by rw [r5 y k q, kt_i_sin (by omega)]⟩
theorem m_an1_eq {μ : kt_M} {p b x t s : Nat} (h3 : kt_i μ p 3 = nI s) (hs : s ≤ 16) (hx : x < 2) (ht : kt_i μ b (8 + x) = nI t) (hts : t < s) : m_an1 μ p b (nI x) = kt_si μ b (8 + x) (kt_i μ (p + 6) t) := by
  have e : (if nI x = 0 then kt_i μ b 8 else kt_i μ b 9) = nI t := by
    have : x = 0 ∨ x = 1 := by omega
    rcases this with rfl | rfl <;> exact ht
  unfold m_an1
  rw [e, pu_89 hx, nI_clamp (by omega), if_pos (show k_hs μ p (nI t) from ⟨nI_pos' (by omega), by rw [h3]; exact nI_lt hts (by omega)⟩)]
theorem CB.tgc {μ : kt_M} {k x : Nat} {D : DB} (h : CB μ k D) (hx : x < db_ne D) : kt_i μ k (8 + x) = nI (db_tg D x) := by
  have hen := db_ne_en hx
  have hne := db_ne_le D
  have : x = 0 ∨ x = 1 := by omega
  rcases this with rfl | rfl
  · exact h.2.2.2.1 (by omega)
  · exact (h.2.2.2.2.1 (by omega)).1
theorem cl_anwL {p b s : Nat} {D : DB} {N : Nat → Nat} (hs : s ≤ 16) (hD : WB D s) (hb : b ≠ p ∧ b ≠ p + 6) : ∀ (n x : Nat) (μ : kt_M), x + n = db_ne D → kt_i μ p 3 = nI s → (∀ t, t < s → kt_i μ (p + 6) t = nI (N t)) → CB μ b (db_mp D N x) → CB (m_anwL p b n x μ) b (db_map D N)
  | 0, x, μ, h1, h3, h6, hC => by
    have : x = db_ne D := by omega
    subst this; exact hC
  | n + 1, x, μ, h1, h3, h6, hC => by
    have hne := db_ne_le D
    have htg : db_tg (db_mp D N x) x = db_tg D x := by rw [db_tg_mp (by omega) _ (by omega), if_neg (by omega)]
    have hlt := hD.tg (show x < db_ne D by omega)
    rw [m_anwL, m_an1_eq h3 hs (by omega) ((hC.tgc (by rw [db_mp_ne]; omega)).trans (by rw [htg])) hlt, h6 _ hlt]
    exact cl_anwL hs hD hb n (x + 1) _ (by omega) (by rw [kt_i_sin hb.1.symm]; exact h3) (fun t ht => by rw [kt_i_sin hb.2.symm]; exact h6 t ht) (hC.aim (by omega))
theorem cl_anL {p : Nat} {P : DP} {R : Nat → Bool} (hP : WP P 16) (hR : Kp P R) : ∀ (n i : Nat) (μ : kt_M), i + n = nb R P.1 → kt_i μ p 3 = nI P.1 → (∀ t, t < P.1 → kt_i μ (p + 6) t = nI (nb R t)) → (∀ j, j < i → CB μ (p + 7 + 4 * j) ((dp_sw P R).2 j)) → (∀ j, i ≤ j → j < nb R P.1 → CB μ (p + 7 + 4 * j) (P.2 (sel R P.1 j))) → (∀ j, j < nb R P.1 → CB (m_anL p n i μ) (p + 7 + 4 * j) ((dp_sw P R).2 j)) ∧ ∀ y k, ¬ (p + 6 ≤ y ∧ y < p + 71) → kt_i (m_anL p n i μ) y k = kt_i μ y k
  | 0, i, μ, h1, h3, h6, ha, hb => by
    have : i = nb R P.1 := by omega
    subst this
    exact ⟨ha, fun _ _ _ => rfl⟩
  | n + 1, i, μ, h1, h3, h6, ha, hb => by
    have hs := hP.1
    have hl := nb_le (R := R) P.1
    have hi : i < nb R P.1 := by omega
    obtain ⟨w, w1, w2, w3⟩ := sel_ex P.1 hi
    have hsel : sel R P.1 i = w := by rw [← w3]; exact sel_nb w2 P.1 w1
    have hD := hP.2 w w1
    have hcb := hb i (Nat.le_refl i) hi
    rw [hsel] at hcb
    have hout : ∀ y k, y ≠ p + 7 + 4 * i → kt_i (m_anew μ p (p + 7 + 4 * i)) y k = kt_i μ y k := fun y k q => m_anew_out q
    have hnew : CB (m_anew μ p (p + 7 + 4 * i)) (p + 7 + 4 * i) ((dp_sw P R).2 i) := by
      have e : (dp_sw P R).2 i = db_map (P.2 w) (nb R) := by
        show (if i < nb R P.1 then _ else _) = _
        rw [if_pos hi, hsel]
      rw [e]
      unfold m_anew
      rw [cl_ne hcb hD]
      exact cl_anwL hs hD (by omega) _ 0 μ (by omega) h3 h6 hcb
    rw [m_anL]
    obtain ⟨r1, r2⟩ := cl_anL hP hR n (i + 1) (m_anew μ p (p + 7 + 4 * i)) (by omega) (by rw [hout _ _ (by omega)]; exact h3) (fun t ht => by rw [hout _ _ (by omega)]; exact h6 t ht) (fun j hj => by
      by_cases z : j = i
      · subst z; exact hnew
      · exact (ha j (by omega)).ext (fun y k q1 q2 => hout y k (by omega))) (fun j j1 j2 => (hb j (by omega) j2).ext (fun y k q1 q2 => hout y k (by omega)))
    exact ⟨r1, fun y k q => by rw [r2 y k q, hout y k (by omega)]⟩
theorem cl_kpm {μ : kt_M} {o : Nat} {P : DP} {mk : Int32} (hP : WP P 16) (hR : Kp P (ib mk)) (hC : CP μ (o + 81) P) : ut_kpn μ o P.1 mk = nb (ib mk) P.1 ∧ CP (ut_kpm μ o P.1 mk) (o + 81) (dp_sw P (ib mk)) ∧ ∀ y k, ¬ (o + 87 ≤ y ∧ y < o + 152) → ¬ (y = o + 81 ∧ k = 3) → kt_i (ut_kpm μ o P.1 mk) y k = kt_i μ y k := by
  have hs := hP.1
  have hl := nb_le (R := ib mk) P.1
  obtain ⟨r1, r2, r3, r4, r5⟩ := cl_kpL (p := o + 81) (mk := mk) hP P.1 0 μ (by omega) hC.1 (fun j hj => by omega) (fun j _ hj => hC.2 j hj) (fun j hj => by omega)
  have e0 : nb (ib mk) 0 = 0 := rfl
  rw [e0] at r1 r2 r3 r4 r5
  refine ⟨r1, ?_⟩
  unfold ut_kpm
  rw [r1]
  generalize (m_kpL (o + 81) mk P.1 0 0 μ).1 = μk at r2 r3 r4 r5
  obtain ⟨s1, s2⟩ := cl_anL (p := o + 81) hP hR (nb (ib mk) P.1) 0 μk (by omega) r2 r4 (fun j hj => by omega) (fun j _ hj => by
    obtain ⟨w, w1, w2, w3⟩ := sel_ex P.1 hj
    rw [← w3, sel_nb w2 P.1 w1]; exact r3 w w1 w2)
  refine ⟨⟨kt_i_sie, fun j hj => ?_⟩, fun y k q1 q2 => ?_⟩
  · exact (s1 j hj).ext (fun y k q1 q2 => kt_i_sin (by omega))
  · rw [kt_i_si, if_neg q2, s2 y k (by omega), r5 y k (by omega)]

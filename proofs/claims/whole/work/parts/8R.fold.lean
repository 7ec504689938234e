/-! PURE: folding -/
def dp_fold (P : DP) (V : Nat → Nat) (e : Nat) : DP := (P.1, fun i => if i < e ∧ V i ≠ 0 then db_jmp (P.2 i) (db_tg (P.2 i) (V i - 1)) else P.2 i)
def fcnt (V : Nat → Nat) : Nat → Nat → Nat
  | 0, _ => 0
  | n + 1, i => (if V i = 0 then 0 else 1) + fcnt V n (i + 1)
def VK (P : DP) (A : AV) (V : Nat → Nat) : Prop := ∀ i, i < P.1 → V i ≤ 2 ∧ (V i ≠ 0 → e_ok (A i) ∧ 2 ≤ db_en (P.2 i) ∧ Oc (nI (V i)) (e_ok (a_al P A i 0)) (e_ok (a_al P A i 1))) ∧ (V i = 0 → e_ok (A i) → 2 ≤ db_en (P.2 i) → e_ok (a_al P A i 0) ∧ e_ok (a_al P A i 1))
theorem VK.w {P : DP} {A : AV} {V : Nat → Nat} (h : VK P A V) (hP : WP P 16) {i : Nat} (hi : i < P.1) (hv : V i ≠ 0) : V i - 1 < db_ne (P.2 i) := by
  obtain ⟨h1, h2, h3⟩ := h i hi
  have := (db_ne2 (hP.2 i hi)).mp (h2 hv).2.1
  omega
theorem fcnt_le {V : Nat → Nat} : ∀ n i, fcnt V n i ≤ n
  | 0, _ => Nat.le_refl 0
  | n + 1, i => by
    have := fcnt_le (V := V) n (i + 1)
    unfold fcnt; split <;> omega
theorem fcnt_0 {V : Nat → Nat} : ∀ n i, fcnt V n i = 0 → ∀ j, i ≤ j → j < i + n → V j = 0
  | 0, i, h, j, h1, h2 => by omega
  | n + 1, i, h, j, h1, h2 => by
    unfold fcnt at h
    by_cases e : V i = 0
    · rw [if_pos e] at h
      by_cases e2 : j = i
      · rw [e2]; exact e
      · exact fcnt_0 n (i + 1) (by omega) j (by omega) (by omega)
    · rw [if_neg e] at h; omega
theorem dp_fold_0 {P : DP} {V : Nat → Nat} (h : ∀ j, j < P.1 → V j = 0) : dp_fold P V P.1 = P := by
  unfold dp_fold
  have : (fun i => if i < P.1 ∧ V i ≠ 0 then db_jmp (P.2 i) (db_tg (P.2 i) (V i - 1)) else P.2 i) = P.2 := funext fun i => if_neg (fun q => q.2 (h i q.1))
  rw [this]
theorem WP.fold {P : DP} {A : AV} {V : Nat → Nat} (hP : WP P 16) (hV : VK P A V) (e : Nat) : WP (dp_fold P V e) 16 := ⟨hP.1, fun i hi => by
  have hi : i < P.1 := hi
  show WB (if i < e ∧ V i ≠ 0 then _ else P.2 i) P.1
  by_cases c : i < e ∧ V i ≠ 0
  · rw [if_pos c]; exact (hP.2 i hi).jmp ((hP.2 i hi).tg (hV.w hP hi c.2))
  · rw [if_neg c]; exact hP.2 i hi⟩
theorem dp_fold_at {P : DP} {V : Nat → Nat} {e i : Nat} (h : e ≤ i) : (dp_fold P V e).2 i = P.2 i := if_neg (by omega)
theorem dp_fold_s0 {P : DP} {V : Nat → Nat} {e : Nat} (h : V e = 0) : dp_fold P V (e + 1) = dp_fold P V e := by
  unfold dp_fold
  have : (fun i => if i < e + 1 ∧ V i ≠ 0 then db_jmp (P.2 i) (db_tg (P.2 i) (V i - 1)) else P.2 i) = (fun i => if i < e ∧ V i ≠ 0 then db_jmp (P.2 i) (db_tg (P.2 i) (V i - 1)) else P.2 i) := funext fun i => by
    by_cases c : i < e ∧ V i ≠ 0
    · rw [if_pos c, if_pos ⟨by omega, c.2⟩]
    · rw [if_neg c, if_neg (fun q => by
        by_cases z : i = e
        · rw [z] at q; exact q.2 h
        · exact c ⟨by omega, q.2⟩)]
  rw [this]
theorem dp_fold_s1 {P : DP} {V : Nat → Nat} {e : Nat} (h : V e ≠ 0) : dp_fold P V (e + 1) = dp_set (dp_fold P V e) e (db_jmp (P.2 e) (db_tg (P.2 e) (V e - 1))) := by
  unfold dp_fold dp_set
  have : (fun i => if i < e + 1 ∧ V i ≠ 0 then db_jmp (P.2 i) (db_tg (P.2 i) (V i - 1)) else P.2 i) = (fun i => if i = e then db_jmp (P.2 e) (db_tg (P.2 e) (V e - 1)) else if i < e ∧ V i ≠ 0 then db_jmp (P.2 i) (db_tg (P.2 i) (V i - 1)) else P.2 i) := funext fun i => by
    by_cases z : i = e
    · subst z; rw [if_pos ⟨by omega, h⟩, if_pos rfl]
    · rw [if_neg z]
      by_cases c : i < e ∧ V i ≠ 0
      · rw [if_pos c, if_pos ⟨by omega, c.2⟩]
      · rw [if_neg c, if_neg (fun q => c ⟨by omega, q.2⟩)]
  rw [this]
def fV (μ : kt_M) (o : Nat) (i : Nat) : Nat := if f_kn μ (o + 154) (o + 81) (nI i) then (f_oat μ (o + 154) (nI i)).toNatClampNeg else 0
theorem FA.vk {μ : kt_M} {o : Nat} {P : DP} {A : AV} (hP : WP P 16) (hC : CP μ (o + 81) P) (hL : LF P A) (hF : FA μ (o + 154) P A) : VK P A (fV μ o) ∧ ∀ i, i < P.1 → (f_kn μ (o + 154) (o + 81) (nI i) ↔ fV μ o i ≠ 0) ∧ (fV μ o i ≠ 0 → f_oat μ (o + 154) (nI i) = nI (fV μ o i)) := by
  have hs := hP.1
  have key : ∀ i, i < P.1 → (f_kn μ (o + 154) (o + 81) (nI i) ∧ e_ok (A i) ∧ 2 ≤ db_en (P.2 i) ∧ ∃ v, v ≤ 2 ∧ v ≠ 0 ∧ f_oat μ (o + 154) (nI i) = nI v ∧ Oc (nI v) (e_ok (a_al P A i 0)) (e_ok (a_al P A i 1))) ∨ (¬ f_kn μ (o + 154) (o + 81) (nI i) ∧ (e_ok (A i) → 2 ≤ db_en (P.2 i) → e_ok (a_al P A i 0) ∧ e_ok (a_al P A i 1))) := fun i hi => by
    have h1 := hF.rch (j := i) (by omega)
    have h2 := cp_test hC hP (by decide) hi
    by_cases c1 : e_ok (A i)
    · by_cases c2 : 2 ≤ db_en (P.2 i)
      · have ho := hF.oat hP hL hi c1 c2
        rcases ho with ⟨e, a, b⟩ | ⟨e, a⟩ | ⟨e, a⟩
        · exact Or.inr ⟨fun q => q.2.2 e, fun _ _ => ⟨a, b⟩⟩
        · exact Or.inl ⟨⟨h1.mpr c1, h2.mpr c2, by rw [e]; decide⟩, c1, c2, 1, by decide, by decide, e, Or.inr (Or.inl ⟨rfl, a⟩)⟩
        · exact Or.inl ⟨⟨h1.mpr c1, h2.mpr c2, by rw [e]; decide⟩, c1, c2, 2, by decide, by decide, e, Or.inr (Or.inr ⟨rfl, a⟩)⟩
      · exact Or.inr ⟨fun q => c2 (h2.mp q.2.1), fun _ q => absurd q c2⟩
    · exact Or.inr ⟨fun q => c1 (h1.mp q.1), fun q => absurd q c1⟩
  have hv : ∀ i, i < P.1 → (f_kn μ (o + 154) (o + 81) (nI i) ∧ e_ok (A i) ∧ 2 ≤ db_en (P.2 i) ∧ fV μ o i ≤ 2 ∧ fV μ o i ≠ 0 ∧ f_oat μ (o + 154) (nI i) = nI (fV μ o i) ∧ Oc (nI (fV μ o i)) (e_ok (a_al P A i 0)) (e_ok (a_al P A i 1))) ∨ (¬ f_kn μ (o + 154) (o + 81) (nI i) ∧ fV μ o i = 0 ∧ (e_ok (A i) → 2 ≤ db_en (P.2 i) → e_ok (a_al P A i 0) ∧ e_ok (a_al P A i 1))) := fun i hi => by
    rcases key i hi with ⟨a, b, c, v, d, e, f, g⟩ | ⟨a, b⟩
    · have : fV μ o i = v := by unfold fV; rw [if_pos a, f, nI_clamp (by omega)]
      rw [this]; exact Or.inl ⟨a, b, c, d, e, f, g⟩
    · exact Or.inr ⟨a, if_neg a, b⟩
  refine ⟨fun i hi => ?_, fun i hi => ?_⟩
  · rcases hv i hi with ⟨a, b, c, d, e, f, g⟩ | ⟨a, b, c⟩
    · exact ⟨d, fun _ => ⟨b, c, g⟩, fun q => absurd q e⟩
    · exact ⟨by omega, fun q => absurd b q, fun _ => c⟩
  · rcases hv i hi with ⟨a, b, c, d, e, f, g⟩ | ⟨a, b, c⟩
    · exact ⟨⟨fun _ => e, fun _ => a⟩, fun _ => f⟩
    · exact ⟨⟨fun q => absurd q a, fun q => absurd b q⟩, fun q => absurd b q⟩
theorem f_kn_eq {μ μ' : kt_M} {o i : Nat} {P Q : DP} (hC : CP μ (o + 81) P) (hC' : CP μ' (o + 81) Q) (h1 : Q.1 = P.1) (hs : P.1 ≤ 16) (hi : i < P.1) (h2 : Q.2 i = P.2 i) (he : ∀ y k, ¬ (o + 88 ≤ y ∧ y < o + 152) → kt_i μ' y k = kt_i μ y k) : (f_kn μ' (o + 154) (o + 81) (nI i) ↔ f_kn μ (o + 154) (o + 81) (nI i)) ∧ f_oat μ' (o + 154) (nI i) = f_oat μ (o + 154) (nI i) := by
  have e1 : ∀ b, f_rch μ' (o + 154) b ↔ f_rch μ (o + 154) b := fun b => by unfold f_rch; rw [he _ _ (by omega)]
  have e2 : ∀ b s, f_opn μ' (o + 154) b s ↔ f_opn μ (o + 154) b s := fun b s => by
    show (f_rch μ' (o + 154) b ∧ _) ↔ (f_rch μ (o + 154) b ∧ _)
    rw [e1, he _ _ (by omega)]
  have e3 : f_oat μ' (o + 154) (nI i) = f_oat μ (o + 154) (nI i) := by
    unfold f_oat
    rw [kt_f_iff (e2 (nI i) 0), kt_f_iff (e2 (nI i) 1)]
  refine ⟨?_, e3⟩
  show (f_rch μ' (o + 154) (nI i) ∧ kb_test (kt_i μ' (k_at μ' (o + 81) (nI i)) 4) ∧ ¬ f_oat μ' (o + 154) (nI i) = 0) ↔ (f_rch μ (o + 154) (nI i) ∧ kb_test (kt_i μ (k_at μ (o + 81) (nI i)) 4) ∧ ¬ f_oat μ (o + 154) (nI i) = 0)
  rw [e1, e3, k_at_nI hC.1 (by omega) hi, k_at_nI hC'.1 (by omega) (by omega), (hC.2 i hi).2.2.1, (hC'.2 i (by omega)).2.2.1, h2]
theorem cl_foL {μR : kt_M} {o : Nat} {P : DP} {A : AV} (hP : WP P 16) (hC : CP μR (o + 81) P) (hL : LF P A) (hF : FA μR (o + 154) P A) : ∀ (n i : Nat) (μ : kt_M) (c : Int32), i + n = P.1 → CP μ (o + 81) (dp_fold P (fV μR o) i) → (∀ y k, ¬ (o + 88 ≤ y ∧ y < o + 152) → kt_i μ y k = kt_i μR y k) → CP (ut_foL o n i μ c).1 (o + 81) (dp_fold P (fV μR o) P.1) ∧ (∀ y k, ¬ (o + 88 ≤ y ∧ y < o + 152) → kt_i (ut_foL o n i μ c).1 y k = kt_i μR y k) ∧ (ut_foL o n i μ c).2 = c + nI (fcnt (fV μR o) n i)
  | 0, i, μ, c, h1, h2, h3 => by
    have : i = P.1 := by omega
    subst this
    exact ⟨h2, h3, (Int32.add_zero c).symm⟩
  | n + 1, i, μ, c, h1, h2, h3 => by
    have hs := hP.1
    have hi : i < P.1 := by omega
    obtain ⟨hV, hK⟩ := hF.vk hP hC hL
    obtain ⟨k1, k2⟩ := f_kn_eq hC h2 rfl hs hi (dp_fold_at (Nat.le_refl i)) h3
    rw [ut_foL]
    unfold fcnt
    by_cases hv : fV μR o i = 0
    · rw [if_neg (fun q => (hK i hi).1.mp (k1.mp q) hv), if_pos hv, Nat.zero_add]
      exact cl_foL hP hC hL hF n (i + 1) μ c (by omega) (by rw [dp_fold_s0 hv]; exact h2) h3
    · rw [if_pos (k1.mpr ((hK i hi).1.mpr hv)), if_neg hv]
      have hw := hV.w hP hi hv
      have hcb := h2.2 i hi
      rw [dp_fold_at (Nat.le_refl i)] at hcb
      have hu : ut_fo1 μ o i = kt_si (kt_si μ (o + 81 + 7 + 4 * i) 4 1) (o + 81 + 7 + 4 * i) 8 (nI (db_tg (P.2 i) (fV μR o i - 1))) := by
        unfold ut_fo1
        rw [k2, (hK i hi).2 hv, show nI (fV μR o i) - 1 = nI (fV μR o i - 1) by rw [show (1 : Int32) = nI 1 from rfl, nI_sub (by omega)], cl_tg hcb (hP.2 i hi) hw]
      obtain ⟨r1, r2, r3⟩ := cl_foL hP hC hL hF n (i + 1) (ut_fo1 μ o i) (c + 1) (by omega) (by
        rw [dp_fold_s1 hv, hu]
        exact h2.set hcb.jmp (fun y k q1 q2 q3 => by rw [kt_i_sin (by omega), kt_i_sin (by omega)])) (fun y k q => by
        rw [hu, kt_i_sin (by omega), kt_i_sin (by omega)]; exact h3 y k q)
      refine ⟨r1, r2, ?_⟩
      rw [r3, Int32.add_assoc, show (1 : Int32) = nI 1 from rfl, nI_add]
theorem pu_fo62 {n m : Nat} {ν0 : kt_M} {P : DP} {A : AV} {V : Nat → Nat} (hP : WP P 16) (hV : VK P A V) (hz : ∀ i, i < P.1 → kt_i ν0 (m + 10) i = nI (V i)) : ∀ (k i : Nat) (c : Int32) (ν : kt_M), i ≤ P.1 → P.1 < i + k → MP ν m 1 (dp_fold P V i) → (∀ y j, ¬ (y = m + 1 ∧ 321 ≤ j ∧ j < 642) → kt_i ν y j = kt_i ν0 y j) → ∃ ν1, x_fold_L62 n m k c (nI i) ν = some (c + nI (fcnt V (P.1 - i) i), ν1) ∧ MP ν1 m 1 (dp_fold P V P.1) ∧ ∀ y j, ¬ (y = m + 1 ∧ 321 ≤ j ∧ j < 642) → kt_i ν1 y j = kt_i ν0 y j
  | 0, i, c, ν, h1, h2, hM, he => by omega
  | k + 1, i, c, ν, h1, h2, hM, he => by
    have hs := hP.1
    rw [x_fold_L62]
    unfold x_fold_B62
    rw [kq_b2_s (show x_many n m ν 1 = some (nI P.1, ν) from (pu_many (p := 1) (by decide)).trans (pu_pair hM.1 rfl))]
    by_cases e : i = P.1
    · subst e
      rw [if_pos ((nI_leI (by omega) (by omega)).mpr (Nat.le_refl _)), Nat.sub_self]
      exact ⟨ν, pu_pair (Int32.add_zero c).symm rfl, hM, he⟩
    · have hi : i < P.1 := by omega
      rw [if_neg (fun q => by have := (nI_leI (by omega) (by omega)).mp q; omega), kq_ck_t (pu_kin (by omega) (by decide)), nI_clamp (by omega), he _ _ (by omega), hz i hi, show P.1 - i = (P.1 - (i + 1)) + 1 by omega]
      unfold fcnt
      by_cases hv : V i = 0
      · rw [if_pos (by rw [hv]; decide), if_pos hv, nI_1, Nat.zero_add]
        exact pu_fo62 hP hV hz k (i + 1) c ν (by omega) (by omega) (by rw [dp_fold_s0 hv]; exact hM) he
      · have hv2 := (hV i hi).1
        have hw := hV.w hP hi hv
        have hmb := hM.2 i hi
        rw [dp_fold_at (Nat.le_refl i)] at hmb
        rw [if_neg (fun q => by have := (nI_leI (b := 0) (by omega) (by decide)).mp q; omega), if_neg hv, kq_ck_t (pu_kin (by omega) (by decide)), show (14 : Int32) + nI (V i) - 1 = 14 + nI (V i - 1) by rw [show (14 : Int32) = nI 14 from rfl, nI_add, nI_add, show (1 : Int32) = nI 1 from rfl, nI_sub (by omega)]; congr 1; omega, kq_b2_s (show x_of n m ν 1 (nI i) (14 + nI (V i - 1)) = _ from hmb.to (hP.2 i hi) (by decide) (by omega) hw)]
        obtain ⟨ν1, b1, b2⟩ := pu_goesTo (n := n) (m := m) (s := i) (t := db_tg (P.2 i) (V i - 1)) (μ := ν) (by omega)
        rw [kq_b2_s b1, nI_1]
        obtain ⟨ν2, f1, f2, f3⟩ := pu_fo62 (n := n) hP hV hz k (i + 1) (c + 1) ν1 (by omega) (by omega) (by
          rw [dp_fold_s1 hv]
          exact hM.set (hP.fold hV i) (hmb.jmp (hP.2 i hi) b2) (fun j j1 j2 j3 => by rw [b2, if_neg (by omega), if_neg (by omega), if_neg (by omega)])) (fun y j q => by
          rw [b2, if_neg (by omega), if_neg (by omega), if_neg (by omega)]; exact he y j q)
        refine ⟨ν2, ?_, f2, f3⟩
        rw [f1, Int32.add_assoc, show (1 : Int32) = nI 1 from rfl, nI_add]
theorem pu_fo8 {n m : Nat} {ν0 : kt_M} {P : DP} {A : AV} {V : Nat → Nat} (hP : WP P 16) (hL : LF P A) (hV : VK P A V) (hn : 52 ≤ n) (hM0 : MP ν0 m 1 P) (hA0 : MA ν0 m A) : ∀ (k i : Nat) (ν : kt_M), i ≤ P.1 → P.1 < i + k → (∀ y j, y ≠ m + 10 → kt_i ν y j = kt_i ν0 y j) → MA ν m A → (∀ j, j < i → kt_i ν (m + 10) j = nI (V j)) → ∃ ν1, x_fold_L8 n m k 0 (nI i) ν = some (nI (fcnt V P.1 0), ν1) ∧ MP ν1 m 1 (dp_fold P V P.1) ∧ ∀ y j, y ≠ m + 10 → ¬ (y = m + 1 ∧ 321 ≤ j ∧ j < 642) → kt_i ν1 y j = kt_i ν0 y j
  | 0, i, ν, h1, h2, he, hA, hz => by omega
  | k + 1, i, ν, h1, h2, he, hA, hz => by
    have hs := hP.1
    have hM : MP ν m 1 P := hM0.ext (fun j => he _ _ (by omega))
    rw [x_fold_L8]
    unfold x_fold_B8
    rw [kq_b2_s (show x_many n m ν 1 = some (nI P.1, ν) from (pu_many (p := 1) (by decide)).trans (pu_pair hM.1 rfl))]
    by_cases e : i = P.1
    · subst e
      rw [if_pos ((nI_leI (by omega) (by omega)).mpr (Nat.le_refl _))]
      obtain ⟨ν1, f1, f2, f3⟩ := pu_fo62 (n := n) (ν0 := ν) hP hV hz n 0 0 ν (by omega) (by omega) (by
        rw [show dp_fold P V 0 = P by unfold dp_fold; rw [show (fun i => if i < 0 ∧ V i ≠ 0 then db_jmp (P.2 i) (db_tg (P.2 i) (V i - 1)) else P.2 i) = P.2 from funext fun i => if_neg (by omega)]]
        exact hM) (fun _ _ _ => rfl)
      refine ⟨ν1, ?_, f2, fun y j q1 q2 => by rw [f3 y j q2, he y j q1]⟩
      rw [show x_fold_L62 n m n 0 0 ν = _ from f1, Int32.zero_add, Nat.sub_zero]
    · have hi : i < P.1 := by omega
      rw [if_neg (fun q => by have := (nI_leI (by omega) (by omega)).mp q; omega)]
      have hnext : ∀ (νx : kt_M), kt_i νx = kt_i ν → MA νx m A → ∃ ν1, x_fold_J53 n m (x_fold_L8 n m k) 0 (nI i) (nI i) (nI (V i)) νx = some (nI (fcnt V P.1 0), ν1) ∧ MP ν1 m 1 (dp_fold P V P.1) ∧ ∀ y j, y ≠ m + 10 → ¬ (y = m + 1 ∧ 321 ≤ j ∧ j < 642) → kt_i ν1 y j = kt_i ν0 y j := fun νx hx hAx => by
        unfold x_fold_J53
        rw [kq_ck_t (pu_kin (by omega) (by decide)), nI_clamp (by omega), nI_1]
        simp only [kq_lt]
        refine pu_fo8 hP hL hV hn hM0 hA0 k (i + 1) _ (by omega) (by omega) (fun y j q => by rw [kt_i_sin q, hx]; exact he y j q) (hAx.far rfl) (fun j hj => ?_)
        by_cases z : j = i
        · subst z; exact kt_i_sie
        · rw [kt_i_sik z, hx]; exact hz j (by omega)
      obtain ⟨v1, v2, v3⟩ := hV i hi
      obtain ⟨r, a1, a2⟩ := pu_reached (n := n) (b := i) (by omega) hL.1 hA
      rw [kq_b2_s a1]
      by_cases c1 : e_ok (A i)
      · rw [if_neg (a2.t c1), kq_b2_s (show x_of n m ν 1 (nI i) 13 = _ from (hM.2 i hi).en (by decide) (by omega)), kq_b1_s (pu_isTest (hP.2 i hi).2.2.1)]
        by_cases c2 : 2 ≤ db_en (P.2 i)
        · rw [if_neg (kz.f.t c2)]
          obtain ⟨v, νx, f1, f2, f3⟩ := pu_outAt (n := n) hP hi hn c1 c2 hL hM hA
          rw [kq_b2_s f1]
          have hv : v = nI (V i) := by
            by_cases q : V i = 0
            · obtain ⟨z1, z2⟩ := v3 q c1 c2
              rw [q]
              exact f2.inj (Or.inl ⟨rfl, z1, z2⟩)
            · exact f2.inj (v2 q).2.2
          rw [hv]
          exact hnext νx f3.1 (f3.MA hA)
        · rw [if_pos (kz.f.n c2)]
          have hv : V i = 0 := by
            by_cases q : V i = 0
            · exact q
            · exact absurd (v2 q).2.1 c2
          have := hnext ν rfl hA
          rw [hv] at this; exact this
      · rw [if_pos (a2.n c1)]
        have hv : V i = 0 := by
          by_cases q : V i = 0
          · exact q
          · exact absurd (v2 q).1 c1
        have := hnext ν rfl hA
        rw [hv] at this; exact this
theorem st_fold {μ : kt_M} {o m : Nat} (h : kInv μ o m) : ∃ (n : Nat) (μ1 : kt_M), x_fold n m (ut_fold μ o).2 = some ((ut_fold μ o).1, μ1) ∧ kInv μ1 o m := by
  obtain ⟨P0, P1, PI, L, lim, h⟩ := h
  have hom := h.1
  obtain ⟨hCs, A, hL, hF, hO, hPA⟩ := h.cs.ref h.2.2.2.2.1.2.2.1
  obtain ⟨hP, hC, c3, c4, c5⟩ := hCs
  have hs := hP.1
  obtain ⟨hV, -⟩ := hF.vk hP hC hL
  obtain ⟨f1, f2, f3⟩ := cl_foL hP hC hL hF P1.1 0 (ut_ref μ o) 0 (by omega) (by
    rw [show dp_fold P1 (fV (ut_ref μ o) o) 0 = P1 by unfold dp_fold; rw [show (fun i => if i < 0 ∧ fV (ut_ref μ o) o i ≠ 0 then db_jmp (P1.2 i) (db_tg (P1.2 i) (fV (ut_ref μ o) o i - 1)) else P1.2 i) = P1.2 from funext fun i => if_neg (by omega)]]
    exact hC) (fun _ _ _ => rfl)
  have hle := fcnt_le (V := fV (ut_ref μ o) o) P1.1 0
  rw [Int32.zero_add] at f3
  have hu : ut_fold μ o = (nI (fcnt (fV (ut_ref μ o) o) P1.1 0), ut_set15 (ut_foL o P1.1 0 (ut_ref μ o) 0).1 o (nI (fcnt (fV (ut_ref μ o) o) P1.1 0))) := by
    unfold ut_fold
    dsimp only
    rw [hC.1, nI_clamp (by omega), f3]
  rw [hu]
  dsimp only
  generalize (ut_foL o P1.1 0 (ut_ref μ o) 0).1 = μf at f1 f2
  have hc15 : ∀ y k, ¬ (y = o ∧ k = 15) → kt_i (ut_set15 μf o (nI (fcnt (fV (ut_ref μ o) o) P1.1 0))) y k = kt_i μf y k := fun y k q => by unfold ut_set15; rw [kt_i_si, if_neg q]
  have hCs2 : Cs μ (ut_set15 μf o (nI (fcnt (fV (ut_ref μ o) o) P1.1 0))) o (dp_fold P1 (fV (ut_ref μ o) o) P1.1) := by
    refine ⟨hP.fold hV _, f1.ext (N := 16) hs (fun y k q1 q2 => hc15 y k (by omega)), c3.far (fun y k q1 q2 => by rw [hc15 y k (by omega), f2 y k (by omega)]), fun q => ?_, fun y k q1 q2 => by rw [hc15 y k q1, f2 y k (by omega), c5 y k q1 q2]⟩
    unfold ut_set15 at q
    rw [kt_i_sie] at q
    have q2 : ¬ kt_i μf o 15 = 0 ∧ nI (fcnt (fV (ut_ref μ o) o) P1.1 0) = 0 := by
      by_cases z : ¬ kt_i μf o 15 = 0 ∧ nI (fcnt (fV (ut_ref μ o) o) P1.1 0) = 0
      · exact z
      · exact absurd (kt_f_f z) q
    have hz : fcnt (fV (ut_ref μ o) o) P1.1 0 = 0 := (nI_eq (b := 0) (by omega) (by decide)).mp q2.2
    rw [dp_fold_0 (fun j hj => fcnt_0 _ _ hz j (by omega) (by omega))]
    exact AN.ext (μ := ut_ref μ o) ⟨A, hL, hF, hO, hPA⟩ (fun y k y1 y2 => by rw [hc15 y k (by omega), f2 y k (by omega)])
  generalize ut_set15 μf o (nI (fcnt (fV (ut_ref μ o) o) P1.1 0)) = μc at hCs2
  have hfar : ∀ y k, m ≤ y → kt_i μc y k = kt_i μ y k := fun y k hy => hCs2.2.2.2.2 y k (by omega) (by omega)
  have hMc : MP μc m 1 P1 := h.2.2.1.2.2.ext (fun j => hfar _ j (by omega))
  obtain ⟨ν1, d1, d2, d3⟩ := pu_findA (n := 4000) hP (by decide) hMc hL
  obtain ⟨ν2, e1, e2, e3⟩ := pu_fo8 (n := 4000) (m := m) (ν0 := ν1) hP hL hV (by decide) (hMc.ext (fun j => by rw [d2])) d3 4000 0 ν1 (by omega) (by omega) (fun _ _ _ => rfl) d3 (fun j hj => by omega)
  refine ⟨4000, ν2, ?_, (h.mk hCs2 ⟨e2, fun y j q1 q2 q3 => ?_⟩ (fun y k hy => ?_)).inv⟩
  · unfold x_fold
    rw [kq_b2_s d1]
    exact e1
  · rw [e3 y j (by omega) q3, d2, hfar y j q1]
  · rw [e3 y k (by omega) (by omega), d2]

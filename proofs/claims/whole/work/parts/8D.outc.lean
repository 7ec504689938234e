/-! PURE: outcomes -/
def Oc (v : Int32) (c0 c1 : Prop) : Prop := (v = 0 ∧ c0 ∧ c1) ∨ (v = 1 ∧ c0 ∧ ¬ c1) ∨ (v = 2 ∧ ¬ c0 ∧ c1)
theorem Oc.inj {v w : Int32} {c0 c1 : Prop} (h : Oc v c0 c1) (h2 : Oc w c0 c1) : v = w := by
  rcases h with ⟨a, b, c⟩ | ⟨a, b, c⟩ | ⟨a, b, c⟩ <;> rcases h2 with ⟨d, e, f⟩ | ⟨d, e, f⟩ | ⟨d, e, f⟩ <;> first | exact a.trans d.symm | exact absurd f c | exact absurd c f | exact absurd e b | exact absurd b e
theorem Oc.iff {v : Int32} {c0 c1 d0 d1 : Prop} (h : Oc v c0 c1) (h0 : c0 ↔ d0) (h1 : c1 ↔ d1) : Oc v d0 d1 := by unfold Oc at *; rw [← h0, ← h1]; exact h
theorem kz.inj {v w : Int32} {c : Prop} (h : kz v c) (h2 : kz w c) : v = w := by
  rcases h with ⟨a, b⟩ | ⟨a, b⟩ <;> rcases h2 with ⟨d, e⟩ | ⟨d, e⟩ <;> first | exact a.trans d.symm | exact absurd e b | exact absurd b e
theorem kz.f {c : Prop} [Decidable c] : kz (kt_f c) c := by
  by_cases h : c
  · exact Or.inr ⟨kt_f_t h, h⟩
  · exact Or.inl ⟨kt_f_f h, h⟩
/-- behind the next block's acts, along one of its sides -/
def a_nx (P : DP) (A : AV) (b x s : Nat) : EV := e_side (P.2 (db_tg (P.2 b) x)) s (e_all (P.2 (db_tg (P.2 b) x)) (a_al P A b x))
theorem oc_of {a0 a1 : Int32} {c0 c1 : Prop} {n : Nat} (h0 : kz a0 c0) (h1 : kz a1 c1) (h : c0 ∨ c1) : ∃ v, x_outcomeOf n a0 a1 = some v ∧ Oc v c0 c1 := by
  unfold x_outcomeOf x_outcomeOf_J12
  rcases h0 with ⟨e0, f0⟩ | ⟨e0, f0⟩ <;> subst e0
  · have hc := h.resolve_left f0
    exact ⟨2, rfl, Or.inr (Or.inr ⟨rfl, f0, hc⟩)⟩
  · rcases h1 with ⟨e1, f1⟩ | ⟨e1, f1⟩ <;> subst e1
    · exact ⟨1, rfl, Or.inr (Or.inl ⟨rfl, f0, f1⟩)⟩
    · exact ⟨0, rfl, Or.inl ⟨rfl, f0, f1⟩⟩
theorem oc_oo {a0 a1 : Int32} {c0 c1 : Prop} (h0 : kz a0 c0) (h1 : kz a1 c1) (h : c0 ∨ c1) : Oc (f_oo a0 a1) c0 c1 := by
  unfold f_oo
  rcases h0 with ⟨e0, f0⟩ | ⟨e0, f0⟩ <;> subst e0
  · have hc := h.resolve_left f0
    rcases h1 with ⟨e1, f1⟩ | ⟨e1, f1⟩ <;> subst e1
    · exact absurd hc f1
    · exact Or.inr (Or.inr ⟨rfl, f0, hc⟩)
  · rcases h1 with ⟨e1, f1⟩ | ⟨e1, f1⟩ <;> subst e1
    · exact Or.inr (Or.inl ⟨rfl, f0, f1⟩)
    · exact Or.inl ⟨rfl, f0, f1⟩
theorem db_ne2 {D : DB} {s : Nat} (hD : WB D s) : 2 ≤ db_en D ↔ db_ne D = 2 := by
  unfold db_ne; have := hD.2.2.1; split <;> (first | omega | (split <;> omega))
/-! the class -/
def FO (μ : kt_M) (p : Nat) (P : DP) (A : AV) (e : Nat) : Prop := ∀ b x, b < 16 → 2 * b + x < e → e_ok (A b) → x < db_ne (P.2 b) → e_ok (a_al P A b x) → 2 ≤ db_en (P.2 (db_tg (P.2 b) x)) → Oc (kt_i μ (p + 6) (2 * b + x)) (e_ok (a_nx P A b x 0)) (e_ok (a_nx P A b x 1))
theorem FA.ext {μ μ' : kt_M} {p : Nat} {P : DP} {A : AV} (h : FA μ p P A) (he : ∀ y k, (p + 3 ≤ y ∧ y ≤ p + 5) ∨ (p + 7 + 4 * 2 ≤ y ∧ y < p + 207) → kt_i μ' y k = kt_i μ y k) : FA μ' p P A := by
  obtain ⟨h1, h2, h3, h4, h5⟩ := h
  refine ⟨fun b hb => (h1 b hb).ext (fun y k a b => he y k (by omega)), fun b hb => by rw [he _ _ (by omega)]; exact h2 b hb, h3, fun b x hb hx => by rw [he _ _ (by omega)]; exact h4 b x hb hx, fun b x hb hk hx ho => (h5 b x hb hk hx ho).ext (fun y k g1 g2 => he y k (by have := db_ne_le (P.2 b); omega))⟩
theorem kb_test_nI {e : Nat} (h : e ≤ 3) : kb_test (nI e) ↔ 2 ≤ e := by
  have : e = 0 ∨ e = 1 ∨ e = 2 ∨ e = 3 := by omega
  rcases this with h | h | h | h <;> subst h <;> decide
theorem cl_laL {p q : Nat} {P : DP} {A : AV} (hP : WP P 16) (hq : q + 71 ≤ p) (hL : LF P A) : ∀ (n i : Nat) (μ : kt_M), i + n = 32 → FA μ p P A → CP μ q P → FO μ p P A i → FA (f_laL p q n i μ) p P A ∧ CP (f_laL p q n i μ) q P ∧ FO (f_laL p q n i μ) p P A 32
  | 0, i, μ, hi, hF, hC, hO => ⟨hF, hC, by rw [show (32 : Nat) = i from by omega]; exact hO⟩
  | n + 1, i, μ, hi, hF, hC, hO => by
    rw [f_laL]
    have hP16 := hP.1
    generalize hμ1 : f_la1 μ p q i = μ1
    have key : (∀ y k, (p + 3 ≤ y ∧ y ≤ p + 5) ∨ (p + 7 + 4 * 2 ≤ y ∧ y < p + 207) ∨ y < p ∨ (y = p + 6 ∧ k ≠ i) → kt_i μ1 y k = kt_i μ y k) ∧ FO μ1 p P A (i + 1) := by
      rw [← hμ1]
      unfold f_la1
      by_cases hop : kt_i μ (p + 5) i = 0
      · rw [if_neg (fun h => h.1 hop)]
        refine ⟨fun _ _ _ => rfl, fun b x hb hlt hk hx ho ht => ?_⟩
        by_cases e : 2 * b + x = i
        · have hne := db_ne_le (P.2 b)
          rcases hF.2.2.2.1 b x hb (by omega) with ⟨h1, h2⟩ | ⟨h1, h2⟩
          · exact absurd ⟨hk, hx, ho⟩ h2
          · rw [e, hop] at h1; exact absurd h1 (by decide)
        · exact hO b x hb (by omega) hk hx ho ht
      · -- the edge is open
        have hb16 : i / 2 < 16 := by omega
        have hx2 : i % 2 < 2 := by omega
        have hi2 : 2 * (i / 2) + i % 2 = i := by omega
        have hz := hF.2.2.2.1 (i / 2) (i % 2) hb16 hx2
        rw [hi2] at hz
        obtain ⟨h1, hk, hx, ho⟩ := hz.resolve_left (fun h => hop h.1)
        have hbP := hF.2.2.1 _ hb16 hk
        have hD := hP.2 _ hbP
        have htP := hD.tg hx
        have hT := hP.2 _ htP
        have hnx : f_nx μ q i = q + 7 + 4 * db_tg (P.2 (i / 2)) (i % 2) := by
          unfold f_nx
          rw [k_at_nI hC.1 (by omega) hbP, cl_tg (hC.2 _ hbP) hD hx, k_at_nI hC.1 (by omega) htP]
        have hCT := hC.2 _ htP
        rw [hnx]
        have hten : kb_test (kt_i μ (q + 7 + 4 * db_tg (P.2 (i / 2)) (i % 2)) 4) ↔ 2 ≤ db_en (P.2 (db_tg (P.2 (i / 2)) (i % 2))) := by
          rw [hCT.2.2.1]; exact kb_test_nI hT.2.2.1
        by_cases ht : 2 ≤ db_en (P.2 (db_tg (P.2 (i / 2)) (i % 2)))
        · rw [if_pos ⟨hop, hten.mpr ht⟩]
          dsimp only
          rw [hCT.1, nI_clamp (by have := hT.1; omega)]
          generalize hE : a_al P A (i / 2) (i % 2) = E at *
          have hvE : e_v E := by rw [← hE]; exact e_v.al hP hbP (hL.1.1 _ hb16)
          generalize hν1 : m_actsL (p + 7) (q + 7 + 4 * db_tg (P.2 (i / 2)) (i % 2)) (db_na (P.2 (db_tg (P.2 (i / 2)) (i % 2)))) 0 (m_cp μ (p + 7) (p + 7 + 4 * (18 + i))) = ν1
          have f1 : ∀ y k, ¬ (p + 7 + 1 ≤ y ∧ y ≤ p + 7 + 3) → kt_i ν1 y k = kt_i μ y k := fun y k hy => by rw [← hν1, m_actsL_out hy, m_cp_out hy]
          have c1 : CE ν1 (p + 7) (e_all (P.2 (db_tg (P.2 (i / 2)) (i % 2))) E) := by
            rw [← hν1]
            have hce : CE μ (p + 7 + 4 * (18 + i)) E := by
              have := hF.2.2.2.2 (i / 2) (i % 2) hb16 hk hx (by rw [hE]; exact ho)
              rw [hi2, hE] at this; exact this
            exact cl_acts hT (by omega) _ _ _ _ (by omega) (hCT.ext (fun y k a b => m_cp_out (by omega))) hvE (hce.cp (by omega))
          have hvA := hvE.all hT
          have side : ∀ (ν : kt_M) (s : Nat), s < 2 → (∀ y k, ¬ (p + 7 + 1 ≤ y ∧ y ≤ p + 7 + 3) → ¬ (p + 11 + 1 ≤ y ∧ y ≤ p + 11 + 3) → kt_i ν y k = kt_i μ y k) → CE ν (p + 7) (e_all (P.2 (db_tg (P.2 (i / 2)) (i % 2))) E) → CE (f_oa ν p (q + 7 + 4 * db_tg (P.2 (i / 2)) (i % 2)) (nI s)) (p + 7 + 4 * 1) (e_side (P.2 (db_tg (P.2 (i / 2)) (i % 2))) s (e_all (P.2 (db_tg (P.2 (i / 2)) (i % 2))) E)) ∧ ∀ y k, ¬ (p + 11 + 1 ≤ y ∧ y ≤ p + 11 + 3) → kt_i (f_oa ν p (q + 7 + 4 * db_tg (P.2 (i / 2)) (i % 2)) (nI s)) y k = kt_i ν y k := by
            intro ν s hs hfr hce
            unfold f_oa
            refine ⟨cl_side hT (hCT.ext (fun y k a b => by rw [m_cp_out (by omega), hfr y k (by omega) (by omega)])) hvA hs (hce.cp (by omega)), fun y k hy => by rw [m_side_out (by omega), m_cp_out (by omega)]⟩
          obtain ⟨d0, g0⟩ := side ν1 0 (by decide) (fun y k a b => f1 y k a) c1
          generalize hν2 : f_oa ν1 p (q + 7 + 4 * db_tg (P.2 (i / 2)) (i % 2)) 0 = ν2
          rw [show (nI 0 : Int32) = 0 from rfl, hν2] at d0 g0
          obtain ⟨d1, g1⟩ := side ν2 1 (by decide) (fun y k a b => (g0 y k b).trans (f1 y k a)) (c1.ext (fun y k a b => g0 y k (by omega)))
          generalize hν3 : f_oa ν2 p (q + 7 + 4 * db_tg (P.2 (i / 2)) (i % 2)) 1 = ν3
          rw [show (nI 1 : Int32) = 1 from rfl, hν3] at d1 g1
          refine ⟨fun y k hy => ?_, fun b x hb hlt hk2 hx2 ho2 ht2 => ?_⟩
          · have e1 : ¬ (y = p + 6 ∧ k = i) := by omega
            rw [kt_i_si, if_neg e1, g1 y k (by omega), g0 y k (by omega), f1 y k (by omega)]
          · by_cases e : 2 * b + x = i
            · have e1 : i / 2 = b := by have := db_ne_le (P.2 b); omega
              have e2 : i % 2 = x := by have := db_ne_le (P.2 b); omega
              rw [e, kt_i_sie]
              have hone := e_one hT hvA ((by rw [← hE]; rw [e1, e2]; exact ho2 : e_ok E).all hT) ht
              have := oc_oo (kz.f (c := m_all ν2 (p + 7 + 4 * 1))) (kz.f (c := m_all ν3 (p + 7 + 4 * 1))) (hone.imp (cl_all d0).mpr (cl_all d1).mpr)
              have := this.iff (cl_all d0) (cl_all d1)
              rw [← hE, e1, e2] at this
              exact this
            · rw [kt_i_si, if_neg (by omega), g1 _ _ (by omega), g0 _ _ (by omega), f1 _ _ (by omega)]
              exact hO b x hb (by omega) hk2 hx2 ho2 ht2
        · rw [if_neg (fun h => ht (hten.mp h.2))]
          refine ⟨fun _ _ _ => rfl, fun b x hb hlt hk2 hx2 ho2 ht2 => ?_⟩
          by_cases e : 2 * b + x = i
          · have e1 : i / 2 = b := by have := db_ne_le (P.2 b); omega
            have e2 : i % 2 = x := by have := db_ne_le (P.2 b); omega
            rw [e1, e2] at ht; exact absurd ht2 ht
          · exact hO b x hb (by omega) hk2 hx2 ho2 ht2
    exact cl_laL hP hq hL n (i + 1) μ1 (by omega) (hF.ext (fun y k hy => key.1 y k (by omega))) (hC.ext hP.1 (fun y k a b => key.1 y k (by omega))) key.2
theorem cl_la {μ : kt_M} {p q : Nat} {P : DP} {A : AV} (hP : WP P 16) (hq : q + 71 ≤ p) (hL : LF P A) (hF : FA μ p P A) (hC : CP μ q P) : FA (f_la μ p q) p P A ∧ CP (f_la μ p q) q P ∧ FO (f_la μ p q) p P A 32 := by
  unfold f_la
  rw [kt_seal_eq]
  exact cl_laL hP hq hL 32 0 μ (by omega) hF hC (fun b x hb hlt => by omega)
/-! the model -/
theorem LQ.MA {m : Nat} {μ μ' : kt_M} {A : AV} (h : LQ m μ μ') (hA : MA μ m A) : MA μ' m A := hA.far (h.2 _ (by omega) (by omega))
theorem LQ.MP {m p : Nat} {μ μ' : kt_M} {P : DP} (h : LQ m μ μ') (hM : MP μ m p P) : MP μ' m p P := hM.ext (fun j => by rw [h.1])
theorem pu_isOpen {n m b x : Nat} {P : DP} {A : AV} {μ : kt_M} (hP : WP P 16) (hb : b < P.1) (hn : 52 ≤ n) (hx : x < 2) (hL : LF P A) (hM : MP μ m 1 P) (hA : MA μ m A) : ∃ r μ1, x_isOpen n m μ (nI b) (nI x) = some (r, μ1) ∧ kz r (e_ok (A b) ∧ e_ok (a_al P A b x)) ∧ LQ m μ μ1 ∧ (e_ok (A b) → LE μ1 (m + 8) (a_al P A b x)) := by
  have hb16 : b < 16 := by have := hP.1; omega
  have hD := hP.2 b hb
  unfold x_isOpen
  obtain ⟨r, r1, r2⟩ := pu_reached (n := n) hb16 hL.1 hA
  rw [kq_b2_s r1]
  rcases r2 with ⟨e0, hno⟩ | ⟨e1, hok⟩
  · rw [if_pos e0]
    exact ⟨0, μ, rfl, Or.inl ⟨rfl, fun h => hno h.1⟩, LQ.refl, fun h => absurd h hno⟩
  · rw [if_neg (by rw [e1]; decide)]
    obtain ⟨μ2, s1, s2, s3⟩ := pu_comesTo (n := n) hD hb16 hn (hL.1.1 b hb16) (hM.2 b hb) (fun v hv => hA b v hb16 hv)
    rw [kq_b2_s s1]
    obtain ⟨r3, μ3, t1, t2, t3, t4, t5⟩ := pu_goes (n := n) hD hb16 hn ((hL.1.1 b hb16).all hD) (hok.all hD) hx ((hM.2 b hb).mem s2.1) s3
    rw [kq_b2_s t1, kq_ck_t t2.b]
    exact ⟨r3, μ3, rfl, t2.iff ⟨fun h => ⟨hok, h⟩, fun h => h.2⟩, s2.trans t3, fun _ => t5⟩
theorem pu_outAt {n m b : Nat} {P : DP} {A : AV} {μ : kt_M} (hP : WP P 16) (hb : b < P.1) (hn : 52 ≤ n) (hk : e_ok (A b)) (ht : 2 ≤ db_en (P.2 b)) (hL : LF P A) (hM : MP μ m 1 P) (hA : MA μ m A) : ∃ v μ1, x_outcomeAt n m μ (nI b) = some (v, μ1) ∧ Oc v (e_ok (a_al P A b 0)) (e_ok (a_al P A b 1)) ∧ LQ m μ μ1 := by
  have hb16 : b < 16 := by have := hP.1; omega
  unfold x_outcomeAt
  obtain ⟨r0', μ1, a1, a2, a3, -⟩ := pu_isOpen (n := n) (x := 0) hP hb hn (by decide) hL hM hA
  rw [kq_b2_s (show x_isOpen n m μ (nI b) 0 = _ from a1)]
  obtain ⟨r1', μ2, b1, b2, b3, -⟩ := pu_isOpen (n := n) (x := 1) hP hb hn (by decide) hL (a3.MP hM) (a3.MA hA)
  rw [kq_b2_s (show x_isOpen n m μ1 (nI b) 1 = _ from b1)]
  have hone := e_one (hP.2 b hb) ((hL.1.1 b hb16).all (hP.2 b hb)) (hk.all (hP.2 b hb)) ht
  obtain ⟨v, c1, c2⟩ := oc_of (n := n) (a2.iff (d := e_ok (a_al P A b 0)) ⟨fun h => h.2, fun h => ⟨hk, h⟩⟩) (b2.iff (d := e_ok (a_al P A b 1)) ⟨fun h => h.2, fun h => ⟨hk, h⟩⟩) hone
  rw [kq_b1_s c1]
  exact ⟨v, μ2, rfl, c2, a3.trans b3⟩
theorem pu_outAlL {n m t : Nat} {P : DP} {E : EV} (hP : WP P 16) (ht : t < P.1) (hn : 52 ≤ n) (hE : e_v E) (hk : e_ok E) (h2 : 2 ≤ db_en (P.2 t)) : ∀ (k i : Nat) (μ : kt_M), i ≤ 4 → 4 < i + k → MP μ m 1 P → LE μ (m + 8) E → (∀ v, v < i → En (kt_l μ (m + 7) v) (E v)) → ∃ v μ1, x_outcomeAlong_L21 n m k (nI t) (nI i) μ = some (v, μ1) ∧ Oc v (e_ok (e_side (P.2 t) 0 (e_all (P.2 t) E))) (e_ok (e_side (P.2 t) 1 (e_all (P.2 t) E))) ∧ LQ m μ μ1
  | 0, i, μ, h1, h3, hM, hW, hL => by omega
  | k + 1, i, μ, h1, h3, hM, hW, hL => by
    have ht16 : t < 16 := by have := hP.1; omega
    have hT := hP.2 t ht
    rw [x_outcomeAlong_L21]
    unfold x_outcomeAlong_B21
    by_cases e : i = 4
    · subst e
      rw [if_pos (by decide)]
      obtain ⟨μ1, a1, a2, a3, a4⟩ := pu_actsOn (n := n) hT ht16 hn (hM.2 t ht) hE hL
      rw [kq_b2_s a1]
      have hv := hE.all hT
      have hk2 := hk.all hT
      obtain ⟨r0', μ2, b1, b2, b3, b4, b5⟩ := pu_goes (n := n) (x := 0) hT ht16 hn hv hk2 (by decide) ((hM.2 t ht).mem a2.1) a4
      rw [kq_b2_s (show x_goesAlong n m μ1 (nI t) 0 = _ from b1)]
      obtain ⟨r1', μ3, c1, c2, c3, c4, c5⟩ := pu_goes (n := n) (x := 1) hT ht16 hn hv hk2 (by decide) ((hM.2 t ht).mem (b3.1.trans a2.1)) (a4.far b4)
      rw [kq_b2_s (show x_goesAlong n m μ2 (nI t) 1 = _ from c1)]
      obtain ⟨v, d1, d2⟩ := oc_of (n := n) b2 c2 (e_one hT hv hk2 h2)
      rw [kq_b1_s d1]
      exact ⟨v, μ3, rfl, d2, (a2.trans b3).trans c3⟩
    · rw [if_neg (by rw [nI_4]; exact nI_ge (by omega) (by decide)), kq_ck_t (pu_kin (by omega) (by decide)), kq_ck_t (pu_kin (by omega) (by decide)), nI_clamp (by omega), nI_1]
      simp only [kq_lt]
      obtain ⟨v, μ1, r1, r2, r3⟩ := pu_outAlL hP ht hn hE hk h2 k (i + 1) (kt_sl μ (m + 7) i (kt_l μ (m + 8) i)) (by omega) (by omega) (hM.ext (fun j => rfl)) (hW.far (kt_l_sln (by omega))) (fun v hv => by
        rw [kt_l_sl]
        by_cases ev : v = i
        · rw [if_pos ⟨rfl, ev⟩, ev]; exact hW i (by omega)
        · rw [if_neg (fun h => ev h.2)]; exact hL v (by omega))
      exact ⟨v, μ1, r1, r2, (LQ.sl (Or.inl rfl)).trans r3⟩
theorem pu_outAl {n m b x : Nat} {P : DP} {A : AV} {μ : kt_M} (hP : WP P 16) (hb : b < P.1) (hn : 52 ≤ n) (hx : x < db_ne (P.2 b)) (hk : e_ok (A b)) (ho : e_ok (a_al P A b x)) (ht : 2 ≤ db_en (P.2 (db_tg (P.2 b) x))) (hL : LF P A) (hM : MP μ m 1 P) (hA : MA μ m A) : ∃ v μ1, x_outcomeAlong n m μ (nI b) (nI x) = some (v, μ1) ∧ Oc v (e_ok (a_nx P A b x 0)) (e_ok (a_nx P A b x 1)) ∧ LQ m μ μ1 := by
  have hb16 : b < 16 := by have := hP.1; omega
  have hne := db_ne_le (P.2 b)
  unfold x_outcomeAlong
  obtain ⟨r, μ1, a1, a2, a3, a4⟩ := pu_isOpen (n := n) (x := x) hP hb hn (by omega) hL hM hA
  rw [kq_b2_s a1]
  rw [kq_b2_s (show x_of n m μ1 1 (nI b) (14 + nI x) = some (nI (db_tg (P.2 b) x), μ1) from ((hM.2 b hb).mem a3.1).to (p := 1) (hP.2 b hb) (by decide) hb16 hx)]
  obtain ⟨v, μ2, b1, b2, b3⟩ := pu_outAlL (n := n) hP ((hP.2 b hb).tg hx) hn (e_v.al hP hb (hL.1.1 b hb16)) ho ht n 0 μ1 (by omega) (by omega) (a3.MP hM) (a4 hk) (fun v hv => by omega)
  exact ⟨v, μ2, b1, b2, a3.trans b3⟩

/-! PURE: the model's way along an edge -/
/-- an answer that says whether c holds -/
def kz (r : Int32) (c : Prop) : Prop := (r = 0 ∧ ¬ c) ∨ (r = 1 ∧ c)
theorem kz.b {r : Int32} {c : Prop} (h : kz r c) : r = 0 ∨ r = 1 := h.elim (fun h => Or.inl h.1) (fun h => Or.inr h.1)
theorem kz.iff {r : Int32} {c d : Prop} (h : kz r c) (hd : c ↔ d) : kz r d := by unfold kz at *; rw [← hd]; exact h
theorem pu_J136 {n m : Nat} {μ : kt_M} {E : EV} (hE : e_v E) (hL : LE μ (m + 8) E) : ∃ r, x_goesAlong_J136 n m μ = some (r, μ) ∧ kz r (e_ok E) := by
  unfold x_goesAlong_J136
  simp only [lg_cmp_eq]
  have h0 := (hL 0 (by decide)).nz (hE 0 (by decide))
  have h1 := (hL 1 (by decide)).nz (hE 1 (by decide))
  have h2 := (hL 2 (by decide)).nz (hE 2 (by decide))
  have h3 := (hL 3 (by decide)).nz (hE 3 (by decide))
  have c0 : (Int32.toNatClampNeg 0) = 0 := rfl
  have c1 : (Int32.toNatClampNeg 1) = 1 := by decide
  have c2 : (Int32.toNatClampNeg 2) = 2 := by decide
  have c3 : (Int32.toNatClampNeg 3) = 3 := by decide
  rw [c0, c1, c2, c3]
  by_cases e0 : kt_l μ (m + 8) 0 = 0
  · rw [if_pos e0]; exact ⟨0, rfl, Or.inl ⟨rfl, fun h => h0.mp e0 (h 0 (by decide))⟩⟩
  rw [if_neg e0]
  by_cases e1 : kt_l μ (m + 8) 1 = 0
  · rw [if_pos e1]; exact ⟨0, rfl, Or.inl ⟨rfl, fun h => h1.mp e1 (h 1 (by decide))⟩⟩
  rw [if_neg e1]
  by_cases e2 : kt_l μ (m + 8) 2 = 0
  · rw [if_pos e2]; exact ⟨0, rfl, Or.inl ⟨rfl, fun h => h2.mp e2 (h 2 (by decide))⟩⟩
  rw [if_neg e2]
  by_cases e3 : kt_l μ (m + 8) 3 = 0
  · rw [if_pos e3]; exact ⟨0, rfl, Or.inl ⟨rfl, fun h => h3.mp e3 (h 3 (by decide))⟩⟩
  rw [if_neg e3]
  refine ⟨1, rfl, Or.inr ⟨rfl, fun v hv => ?_⟩⟩
  have : v = 0 ∨ v = 1 ∨ v = 2 ∨ v = 3 := by omega
  rcases this with e | e | e | e <;> subst e
  · exact Classical.not_not.mp (fun h => e0 (h0.mpr h))
  · exact Classical.not_not.mp (fun h => e1 (h1.mpr h))
  · exact Classical.not_not.mp (fun h => e2 (h2.mpr h))
  · exact Classical.not_not.mp (fun h => e3 (h3.mpr h))
theorem fr_one {x : Nat} (hx : x ≤ 50) : Fr ((1 : Int64) <<< ((nI x).toInt64 &&& 63)) (x : Int) (x : Int) := fun j hj => by
  rw [lb_shl (by omega) hj, decide_eq_true_iff]; omega
theorem fr_num {L : Int64} {r : R3} (h : En L r) (hr : vr r) : En (L &&& 2251799813685247) (r_nn r) := fun j hj => by
  rw [lb_and, Bool.and_eq_true, h j hj, lb_num j hj, decide_eq_true_iff]
  unfold r_nn
  simp only [Bool.false_eq_true, and_false, or_false]
  unfold vr at hr
  constructor
  · rintro ⟨h1 | h1, h2⟩
    · exact h1
    · omega
  · intro h1; exact ⟨Or.inl h1, by omega⟩
theorem nil_bit {L : Int64} {r : R3} (h : En L r) (hr : vr r) : lb L 51 = true ↔ r.2.2 = true := by
  rw [h.hi hr 51 (by decide) (by decide)]; simp
theorem pu_lessN {n m v x s : Nat} {μ : kt_M} {E : EV} (hv : v < 4) (hx : x ≤ 50) (hn : 52 ≤ n) (hE : e_v E) (hL : LE μ (m + 7) E) (hW : LE μ (m + 8) E) : ∃ μ1, x_lessNumber n m μ (nI v) (nI x) (nI s) = some ((), μ1) ∧ LQ m μ μ1 ∧ kt_l μ1 (m + 7) = kt_l μ (m + 7) ∧ LE μ1 (m + 8) (if nI s = 0 then e_set E v (r_nn (r_cut (E v) 0 ((x : Int) - 1))) else e_set E v (r_cut (E v) (x : Int) 50)) := by
  unfold x_lessNumber x_lessNumber_J43
  rw [kq_ck_t (pu_kin hv (by decide)), nI_clamp (by omega)]
  by_cases e : nI s = 0
  · rw [if_pos e, if_pos e]
    obtain ⟨F, hF, hFr⟩ := pu_from (n := n) (a := 0) (b := nI x - 1) (by decide) hn
    rw [kq_b1_s hF, kq_ck_t (pu_kin hv (by decide))]
    have e1 : (nI x - 1).toInt = (x : Int) - 1 := by
      rw [Int32.toInt_sub, nI_toInt (by omega), ki_1]; exact Int.bmod_eq_of_le (by omega) (by omega)
    rw [e1, ki_0] at hFr
    exact ⟨_, rfl, LQ.sl (Or.inr rfl), kt_l_sln (by omega), hW.set ((hL v hv).cut (hE v hv) (by decide) (by omega) hFr)⟩
  · rw [if_neg e, if_neg e]
    obtain ⟨F, hF, hFr⟩ := pu_from (n := n) (a := nI x) (b := 50) (by rw [nI_toInt (by omega)]; omega) hn
    rw [kq_b1_s hF, kq_ck_t (pu_kin hv (by decide))]
    rw [nI_toInt (by omega), ki_50] at hFr
    exact ⟨_, rfl, LQ.sl (Or.inr rfl), kt_l_sln (by omega), hW.set ((hL v hv).cutN (hE v hv) (by omega) (by decide) hFr)⟩
theorem pu_likeN {n m v x s : Nat} {μ : kt_M} {E : EV} (hv : v < 4) (hx : x ≤ 50) (hn : 52 ≤ n) (hE : e_v E) (hL : LE μ (m + 7) E) (hW : LE μ (m + 8) E) : ∃ μ1, x_like n m μ (nI v) 0 (nI x) (nI s) = some ((), μ1) ∧ LQ m μ μ1 ∧ kt_l μ1 (m + 7) = kt_l μ (m + 7) ∧ LE μ1 (m + 8) (if nI s = 0 then e_set E v (r_nn (r_cut (E v) (x : Int) (x : Int))) else e_set E v (r_rm (E v) (x : Int))) := by
  unfold x_like x_like_J47 x_like_J91
  rw [if_pos rfl, if_pos rfl]
  by_cases e : nI s = 0
  · rw [if_pos e, if_pos e, kq_ck_t (pu_kin hv (by decide)), kq_ck_t (pu_kin hv (by decide)), nI_clamp (by omega)]
    exact ⟨_, rfl, LQ.sl (Or.inr rfl), kt_l_sln (by omega), hW.set ((hL v hv).cut (hE v hv) (by omega) (by omega) (fr_one hx))⟩
  · rw [if_neg e, if_neg e, kq_ck_t (pu_kin hv (by decide)), nI_clamp (by omega)]
    obtain ⟨K, hK, hE2⟩ := (hL v hv).rm (hE v hv) hx hn
    rw [kq_b1_s hK, kq_ck_t (pu_kin hv (by decide))]
    exact ⟨_, rfl, LQ.sl (Or.inr rfl), kt_l_sln (by omega), hW.set hE2⟩
theorem r_both {r s : R3} (hr : vr r) (hs : vr s) : r_nn (r_cut r (max r.1 s.1) (min r.2.1 s.2.1)) = if max r.1 s.1 ≤ min r.2.1 s.2.1 then (max r.1 s.1, min r.2.1 s.2.1, false) else (51, -1, false) := by
  unfold r_nn r_cut
  have e1 : max (max r.1 s.1) r.1 = max r.1 s.1 := by omega
  have e2 : min (min r.2.1 s.2.1) r.2.1 = min r.2.1 s.2.1 := by omega
  rw [e1, e2]
  split <;> rfl
theorem en_both {L M : Int64} {r s : R3} (h : En L r) (h2 : En M s) (hr : vr r) (hs : vr s) : En (L &&& M &&& 2251799813685247) (r_nn (r_cut r (max r.1 s.1) (min r.2.1 s.2.1))) := fun j hj => by
  rw [r_both hr hs, lb_and, lb_and, Bool.and_eq_true, Bool.and_eq_true, h j hj, h2 j hj, lb_num j hj, decide_eq_true_iff]
  unfold vr at hr hs
  split <;> simp only [Bool.false_eq_true, and_false, or_false] <;> constructor
  · rintro ⟨⟨h3 | h3, h4 | h4⟩, h5⟩ <;> omega
  · intro h3; exact ⟨⟨Or.inl (by omega), Or.inl (by omega)⟩, by omega⟩
  · rintro ⟨⟨h3 | h3, h4 | h4⟩, h5⟩ <;> omega
  · intro h3; omega
theorem pu_likeV {n m v x s : Nat} {μ : kt_M} {E : EV} (hv : v < 4) (hx : x < 4) (hE : e_v E) (hL : LE μ (m + 7) E) (hW : LE μ (m + 8) E) : ∃ μ1, x_like n m μ (nI v) 1 (nI x) (nI s) = some ((), μ1) ∧ LQ m μ μ1 ∧ kt_l μ1 (m + 7) = kt_l μ (m + 7) ∧ LE μ1 (m + 8) (if nI s = 0 then e_two E v x (max (E v).1 (E x).1) (min (E v).2.1 (E x).2.1) (max (E v).1 (E x).1) (min (E v).2.1 (E x).2.1) else E) := by
  unfold x_like
  rw [if_neg (by decide)]
  by_cases e : nI s = 0
  · rw [if_pos e, if_pos e, kq_ck_t (pu_kin hv (by decide)), kq_ck_t (pu_kin hx (by decide)), kq_ck_t (pu_kin hv (by decide)), nI_clamp (by omega), nI_clamp (by omega)]
    simp only [kq_lt]
    rw [kq_ck_t (pu_kin hx (by decide))]
    refine ⟨_, rfl, (LQ.sl (Or.inr rfl)).trans (LQ.sl (Or.inr rfl)), ?_, ?_⟩
    · rw [kt_l_sln (by omega), kt_l_sln (by omega)]
    · have hb := en_both (hL v hv) (hL x hx) (hE v hv) (hE x hx)
      refine (hW.set hb).set ?_
      have : r_nn (r_cut (e_set E v (r_nn (r_cut (E v) (max (E v).1 (E x).1) (min (E v).2.1 (E x).2.1))) x) (max (E v).1 (E x).1) (min (E v).2.1 (E x).2.1)) = r_nn (r_cut (E v) (max (E v).1 (E x).1) (min (E v).2.1 (E x).2.1)) := by
        by_cases ev : x = v
        · subst ev
          rw [e_set_e]
          unfold r_nn r_cut
          simp only
          have := hE x hx
          unfold vr at this
          split <;> simp only <;> (split <;> simp only [Prod.mk.injEq, and_true] <;> omega)
        · rw [e_set_n ev]
          have h1 := r_both (hE v hv) (hE x hx)
          have h2 := r_both (hE x hx) (hE v hv)
          rw [h1]
          have c1 : max (E v).1 (E x).1 = max (E x).1 (E v).1 := by omega
          have c2 : min (E v).2.1 (E x).2.1 = min (E x).2.1 (E v).2.1 := by omega
          rw [c1, c2]
          exact h2
      rw [this]
      exact hb
  · rw [if_neg e, if_neg e]
    unfold x_like_J47
    rw [if_neg (by decide)]
    exact ⟨μ, rfl, LQ.refl, rfl, hW⟩
theorem en_zero {b : Bool} (h : b = false) : En 0 (51, -1, b) := fun j hj => by
  rw [lb_0, h]
  simp only [Bool.false_eq_true, and_false, or_false]
  exact ⟨False.elim, fun h => by omega⟩
theorem and_zero64 (L : Int64) : L &&& 0 = 0 := lb_ext (fun i _ => by rw [lb_and, lb_0, Bool.and_false])
theorem pu_J118 {n m v x : Nat} {μ : kt_M} {E : EV} {F1 F2 : Int64} {r1 r2 : R3} (hv : v < 4) (hx : x < 4) (hW : LE μ (m + 8) E) (h1 : En (kt_l μ (m + 8) v &&& F1) r1) (h2 : En (kt_l (kt_sl μ (m + 8) v (kt_l μ (m + 8) v &&& F1)) (m + 8) x &&& F2) r2) : ∃ μ1, x_lessVariable_J118 n m (nI v) (nI x) F1 F2 μ = some ((), μ1) ∧ LQ m μ μ1 ∧ kt_l μ1 (m + 7) = kt_l μ (m + 7) ∧ LE μ1 (m + 8) (e_set (e_set E v r1) x r2) := by
  unfold x_lessVariable_J118
  rw [kq_ck_t (pu_kin hv (by decide)), kq_ck_t (pu_kin hv (by decide)), nI_clamp (by omega)]
  simp only [kq_lt]
  rw [kq_ck_t (pu_kin hx (by decide)), kq_ck_t (pu_kin hx (by decide)), nI_clamp (by omega)]
  refine ⟨_, rfl, (LQ.sl (Or.inr rfl)).trans (LQ.sl (Or.inr rfl)), ?_, (hW.set h1).set h2⟩
  rw [kt_l_sln (by omega), kt_l_sln (by omega)]
theorem r_nn_id {r : R3} (h : r.2.2 = false) : r_nn r = r := by
  obtain ⟨a, b, c⟩ := r
  unfold r_nn; simp only at h ⊢; rw [h]
theorem r_cut_nil {r : R3} {f t : Int} : (r_cut r f t).2.2 = r.2.2 := by unfold r_cut; split <;> rfl
theorem r_cut_0 {r : R3} {f t : Int} (h : t < f ∨ r.2.1 < r.1) : r_nn (r_cut r f t) = (51, -1, false) := by
  unfold r_nn r_cut
  rw [if_neg (by omega)]
theorem pu_lessV {n m v x s : Nat} {μ : kt_M} {E : EV} (hv : v < 4) (hx : x < 4) (hn : 52 ≤ n) (hE : e_v E) (hk : e_ok E) (hL : LE μ (m + 7) E) (hW : LE μ (m + 8) E) : ∃ μ1, x_lessVariable n m μ (nI v) (nI x) (nI s) = some ((), μ1) ∧ LQ m μ μ1 ∧ kt_l μ1 (m + 7) = kt_l μ (m + 7) ∧ LE μ1 (m + 8) (if nI s = 0 then e_two E v x 0 ((E x).2.1 - 1) ((E v).1 + 1) 50 else if (E v).2.2 = false ∧ (E x).2.2 = false then e_twk E v x (E x).1 50 0 (E v).2.1 else E) := by
  have hVv := hE v hv
  have hVx := hE x hx
  have e1 := fr_num (hL v hv) hVv
  have e2 := fr_num (hL x hx) hVx
  unfold x_lessVariable
  rw [kq_ck_t (pu_kin hv (by decide)), kq_ck_t (pu_kin hx (by decide)), kq_ck_t (pu_kin hv (by decide)), kq_ck_t (pu_kin hx (by decide)), nI_clamp (by omega), nI_clamp (by omega)]
  simp only [lg_cmp_eq]
  have hnb : ((kt_l μ (m + 7) v ||| kt_l μ (m + 7) x) &&& 2251799813685248) = 0 ↔ (E v).2.2 = false ∧ (E x).2.2 = false := by
    constructor
    · intro h
      have h51 : lb ((kt_l μ (m + 7) v ||| kt_l μ (m + 7) x) &&& 2251799813685248) 51 = false := by rw [h, lb_0]
      rw [lb_and, lb_or, lb_nil 51 (by decide), show decide ((51 : Nat) = 51) = true from rfl, Bool.and_true, Bool.or_eq_false_iff] at h51
      constructor
      · cases hc : (E v).2.2 with
        | false => rfl
        | true => have := (nil_bit (hL v hv) hVv).mpr hc; rw [h51.1] at this; cases this
      · cases hc : (E x).2.2 with
        | false => rfl
        | true => have := (nil_bit (hL x hx) hVx).mpr hc; rw [h51.2] at this; cases this
    · intro h
      refine lb_ext (fun i hi => ?_)
      rw [lb_and, lb_or, lb_nil i hi, lb_0]
      by_cases e : i = 51
      · subst e
        have a1 : lb (kt_l μ (m + 7) v) 51 = false := by
          cases hc : lb (kt_l μ (m + 7) v) 51 with
          | false => rfl
          | true => have := (nil_bit (hL v hv) hVv).mp hc; rw [h.1] at this; cases this
        have a2 : lb (kt_l μ (m + 7) x) 51 = false := by
          cases hc : lb (kt_l μ (m + 7) x) 51 with
          | false => rfl
          | true => have := (nil_bit (hL x hx) hVx).mp hc; rw [h.2] at this; cases this
        rw [a1, a2]; rfl
      · simp [e]
  have z1 : (kt_l μ (m + 7) v &&& 2251799813685247) = 0 ↔ (E v).2.1 < (E v).1 := by
    rw [e1.nz hVv.nn]; unfold r_ok r_nn; simp only [Bool.false_eq_true, false_or]; omega
  have z2 : (kt_l μ (m + 7) x &&& 2251799813685247) = 0 ↔ (E x).2.1 < (E x).1 := by
    rw [e2.nz hVx.nn]; unfold r_ok r_nn; simp only [Bool.false_eq_true, false_or]; omega
  have hside0 : ∀ q : Int32, nI s = 0 → ∃ μ1, x_lessVariable_J51 n m (nI v) (nI x) (nI s) (kt_l μ (m + 7) v &&& 2251799813685247) (kt_l μ (m + 7) x &&& 2251799813685247) q μ = some ((), μ1) ∧ LQ m μ μ1 ∧ kt_l μ1 (m + 7) = kt_l μ (m + 7) ∧ LE μ1 (m + 8) (e_two E v x 0 ((E x).2.1 - 1) ((E v).1 + 1) 50) := by
    intro q hs
    unfold x_lessVariable_J51
    rw [if_pos hs]
    simp only [lg_cmp_eq]
    by_cases c1 : (kt_l μ (m + 7) v &&& 2251799813685247) = 0 ∨ (kt_l μ (m + 7) x &&& 2251799813685247) = 0
    · have hb : (E v).2.1 < (E v).1 ∨ (E x).2.1 < (E x).1 := c1.imp z1.mp z2.mp
      have q1 : r_nn (r_cut (E v) 0 ((E x).2.1 - 1)) = (51, -1, false) := r_cut_0 (by unfold vr at hVx; omega)
      have q2 : ∀ r : R3, r_nn (r_cut (e_set E v (r_nn (r_cut (E v) 0 ((E x).2.1 - 1))) x) ((E v).1 + 1) 50) = (51, -1, false) := fun _ => r_cut_0 (by
        by_cases ev : x = v
        · subst ev; rw [e_set_e, q1]; right; decide
        · rw [e_set_n ev]; unfold vr at hVv; omega)
      have hJ : x_lessVariable_J86 n m (nI v) (nI x) (kt_l μ (m + 7) v &&& 2251799813685247) (kt_l μ (m + 7) x &&& 2251799813685247) 0 μ = x_lessVariable_J118 n m (nI v) (nI x) 0 0 μ := by
        unfold x_lessVariable_J86
        simp only [lg_cmp_eq]
        by_cases c2 : (kt_l μ (m + 7) v &&& 2251799813685247) = 0
        · rw [if_pos c2]
        · rw [if_neg c2, if_pos (c1.resolve_left c2)]
      have hg : (if (kt_l μ (m + 7) v &&& 2251799813685247) = 0 then x_lessVariable_J86 n m (nI v) (nI x) (kt_l μ (m + 7) v &&& 2251799813685247) (kt_l μ (m + 7) x &&& 2251799813685247) 0 μ else if (kt_l μ (m + 7) x &&& 2251799813685247) = 0 then x_lessVariable_J86 n m (nI v) (nI x) (kt_l μ (m + 7) v &&& 2251799813685247) (kt_l μ (m + 7) x &&& 2251799813685247) 0 μ else kq_b1 (x_highOf n (kt_l μ (m + 7) x &&& 2251799813685247)) (fun r_78 => kq_b1 (x_from n 0 (r_78 - 1)) (fun r_83 => x_lessVariable_J86 n m (nI v) (nI x) (kt_l μ (m + 7) v &&& 2251799813685247) (kt_l μ (m + 7) x &&& 2251799813685247) r_83 μ))) = x_lessVariable_J118 n m (nI v) (nI x) 0 0 μ := by
        rw [hJ]
        by_cases c2 : (kt_l μ (m + 7) v &&& 2251799813685247) = 0
        · rw [if_pos c2]
        · rw [if_neg c2, if_pos (c1.resolve_left c2)]
      rw [hg]
      obtain ⟨μ1, p1, p2, p3, p4⟩ := pu_J118 (n := n) (F1 := 0) (F2 := 0) (r1 := (51, -1, false)) (r2 := (51, -1, false)) hv hx hW (by rw [and_zero64]; exact en_zero rfl) (by rw [and_zero64]; exact en_zero rfl)
      refine ⟨μ1, p1, p2, p3, ?_⟩
      unfold e_two
      rw [q2 r0, q1]
      exact p4
    · have c2 : ¬ (kt_l μ (m + 7) v &&& 2251799813685247) = 0 := fun h => c1 (Or.inl h)
      have c3 : ¬ (kt_l μ (m + 7) x &&& 2251799813685247) = 0 := fun h => c1 (Or.inr h)
      have b1 : (E v).1 ≤ (E v).2.1 := by have := mt z1.mpr c2; omega
      have b2 : (E x).1 ≤ (E x).2.1 := by have := mt z2.mpr c3; omega
      have v1 : 0 ≤ (E v).1 ∧ (E v).2.1 ≤ 50 := by unfold vr at hVv; omega
      have v2 : 0 ≤ (E x).1 ∧ (E x).2.1 ≤ 50 := by unfold vr at hVx; omega
      have l1 := e1.lh (by unfold r_nn; exact v1.1) (by unfold r_nn; exact b1) (by unfold r_nn; exact v1.2)
      have l2 := e2.lh (by unfold r_nn; exact v2.1) (by unfold r_nn; exact b2) (by unfold r_nn; exact v2.2)
      rw [if_neg c2, if_neg c3, kq_b1_s (l2.high hn)]
      obtain ⟨F1, hF1, g1⟩ := pu_from (n := n) (a := 0) (b := nI (r_nn (E x)).2.1.toNat - 1) (by decide) hn
      rw [kq_b1_s hF1]
      unfold x_lessVariable_J86
      simp only [lg_cmp_eq]
      rw [if_neg c2, if_neg c3, kq_b1_s (l1.low hn)]
      obtain ⟨F2, hF2, g2⟩ := pu_from (n := n) (a := nI (r_nn (E v)).1.toNat + 1) (b := 50) (by rw [nI_1, nI_toInt (by unfold r_nn; simp only; omega)]; unfold r_nn; simp only; omega) hn
      rw [kq_b1_s hF2]
      have t1 : (nI (r_nn (E x)).2.1.toNat - 1).toInt = (E x).2.1 - 1 := by
        unfold r_nn; simp only
        rw [Int32.toInt_sub, nI_toInt (by omega), ki_1, Int.toNat_of_nonneg (by omega)]; exact Int.bmod_eq_of_le (by omega) (by omega)
      have t2 : (nI (r_nn (E v)).1.toNat + 1).toInt = (E v).1 + 1 := by
        unfold r_nn; simp only
        rw [nI_1, nI_toInt (by omega)]; omega
      rw [t1, ki_0] at g1
      rw [t2, ki_50] at g2
      have w1 := (hW v hv).cut hVv (by decide) (by omega) g1
      have hv1 : e_v (e_set E v (r_nn (r_cut (E v) 0 ((E x).2.1 - 1)))) := hE.set (hVv.cut (by decide) (by omega)).nn
      have w2 := ((hW.set w1) x hx).cut (hv1 x hx) (by omega) (by decide) g2
      exact pu_J118 hv hx hW w1 w2
  have hside1 : nI s ≠ 0 → ((E v).2.2 = false ∧ (E x).2.2 = false) → ∃ μ1, x_lessVariable_J51 n m (nI v) (nI x) (nI s) (kt_l μ (m + 7) v &&& 2251799813685247) (kt_l μ (m + 7) x &&& 2251799813685247) 1 μ = some ((), μ1) ∧ LQ m μ μ1 ∧ kt_l μ1 (m + 7) = kt_l μ (m + 7) ∧ LE μ1 (m + 8) (e_twk E v x (E x).1 50 0 (E v).2.1) := by
    intro hs hnil
    have b1 : (E v).1 ≤ (E v).2.1 := (hk v hv).resolve_left (by rw [hnil.1]; decide)
    have b2 : (E x).1 ≤ (E x).2.1 := (hk x hx).resolve_left (by rw [hnil.2]; decide)
    have v1 : 0 ≤ (E v).1 ∧ (E v).2.1 ≤ 50 := by unfold vr at hVv; omega
    have v2 : 0 ≤ (E x).1 ∧ (E x).2.1 ≤ 50 := by unfold vr at hVx; omega
    have l1 := e1.lh (by unfold r_nn; exact v1.1) (by unfold r_nn; exact b1) (by unfold r_nn; exact v1.2)
    have l2 := e2.lh (by unfold r_nn; exact v2.1) (by unfold r_nn; exact b2) (by unfold r_nn; exact v2.2)
    unfold x_lessVariable_J51
    rw [if_neg hs, if_neg (by decide), kq_ck_t (pu_kin hv (by decide)), kq_b1_s (l2.low hn)]
    obtain ⟨F1, hF1, g1⟩ := pu_from (n := n) (a := nI (r_nn (E x)).1.toNat) (b := 50) (by rw [nI_toInt (by unfold r_nn; simp only; omega)]; unfold r_nn; simp only; omega) hn
    rw [kq_b1_s hF1, kq_ck_t (pu_kin hv (by decide)), nI_clamp (by omega)]
    simp only [kq_lt]
    rw [kq_ck_t (pu_kin hx (by decide)), kq_b1_s (l1.high hn)]
    obtain ⟨F2, hF2, g2⟩ := pu_from (n := n) (a := 0) (b := nI (r_nn (E v)).2.1.toNat) (by decide) hn
    rw [kq_b1_s hF2, kq_ck_t (pu_kin hx (by decide)), nI_clamp (by omega)]
    have t1 : (nI (r_nn (E x)).1.toNat).toInt = (E x).1 := by
      unfold r_nn; simp only
      rw [nI_toInt (by omega)]; omega
    have t2 : (nI (r_nn (E v)).2.1.toNat).toInt = (E v).2.1 := by
      unfold r_nn; simp only
      rw [nI_toInt (by omega)]; omega
    rw [t1, ki_50] at g1
    rw [t2, ki_0] at g2
    have w1 := (hW v hv).cut hVv (by omega) (by decide) g1
    rw [r_nn_id (by rw [r_cut_nil]; exact hnil.1)] at w1
    have hv1 : e_v (e_set E v (r_cut (E v) (E x).1 50)) := hE.set (hVv.cut (by omega) (by decide))
    have w2 := ((hW.set w1) x hx).cut (hv1 x hx) (by decide) (by omega) g2
    rw [r_nn_id (by
      rw [r_cut_nil]
      by_cases ev : x = v
      · subst ev; rw [e_set_e, r_cut_nil]; exact hnil.1
      · rw [e_set_n ev]; exact hnil.2)] at w2
    refine ⟨_, rfl, (LQ.sl (Or.inr rfl)).trans (LQ.sl (Or.inr rfl)), ?_, (hW.set w1).set w2⟩
    rw [kt_l_sln (by omega), kt_l_sln (by omega)]
  by_cases hs : nI s = 0
  · rw [if_pos hs]
    by_cases c : ((kt_l μ (m + 7) v ||| kt_l μ (m + 7) x) &&& 2251799813685248) = 0
    · rw [if_pos c]; exact hside0 1 hs
    · rw [if_neg c]; exact hside0 0 hs
  · rw [if_neg hs]
    by_cases c : ((kt_l μ (m + 7) v ||| kt_l μ (m + 7) x) &&& 2251799813685248) = 0
    · rw [if_pos c, if_pos (hnb.mp c)]; exact hside1 hs (hnb.mp c)
    · rw [if_neg c, if_neg (fun h => c (hnb.mpr h))]
      unfold x_lessVariable_J51
      rw [if_neg hs, if_pos rfl]
      exact ⟨μ, rfl, LQ.refl, rfl, hW⟩

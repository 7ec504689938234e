theorem kz.nI {r : Int32} {c d : Prop} [Decidable d] (h : kz r c) (hd : c ↔ d) : r = nI (if d then 1 else 0) := by
  rcases h with ⟨a, b⟩ | ⟨a, b⟩
  · rw [a, if_neg (fun q => b (hd.mpr q))]; rfl
  · rw [a, if_pos (hd.mp b)]; rfl
theorem FA.cell {μ : kt_M} {p b : Nat} {P : DP} {A : AV} (h : FA μ p P A) (hb : b < 16) : e_ok (A b) ↔ ¬ kt_i μ (p + 3) b = 0 := by
  rcases h.2.1 b hb with ⟨a, c⟩ | ⟨a, c⟩
  · exact ⟨fun q => absurd q c, fun q => absurd a q⟩
  · exact ⟨fun _ => by rw [a]; decide, fun _ => c⟩
theorem FA.cell5 {μ : kt_M} {p b x : Nat} {P : DP} {A : AV} (h : FA μ p P A) (hb : b < 16) (hx : x < 2) : (e_ok (A b) ∧ x < db_ne (P.2 b) ∧ e_ok (a_al P A b x)) ↔ ¬ kt_i μ (p + 5) (2 * b + x) = 0 := by
  rcases h.2.2.2.1 b x hb hx with ⟨a, c⟩ | ⟨a, c⟩
  · exact ⟨fun q => absurd q c, fun q => absurd a q⟩
  · exact ⟨fun _ => by rw [a]; decide, fun _ => c⟩
theorem su_ne {f : Nat → Nat} {P : DP} {b : Nat} (h : ∀ x, x < 2 → db_ne (P.2 b) ≤ x → f (2 * b + x) = 0) : f (2 * b) + f (2 * b + 1) = su (fun x => f (2 * b + x)) (db_ne (P.2 b)) 0 := by
  have hne := db_ne_le (P.2 b)
  have : db_ne (P.2 b) = 0 ∨ db_ne (P.2 b) = 1 ∨ db_ne (P.2 b) = 2 := by omega
  rcases this with e | e | e
  · rw [e]
    have h0 := h 0 (by omega) (by omega)
    have h1 := h 1 (by omega) (by omega)
    show f (2 * b) + f (2 * b + 1) = 0
    rw [h1]; exact h0
  · rw [e]
    have h1 := h 1 (by omega) (by omega)
    show f (2 * b) + f (2 * b + 1) = f (2 * b) + 0
    rw [h1]
  · rw [e]
    show f (2 * b) + f (2 * b + 1) = f (2 * b) + (f (2 * b + 1) + 0)
    rfl
theorem pu_ofNow {n m o lim w : Nat} {μ ν : kt_M} {P : DP} {A : AV} (hP : WP P 16) (hC : CP μ (o + 81) P) (hL : LF P A) (hF : FA μ (o + 154) P A) (hO : FO μ (o + 154) P A 32) (hPA : PA μ (o + 361) P) (hl : kt_i μ o 13 = nI lim) (hl4 : lim ≤ 4) (hl2 : kt_i ν m 4 = nI lim) (hn : 3400 ≤ n) (hM : MP ν m 1 P) (hw : 4 ≤ w) (hw8 : w ≤ 8) : ∃ ν0 ν1, kt_i ν0 = kt_i ν ∧ SQ m ν0 ν1 ∧ x_ofNow n m ν (nI w) = some (ut_pw μ o P.1 (nI w), ν1) := by
  have hs := hP.1
  obtain ⟨ν0, d1, d2, hA⟩ := pu_findA (n := n) hP hn hM hL
  have hM0 : MP ν0 m 1 P := hM.ext (fun k => by rw [d2])
  have hl0 : kt_i ν0 m 4 = nI lim := by rw [d2]; exact hl2
  have hmany : ∀ ν, SQ m ν0 ν → x_many n m ν 1 = some (nI P.1, ν) := fun ν hq => (pu_many (p := 1) (by decide)).trans (pu_pair (hq.MP hM0).1 rfl)
  have hnle : ∀ b, b < P.1 → ¬ nI P.1 ≤ nI b := fun b hb q => by have := (nI_leI (by omega) (by omega)).mp q; omega
  have hnle2 : ∀ b x, x < db_ne (P.2 b) → ¬ nI (db_ne (P.2 b)) ≤ nI x := fun b x hx q => by have := db_ne_le (P.2 b); have := (nI_leI (by omega) (by omega)).mp q; omega
  have hedges : ∀ b ν, b < P.1 → SQ m ν0 ν → x_edgesOf n m ν 1 (nI b) = some (nI (db_ne (P.2 b)), ν) := fun b ν hb hq => ((hq.MP hM0).2 b hb).edges (hP.2 b hb) (by decide) (by omega)
  have fin : ∀ (F : Nat → Nat), (∀ b, b < P.1 → ∀ (acc : Int32) (ν : kt_M), SQ m ν0 ν → ∀ K : Int32 → Int32 → Int32 → kt_M → Option (Int32 × kt_M), ∃ ν1, SQ m ν0 ν1 ∧ x_ofNow_B8 n m K (nI w) acc (nI b) ν = K (nI w) (acc + nI (F b)) (nI (b + 1)) ν1) → ut_pw μ o P.1 (nI w) = nI (su F P.1 0) → ∃ ν0 ν1, kt_i ν0 = kt_i ν ∧ SQ m ν0 ν1 ∧ x_ofNow n m ν (nI w) = some (ut_pw μ o P.1 (nI w), ν1) := fun F hst hu => by
    obtain ⟨ν1, a1, a2⟩ := pu_of8 (n := n) hP hM0 hst n 0 0 ν0 (by omega) (by omega) SQ.refl
    refine ⟨ν0, ν1, d2, a1, ?_⟩
    unfold x_ofNow
    rw [kq_b2_s d1, show x_ofNow_L8 n m n (nI w) 0 0 ν0 = _ from a2, hu, Int32.zero_add, Nat.sub_zero]
  have hc : w = 4 ∨ w = 5 ∨ w = 6 ∨ w = 7 ∨ w = 8 := by omega
  rcases hc with rfl | rfl | rfl | rfl | rfl
  · refine fin (fun b => if ¬ kt_i μ (o + 154 + 3) b = 0 then 1 else 0) (fun b hb acc ν hq K => ?_) ?_
    · unfold x_ofNow_B8
      obtain ⟨r, a1, a2⟩ := pu_reached (n := n) (b := b) (by omega) hL.1 (hq.MA hA)
      rw [kq_b2_s (hmany ν hq), if_neg (hnle b hb), if_pos (show nI 4 = 4 from rfl), kq_b2_s a1, kq_b1_s (pu_flag a2.b)]
      unfold x_ofNow_J52
      rw [if_neg (show ¬ nI 4 = 8 by decide), Int32.add_zero, a2.nI (hF.cell (by omega))]
      exact pu_of108n hP hb hM0 (by omega) (by decide) (by decide) K hq
    · show f_cntL μ (o + 154 + 3) 16 0 0 = _
      rw [cnt_su, Int32.zero_add, show 16 = P.1 + (16 - P.1) by omega, su_add, su_0 (16 - P.1) _ (fun j j1 j2 => if_neg (fun q => by
        have := hF.2.2.1 j (by omega) ((hF.cell (by omega)).mpr q); omega))]
      rfl
  · refine fin (fun b => su (fun x => if ¬ kt_i μ (o + 154 + 5) (2 * b + x) = 0 then 1 else 0) (db_ne (P.2 b)) 0) (fun b hb acc ν hq K => ?_) ?_
    · unfold x_ofNow_B8
      rw [kq_b2_s (hmany ν hq), if_neg (hnle b hb), if_neg (show ¬ nI 5 = 4 by decide), if_neg (show ¬ nI 5 = 6 by decide)]
      unfold x_ofNow_J52
      rw [if_neg (show ¬ nI 5 = 8 by decide), Int32.add_zero, Int32.add_zero]
      have hne := db_ne_le (P.2 b)
      obtain ⟨ν1, e1, e2⟩ := pu_of108 (n := n) (w := nI 5) (G := fun x => if ¬ kt_i μ (o + 154 + 5) (2 * b + x) = 0 then 1 else 0) hP hb hM0 K (fun x hx acc ν hq K2 => by
        unfold x_ofNow_B108
        obtain ⟨r, ν2, a1, a2, a3, -⟩ := pu_isOpen (n := n) (x := x) hP hb (by omega) (by omega) hL (hq.MP hM0) (hq.MA hA)
        refine ⟨ν2, hq.trans a3.S, ?_⟩
        rw [kq_b2_s (hedges b ν hb hq), if_neg (hnle2 b x hx), if_pos (show nI 5 = 5 from rfl), kq_b2_s a1, kq_b1_s (pu_flag a2.b), nI_1, a2.nI ((show (e_ok (A b) ∧ e_ok (a_al P A b x)) ↔ (e_ok (A b) ∧ x < db_ne (P.2 b) ∧ e_ok (a_al P A b x)) from ⟨fun q => ⟨q.1, hx, q.2⟩, fun q => ⟨q.1, q.2.2⟩⟩).trans (hF.cell5 (by omega) (by omega)))]) n 0 acc ν (by omega) (by omega) hq
      exact ⟨ν1, e1, e2⟩
    · show f_cntL μ (o + 154 + 5) 32 0 0 = _
      rw [cnt_su, Int32.zero_add, show su (fun j => if ¬ kt_i μ (o + 154 + 5) j = 0 then 1 else 0) 32 0 = _ from su_two (f := fun j => if ¬ kt_i μ (o + 154 + 5) j = 0 then 1 else 0) 16 0]
      have hz : ∀ b x, b < 16 → x < 2 → (P.1 ≤ b ∨ db_ne (P.2 b) ≤ x) → (if ¬ kt_i μ (o + 154 + 5) (2 * b + x) = 0 then 1 else 0) = 0 := fun b x hb hx hq => if_neg (fun q => by
        obtain ⟨z1, z2, z3⟩ := (hF.cell5 hb hx).mpr q
        have := hF.2.2.1 b hb z1
        omega)
      rw [show 16 = P.1 + (16 - P.1) by omega, su_add, su_0 (16 - P.1) _ (fun j j1 j2 => by
        have h0 := hz j 0 (by omega) (by omega) (Or.inl (by omega))
        have h1 := hz j 1 (by omega) (by omega) (Or.inl (by omega))
        show (if ¬ kt_i μ (o + 154 + 5) (2 * j) = 0 then 1 else 0) + (if ¬ kt_i μ (o + 154 + 5) (2 * j + 1) = 0 then 1 else 0) = 0
        rw [h1]; exact h0), Nat.add_zero]
      congr 1
      exact su_ext _ _ (fun j j1 j2 => su_ne (f := fun j => if ¬ kt_i μ (o + 154 + 5) j = 0 then 1 else 0) (P := P) (b := j) (fun x x1 x2 => hz j x (by omega) x1 (Or.inr x2)))
  · refine fin (fun b => if ib (kt_i μ (o + 361) 3) b = true then 1 else 0) (fun b hb acc ν hq K => ?_) ?_
    · unfold x_ofNow_B8
      obtain ⟨r, ν2, a1, a2, a3⟩ := pu_head (n := n) (h := b) hP (by omega) (by omega) (hq.MP hM0)
      rw [kq_b2_s (hmany ν hq), if_neg (hnle b hb), if_neg (show ¬ nI 6 = 4 by decide), if_pos (show nI 6 = 6 from rfl), kq_b2_s a1, kq_b1_s (pu_flag a2.b)]
      unfold x_ofNow_J52
      rw [if_neg (show ¬ nI 6 = 8 by decide), Int32.add_zero, a2.nI (hPA.2.2 b (by omega)).symm]
      exact pu_of108n hP hb hM0 (by omega) (by decide) (by decide) K (hq.trans a3.S)
    · show k_bc (kt_i μ (o + 361) 3) = _
      have hlt : ∀ c, c < 32 → ib (kt_i μ (o + 361) 3) c = true → c < P.1 := fun c hc q => by
        obtain ⟨b, z1, z2⟩ := (hPA.2.2 c hc).mp q
        obtain ⟨y1, x, y2, y3⟩ := z1
        rw [← y3]; exact (hP.2 b y1).tg y2
      rw [bc_su (fun c c1 c2 => by
        cases q : ib (kt_i μ (o + 361) 3) c
        · rfl
        · have := hlt c c2 q; omega), show 16 = P.1 + (16 - P.1) by omega, su_add, su_0 (16 - P.1) _ (fun j j1 j2 => if_neg (fun q => by have := hlt j (by omega) q; omega))]
      rfl
  · refine fin (fun b => su (fun x => if ut_can μ o (2 * b + x) then 1 else 0) (db_ne (P.2 b)) 0) (fun b hb acc ν hq K => ?_) ?_
    · unfold x_ofNow_B8
      rw [kq_b2_s (hmany ν hq), if_neg (hnle b hb), if_neg (show ¬ nI 7 = 4 by decide), if_neg (show ¬ nI 7 = 6 by decide)]
      unfold x_ofNow_J52
      rw [if_neg (show ¬ nI 7 = 8 by decide), Int32.add_zero, Int32.add_zero]
      have hne := db_ne_le (P.2 b)
      obtain ⟨ν1, e1, e2⟩ := pu_of108 (n := n) (w := nI 7) (G := fun x => if ut_can μ o (2 * b + x) then 1 else 0) hP hb hM0 K (fun x hx acc ν hq K2 => by
        unfold x_ofNow_B108
        obtain ⟨v, ν2, a1, a2, a3⟩ := pu_against (n := n) hP hb (by omega) hx hL (hq.MP hM0) (hq.MA hA) (by rw [hq.1 _ _ (by omega)]; exact hl0) hl4
        have hv : v = ut_rsn μ o (nI b) (nI x) := a2.inj (cl_rsn hP hC hL hF hO hPA hb hx hl hl4)
        have hcan : ut_can μ o (2 * b + x) ↔ v = 0 := by
          show (k_he μ (o + 81) (nI ((2 * b + x) / 2)) (nI ((2 * b + x) % 2)) ∧ ut_rsn μ o (nI ((2 * b + x) / 2)) (nI ((2 * b + x) % 2)) = 0) ↔ _
          rw [show (2 * b + x) / 2 = b by omega, show (2 * b + x) % 2 = x by omega, hv]
          exact ⟨fun z => z.2, fun z => ⟨(cp_he hC hP (by decide)).mpr ⟨b, x, hb, hx, rfl, rfl⟩, z⟩⟩
        refine ⟨ν2, hq.trans a3, ?_⟩
        rw [kq_b2_s (hedges b ν hb hq), if_neg (hnle2 b x hx), if_neg (show ¬ nI 7 = 5 by decide), if_pos (show nI 7 = 7 from rfl), kq_b2_s a1]
        unfold x_ofNow_J159
        by_cases z : v = 0
        · rw [if_pos z, if_pos (hcan.mpr z), kq_b1_s (pu_flag (Or.inr rfl)), nI_1]; rfl
        · rw [if_neg z, if_neg (fun q => z (hcan.mp q)), kq_b1_s (pu_flag (Or.inl rfl)), nI_1]; rfl) n 0 acc ν (by omega) (by omega) hq
      exact ⟨ν1, e1, e2⟩
    · show ut_canL μ o (2 * P.1) 0 0 = _
      rw [can_su, Int32.zero_add, show su (fun j => if ut_can μ o j then 1 else 0) (2 * P.1) 0 = _ from su_two (f := fun j => if ut_can μ o j then 1 else 0) P.1 0]
      congr 1
      refine su_ext _ _ (fun j j1 j2 => su_ne (f := fun j => if ut_can μ o j then 1 else 0) (P := P) (b := j) (fun x x1 x2 => if_neg (fun q => ?_)))
      have q : k_he μ (o + 81) (nI ((2 * j + x) / 2)) (nI ((2 * j + x) % 2)) ∧ ut_rsn μ o (nI ((2 * j + x) / 2)) (nI ((2 * j + x) % 2)) = 0 := q
      rw [show (2 * j + x) / 2 = j by omega, show (2 * j + x) % 2 = x by omega] at q
      obtain ⟨i, y, q1, q2, q3, q4⟩ := (cp_he hC hP (by decide)).mp q.1
      have e1 : j = i := (nI_eq (by omega) (by omega)).mp q3
      subst e1
      have := db_ne_le (P.2 j)
      have e2 : x = y := (nI_eq (by omega) (by omega)).mp q4
      omega
  · refine fin (fun b => if f_kn μ (o + 154) (o + 81) (nI b) then 1 else 0) (fun b hb acc ν hq K => ?_) ?_
    · unfold x_ofNow_B8
      rw [kq_b2_s (hmany ν hq), if_neg (hnle b hb), if_neg (show ¬ nI 8 = 4 by decide), if_neg (show ¬ nI 8 = 6 by decide)]
      unfold x_ofNow_J52
      obtain ⟨r, a1, a2⟩ := pu_reached (n := n) (b := b) (by omega) hL.1 (hq.MA hA)
      have hMb := (hq.MP hM0).2 b hb
      rw [if_pos (show nI 8 = 8 from rfl), kq_b2_s a1, Int32.add_zero]
      have g0 : ∀ ν, SQ m ν0 ν → ¬ f_kn μ (o + 154) (o + 81) (nI b) → ∃ ν1, SQ m ν0 ν1 ∧ x_ofNow_J96 n m K (nI 8) (nI b) acc 0 ν = K (nI 8) (acc + nI (if f_kn μ (o + 154) (o + 81) (nI b) then 1 else 0)) (nI (b + 1)) ν1 := fun ν hq hk => by
        unfold x_ofNow_J96
        rw [kq_b1_s (pu_flag (Or.inl rfl)), if_neg hk]
        exact pu_of108n hP hb hM0 (by omega) (by decide) (by decide) K hq
      by_cases c1 : e_ok (A b)
      · rw [if_neg (a2.t c1), kq_b2_s (show x_of n m ν 1 (nI b) 13 = _ from hMb.en (by decide) (by omega)), kq_b1_s (pu_isTest (hP.2 b hb).2.2.1)]
        by_cases c2 : 2 ≤ db_en (P.2 b)
        · rw [if_neg (kz.f.t c2)]
          obtain ⟨v, ν2, f1, f2, f3⟩ := pu_outAt (n := n) hP hb (by omega) c1 c2 hL (hq.MP hM0) (hq.MA hA)
          have hv : f_oat μ (o + 154) (nI b) = v := (hF.oat hP hL hb c1 c2).inj f2
          rw [kq_b2_s f1]
          by_cases z : v = 0
          · rw [if_pos (by rw [z]; decide)]
            exact g0 ν2 (hq.trans f3.S) (fun q => q.2.2 (hv.trans z))
          · have hk : f_kn μ (o + 154) (o + 81) (nI b) := ⟨(hF.rch (by omega)).mpr c1, (cp_test hC hP (by decide) hb).mpr c2, by rw [hv]; exact z⟩
            rw [if_neg (by rcases f2 with ⟨e, _⟩ | ⟨e, _⟩ | ⟨e, _⟩ <;> rw [e] at z ⊢ <;> first | exact absurd rfl z | decide)]
            unfold x_ofNow_J96
            rw [kq_b1_s (pu_flag (Or.inr rfl)), if_pos hk]
            exact pu_of108n hP hb hM0 (by omega) (by decide) (by decide) K (hq.trans f3.S)
        · rw [if_pos (kz.f.n c2)]
          exact g0 ν hq (fun q => c2 ((cp_test hC hP (by decide) hb).mp q.2.1))
      · rw [if_pos (a2.n c1)]
        exact g0 ν hq (fun q => c1 ((hF.rch (by omega)).mp q.1))
    · show f_knL μ (o + 154) (o + 81) P.1 0 0 = _
      rw [kn_su, Int32.zero_add]
theorem tot0 {μ : kt_M} {q : Nat} : ∀ (n i : Nat) (acc : Int32), k_totL μ q 0 n i acc = acc + nI n
  | 0, i, acc => (Int32.add_zero acc).symm
  | n + 1, i, acc => by
    rw [k_totL, tot0 n (i + 1), show k_tot μ (q + 7 + 4 * i) 0 = nI 1 from if_pos rfl, su_acc, Nat.add_comm 1 n]
theorem pu_sum {n m p q w : Nat} {μ : kt_M} {P : DP} (hP : WP P 16) (hC : CP μ q P) (hM : MP μ m p P) (hp : p ≤ 3) (hw : 1 ≤ w) (hw3 : w ≤ 3) : ∀ (k i : Nat) (acc : Int32), i ≤ P.1 → P.1 < i + k → x_summed_L5 n m k (nI p) (nI w) acc (nI i) μ = some (k_totL μ q (nI w) (P.1 - i) i acc, μ)
  | 0, i, acc, h1, h2 => by omega
  | k + 1, i, acc, h1, h2 => by
    have hs := hP.1
    rw [x_summed_L5]
    unfold x_summed_B5
    rw [kq_b2_s ((pu_many hp).trans (pu_pair hM.1 rfl))]
    by_cases e : i = P.1
    · rw [if_pos (by rw [e]; exact (nI_leI (by omega) (by omega)).mpr (Nat.le_refl _)), e, Nat.sub_self]; rfl
    · have hi : i < P.1 := by omega
      have hCi := hC.2 i hi
      have hMi := hM.2 i hi
      have hD := hP.2 i hi
      rw [if_neg (fun z => by have := (nI_leI (by omega) (by omega)).mp z; omega), show P.1 - i = (P.1 - (i + 1)) + 1 by omega, k_totL]
      have hc : w = 1 ∨ w = 2 ∨ w = 3 := by omega
      rcases hc with rfl | rfl | rfl
      · rw [if_pos (show nI 1 = 1 from rfl), kq_b2_s (show x_of n m μ (nI p) (nI i) 0 = _ from hMi.of hp (by omega) (w := 0) (by decide) hMi.1), nI_1, pu_sum hP hC hM hp hw hw3 k (i + 1) _ (by omega) (by omega), show k_tot μ (q + 7 + 4 * i) (nI 1) = nI (db_na (P.2 i)) from hCi.1]
      · rw [if_neg (show ¬ nI 2 = 1 by decide), if_pos (show nI 2 = 2 from rfl), kq_b2_s (hMi.en hp (by omega)), kq_b1_s (pu_isTest hD.2.2.1), kq_b1_s (pu_flag kt_f_01), nI_1, pu_sum hP hC hM hp hw hw3 k (i + 1) _ (by omega) (by omega), show k_tot μ (q + 7 + 4 * i) (nI 2) = kt_f (2 ≤ db_en (P.2 i)) by
          show kt_f (kb_test (kt_i μ (q + 7 + 4 * i) 4)) = _
          exact kt_f_iff (by rw [hCi.2.2.1]; exact kb_test_nI hD.2.2.1)]
      · rw [if_neg (show ¬ nI 3 = 1 by decide), if_neg (show ¬ nI 3 = 2 by decide), kq_b2_s (hMi.edges hD hp (by omega)), nI_1, pu_sum hP hC hM hp hw hw3 k (i + 1) _ (by omega) (by omega), show k_tot μ (q + 7 + 4 * i) (nI 3) = nI (db_ne (P.2 i)) by
          show kb_edges (kt_i μ (q + 7 + 4 * i) 4) = _
          rw [hCi.2.2.1]; exact kb_ed_nI hD.2.2.1 rfl]
theorem st_program {μ : kt_M} {o m : Nat} (h : kInv μ o m) (a1 : Int32) (a2 : Int32) : ∃ (n : Nat) (μ1 : kt_M), x_program n m (ut_prog μ o a1 a2).2 a1 a2 = some ((ut_prog μ o a1 a2).1, μ1) ∧ kInv μ1 o m := by
  obtain ⟨P0, P1, PI, L, lim, h⟩ := h
  refine ⟨4000, ?_⟩
  by_cases hg : k_wi a1 1 ∧ k_wi a2 8
  · obtain ⟨p, hp, rfl⟩ := k_wi_nI (n := 2) hg.1 (by decide) (by decide)
    obtain ⟨w, hw, rfl⟩ := k_wi_nI (n := 9) hg.2 (by decide) (by decide)
    obtain ⟨P, hP, hC, hM⟩ := h.ch hp
    have hs := hP.1
    by_cases c3 : w ≤ 3
    · have hu : ut_prog μ o (nI p) (nI w) = (k_totL μ (ut_ch o (nI p)) (nI w) P.1 0 0, μ) := by
        unfold ut_prog
        rw [if_pos hg, if_pos (fun q => by have := (nI_ltI (a := 3) (by decide) (by omega)).mp q; omega), hC.1, nI_clamp (by omega)]
      rw [hu]
      unfold x_program
      refine ⟨μ, ?_, h.inv⟩
      rw [kq_b2_s pu_isProg, if_neg (kz.f.t hg.1), kq_b1_s (pu_wi (h := 8) (hi := 8) rfl), if_neg (kz.f.t hg.2)]
      by_cases c0 : w = 0
      · subst c0
        rw [if_pos (show nI 0 = 0 from rfl), kq_b2_s ((pu_many (by omega)).trans (pu_pair hM.1 rfl)), show k_totL μ (ut_ch o (nI p)) (nI 0) P.1 0 0 = 0 + nI P.1 from tot0 _ _ _, Int32.zero_add]
      · dsimp only
        rw [if_neg (show ¬ nI w = 0 from fun q => c0 ((nI_eq (b := 0) (by omega) (by decide)).mp q)), if_neg (show ¬ 4 ≤ nI w from fun q => by have := (nI_leI (a := 4) (by decide) (by omega)).mp q; omega)]
        unfold x_summed
        rw [kq_b2_s (show x_summed_L5 4000 m 4000 (nI p) (nI w) 0 0 μ = _ from pu_sum hP hC hM (by omega) (by omega) c3 4000 0 0 (by omega) (by omega)), Nat.sub_zero]
    · have h34 : ¬ ¬ 3 < nI w := fun q => q (nI_lt (a := 3) (by omega) (by omega))
      have c0 : ¬ nI w = 0 := fun q => by have := (nI_eq (b := 0) (by omega) (by decide)).mp q; omega
      have c4 : 4 ≤ nI w := (nI_leI (a := 4) (by decide) (by omega)).mpr (by omega)
      by_cases cp : p = 0
      · subst cp
        have hu : ut_prog μ o (nI 0) (nI w) = (-4, μ) := by
          unfold ut_prog
          rw [if_pos hg, if_neg h34, if_pos (show nI 0 = 0 from rfl)]
        rw [hu]
        unfold x_program
        refine ⟨μ, ?_, h.inv⟩
        rw [kq_b2_s pu_isProg, if_neg (kz.f.t hg.1), kq_b1_s (pu_wi (h := 8) (hi := 8) rfl), if_neg (kz.f.t hg.2), if_neg c0, if_pos c4, if_pos (show nI 0 = 0 from rfl)]
      · have : p = 1 := by omega
        subst this
        obtain ⟨hR, A, hL, hF, hO, hPA⟩ := h.ref
        obtain ⟨hP1, hC1, hM1⟩ := hR.2.2.1
        obtain ⟨hl4, hl1, hl2⟩ := hR.lm
        have hs1 := hP1.1
        have hu : ut_prog μ o (nI 1) (nI w) = (ut_pw (ut_ref μ o) o P1.1 (nI w), ut_ref μ o) := by
          unfold ut_prog
          rw [if_pos hg, if_neg h34, if_neg (show ¬ nI 1 = 0 by decide), hC1.1, nI_clamp (by omega)]
        rw [hu]
        dsimp only
        obtain ⟨ν0, ν1, e1, e2, e3⟩ := pu_ofNow (n := 4000) (w := w) hP1 hC1 hL hF hO hPA hl1 hl4 hl2 (by decide) hM1 (by omega) (by omega)
        unfold x_program
        refine ⟨ν1, ?_, ((hR.eqi e1).S e2).inv⟩
        rw [kq_b2_s pu_isProg, if_neg (kz.f.t hg.1), kq_b1_s (pu_wi (h := 8) (hi := 8) rfl), if_neg (kz.f.t hg.2), if_neg c0, if_pos c4, if_neg (show ¬ nI 1 = 0 by decide), kq_b2_s e3]
  · have hu : ut_prog μ o a1 a2 = (-1, μ) := if_neg hg
    rw [hu]
    unfold x_program
    refine ⟨μ, ?_, h.inv⟩
    rw [kq_b2_s pu_isProg]
    by_cases c : k_wi a1 1
    · rw [if_neg (kz.f.t c), kq_b1_s (pu_wi (h := 8) (hi := 8) rfl), if_pos (kz.f.n (fun z => hg ⟨c, z⟩))]
    · rw [if_pos (kz.f.n c)]

/-! PURE: what is said of a program -/
def su (f : Nat → Nat) : Nat → Nat → Nat
  | 0, _ => 0
  | n + 1, i => f i + su f n (i + 1)
theorem su_ext {f g : Nat → Nat} : ∀ n i, (∀ j, i ≤ j → j < i + n → f j = g j) → su f n i = su g n i
  | 0, _, _ => rfl
  | n + 1, i, h => by
    show f i + su f n (i + 1) = g i + su g n (i + 1)
    rw [h i (by omega) (by omega), su_ext n (i + 1) (fun j h1 h2 => h j (by omega) (by omega))]
theorem su_add {f : Nat → Nat} : ∀ n k i, su f (n + k) i = su f n i + su f k (i + n)
  | 0, k, i => by rw [Nat.zero_add]; show _ = 0 + _; rw [Nat.zero_add]; rfl
  | n + 1, k, i => by
    rw [show n + 1 + k = (n + k) + 1 by omega]
    show f i + su f (n + k) (i + 1) = (f i + su f n (i + 1)) + _
    rw [su_add n k (i + 1), show i + (n + 1) = i + 1 + n by omega]; omega
theorem su_0 {f : Nat → Nat} : ∀ n i, (∀ j, i ≤ j → j < i + n → f j = 0) → su f n i = 0
  | 0, _, _ => rfl
  | n + 1, i, h => by
    show f i + su f n (i + 1) = 0
    rw [h i (by omega) (by omega), su_0 n (i + 1) (fun j h1 h2 => h j (by omega) (by omega))]
theorem su_two {f : Nat → Nat} : ∀ n i, su f (2 * n) (2 * i) = su (fun b => f (2 * b) + f (2 * b + 1)) n i
  | 0, _ => rfl
  | n + 1, i => by
    rw [show 2 * (n + 1) = 2 * n + 1 + 1 by omega]
    show f (2 * i) + (f (2 * i + 1) + su f (2 * n) (2 * i + 1 + 1)) = (f (2 * i) + f (2 * i + 1)) + su _ n (i + 1)
    rw [show 2 * i + 1 + 1 = 2 * (i + 1) by omega, su_two n (i + 1)]; omega
theorem kt_f_nI {c : Prop} [Decidable c] : kt_f c = nI (if c then 1 else 0) := by
  by_cases h : c
  · rw [kt_f_t h, if_pos h]; rfl
  · rw [kt_f_f h, if_neg h]; rfl
theorem su_acc {c : Int32} {a b : Nat} : c + nI a + nI b = c + nI (a + b) := by rw [Int32.add_assoc, nI_add]
theorem cnt_su {μ : kt_M} {a : Nat} : ∀ (n i : Nat) (c : Int32), f_cntL μ a n i c = c + nI (su (fun j => if ¬ kt_i μ a j = 0 then 1 else 0) n i)
  | 0, i, c => (Int32.add_zero c).symm
  | n + 1, i, c => by rw [f_cntL, kt_f_nI, cnt_su n (i + 1), su_acc]; rfl
theorem can_su {μ : kt_M} {o : Nat} : ∀ (n i : Nat) (c : Int32), ut_canL μ o n i c = c + nI (su (fun j => if ut_can μ o j then 1 else 0) n i)
  | 0, i, c => (Int32.add_zero c).symm
  | n + 1, i, c => by rw [ut_canL, kt_f_nI, can_su n (i + 1), su_acc]; rfl
theorem kn_su {μ : kt_M} {p q : Nat} : ∀ (n i : Nat) (c : Int32), f_knL μ p q n i c = c + nI (su (fun j => if f_kn μ p q (nI j) then 1 else 0) n i)
  | 0, i, c => (Int32.add_zero c).symm
  | n + 1, i, c => by rw [f_knL, kt_f_nI, kn_su n (i + 1), su_acc]; rfl
theorem bc_su {x : Int32} (h : ∀ c, 16 ≤ c → c < 32 → ib x c = false) : k_bc x = nI (su (fun j => if ib x j = true then 1 else 0) 16 0) := by
  obtain ⟨N, hN⟩ : ∃ N, N = x.toBitVec.toNat := ⟨_, rfl⟩
  have hx : x = nI N := Int32.toBitVec_inj.mp (by
    show x.toBitVec = BitVec.ofNat 32 N
    rw [hN, BitVec.ofNat_toNat, BitVec.setWidth_eq])
  have hb : ∀ i, ib x i = N.testBit i := fun i => by rw [hN]; rfl
  have hlt : N < 2 ^ 16 := Nat.lt_pow_two_of_testBit N (fun i hi => by
    by_cases c : i < 32
    · rw [← hb]; exact h i hi c
    · rw [← hb]; unfold ib; exact BitVec.getLsbD_of_ge _ _ (by omega))
  rw [show su (fun j => if ib x j = true then 1 else 0) 16 0 = su (fun j => if N.testBit j = true then 1 else 0) 16 0 from su_ext _ _ (fun j _ _ => by rw [hb])]
  rw [hx, show N = 256 * (N / 256) + N % 256 by omega, k_bc_nI (by omega) (by omega), show 256 * (N / 256) + N % 256 = N by omega]
  congr 1
  have e1 : ∀ i, i < 8 → (N % 256).testBit i = N.testBit i := fun i hi => by
    rw [show 256 = 2 ^ 8 from rfl, Nat.testBit_mod_two_pow, decide_eq_true hi, Bool.true_and]
  have e2 : ∀ i, (N / 256).testBit i = N.testBit (i + 8) := fun i => by
    rw [show 256 = 2 ^ 8 from rfl, Nat.testBit_div_two_pow]
  unfold bN
  simp only [sumF, su, e1 0 (by decide), e1 1 (by decide), e1 2 (by decide), e1 3 (by decide), e1 4 (by decide), e1 5 (by decide), e1 6 (by decide), e1 7 (by decide), e2, Nat.zero_add, Nat.reduceAdd]
  omega
/-! the model's loops -/
theorem pu_of8 {n m : Nat} {P : DP} {w : Int32} {F : Nat → Nat} {ν0 : kt_M} (hP : WP P 16) (hM : MP ν0 m 1 P) (hst : ∀ b, b < P.1 → ∀ (acc : Int32) (ν : kt_M), SQ m ν0 ν → ∀ K : Int32 → Int32 → Int32 → kt_M → Option (Int32 × kt_M), ∃ ν1, SQ m ν0 ν1 ∧ x_ofNow_B8 n m K w acc (nI b) ν = K w (acc + nI (F b)) (nI (b + 1)) ν1) : ∀ (k b : Nat) (acc : Int32) (ν : kt_M), b ≤ P.1 → P.1 < b + k → SQ m ν0 ν → ∃ ν1, SQ m ν0 ν1 ∧ x_ofNow_L8 n m k w acc (nI b) ν = some (acc + nI (su F (P.1 - b) b), ν1)
  | 0, b, acc, ν, h1, h2, hq => by omega
  | k + 1, b, acc, ν, h1, h2, hq => by
    have hs := hP.1
    rw [x_ofNow_L8]
    by_cases e : b = P.1
    · refine ⟨ν, hq, ?_⟩
      unfold x_ofNow_B8
      rw [kq_b2_s (show x_many n m ν 1 = some (nI P.1, ν) from (pu_many (p := 1) (by decide)).trans (pu_pair (hq.MP hM).1 rfl)), if_pos (by rw [e]; exact (nI_leI (by omega) (by omega)).mpr (Nat.le_refl _)), e, Nat.sub_self]
      exact pu_pair (Int32.add_zero acc).symm rfl
    · obtain ⟨ν1, a1, a2⟩ := hst b (by omega) acc ν hq (x_ofNow_L8 n m k)
      rw [a2]
      obtain ⟨ν2, b1, b2⟩ := pu_of8 hP hM hst k (b + 1) (acc + nI (F b)) ν1 (by omega) (by omega) a1
      refine ⟨ν2, b1, ?_⟩
      rw [b2, su_acc, show P.1 - b = (P.1 - (b + 1)) + 1 by omega]; rfl
theorem pu_of108 {n m b : Nat} {P : DP} {w : Int32} {G : Nat → Nat} {ν0 : kt_M} (hP : WP P 16) (hb : b < P.1) (hM : MP ν0 m 1 P) (K8 : Int32 → Int32 → Int32 → kt_M → Option (Int32 × kt_M)) (hst : ∀ x, x < db_ne (P.2 b) → ∀ (acc : Int32) (ν : kt_M), SQ m ν0 ν → ∀ K : Int32 → Int32 → Int32 → Int32 → kt_M → Option (Int32 × kt_M), ∃ ν1, SQ m ν0 ν1 ∧ x_ofNow_B108 n m K8 K w acc (nI b) (nI x) ν = K w (acc + nI (G x)) (nI b) (nI (x + 1)) ν1) : ∀ (k x : Nat) (acc : Int32) (ν : kt_M), x ≤ db_ne (P.2 b) → db_ne (P.2 b) < x + k → SQ m ν0 ν → ∃ ν1, SQ m ν0 ν1 ∧ x_ofNow_L108 n m K8 k w acc (nI b) (nI x) ν = K8 w (acc + nI (su G (db_ne (P.2 b) - x) x)) (nI (b + 1)) ν1
  | 0, x, acc, ν, h1, h2, hq => by omega
  | k + 1, x, acc, ν, h1, h2, hq => by
    have hs := hP.1
    have hne := db_ne_le (P.2 b)
    rw [x_ofNow_L108]
    by_cases e : x = db_ne (P.2 b)
    · refine ⟨ν, hq, ?_⟩
      unfold x_ofNow_B108
      rw [kq_b2_s (show x_edgesOf n m ν 1 (nI b) = _ from ((hq.MP hM).2 b hb).edges (hP.2 b hb) (by decide) (by omega)), if_pos (by rw [e]; exact (nI_leI (by omega) (by omega)).mpr (Nat.le_refl _)), e, Nat.sub_self, nI_1]
      show _ = K8 w (acc + 0) (nI (b + 1)) ν
      rw [Int32.add_zero]
    · obtain ⟨ν1, a1, a2⟩ := hst x (by omega) acc ν hq (x_ofNow_L108 n m K8 k)
      rw [a2]
      obtain ⟨ν2, b1, b2⟩ := pu_of108 hP hb hM K8 hst k (x + 1) (acc + nI (G x)) ν1 (by omega) (by omega) a1
      refine ⟨ν2, b1, ?_⟩
      rw [b2, su_acc, show db_ne (P.2 b) - x = (db_ne (P.2 b) - (x + 1)) + 1 by omega]; rfl
/-- edges count for nothing -/
theorem pu_of108n {n m b : Nat} {P : DP} {w : Int32} {ν0 ν : kt_M} {acc : Int32} (hP : WP P 16) (hb : b < P.1) (hM : MP ν0 m 1 P) (hn : 10 ≤ n) (h5 : ¬ w = 5) (h7 : ¬ w = 7) (K8 : Int32 → Int32 → Int32 → kt_M → Option (Int32 × kt_M)) (hq : SQ m ν0 ν) : ∃ ν1, SQ m ν0 ν1 ∧ x_ofNow_L108 n m K8 n w acc (nI b) 0 ν = K8 w acc (nI (b + 1)) ν1 := by
  have hs := hP.1
  have hne := db_ne_le (P.2 b)
  obtain ⟨ν1, a1, a2⟩ := pu_of108 (n := n) (w := w) (G := fun _ => 0) hP hb hM K8 (fun x hx acc ν hq K => ⟨ν, hq, by
    unfold x_ofNow_B108
    rw [kq_b2_s (show x_edgesOf n m ν 1 (nI b) = _ from ((hq.MP hM).2 b hb).edges (hP.2 b hb) (by decide) (by omega)), if_neg (fun q => by have := (nI_leI (by omega) (by omega)).mp q; omega), if_neg h5, if_neg h7, nI_1]; rfl⟩) n 0 acc ν (by omega) (by omega) hq
  refine ⟨ν1, a1, ?_⟩
  rw [show x_ofNow_L108 n m K8 n w acc (nI b) 0 ν = _ from a2, su_0 _ _ (fun _ _ _ => rfl)]
  show K8 w (acc + 0) _ _ = _
  rw [Int32.add_zero]

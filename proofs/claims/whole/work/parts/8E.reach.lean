/-! PURE: who can be come to without a block -/
def eg (P : DP) (b c : Nat) : Prop := b < P.1 ∧ ∃ x, x < db_ne (P.2 b) ∧ db_tg (P.2 b) x = c
def Rc (P : DP) (a b : Nat) : Prop := ∀ S : Nat → Prop, (0 < P.1 → a ≠ 0 → S 0) → (∀ c d, S c → eg P c d → d ≠ a → S d) → S b
theorem Rc.zero {P : DP} {a : Nat} (h : 0 < P.1) (ha : a ≠ 0) : Rc P a 0 := fun _ h1 _ => h1 h ha
theorem Rc.next {P : DP} {a b c : Nat} (h : Rc P a b) (he : eg P b c) (hc : c ≠ a) : Rc P a c := fun S h1 h2 => h2 b c (h S h1 h2) he hc
theorem Rc.ne {P : DP} {a b : Nat} (h : Rc P a b) : b ≠ a := h (fun c => c ≠ a) (fun _ h => fun e => h e.symm) (fun _ _ _ _ h => h)
theorem Rc.lt {P : DP} {a b N : Nat} (hP : WP P N) (h : Rc P a b) : b < P.1 := h (fun c => c < P.1) (fun h _ => h) (fun c d _ he _ => by obtain ⟨h1, x, h2, h3⟩ := he; rw [← h3]; exact (hP.2 c h1).tg h2)
theorem Rc.all {P : DP} {a b : Nat} (hP : WP P 16) (h : Rc P a b) : Rc P 99 b := h (fun c => Rc P 99 c) (fun h0 _ => Rc.zero h0 (by decide)) (fun c d hc he _ => hc.next he (by
  obtain ⟨h1, x, h2, h3⟩ := he
  have := (hP.2 c h1).tg h2
  have := hP.1
  omega))
/-- what can be come to only by a -/
theorem Rc.via {P : DP} {a b : Nat} (hP : WP P 16) (h : Rc P 99 b) (hn : ¬ Rc P a b) : Rc P 99 a := by
  refine Classical.byContradiction (fun hna => hn ?_)
  have h2 : Rc P 99 b ∧ Rc P a b := h (fun c => Rc P 99 c ∧ Rc P a c) (fun h0 _ => ⟨Rc.zero h0 (by decide), Rc.zero h0 (fun e => hna (by rw [e]; exact Rc.zero h0 (by decide)))⟩) (fun c d hc he hd => ⟨hc.1.next he hd, hc.2.next he (fun e => hna (by rw [← e]; exact hc.1.next he hd))⟩)
  exact h2.2
/-- a dominates b -/
def Dm (P : DP) (a b : Nat) : Prop := Rc P 99 b ∧ ¬ Rc P a b
theorem Dm.ra {P : DP} {a b : Nat} (hP : WP P 16) (h : Dm P a b) : Rc P 99 a := h.1.via hP h.2
theorem Dm.self {P : DP} {a : Nat} (h : Rc P 99 a) : Dm P a a := ⟨h, fun h2 => h2.ne rfl⟩
theorem Dm.trans {P : DP} {a b c : Nat} (h : Dm P a b) (h2 : Dm P b c) : Dm P a c := by
  refine ⟨h2.1, fun hac => ?_⟩
  -- a way to c without a passes b, and so comes to b without a
  apply h2.2
  have : Rc P a c ∧ (Rc P b c ∨ Rc P a b) := hac (fun d => Rc P a d ∧ (Rc P b d ∨ Rc P a b)) (fun h0 ha => ⟨Rc.zero h0 ha, by
    by_cases e : b = 0
    · right; rw [e]; exact Rc.zero h0 ha
    · left; exact Rc.zero h0 e⟩) (fun d e hd he hea => ⟨hd.1.next he hea, by
    rcases hd.2 with h3 | h3
    · by_cases eb : e = b
      · right; rw [← eb]; exact hd.1.next he hea
      · left; exact h3.next he eb
    · exact Or.inr h3⟩)
  rcases this.2 with h3 | h3
  · exact h3
  · exact absurd h3 h.2
theorem Dm.anti {P : DP} {a b : Nat} (hP : WP P 16) (h : Dm P a b) (h2 : Dm P b a) : a = b := by
  refine Classical.byContradiction (fun hne => ?_)
  -- the first of a and b on a way to b
  have key : ∀ c, Rc P 99 c → (Rc P a c ∧ Rc P b c) ∨ Rc P b a ∨ Rc P a b := fun c hc => hc (fun d => (Rc P a d ∧ Rc P b d) ∨ Rc P b a ∨ Rc P a b) (fun h0 _ => by
    by_cases e1 : a = 0
    · right; left; rw [e1]; exact Rc.zero h0 (fun e => hne (by rw [e1, e]))
    · by_cases e2 : b = 0
      · right; right; rw [e2]; exact Rc.zero h0 e1
      · left; exact ⟨Rc.zero h0 e1, Rc.zero h0 e2⟩) (fun d e hd he _ => by
    rcases hd with ⟨h3, h4⟩ | h3
    · by_cases ea : e = a
      · right; left; rw [← ea]; exact h4.next he (fun h => hne (by rw [← ea, h]))
      · by_cases eb : e = b
        · right; right; rw [← eb]; exact h3.next he ea
        · left; exact ⟨h3.next he ea, h4.next he eb⟩
    · exact Or.inr h3)
  rcases key b h.1 with ⟨h3, -⟩ | h3 | h3
  · exact h.2 h3
  · exact h2.2 h3
  · exact h.2 h3
/-! bits of an int -/
def ib (x : Int32) (i : Nat) : Bool := x.toBitVec.getLsbD i
theorem ib_ext {x y : Int32} (h : ∀ i, i < 32 → ib x i = ib y i) : x = y := Int32.toBitVec_inj.mp (BitVec.eq_of_getLsbD_eq (fun i hi => h i hi))
theorem ib_or (x y : Int32) (i : Nat) : ib (x ||| y) i = (ib x i || ib y i) := by unfold ib; rw [Int32.toBitVec_or, BitVec.getLsbD_or]
theorem ib_and (x y : Int32) (i : Nat) : ib (x &&& y) i = (ib x i && ib y i) := by unfold ib; rw [Int32.toBitVec_and, BitVec.getLsbD_and]
theorem ib_xor (x y : Int32) (i : Nat) : ib (x ^^^ y) i = (ib x i ^^ ib y i) := by unfold ib; rw [Int32.toBitVec_xor, BitVec.getLsbD_xor]
theorem ib_m1 : ∀ i, i < 32 → ib (-1) i = true := by decide +kernel
theorem ib_0 (i : Nat) : ib 0 i = false := BitVec.getLsbD_zero
theorem ib_1 : ∀ i, i < 32 → ib 1 i = decide (i = 0) := by decide +kernel
theorem ib_sh : ∀ k, k < 32 → ((1 : Int32) <<< (nI k &&& 31)).toBitVec = BitVec.twoPow 32 k := by decide +kernel
theorem ib_shl {k i : Nat} (hk : k < 32) (hi : i < 32) : ib ((1 : Int32) <<< (nI k &&& 31)) i = decide (i = k) := by
  unfold ib
  rw [ib_sh k hk, BitVec.getLsbD_twoPow]
  simp only [hi, hk, decide_true, Bool.true_and]
  by_cases h : k = i
  · subst h; simp
  · simp [h, Ne.symm h]
theorem ib_sm : ∀ k, k < 32 → ((nI k &&& 31).toBitVec.smod 32).toNat = k := by decide +kernel
theorem ib_bit {x : Int32} {k : Nat} (hk : k < 32) : ((x >>> (nI k &&& 31)) &&& 1) = 0 ↔ ib x k = false := by
  have h0 : ∀ i, i < 32 → ib ((x >>> (nI k &&& 31)) &&& 1) i = (decide (i = 0) && ib x k) := by
    intro i hi
    rw [ib_and, ib_1 i hi]
    by_cases e : i = 0
    · subst e
      simp only [decide_true, Bool.and_true, Bool.true_and]
      unfold ib
      rw [Int32.toBitVec_shiftRight]
      show (x.toBitVec.sshiftRight ((nI k &&& 31).toBitVec.smod 32).toNat).getLsbD 0 = _
      rw [ib_sm k hk, BitVec.getLsbD_sshiftRight]
      simp [hk]
    · simp [e]
  constructor
  · intro h
    have := h0 0 (by decide)
    rw [h, ib_0] at this
    simpa using this.symm
  · intro h
    refine ib_ext (fun i hi => ?_)
    rw [h0 i hi, h, ib_0, Bool.and_false]
theorem k_bt_ib {x : Int32} {k : Nat} (hk : k < 32) : k_bt x (nI k) ↔ ib x k = true := by
  unfold k_bt
  rw [ib_bit hk]
  cases ib x k <;> simp
/-! the class: one pass, then passes until nothing comes -/
/-- nexts as they are -/
def NX (μ : kt_M) (p : Nat) (P : DP) : Prop := ∀ b, b < 16 → ∀ c, c < 32 → (ib (kt_i μ (p + 1) b) c = true ↔ eg P b c)
def i_le (s t : Int32) : Prop := ∀ c, c < 32 → ib s c = true → ib t c = true
theorem cl_pass {μ : kt_M} {p av : Nat} {P : DP} {a : Int32} (hN : NX μ p P) (ha : ∀ c, c < 32 → (ib a c = true ↔ c ≠ av)) : ∀ (n i : Nat) (s : Int32), i + n = 16 → (∀ c, c < 32 → ib s c = true → Rc P av c) → i_le s (k_psL μ p a n i s) ∧ (∀ c, c < 32 → ib (k_psL μ p a n i s) c = true → Rc P av c) ∧ (k_psL μ p a n i s = s → ∀ b, i ≤ b → b < 16 → ib s b = true → ∀ c, c < 32 → eg P b c → c ≠ av → ib s c = true)
  | 0, i, s, hi, hs => ⟨fun _ _ h => h, hs, fun _ b h1 h2 => by omega⟩
  | n + 1, i, s, hi, hs => by
    rw [k_psL]
    have hi16 : i < 16 := by omega
    by_cases e : ib s i = true
    · rw [if_neg (by rw [ib_bit (by omega), e]; decide)]
      have hs1 : ∀ c, c < 32 → ib (s ||| (kt_i μ (p + 1) i &&& a)) c = true → Rc P av c := fun c hc h => by
        rw [ib_or, ib_and, Bool.or_eq_true, Bool.and_eq_true, hN i hi16 c hc, ha c hc] at h
        rcases h with h | h
        · exact hs c hc h
        · exact (hs i (by omega) e).next h.1 h.2
      obtain ⟨g1, g2, g3⟩ := cl_pass hN ha n (i + 1) _ (by omega) hs1
      have hle : i_le s (s ||| (kt_i μ (p + 1) i &&& a)) := fun c hc h => by rw [ib_or, h]; rfl
      refine ⟨fun c hc h => g1 c hc (hle c hc h), g2, fun heq b h1 h2 hb c hc he hca => ?_⟩
      have hsame : (s ||| (kt_i μ (p + 1) i &&& a)) = s := ib_ext (fun c hc => by
        cases h1 : ib s c with
        | true => exact hle c hc h1
        | false =>
          cases h2 : ib (s ||| (kt_i μ (p + 1) i &&& a)) c with
          | false => rfl
          | true => have := g1 c hc h2; rw [heq, h1] at this; cases this)
      by_cases eb : b = i
      · subst eb
        rw [← hsame, ib_or, ib_and, Bool.or_eq_true, Bool.and_eq_true, hN b hi16 c hc, ha c hc]
        exact Or.inr ⟨he, hca⟩
      · rw [hsame] at g3 heq
        exact g3 heq b (by omega) h2 hb c hc he hca
    · have e0 : ib s i = false := by cases h : ib s i with | false => rfl | true => exact absurd h e
      rw [if_pos (by rw [ib_bit (by omega)]; exact e0)]
      obtain ⟨g1, g2, g3⟩ := cl_pass hN ha n (i + 1) s (by omega) hs
      refine ⟨g1, g2, fun heq b h1 h2 hb c hc he hca => ?_⟩
      by_cases eb : b = i
      · subst eb; rw [e0] at hb; cases hb
      · exact g3 heq b (by omega) h2 hb c hc he hca
def i_cnt (s : Int32) : Nat := sumF (fun i => if ib s i = true then 1 else 0) 16
theorem i_cnt_le {s : Int32} : i_cnt s ≤ 16 := by
  unfold i_cnt
  refine Nat.le_trans (sumF_le 16 (g := fun _ => 1) (fun i _ => by split <;> omega)) ?_
  rw [sumF_const]; decide
theorem i_cnt_lt {s t : Int32} (h : i_le s t) (hne : t ≠ s) (hb : ∀ c, c < 32 → ib t c = true → c < 16) : i_cnt s < i_cnt t := by
  have : ∃ c, c < 32 ∧ ib t c = true ∧ ib s c = false := by
    refine Classical.byContradiction (fun hn => hne (ib_ext (fun c hc => ?_)))
    cases h1 : ib s c with
    | true => exact h c hc h1
    | false =>
      cases h2 : ib t c with
      | false => rfl
      | true => exact absurd ⟨c, hc, h2, h1⟩ hn
  obtain ⟨c, hc, h1, h2⟩ := this
  refine sumF_lt 16 (fun i hi => ?_) c (hb c hc h1) ?_
  · by_cases e : ib s i = true
    · rw [if_pos e, if_pos (h i (by omega) e)]; exact Nat.le_refl _
    · rw [if_neg e]; exact Nat.zero_le _
  · rw [if_pos h1, if_neg (by rw [h2]; decide)]; decide
theorem cl_within {μ : kt_M} {p av : Nat} {P : DP} {a : Int32} (hP : WP P 16) (hN : NX μ p P) (ha : ∀ c, c < 32 → (ib a c = true ↔ c ≠ av)) (h0 : 0 < P.1 → av ≠ 0 → True) : ∀ (n : Nat) (s g : Int32), (∀ c, c < 32 → ib s c = true → Rc P av c) → (0 < P.1 → av ≠ 0 → ib s 0 = true) → (g = 0 → ∀ b, b < 16 → ib s b = true → ∀ c, c < 32 → eg P b c → c ≠ av → ib s c = true) → (g = 0 ∨ 16 < i_cnt s + n) → ∀ c, c < 32 → (ib (k_rwL μ p a n s g) c = true ↔ Rc P av c)
  | 0, s, g, h1, h2, h3, h4, c, hc => by
    have hg : g = 0 := h4.resolve_right (fun h => by have := i_cnt_le (s := s); omega)
    refine ⟨h1 c hc, fun hr => ?_⟩
    exact (hr (fun d => d < 16 ∧ ib s d = true) (fun a b => ⟨by decide, h2 a b⟩) (fun d e hd he hne => by
      have : e < 16 := by obtain ⟨k1, x, k2, k3⟩ := he; have := (hP.2 d k1).tg k2; have := hP.1; omega
      exact ⟨this, h3 hg d hd.1 hd.2 e (by omega) he hne⟩)).2
  | n + 1, s, g, h1, h2, h3, h4, c, hc => by
    rw [k_rwL]
    by_cases hg : g = 0
    · rw [if_pos hg]
      refine ⟨h1 c hc, fun hr => ?_⟩
      exact (hr (fun d => d < 16 ∧ ib s d = true) (fun a b => ⟨by decide, h2 a b⟩) (fun d e hd he hne => by
        have : e < 16 := by obtain ⟨k1, x, k2, k3⟩ := he; have := (hP.2 d k1).tg k2; have := hP.1; omega
        exact ⟨this, h3 hg d hd.1 hd.2 e (by omega) he hne⟩)).2
    · rw [if_neg hg]
      obtain ⟨g1, g2, g3⟩ := cl_pass hN ha 16 0 s (by omega) h1
      refine cl_within hP hN ha h0 n _ _ g2 (fun a b => g1 0 (by decide) (h2 a b)) (fun h => ?_) ?_ c hc
      · by_cases e : k_psL μ p a 16 0 s = s
        · intro b hb hbs c2 hc2 he hne
          rw [e] at hbs ⊢
          exact g3 e b (Nat.zero_le _) hb hbs c2 hc2 he hne
        · rw [if_neg e] at h; exact absurd h (by decide)
      · by_cases e : k_psL μ p a 16 0 s = s
        · left; rw [if_pos e]
        · right
          have := i_cnt_lt g1 e (fun c2 hc2 h => by have := (g2 c2 hc2 h).lt hP; have := hP.1; omega)
          have := h4.resolve_left hg
          omega
theorem i_cnt_pos {s : Int32} (h : ib s 0 = true) : 0 < i_cnt s := by
  have h0 : sumF (fun _ => 0) 16 < i_cnt s := sumF_lt 16 (fun i _ => Nat.zero_le _) 0 (by decide) (by rw [if_pos h]; decide)
  omega
theorem cl_rw {μ : kt_M} {p av : Nat} {P : DP} {a : Int32} (hP : WP P 16) (hP0 : 0 < P.1) (hN : NX μ p P) (ha : ∀ c, c < 32 → (ib a c = true ↔ c ≠ av)) : ∀ c, c < 32 → (ib (k_rw μ p a) c = true ↔ Rc P av c) := by
  have hs : ∀ c, c < 32 → (ib (a &&& 1) c = true ↔ c = 0 ∧ av ≠ 0) := fun c hc => by
    rw [ib_and, ib_1 c hc, Bool.and_eq_true, ha c hc, decide_eq_true_iff]
    constructor
    · rintro ⟨h1, h2⟩; exact ⟨h2, fun e => h1 (by omega)⟩
    · rintro ⟨h1, h2⟩; exact ⟨by omega, h1⟩
  intro c hc
  unfold k_rw
  by_cases e : av = 0
  · -- nothing at all
    have hz : a &&& 1 = 0 := ib_ext (fun c hc => by
      rw [ib_0]
      cases h : ib (a &&& 1) c with
      | false => rfl
      | true => exact absurd e ((hs c hc).mp h).2)
    rw [hz]
    have hpz : k_psL μ p a 16 0 0 = 0 := by
      have : ∀ n i, i + n = 16 → k_psL μ p a n i 0 = 0 := by
        intro n
        induction n with
        | zero => intro i _; rfl
        | succ n ih => intro i hi; rw [k_psL, if_pos (by rw [ib_bit (by omega)]; exact ib_0 i)]; exact ih (i + 1) (by omega)
      exact this 16 0 (by omega)
    rw [k_rwL, if_neg (by decide), hpz, if_pos rfl, k_rwL, if_pos rfl, ib_0]
    refine ⟨(fun h => by cases h), fun h => (h (fun _ => False) (fun _ h2 => h2 e) (fun _ _ h _ _ => h)).elim⟩
  · have h0 : ib (a &&& 1) 0 = true := (hs 0 (by decide)).mpr ⟨rfl, e⟩
    exact cl_within hP hN ha (fun _ _ => trivial) 16 _ 1 (fun c hc h => by rw [((hs c hc).mp h).1]; exact Rc.zero hP0 e) (fun _ _ => h0) (fun h => absurd h (by decide)) (Or.inr (by have := i_cnt_pos h0; omega)) c hc

/-! PURE: the start -/
theorem kInv.start {σ0 σ1 σ2 : kt_Y} {μ0 μ1 μ2 : kt_M} {o : Nat} {r1 r2 : Option Value} (h1 : kI o 522 kt_kt k_kt1 σ0 μ0 r1 σ1 μ1) (h2 : kI (o + 522) 19 kt_md k_md0 (kt_nA σ1 (o + 522) (0, 10)) (kt_z μ1 (o + 522)) r2 σ2 μ2) : kInv μ2 o (o + 522) := by
  obtain ⟨-, -, -, -, -, a⟩ := h1
  obtain ⟨-, -, -, b, -, c⟩ := h2
  have hc : ∀ d k, d < 522 → kt_i μ2 (o + d) k = k_kt1 d k := fun d k hd => by
    rw [(b (o + d) k (by omega)).1]
    have := a (o + d) k (by omega) (by omega)
    rw [show o + d - o = d by omega] at this
    rw [← this]
    rw [kt_i_z, if_neg (by omega)]
  have hm : ∀ d k, d < 19 → kt_i μ2 (o + 522 + d) k = k_md0 d k := fun d k hd => by
    have := c (o + 522 + d) k (by omega) (by omega)
    rw [show o + 522 + d - (o + 522) = d by omega] at this
    exact this
  have c0 : ∀ d k, d < 522 → ¬ (d = 369 ∧ k < 8) → ¬ (d = 0 ∧ k = 13) → ¬ (514 ≤ d ∧ d % 2 = 0 ∧ k = 1) → kt_i μ2 (o + d) k = 0 := fun d k hd q1 q2 q3 => by
    rw [hc d k hd]; unfold k_kt1 k_kt0; rw [if_neg q1, if_neg q2, if_neg q3]
  have m0 : ∀ d k, d < 19 → ¬ (d = 0 ∧ k = 4) → ¬ (d = 3 ∧ k < 8) → ¬ (d = 16 ∧ k < 4) → kt_i μ2 (o + 522 + d) k = 0 := fun d k hd q1 q2 q3 => by
    rw [hm d k hd]; unfold k_md0; rw [if_neg q1, if_neg q2, if_neg q3]
  have hW : ∀ N, WP ((0, fun _ => (0, (fun _ => (0, 0, 0)), 0, (0, 0), (0, 0, 0), 0)) : DP) N := fun N => ⟨Nat.zero_le N, fun b hb => absurd hb (Nat.not_lt_zero b)⟩
  have hC : ∀ d, d < 522 → ¬ d = 369 → d ≠ 0 → kt_i μ2 (o + d) 3 = 0 → CP μ2 (o + d) ((0, fun _ => (0, (fun _ => (0, 0, 0)), 0, (0, 0), (0, 0, 0), 0)) : DP) := fun d _ _ _ hz => ⟨hz, fun b hb => absurd hb (Nat.not_lt_zero b)⟩
  have hM : ∀ p, MP μ2 (o + 522) p ((0, fun _ => (0, (fun _ => (0, 0, 0)), 0, (0, 0), (0, 0, 0), 0)) : DP) := fun p => ⟨m0 1 _ (by decide) (by omega) (by omega) (by omega), fun b hb => absurd hb (Nat.not_lt_zero b)⟩
  have hN : ∀ d, d < 400 ∨ d = 443 → d ≠ 368 → NW μ2 (o + d) := fun d hd hd2 => ⟨by rw [Nat.add_assoc]; exact c0 (d + 1) 0 (by omega) (by omega) (by omega) (by omega), by rw [Nat.add_assoc]; exact c0 (d + 1) 4 (by omega) (by omega) (by omega) (by omega)⟩
  refine ⟨(0, fun _ => (0, (fun _ => (0, 0, 0)), 0, (0, 0), (0, 0, 0), 0)), (0, fun _ => (0, (fun _ => (0, 0, 0)), 0, (0, 0), (0, 0, 0), 0)), fun _ => (0, fun _ => (0, (fun _ => (0, 0, 0)), 0, (0, 0), (0, 0, 0), 0)), 0, 4, Nat.le_refl _, ⟨⟨hW 8, fun b hb => absurd hb (Nat.not_lt_zero b)⟩, hC 42 (by decide) (by decide) (by decide) (c0 42 3 (by decide) (by omega) (by omega) (by omega)), hM 0⟩, ⟨hW 16, hC 81 (by decide) (by decide) (by decide) (c0 81 3 (by decide) (by omega) (by omega) (by omega)), hM 1⟩, fun k hk => ⟨hW 16, ?_, fun _ => hM _⟩, ⟨hN 3 (by omega) (by omega), hN 42 (by omega) (by omega), hN 81 (by omega) (by omega), fun k hk => ?_⟩, fun j hj k => Or.inl ?_, fun q => absurd (c0 0 15 (by decide) (by omega) (by omega) (by omega)) q, ⟨fun k => Or.inl (c0 153 k (by decide) (by omega) (by omega) (by omega)), fun k hk => ?_⟩, ⟨by decide, ?_, ?_⟩, ⟨by decide, c0 1 1 (by decide) (by omega) (by omega) (by omega), m0 0 6 (by decide) (by omega) (by omega) (by omega), fun i hi => absurd hi (Nat.not_lt_zero i)⟩, ?_, ?_, fun i hi => ⟨51, by decide, ?_, ?_⟩, fun k hk => ⟨Or.inl ⟨?_, ?_⟩, ⟨0, by decide, ?_, ?_⟩, fun i hi => ?_⟩⟩
  · rw [Nat.add_assoc]; exact hC (372 + 71 * k) (by omega) (by omega) (by omega) (c0 _ 3 (by omega) (by omega) (by omega) (by omega))
  · rw [Nat.add_assoc]
    have : k = 0 ∨ k = 1 := by omega
    rcases this with rfl | rfl
    · exact hN 372 (by omega) (by omega)
    · exact hN 443 (by omega) (by omega)
  · rw [show o + 154 + 7 + 4 * j + 3 = o + (164 + 4 * j) by omega]; exact c0 _ k (by omega) (by omega) (by omega) (by omega)
  · rw [m0 4 k (by decide) (by omega) (by omega) (by omega), c0 153 k (by decide) (by omega) (by omega) (by omega)]
  · rw [show kt_i μ2 o 13 = kt_i μ2 (o + 0) 13 from rfl, hc 0 13 (by decide)]; rfl
  · rw [show kt_i μ2 (o + 522) 4 = kt_i μ2 (o + 522 + 0) 4 from rfl, hm 0 4 (by decide)]; rfl
  · rw [c0 1 2 (by decide) (by omega) (by omega) (by omega)]; exact (m0 0 11 (by decide) (by omega) (by omega) (by omega)).symm
  · exact (c0 0 14 (by decide) (by omega) (by omega) (by omega)).trans (m0 0 33 (by decide) (by omega) (by omega) (by omega)).symm
  · rw [hc 369 i (by decide)]; unfold k_kt1; rw [if_pos ⟨rfl, hi⟩]; rfl
  · rw [hm 3 i (by decide)]; unfold k_md0; rw [if_neg (by omega), if_pos ⟨rfl, hi⟩]; rfl
  · rw [Nat.add_assoc, hc (514 + 2 * k) 1 (by omega)]; unfold k_kt1 k_kt0; rw [if_neg (by omega), if_neg (by omega), if_pos (by omega)]
  · rw [hm 16 k (by decide)]; unfold k_md0; rw [if_neg (by omega), if_neg (by omega), if_pos ⟨rfl, hk⟩]
  · rw [Nat.add_assoc]; exact c0 (514 + 2 * k) 2 (by omega) (by omega) (by omega) (by omega)
  · exact m0 17 k (by decide) (by omega) (by omega) (by omega)
  · rw [show o + 514 + 2 * k + 1 = o + (514 + 2 * k + 1) by omega, c0 (514 + 2 * k + 1) i (by omega) (by omega) (by omega) (by omega), m0 18 _ (by decide) (by omega) (by omega) (by omega)]

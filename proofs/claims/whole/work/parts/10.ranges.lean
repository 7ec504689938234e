/-! KnownTurns$Ranges: least, greatest, nil of four variables -/
def kt_rg (σ : kt_Y) (p : Nat) : Prop := kt_k σ p = some (0, 5) ∧ kt_r σ p 0 = some (p + 1) ∧ kt_r σ p 1 = some (p + 2) ∧ kt_r σ p 2 = some (p + 3) ∧ kt_k σ (p + 1) = some (1, 4) ∧ kt_k σ (p + 2) = some (1, 4) ∧ kt_k σ (p + 3) = some (3, 4)
abbrev kt_3 : Type := Int32 × Int32 × Int32
def kg (μ : kt_M) (p v : Nat) : kt_3 := (kt_i μ (p + 1) v, kt_i μ (p + 2) v, kt_i μ (p + 3) v)
def ks (μ : kt_M) (p v : Nat) (t : kt_3) : kt_M := kt_si (kt_si (kt_si μ (p + 1) v t.1) (p + 2) v t.2.1) (p + 3) v t.2.2
theorem ks_1 {μ : kt_M} {p v : Nat} {a : Int32} : kt_si μ (p + 1) v a = ks μ p v (a, (kg μ p v).2) := by
  refine kt_ext (fun x k => ?_) (fun _ _ => rfl)
  simp only [ks, kg, kt_i_si]
  by_cases h : k = v <;> by_cases h1 : x = p + 1 <;> by_cases h2 : x = p + 2 <;> by_cases h3 : x = p + 3 <;> simp_all <;> omega
theorem ks_2 {μ : kt_M} {p v : Nat} {a : Int32} : kt_si μ (p + 2) v a = ks μ p v ((kg μ p v).1, a, (kg μ p v).2.2) := by
  refine kt_ext (fun x k => ?_) (fun _ _ => rfl)
  simp only [ks, kg, kt_i_si]
  by_cases h : k = v <;> by_cases h1 : x = p + 1 <;> by_cases h2 : x = p + 2 <;> by_cases h3 : x = p + 3 <;> simp_all <;> omega
theorem ks_3 {μ : kt_M} {p v : Nat} {a : Int32} : kt_si μ (p + 3) v a = ks μ p v ((kg μ p v).1, (kg μ p v).2.1, a) := by
  refine kt_ext (fun x k => ?_) (fun _ _ => rfl)
  simp only [ks, kg, kt_i_si]
  by_cases h : k = v <;> by_cases h1 : x = p + 1 <;> by_cases h2 : x = p + 2 <;> by_cases h3 : x = p + 3 <;> simp_all <;> omega
theorem kg_ks {μ : kt_M} {p v : Nat} {t : kt_3} : kg (ks μ p v t) p v = t := by simp [ks, kg, kt_i_si]
theorem kg_ks_ne {μ : kt_M} {p v w : Nat} {t : kt_3} (h : w ≠ v) : kg (ks μ p v t) p w = kg μ p w := by simp [ks, kg, kt_i_si, h]
theorem kg_ks_if {μ : kt_M} {p v w : Nat} {t : kt_3} : kg (ks μ p v t) p w = if w = v then t else kg μ p w := by
  by_cases h : w = v
  · rw [if_pos h, h, kg_ks]
  · rw [if_neg h, kg_ks_ne h]
theorem ks_ks {μ : kt_M} {p v : Nat} {t u : kt_3} : ks (ks μ p v t) p v u = ks μ p v u := by
  refine kt_ext (fun x k => ?_) (fun _ _ => rfl)
  simp only [ks, kt_i_si]
  by_cases h : k = v <;> by_cases h1 : x = p + 1 <;> by_cases h2 : x = p + 2 <;> by_cases h3 : x = p + 3 <;> simp_all
theorem ks_kg {μ : kt_M} {p v : Nat} : ks μ p v (kg μ p v) = μ := by
  rw [show kg μ p v = (kt_i μ (p + 1) v, (kg μ p v).2) from rfl, ← ks_1, kt_si_self rfl]
theorem ks_i {μ : kt_M} {p v x k : Nat} {t : kt_3} (h : ¬ (p + 1 ≤ x ∧ x ≤ p + 3)) : kt_i (ks μ p v t) x k = kt_i μ x k := by
  unfold ks
  rw [kt_i_sin (by omega), kt_i_sin (by omega), kt_i_sin (by omega)]
theorem kg_ks_far {μ : kt_M} {p q v w : Nat} {t : kt_3} (h : p + 4 ≤ q ∨ q + 4 ≤ p) : kg (ks μ p v t) q w = kg μ q w := by
  unfold kg
  rw [ks_i (by omega), ks_i (by omega), ks_i (by omega)]
theorem kg_1 {μ : kt_M} {p v : Nat} : kt_i μ (p + 1) v = (kg μ p v).1 := rfl
theorem kg_2 {μ : kt_M} {p v : Nat} : kt_i μ (p + 2) v = (kg μ p v).2.1 := rfl
theorem kg_3 {μ : kt_M} {p v : Nat} : kt_i μ (p + 3) v = (kg μ p v).2.2 := rfl
def k3_cut (t : kt_3) (f e : Int32) : kt_3 := let a := if f ≤ t.1 then t.1 else f; let b := if t.2.1 ≤ e then t.2.1 else e; if a ≤ b then (a, b, t.2.2) else (51, -1, t.2.2)
theorem ks_kg3 {μ : kt_M} {p v : Nat} : ks μ p v ((kg μ p v).1, (kg μ p v).2.1, (kg μ p v).2.2) = μ := ks_kg
def m_cut (μ : kt_M) (p v : Nat) (f e : Int32) : kt_M := ks μ p v (k3_cut (kg μ p v) f e)
def m_nil (μ : kt_M) (p v : Nat) (c : Int32) : kt_M := kt_si μ (p + 3) v c
def m_num (μ : kt_M) (p v : Nat) (f e : Int32) : kt_M := kt_si (kt_si μ (p + 1) v f) (p + 2) v e
def m_set1 (μ : kt_M) (p v : Nat) (c : Int32) : kt_M := m_nil (m_num μ p v 51 (-1)) p v c
def m_setAll (μ : kt_M) (p : Nat) (c : Int32) : kt_M := m_set1 (m_set1 (m_set1 (m_set1 μ p 0 c) p 1 c) p 2 c) p 3 c
def m_cpv (μ : kt_M) (p v q w : Nat) : kt_M := kt_si (kt_si (kt_si μ (p + 1) v (kt_i μ (q + 1) w)) (p + 2) v (kt_i μ (q + 2) w)) (p + 3) v (kt_i μ (q + 3) w)
def m_cp (μ : kt_M) (p q : Nat) : kt_M := m_cpv (m_cpv (m_cpv (m_cpv μ p 0 q 0) p 1 q 1) p 2 q 2) p 3 q 3
def k_max (x y : Int32) : Int32 := if x < y then y else x
def k_min (x y : Int32) : Int32 := if y < x then y else x
def k_cl (x : Int32) : Int32 := k_max 0 (k_min 50 x)
def m_shift (μ : kt_M) (p v : Nat) (by_ : Int32) : kt_M := if kt_i μ (p + 2) v < kt_i μ (p + 1) v then μ else m_num μ p v (k_cl (kt_i μ (p + 1) v + by_)) (k_cl (kt_i μ (p + 2) v + by_))
def m_act (μ : kt_M) (p : Nat) (kind : Int32) (v : Nat) (n : Int32) : kt_M :=
  if kind = 0 then m_nil (m_num μ p v n n) p v 0 else if kind = 1 then m_shift μ p v n else if kind = 2 then m_shift μ p v (-n) else if kind = 3 then (if 0 ≤ n ∧ n < 4 then m_cpv μ p v p n.toNatClampNeg else μ) else if kind = 4 then m_nil (m_num μ p v 0 50) p v 1 else μ
def m_lessN (μ : kt_M) (p v : Nat) (x s : Int32) : kt_M := if s = 0 then m_nil (m_cut μ p v 0 (x - 1)) p v 0 else m_cut μ p v x 50
def m_lessV (μ : kt_M) (p v x : Nat) (s : Int32) : kt_M := if s = 0 then m_nil (m_nil (m_cut (m_cut μ p v 0 (kt_i μ (p + 2) x - 1)) p x (kt_i μ (p + 1) v + 1) 50) p v 0) p x 0 else if kt_i μ (p + 3) v = 0 ∧ kt_i μ (p + 3) x = 0 then m_cut (m_cut μ p v (kt_i μ (p + 1) x) 50) p x 0 (kt_i μ (p + 2) v) else μ
def m_eqN (μ : kt_M) (p v : Nat) (x s : Int32) : kt_M := if s = 0 then m_nil (m_cut μ p v x x) p v 0 else if kt_i μ (p + 1) v = x then m_cut μ p v (x + 1) 50 else if kt_i μ (p + 2) v = x then m_cut μ p v 0 (x - 1) else μ
def m_eqV (μ : kt_M) (p v x : Nat) (s : Int32) : kt_M := if s = 0 then m_nil (m_nil (m_cut (m_cut μ p v (k_max (kt_i μ (p + 1) v) (kt_i μ (p + 1) x)) (k_min (kt_i μ (p + 2) v) (kt_i μ (p + 2) x))) p x (k_max (kt_i μ (p + 1) v) (kt_i μ (p + 1) x)) (k_min (kt_i μ (p + 2) v) (kt_i μ (p + 2) x))) p v 0) p x 0 else μ
def k_isv (a : Int32) : Prop := 0 ≤ a ∧ a < 4
theorem k_isv_in {a : Int32} (h : 0 ≤ a ∧ a < 4) : vp_in a 4 := vp_in_iff.mpr (by simp only [Int32.le_iff_toInt_le, Int32.lt_iff_toInt_lt, ki_0, ki_4] at h; omega)
/-- the side of a block's end, on the ranges at p; b is the block -/
def m_side (μ : kt_M) (p b : Nat) (s : Int32) : kt_M :=
  if ¬ kb_test (kt_i μ b 4) ∨ ¬ (0 ≤ kt_i μ b 5 ∧ kt_i μ b 5 < 4) then μ
  else if kt_i μ b 6 = 0 then (if kt_i μ b 4 = 2 then m_lessN μ p (kt_i μ b 5).toNatClampNeg (kt_i μ b 7) s else m_eqN μ p (kt_i μ b 5).toNatClampNeg (kt_i μ b 7) s)
  else if 0 ≤ kt_i μ b 7 ∧ kt_i μ b 7 < 4 then (if kt_i μ b 4 = 2 then m_lessV μ p (kt_i μ b 5).toNatClampNeg (kt_i μ b 7).toNatClampNeg s else m_eqV μ p (kt_i μ b 5).toNatClampNeg (kt_i μ b 7).toNatClampNeg s) else μ
/-- boolean cells hold 0 or 1 -/
def kt_01 (μ : kt_M) (a : Nat) : Prop := ∀ k, kt_i μ a k = 0 ∨ kt_i μ a k = 1
def m_join1 (μ : kt_M) (p q v : Nat) (g : Int32) : kt_M × Int32 :=
  let a := if kt_i μ (p + 1) v ≤ kt_i μ (q + 1) v then (μ, g) else (kt_si μ (p + 1) v (kt_i μ (q + 1) v), 1)
  let b := if kt_i a.1 (q + 2) v ≤ kt_i a.1 (p + 2) v then a else (kt_si a.1 (p + 2) v (kt_i a.1 (q + 2) v), 1)
  if kt_i b.1 (q + 3) v = 0 ∨ ¬ kt_i b.1 (p + 3) v = 0 then b else (kt_si b.1 (p + 3) v 1, 1)
def m_joinL (p q : Nat) : Nat → Nat → kt_M → Int32 → kt_M × Int32
  | 0, _, μ, g => (μ, g)
  | n + 1, i, μ, g => m_joinL p q n (i + 1) (m_join1 μ p q i g).1 (m_join1 μ p q i g).2
def m_join (μ : kt_M) (p q : Nat) : kt_M × Int32 := m_joinL p q 4 0 μ 0
/-- each of the four can be something -/
abbrev m_some (μ : kt_M) (p v : Nat) : Prop := ¬ kt_i μ (p + 3) v = 0 ∨ kt_i μ (p + 1) v ≤ kt_i μ (p + 2) v
abbrev m_all (μ : kt_M) (p : Nat) : Prop := m_some μ p 0 ∧ m_some μ p 1 ∧ m_some μ p 2 ∧ m_some μ p 3
def m_prop (μ : kt_M) (p : Nat) (v w : Int32) : Int32 := if ¬ (0 ≤ v ∧ v < 4) then -4 else if w = 2 then kt_i μ (p + 3) v.toNatClampNeg else if kt_i μ (p + 1) v.toNatClampNeg ≤ kt_i μ (p + 2) v.toNatClampNeg then (if w = 0 then kt_i μ (p + 1) v.toNatClampNeg else kt_i μ (p + 2) v.toNatClampNeg) else -4
set_option maxHeartbeats 4000000 in
set_option maxRecDepth 100000 in
theorem sp_cut {G : kt_G} {σ : kt_Y} {μ : kt_M} {p : Nat} (hp : kt_rg σ p) {v f e : Int32} (hv : vp_in v 4) : kt_F G yX5_cut cX5_cut 4 none 0 [.ref p, .int v, .int f, .int e] σ μ (fun r μ2 => r = none ∧ μ2 = m_cut μ p v.toNatClampNeg f e) := by
  refine kt_F.of (by decide) (Nat.le_of_ble_eq_true rfl) (fun X hX hr => ?_)
  have hp0 := hp
  obtain ⟨hk0, hr1, hr2, hr3, hk1, hk2, hk3⟩ := hp
  refine kr_iload_n (i := 2) hX dX5_cut_0 rfl rfl ?_
  refine kr_aload_n (i := 0) hX dX5_cut_1 rfl rfl ?_
  refine kr_getr (c0 := 5) (k := 0) hX ⟨_, kf_5_9⟩ dX5_cut_2 rfl (by assumption) (by assumption) ?_
  refine kr_iload_n (i := 1) hX dX5_cut_5 rfl rfl ?_
  refine kr_iald hX dX5_cut_6 (by assumption) (by assumption) ?_
  refine kr_icmp_le (tgt := 17) hX dX5_cut_7 (by decide) (fun c_7 => ?_) (fun c_7 => ?_)
  · skip
    refine kr_iload_n (i := 3) hX dX5_cut_17 rfl rfl ?_
    refine kr_aload_n (i := 0) hX dX5_cut_18 rfl rfl ?_
    refine kr_getr (c0 := 5) (k := 1) hX ⟨_, kf_5_15⟩ dX5_cut_19 rfl (by assumption) (by assumption) ?_
    refine kr_iload_n (i := 1) hX dX5_cut_22 rfl rfl ?_
    refine kr_iald hX dX5_cut_23 (by assumption) (by assumption) ?_
    refine kr_icmp_ge (tgt := 34) hX dX5_cut_24 (by decide) (fun c_24 => ?_) (fun c_24 => ?_)
    · skip
      refine kr_aload_n (i := 0) hX dX5_cut_34 rfl rfl ?_
      refine kr_getr (c0 := 5) (k := 0) hX ⟨_, kf_5_9⟩ dX5_cut_35 rfl (by assumption) (by assumption) ?_
      refine kr_iload_n (i := 1) hX dX5_cut_38 rfl rfl ?_
      refine kr_iald hX dX5_cut_39 (by assumption) (by assumption) ?_
      refine kr_aload_n (i := 0) hX dX5_cut_40 rfl rfl ?_
      refine kr_getr (c0 := 5) (k := 1) hX ⟨_, kf_5_15⟩ dX5_cut_41 rfl (by assumption) (by assumption) ?_
      refine kr_iload_n (i := 1) hX dX5_cut_44 rfl rfl ?_
      refine kr_iald hX dX5_cut_45 (by assumption) (by assumption) ?_
      refine kr_icmp_le (tgt := 64) hX dX5_cut_46 (by decide) (fun c_46 => ?_) (fun c_46 => ?_)
      · skip
        refine kr_vret hX hr dX5_cut_64 ⟨rfl, ?_⟩
        refine ⟨rfl, ?_⟩
        simp only [ks_1 (p := p), ks_2 (p := p), ks_3 (p := p), kg_1 (p := p), kg_2 (p := p), kg_3 (p := p), kg_ks, ks_ks] at *
        simp_all [m_cut, k3_cut, ks_kg3, -Int32.not_le, -Int32.not_lt]
      · skip
        refine kr_aload_n (i := 0) hX dX5_cut_49 rfl rfl ?_
        refine kr_getr (c0 := 5) (k := 0) hX ⟨_, kf_5_9⟩ dX5_cut_50 rfl (by assumption) (by assumption) ?_
        refine kr_iload_n (i := 1) hX dX5_cut_53 rfl rfl ?_
        refine kr_bipush (v := 51) hX dX5_cut_54 (by decide) ?_
        refine kr_iast hX dX5_cut_56 (by assumption) (by assumption) ?_
        refine kr_aload_n (i := 0) hX dX5_cut_57 rfl rfl ?_
        refine kr_getr (c0 := 5) (k := 1) hX ⟨_, kf_5_15⟩ dX5_cut_58 rfl (by assumption) (by assumption) ?_
        refine kr_iload_n (i := 1) hX dX5_cut_61 rfl rfl ?_
        refine kr_iconst (v := (-1)) hX dX5_cut_62 (by decide) ?_
        refine kr_iast hX dX5_cut_63 (by assumption) (by assumption) ?_
        refine kr_vret hX hr dX5_cut_64 ⟨rfl, ?_⟩
        refine ⟨rfl, ?_⟩
        simp only [ks_1 (p := p), ks_2 (p := p), ks_3 (p := p), kg_1 (p := p), kg_2 (p := p), kg_3 (p := p), kg_ks, ks_ks] at *
        simp_all [m_cut, k3_cut, ks_kg3, -Int32.not_le, -Int32.not_lt]
    · skip
      refine kr_aload_n (i := 0) hX dX5_cut_27 rfl rfl ?_
      refine kr_getr (c0 := 5) (k := 1) hX ⟨_, kf_5_15⟩ dX5_cut_28 rfl (by assumption) (by assumption) ?_
      refine kr_iload_n (i := 1) hX dX5_cut_31 rfl rfl ?_
      refine kr_iload_n (i := 3) hX dX5_cut_32 rfl rfl ?_
      refine kr_iast hX dX5_cut_33 (by assumption) (by assumption) ?_
      refine kr_aload_n (i := 0) hX dX5_cut_34 rfl rfl ?_
      refine kr_getr (c0 := 5) (k := 0) hX ⟨_, kf_5_9⟩ dX5_cut_35 rfl (by assumption) (by assumption) ?_
      refine kr_iload_n (i := 1) hX dX5_cut_38 rfl rfl ?_
      refine kr_iald hX dX5_cut_39 (by assumption) (by assumption) ?_
      refine kr_aload_n (i := 0) hX dX5_cut_40 rfl rfl ?_
      refine kr_getr (c0 := 5) (k := 1) hX ⟨_, kf_5_15⟩ dX5_cut_41 rfl (by assumption) (by assumption) ?_
      refine kr_iload_n (i := 1) hX dX5_cut_44 rfl rfl ?_
      refine kr_iald hX dX5_cut_45 (by assumption) (by assumption) ?_
      refine kr_icmp_le (tgt := 64) hX dX5_cut_46 (by decide) (fun c_46 => ?_) (fun c_46 => ?_)
      · skip
        refine kr_vret hX hr dX5_cut_64 ⟨rfl, ?_⟩
        refine ⟨rfl, ?_⟩
        simp only [ks_1 (p := p), ks_2 (p := p), ks_3 (p := p), kg_1 (p := p), kg_2 (p := p), kg_3 (p := p), kg_ks, ks_ks] at *
        simp_all [m_cut, k3_cut, ks_kg3, -Int32.not_le, -Int32.not_lt]
      · skip
        refine kr_aload_n (i := 0) hX dX5_cut_49 rfl rfl ?_
        refine kr_getr (c0 := 5) (k := 0) hX ⟨_, kf_5_9⟩ dX5_cut_50 rfl (by assumption) (by assumption) ?_
        refine kr_iload_n (i := 1) hX dX5_cut_53 rfl rfl ?_
        refine kr_bipush (v := 51) hX dX5_cut_54 (by decide) ?_
        refine kr_iast hX dX5_cut_56 (by assumption) (by assumption) ?_
        refine kr_aload_n (i := 0) hX dX5_cut_57 rfl rfl ?_
        refine kr_getr (c0 := 5) (k := 1) hX ⟨_, kf_5_15⟩ dX5_cut_58 rfl (by assumption) (by assumption) ?_
        refine kr_iload_n (i := 1) hX dX5_cut_61 rfl rfl ?_
        refine kr_iconst (v := (-1)) hX dX5_cut_62 (by decide) ?_
        refine kr_iast hX dX5_cut_63 (by assumption) (by assumption) ?_
        refine kr_vret hX hr dX5_cut_64 ⟨rfl, ?_⟩
        refine ⟨rfl, ?_⟩
        simp only [ks_1 (p := p), ks_2 (p := p), ks_3 (p := p), kg_1 (p := p), kg_2 (p := p), kg_3 (p := p), kg_ks, ks_ks] at *
        simp_all [m_cut, k3_cut, ks_kg3, -Int32.not_le, -Int32.not_lt]
  · skip
    refine kr_aload_n (i := 0) hX dX5_cut_10 rfl rfl ?_
    refine kr_getr (c0 := 5) (k := 0) hX ⟨_, kf_5_9⟩ dX5_cut_11 rfl (by assumption) (by assumption) ?_
    refine kr_iload_n (i := 1) hX dX5_cut_14 rfl rfl ?_
    refine kr_iload_n (i := 2) hX dX5_cut_15 rfl rfl ?_
    refine kr_iast hX dX5_cut_16 (by assumption) (by assumption) ?_
    refine kr_iload_n (i := 3) hX dX5_cut_17 rfl rfl ?_
    refine kr_aload_n (i := 0) hX dX5_cut_18 rfl rfl ?_
    refine kr_getr (c0 := 5) (k := 1) hX ⟨_, kf_5_15⟩ dX5_cut_19 rfl (by assumption) (by assumption) ?_
    refine kr_iload_n (i := 1) hX dX5_cut_22 rfl rfl ?_
    refine kr_iald hX dX5_cut_23 (by assumption) (by assumption) ?_
    refine kr_icmp_ge (tgt := 34) hX dX5_cut_24 (by decide) (fun c_24 => ?_) (fun c_24 => ?_)
    · skip
      refine kr_aload_n (i := 0) hX dX5_cut_34 rfl rfl ?_
      refine kr_getr (c0 := 5) (k := 0) hX ⟨_, kf_5_9⟩ dX5_cut_35 rfl (by assumption) (by assumption) ?_
      refine kr_iload_n (i := 1) hX dX5_cut_38 rfl rfl ?_
      refine kr_iald hX dX5_cut_39 (by assumption) (by assumption) ?_
      refine kr_aload_n (i := 0) hX dX5_cut_40 rfl rfl ?_
      refine kr_getr (c0 := 5) (k := 1) hX ⟨_, kf_5_15⟩ dX5_cut_41 rfl (by assumption) (by assumption) ?_
      refine kr_iload_n (i := 1) hX dX5_cut_44 rfl rfl ?_
      refine kr_iald hX dX5_cut_45 (by assumption) (by assumption) ?_
      refine kr_icmp_le (tgt := 64) hX dX5_cut_46 (by decide) (fun c_46 => ?_) (fun c_46 => ?_)
      · skip
        refine kr_vret hX hr dX5_cut_64 ⟨rfl, ?_⟩
        refine ⟨rfl, ?_⟩
        simp only [ks_1 (p := p), ks_2 (p := p), ks_3 (p := p), kg_1 (p := p), kg_2 (p := p), kg_3 (p := p), kg_ks, ks_ks] at *
        simp_all [m_cut, k3_cut, ks_kg3, -Int32.not_le, -Int32.not_lt]
      · skip
        refine kr_aload_n (i := 0) hX dX5_cut_49 rfl rfl ?_
        refine kr_getr (c0 := 5) (k := 0) hX ⟨_, kf_5_9⟩ dX5_cut_50 rfl (by assumption) (by assumption) ?_
        refine kr_iload_n (i := 1) hX dX5_cut_53 rfl rfl ?_
        refine kr_bipush (v := 51) hX dX5_cut_54 (by decide) ?_
        refine kr_iast hX dX5_cut_56 (by assumption) (by assumption) ?_
        refine kr_aload_n (i := 0) hX dX5_cut_57 rfl rfl ?_
        refine kr_getr (c0 := 5) (k := 1) hX ⟨_, kf_5_15⟩ dX5_cut_58 rfl (by assumption) (by assumption) ?_
        refine kr_iload_n (i := 1) hX dX5_cut_61 rfl rfl ?_
        refine kr_iconst (v := (-1)) hX dX5_cut_62 (by decide) ?_
        refine kr_iast hX dX5_cut_63 (by assumption) (by assumption) ?_
        refine kr_vret hX hr dX5_cut_64 ⟨rfl, ?_⟩
        refine ⟨rfl, ?_⟩
        simp only [ks_1 (p := p), ks_2 (p := p), ks_3 (p := p), kg_1 (p := p), kg_2 (p := p), kg_3 (p := p), kg_ks, ks_ks] at *
        simp_all [m_cut, k3_cut, ks_kg3, -Int32.not_le, -Int32.not_lt]
    · skip
      refine kr_aload_n (i := 0) hX dX5_cut_27 rfl rfl ?_
      refine kr_getr (c0 := 5) (k := 1) hX ⟨_, kf_5_15⟩ dX5_cut_28 rfl (by assumption) (by assumption) ?_
      refine kr_iload_n (i := 1) hX dX5_cut_31 rfl rfl ?_
      refine kr_iload_n (i := 3) hX dX5_cut_32 rfl rfl ?_
      refine kr_iast hX dX5_cut_33 (by assumption) (by assumption) ?_
      refine kr_aload_n (i := 0) hX dX5_cut_34 rfl rfl ?_
      refine kr_getr (c0 := 5) (k := 0) hX ⟨_, kf_5_9⟩ dX5_cut_35 rfl (by assumption) (by assumption) ?_
      refine kr_iload_n (i := 1) hX dX5_cut_38 rfl rfl ?_
      refine kr_iald hX dX5_cut_39 (by assumption) (by assumption) ?_
      refine kr_aload_n (i := 0) hX dX5_cut_40 rfl rfl ?_
      refine kr_getr (c0 := 5) (k := 1) hX ⟨_, kf_5_15⟩ dX5_cut_41 rfl (by assumption) (by assumption) ?_
      refine kr_iload_n (i := 1) hX dX5_cut_44 rfl rfl ?_
      refine kr_iald hX dX5_cut_45 (by assumption) (by assumption) ?_
      refine kr_icmp_le (tgt := 64) hX dX5_cut_46 (by decide) (fun c_46 => ?_) (fun c_46 => ?_)
      · skip
        refine kr_vret hX hr dX5_cut_64 ⟨rfl, ?_⟩
        refine ⟨rfl, ?_⟩
        simp only [ks_1 (p := p), ks_2 (p := p), ks_3 (p := p), kg_1 (p := p), kg_2 (p := p), kg_3 (p := p), kg_ks, ks_ks] at *
        simp_all [m_cut, k3_cut, ks_kg3, -Int32.not_le, -Int32.not_lt]
      · skip
        refine kr_aload_n (i := 0) hX dX5_cut_49 rfl rfl ?_
        refine kr_getr (c0 := 5) (k := 0) hX ⟨_, kf_5_9⟩ dX5_cut_50 rfl (by assumption) (by assumption) ?_
        refine kr_iload_n (i := 1) hX dX5_cut_53 rfl rfl ?_
        refine kr_bipush (v := 51) hX dX5_cut_54 (by decide) ?_
        refine kr_iast hX dX5_cut_56 (by assumption) (by assumption) ?_
        refine kr_aload_n (i := 0) hX dX5_cut_57 rfl rfl ?_
        refine kr_getr (c0 := 5) (k := 1) hX ⟨_, kf_5_15⟩ dX5_cut_58 rfl (by assumption) (by assumption) ?_
        refine kr_iload_n (i := 1) hX dX5_cut_61 rfl rfl ?_
        refine kr_iconst (v := (-1)) hX dX5_cut_62 (by decide) ?_
        refine kr_iast hX dX5_cut_63 (by assumption) (by assumption) ?_
        refine kr_vret hX hr dX5_cut_64 ⟨rfl, ?_⟩
        refine ⟨rfl, ?_⟩
        simp only [ks_1 (p := p), ks_2 (p := p), ks_3 (p := p), kg_1 (p := p), kg_2 (p := p), kg_3 (p := p), kg_ks, ks_ks] at *
        simp_all [m_cut, k3_cut, ks_kg3, -Int32.not_le, -Int32.not_lt]

set_option maxHeartbeats 4000000 in
set_option maxRecDepth 100000 in
theorem sp_setNumbers {G : kt_G} {σ : kt_Y} {μ : kt_M} {p : Nat} (hp : kt_rg σ p) {v f e : Int32} (hv : vp_in v 4) : kt_F G yX5_setNumbers cX5_setNumbers 4 none 0 [.ref p, .int v, .int f, .int e] σ μ (fun r μ2 => r = none ∧ μ2 = m_num μ p v.toNatClampNeg f e) := by
  refine kt_F.of (by decide) (Nat.le_of_ble_eq_true rfl) (fun X hX hr => ?_)
  have hp0 := hp
  obtain ⟨hk0, hr1, hr2, hr3, hk1, hk2, hk3⟩ := hp
  refine kr_aload_n (i := 0) hX dX5_setNumbers_0 rfl rfl ?_
  refine kr_getr (c0 := 5) (k := 0) hX ⟨_, kf_5_9⟩ dX5_setNumbers_1 rfl (by assumption) (by assumption) ?_
  refine kr_iload_n (i := 1) hX dX5_setNumbers_4 rfl rfl ?_
  refine kr_iload_n (i := 2) hX dX5_setNumbers_5 rfl rfl ?_
  refine kr_iast hX dX5_setNumbers_6 (by assumption) (by assumption) ?_
  refine kr_aload_n (i := 0) hX dX5_setNumbers_7 rfl rfl ?_
  refine kr_getr (c0 := 5) (k := 1) hX ⟨_, kf_5_15⟩ dX5_setNumbers_8 rfl (by assumption) (by assumption) ?_
  refine kr_iload_n (i := 1) hX dX5_setNumbers_11 rfl rfl ?_
  refine kr_iload_n (i := 3) hX dX5_setNumbers_12 rfl rfl ?_
  refine kr_iast hX dX5_setNumbers_13 (by assumption) (by assumption) ?_
  refine kr_vret hX hr dX5_setNumbers_14 ⟨rfl, ?_⟩
  exact ⟨rfl, rfl⟩

set_option maxHeartbeats 4000000 in
set_option maxRecDepth 100000 in
theorem sp_setAll {G : kt_G} {σ : kt_Y} {μ : kt_M} {p : Nat} (hp : kt_rg σ p) {c : Int32} (hc : c = 0 ∨ c = 1) : kt_F G yX5_setAll cX5_setAll 3 none 1 [.ref p, .int c] σ μ (fun r μ2 => r = none ∧ μ2 = m_setAll μ p c) := by
  refine kt_F.of (by decide) (Nat.le_of_ble_eq_true rfl) (fun X hX hr => ?_)
  have hp0 := hp
  obtain ⟨hk0, hr1, hr2, hr3, hk1, hk2, hk3⟩ := hp
  refine kr_iconst (v := 0) hX dX5_setAll_0 (by decide) ?_
  refine kr_istore_n (i := 2) hX dX5_setAll_1 rfl (by decide) rfl rfl ?_
  refine kr_iload_n (i := 2) hX dX5_setAll_2 rfl rfl ?_
  refine kr_iconst (v := 4) hX dX5_setAll_3 (by decide) ?_
  refine kr_icmp_ge (tgt := 28) hX dX5_setAll_4 (by decide) (fun c_4 => ?_) (fun c_4 => ?_)
  · skip
    exact absurd c_4 (by decide)
  · skip
    refine kr_aload_n (i := 0) hX dX5_setAll_7 rfl rfl ?_
    refine kr_iload_n (i := 2) hX dX5_setAll_8 rfl rfl ?_
    refine kr_bipush (v := 51) hX dX5_setAll_9 (by decide) ?_
    refine kr_iconst (v := (-1)) hX dX5_setAll_11 (by decide) ?_
    refine kr_dV (c1 := 5) [_, _, _] hX km_5_22 dX5_setAll_12 (sp_setNumbers hp0 (by unfold vp_in; decide)) rfl rfl ⟨_, _, rfl⟩ (by decide) (Nat.le_of_ble_eq_true rfl) (Nat.le_refl _) (Nat.le_refl _) (by assumption) ?_
    refine kr_aload_n (i := 0) hX dX5_setAll_15 rfl rfl ?_
    refine kr_getr (c0 := 5) (k := 2) hX ⟨_, kf_5_18⟩ dX5_setAll_16 rfl (by assumption) (by assumption) ?_
    refine kr_iload_n (i := 2) hX dX5_setAll_19 rfl rfl ?_
    refine kr_iload_n (i := 1) hX dX5_setAll_20 rfl rfl ?_
    refine kr_bast hX dX5_setAll_21 (by first | exact Or.inl rfl | exact Or.inr rfl | assumption) (by assumption) (by unfold vp_in; decide) ?_
    refine kr_iinc (v := 1) hX dX5_setAll_22 rfl (by decide) (by decide) rfl rfl ?_
    refine kr_goto (tgt := 2) hX dX5_setAll_25 (by decide) ?_
    refine kr_iload_n (i := 2) hX dX5_setAll_2 rfl rfl ?_
    refine kr_iconst (v := 4) hX dX5_setAll_3 (by decide) ?_
    refine kr_icmp_ge (tgt := 28) hX dX5_setAll_4 (by decide) (fun c_4 => ?_) (fun c_4 => ?_)
    · skip
      exact absurd c_4 (by decide)
    · skip
      refine kr_aload_n (i := 0) hX dX5_setAll_7 rfl rfl ?_
      refine kr_iload_n (i := 2) hX dX5_setAll_8 rfl rfl ?_
      refine kr_bipush (v := 51) hX dX5_setAll_9 (by decide) ?_
      refine kr_iconst (v := (-1)) hX dX5_setAll_11 (by decide) ?_
      refine kr_dV (c1 := 5) [_, _, _] hX km_5_22 dX5_setAll_12 (sp_setNumbers hp0 (by unfold vp_in; decide)) rfl rfl ⟨_, _, rfl⟩ (by decide) (Nat.le_of_ble_eq_true rfl) (Nat.le_refl _) (Nat.le_refl _) (by assumption) ?_
      refine kr_aload_n (i := 0) hX dX5_setAll_15 rfl rfl ?_
      refine kr_getr (c0 := 5) (k := 2) hX ⟨_, kf_5_18⟩ dX5_setAll_16 rfl (by assumption) (by assumption) ?_
      refine kr_iload_n (i := 2) hX dX5_setAll_19 rfl rfl ?_
      refine kr_iload_n (i := 1) hX dX5_setAll_20 rfl rfl ?_
      refine kr_bast hX dX5_setAll_21 (by first | exact Or.inl rfl | exact Or.inr rfl | assumption) (by assumption) (by unfold vp_in; decide) ?_
      refine kr_iinc (v := 2) hX dX5_setAll_22 rfl (by decide) (by decide) rfl rfl ?_
      refine kr_goto (tgt := 2) hX dX5_setAll_25 (by decide) ?_
      refine kr_iload_n (i := 2) hX dX5_setAll_2 rfl rfl ?_
      refine kr_iconst (v := 4) hX dX5_setAll_3 (by decide) ?_
      refine kr_icmp_ge (tgt := 28) hX dX5_setAll_4 (by decide) (fun c_4 => ?_) (fun c_4 => ?_)
      · skip
        exact absurd c_4 (by decide)
      · skip
        refine kr_aload_n (i := 0) hX dX5_setAll_7 rfl rfl ?_
        refine kr_iload_n (i := 2) hX dX5_setAll_8 rfl rfl ?_
        refine kr_bipush (v := 51) hX dX5_setAll_9 (by decide) ?_
        refine kr_iconst (v := (-1)) hX dX5_setAll_11 (by decide) ?_
        refine kr_dV (c1 := 5) [_, _, _] hX km_5_22 dX5_setAll_12 (sp_setNumbers hp0 (by unfold vp_in; decide)) rfl rfl ⟨_, _, rfl⟩ (by decide) (Nat.le_of_ble_eq_true rfl) (Nat.le_refl _) (Nat.le_refl _) (by assumption) ?_
        refine kr_aload_n (i := 0) hX dX5_setAll_15 rfl rfl ?_
        refine kr_getr (c0 := 5) (k := 2) hX ⟨_, kf_5_18⟩ dX5_setAll_16 rfl (by assumption) (by assumption) ?_
        refine kr_iload_n (i := 2) hX dX5_setAll_19 rfl rfl ?_
        refine kr_iload_n (i := 1) hX dX5_setAll_20 rfl rfl ?_
        refine kr_bast hX dX5_setAll_21 (by first | exact Or.inl rfl | exact Or.inr rfl | assumption) (by assumption) (by unfold vp_in; decide) ?_
        refine kr_iinc (v := 3) hX dX5_setAll_22 rfl (by decide) (by decide) rfl rfl ?_
        refine kr_goto (tgt := 2) hX dX5_setAll_25 (by decide) ?_
        refine kr_iload_n (i := 2) hX dX5_setAll_2 rfl rfl ?_
        refine kr_iconst (v := 4) hX dX5_setAll_3 (by decide) ?_
        refine kr_icmp_ge (tgt := 28) hX dX5_setAll_4 (by decide) (fun c_4 => ?_) (fun c_4 => ?_)
        · skip
          exact absurd c_4 (by decide)
        · skip
          refine kr_aload_n (i := 0) hX dX5_setAll_7 rfl rfl ?_
          refine kr_iload_n (i := 2) hX dX5_setAll_8 rfl rfl ?_
          refine kr_bipush (v := 51) hX dX5_setAll_9 (by decide) ?_
          refine kr_iconst (v := (-1)) hX dX5_setAll_11 (by decide) ?_
          refine kr_dV (c1 := 5) [_, _, _] hX km_5_22 dX5_setAll_12 (sp_setNumbers hp0 (by unfold vp_in; decide)) rfl rfl ⟨_, _, rfl⟩ (by decide) (Nat.le_of_ble_eq_true rfl) (Nat.le_refl _) (Nat.le_refl _) (by assumption) ?_
          refine kr_aload_n (i := 0) hX dX5_setAll_15 rfl rfl ?_
          refine kr_getr (c0 := 5) (k := 2) hX ⟨_, kf_5_18⟩ dX5_setAll_16 rfl (by assumption) (by assumption) ?_
          refine kr_iload_n (i := 2) hX dX5_setAll_19 rfl rfl ?_
          refine kr_iload_n (i := 1) hX dX5_setAll_20 rfl rfl ?_
          refine kr_bast hX dX5_setAll_21 (by first | exact Or.inl rfl | exact Or.inr rfl | assumption) (by assumption) (by unfold vp_in; decide) ?_
          refine kr_iinc (v := 4) hX dX5_setAll_22 rfl (by decide) (by decide) rfl rfl ?_
          refine kr_goto (tgt := 2) hX dX5_setAll_25 (by decide) ?_
          refine kr_iload_n (i := 2) hX dX5_setAll_2 rfl rfl ?_
          refine kr_iconst (v := 4) hX dX5_setAll_3 (by decide) ?_
          refine kr_icmp_ge (tgt := 28) hX dX5_setAll_4 (by decide) (fun c_4 => ?_) (fun c_4 => ?_)
          · skip
            refine kr_vret hX hr dX5_setAll_28 ⟨rfl, ?_⟩
            exact ⟨rfl, rfl⟩
          · skip
            exact absurd c_4 (by decide)

set_option maxHeartbeats 4000000 in
set_option maxRecDepth 100000 in
theorem sp_cpv {G : kt_G} {σ : kt_Y} {μ : kt_M} {p : Nat} (hp : kt_rg σ p) {q : Nat} (hq : kt_rg σ q) (hne : q = p ∨ p + 4 ≤ q ∨ q + 4 ≤ p) (hb : kt_01 μ (q + 3)) {v w : Int32} (hv : vp_in v 4) (hw : vp_in w 4) : kt_F G yX5_copyVariable cX5_copyVariable 4 none 0 [.ref p, .int v, .ref q, .int w] σ μ (fun r μ2 => r = none ∧ μ2 = m_cpv μ p v.toNatClampNeg q w.toNatClampNeg) := by
  refine kt_F.of (by decide) (Nat.le_of_ble_eq_true rfl) (fun X hX hr => ?_)
  have hp0 := hp
  obtain ⟨hk0, hr1, hr2, hr3, hk1, hk2, hk3⟩ := hp
  obtain ⟨gk0, gr1, gr2, gr3, gk1, gk2, gk3⟩ := hq
  refine kr_aload_n (i := 0) hX dX5_copyVariable_0 rfl rfl ?_
  refine kr_getr (c0 := 5) (k := 0) hX ⟨_, kf_5_9⟩ dX5_copyVariable_1 rfl (by assumption) (by assumption) ?_
  refine kr_iload_n (i := 1) hX dX5_copyVariable_4 rfl rfl ?_
  refine kr_aload_n (i := 2) hX dX5_copyVariable_5 rfl rfl ?_
  refine kr_getr (c0 := 5) (k := 0) hX ⟨_, kf_5_9⟩ dX5_copyVariable_6 rfl (by assumption) (by assumption) ?_
  refine kr_iload_n (i := 3) hX dX5_copyVariable_9 rfl rfl ?_
  refine kr_iald hX dX5_copyVariable_10 (by assumption) (by assumption) ?_
  refine kr_iast hX dX5_copyVariable_11 (by assumption) (by assumption) ?_
  refine kr_aload_n (i := 0) hX dX5_copyVariable_12 rfl rfl ?_
  refine kr_getr (c0 := 5) (k := 1) hX ⟨_, kf_5_15⟩ dX5_copyVariable_13 rfl (by assumption) (by assumption) ?_
  refine kr_iload_n (i := 1) hX dX5_copyVariable_16 rfl rfl ?_
  refine kr_aload_n (i := 2) hX dX5_copyVariable_17 rfl rfl ?_
  refine kr_getr (c0 := 5) (k := 1) hX ⟨_, kf_5_15⟩ dX5_copyVariable_18 rfl (by assumption) (by assumption) ?_
  refine kr_iload_n (i := 3) hX dX5_copyVariable_21 rfl rfl ?_
  refine kr_iald hX dX5_copyVariable_22 (by assumption) (by assumption) ?_
  refine kr_rw (y := kt_i μ (q + 2) w.toNatClampNeg) (by (repeat (rw [kt_i_sin (by omega)]))) ?_
  refine kr_iast hX dX5_copyVariable_23 (by assumption) (by assumption) ?_
  refine kr_aload_n (i := 0) hX dX5_copyVariable_24 rfl rfl ?_
  refine kr_getr (c0 := 5) (k := 2) hX ⟨_, kf_5_18⟩ dX5_copyVariable_25 rfl (by assumption) (by assumption) ?_
  refine kr_iload_n (i := 1) hX dX5_copyVariable_28 rfl rfl ?_
  refine kr_aload_n (i := 2) hX dX5_copyVariable_29 rfl rfl ?_
  refine kr_getr (c0 := 5) (k := 2) hX ⟨_, kf_5_18⟩ dX5_copyVariable_30 rfl (by assumption) (by assumption) ?_
  refine kr_iload_n (i := 3) hX dX5_copyVariable_33 rfl rfl ?_
  refine kr_bald hX dX5_copyVariable_34 (by assumption) (by assumption) ?_
  refine kr_rw (y := kt_i μ (q + 3) w.toNatClampNeg) (by (repeat (rw [kt_i_sin (by omega)]))) ?_
  refine kr_bast hX dX5_copyVariable_35 (hb _) (by assumption) (by assumption) ?_
  refine kr_vret hX hr dX5_copyVariable_36 ⟨rfl, ?_⟩
  exact ⟨rfl, rfl⟩

set_option maxHeartbeats 4000000 in
set_option maxRecDepth 100000 in
theorem sp_shift {G : kt_G} {σ : kt_Y} {μ : kt_M} {p : Nat} (hp : kt_rg σ p) {v b : Int32} (hv : vp_in v 4) : kt_F G yX5_shift cX5_shift 3 none 1 [.ref p, .int v, .int b] σ μ (fun r μ2 => r = none ∧ μ2 = m_shift μ p v.toNatClampNeg b) := by
  refine kt_F.of (by decide) (Nat.le_of_ble_eq_true rfl) (fun X hX hr => ?_)
  have hp0 := hp
  obtain ⟨hk0, hr1, hr2, hr3, hk1, hk2, hk3⟩ := hp
  refine kr_aload_n (i := 0) hX dX5_shift_0 rfl rfl ?_
  refine kr_getr (c0 := 5) (k := 0) hX ⟨_, kf_5_9⟩ dX5_shift_1 rfl (by assumption) (by assumption) ?_
  refine kr_iload_n (i := 1) hX dX5_shift_4 rfl rfl ?_
  refine kr_iald hX dX5_shift_5 (by assumption) (by assumption) ?_
  refine kr_aload_n (i := 0) hX dX5_shift_6 rfl rfl ?_
  refine kr_getr (c0 := 5) (k := 1) hX ⟨_, kf_5_15⟩ dX5_shift_7 rfl (by assumption) (by assumption) ?_
  refine kr_iload_n (i := 1) hX dX5_shift_10 rfl rfl ?_
  refine kr_iald hX dX5_shift_11 (by assumption) (by assumption) ?_
  refine kr_icmp_gt (tgt := 61) hX dX5_shift_12 (by decide) (fun c_12 => ?_) (fun c_12 => ?_)
  · skip
    refine kr_vret hX hr dX5_shift_61 ⟨rfl, ?_⟩
    refine ⟨rfl, ?_⟩
    simp_all [m_shift, m_num, k_cl, k_max, k_min, -Int32.not_le, -Int32.not_lt] <;> rfl
  · skip
    refine kr_aload_n (i := 0) hX dX5_shift_15 rfl rfl ?_
    refine kr_getr (c0 := 5) (k := 0) hX ⟨_, kf_5_9⟩ dX5_shift_16 rfl (by assumption) (by assumption) ?_
    refine kr_iload_n (i := 1) hX dX5_shift_19 rfl rfl ?_
    refine kr_iconst (v := 0) hX dX5_shift_20 (by decide) ?_
    refine kr_bipush (v := 50) hX dX5_shift_21 (by decide) ?_
    refine kr_aload_n (i := 0) hX dX5_shift_23 rfl rfl ?_
    refine kr_getr (c0 := 5) (k := 0) hX ⟨_, kf_5_9⟩ dX5_shift_24 rfl (by assumption) (by assumption) ?_
    refine kr_iload_n (i := 1) hX dX5_shift_27 rfl rfl ?_
    refine kr_iald hX dX5_shift_28 (by assumption) (by assumption) ?_
    refine kr_iload_n (i := 2) hX dX5_shift_29 rfl rfl ?_
    refine kr_iadd hX dX5_shift_30 ?_
    refine kr_mmin hX kw_613 dX5_shift_31 (Nat.le_of_ble_eq_true rfl) (Nat.le_refl _) (Nat.le_refl _) ?_
    refine kr_mmax hX kw_616 dX5_shift_34 (Nat.le_of_ble_eq_true rfl) (Nat.le_refl _) (Nat.le_refl _) ?_
    refine kr_iast hX dX5_shift_37 (by assumption) (by assumption) ?_
    refine kr_aload_n (i := 0) hX dX5_shift_38 rfl rfl ?_
    refine kr_getr (c0 := 5) (k := 1) hX ⟨_, kf_5_15⟩ dX5_shift_39 rfl (by assumption) (by assumption) ?_
    refine kr_iload_n (i := 1) hX dX5_shift_42 rfl rfl ?_
    refine kr_iconst (v := 0) hX dX5_shift_43 (by decide) ?_
    refine kr_bipush (v := 50) hX dX5_shift_44 (by decide) ?_
    refine kr_aload_n (i := 0) hX dX5_shift_46 rfl rfl ?_
    refine kr_getr (c0 := 5) (k := 1) hX ⟨_, kf_5_15⟩ dX5_shift_47 rfl (by assumption) (by assumption) ?_
    refine kr_iload_n (i := 1) hX dX5_shift_50 rfl rfl ?_
    refine kr_iald hX dX5_shift_51 (by assumption) (by assumption) ?_
    refine kr_rw (y := kt_i μ (p + 2) v.toNatClampNeg) (by (repeat (rw [kt_i_sin (by omega)]))) ?_
    refine kr_iload_n (i := 2) hX dX5_shift_52 rfl rfl ?_
    refine kr_iadd hX dX5_shift_53 ?_
    refine kr_mmin hX kw_613 dX5_shift_54 (Nat.le_of_ble_eq_true rfl) (Nat.le_refl _) (Nat.le_refl _) ?_
    refine kr_mmax hX kw_616 dX5_shift_57 (Nat.le_of_ble_eq_true rfl) (Nat.le_refl _) (Nat.le_refl _) ?_
    refine kr_iast hX dX5_shift_60 (by assumption) (by assumption) ?_
    refine kr_vret hX hr dX5_shift_61 ⟨rfl, ?_⟩
    refine ⟨rfl, ?_⟩
    simp_all [m_shift, m_num, k_cl, k_max, k_min, -Int32.not_le, -Int32.not_lt] <;> rfl

set_option maxHeartbeats 4000000 in
set_option maxRecDepth 100000 in
theorem sp_lessN {G : kt_G} {σ : kt_Y} {μ : kt_M} {p : Nat} (hp : kt_rg σ p) {v x s : Int32} (hv : vp_in v 4) : kt_F G yX5_lessNumber cX5_lessNumber 4 none 1 [.ref p, .int v, .int x, .int s] σ μ (fun r μ2 => r = none ∧ μ2 = m_lessN μ p v.toNatClampNeg x s) := by
  refine kt_F.of (by decide) (Nat.le_of_ble_eq_true rfl) (fun X hX hr => ?_)
  have hp0 := hp
  obtain ⟨hk0, hr1, hr2, hr3, hk1, hk2, hk3⟩ := hp
  refine kr_iload_n (i := 3) hX dX5_lessNumber_0 rfl rfl ?_
  refine kr_if_ne (tgt := 23) hX dX5_lessNumber_1 (by decide) (fun c_1 => ?_) (fun c_1 => ?_)
  · skip
    refine kr_aload_n (i := 0) hX dX5_lessNumber_23 rfl rfl ?_
    refine kr_iload_n (i := 1) hX dX5_lessNumber_24 rfl rfl ?_
    refine kr_iload_n (i := 2) hX dX5_lessNumber_25 rfl rfl ?_
    refine kr_bipush (v := 50) hX dX5_lessNumber_26 (by decide) ?_
    refine kr_dV (c1 := 5) [_, _, _] hX km_5_94 dX5_lessNumber_28 (sp_cut hp0 (by assumption)) rfl rfl ⟨_, _, rfl⟩ (by decide) (Nat.le_of_ble_eq_true rfl) (Nat.le_refl _) (Nat.le_refl _) (by assumption) ?_
    refine kr_vret hX hr dX5_lessNumber_31 ⟨rfl, ?_⟩
    refine ⟨rfl, ?_⟩
    simp_all [m_lessN, m_eqN, m_lessV, m_eqV, m_nil, k_max, k_min]
  · skip
    refine kr_aload_n (i := 0) hX dX5_lessNumber_4 rfl rfl ?_
    refine kr_iload_n (i := 1) hX dX5_lessNumber_5 rfl rfl ?_
    refine kr_iconst (v := 0) hX dX5_lessNumber_6 (by decide) ?_
    refine kr_iload_n (i := 2) hX dX5_lessNumber_7 rfl rfl ?_
    refine kr_iconst (v := 1) hX dX5_lessNumber_8 (by decide) ?_
    refine kr_isub hX dX5_lessNumber_9 ?_
    refine kr_dV (c1 := 5) [_, _, _] hX km_5_94 dX5_lessNumber_10 (sp_cut hp0 (by assumption)) rfl rfl ⟨_, _, rfl⟩ (by decide) (Nat.le_of_ble_eq_true rfl) (Nat.le_refl _) (Nat.le_refl _) (by assumption) ?_
    refine kr_aload_n (i := 0) hX dX5_lessNumber_13 rfl rfl ?_
    refine kr_getr (c0 := 5) (k := 2) hX ⟨_, kf_5_18⟩ dX5_lessNumber_14 rfl (by assumption) (by assumption) ?_
    refine kr_iload_n (i := 1) hX dX5_lessNumber_17 rfl rfl ?_
    refine kr_iconst (v := 0) hX dX5_lessNumber_18 (by decide) ?_
    refine kr_bast hX dX5_lessNumber_19 (by first | exact Or.inl rfl | exact Or.inr rfl | assumption) (by assumption) (by assumption) ?_
    refine kr_goto (tgt := 31) hX dX5_lessNumber_20 (by decide) ?_
    refine kr_vret hX hr dX5_lessNumber_31 ⟨rfl, ?_⟩
    refine ⟨rfl, ?_⟩
    simp_all [m_lessN, m_eqN, m_lessV, m_eqV, m_nil, k_max, k_min]

set_option maxHeartbeats 4000000 in
set_option maxRecDepth 100000 in
theorem sp_eqN {G : kt_G} {σ : kt_Y} {μ : kt_M} {p : Nat} (hp : kt_rg σ p) {v x s : Int32} (hv : vp_in v 4) : kt_F G yX5_equalNumber cX5_equalNumber 4 none 1 [.ref p, .int v, .int x, .int s] σ μ (fun r μ2 => r = none ∧ μ2 = m_eqN μ p v.toNatClampNeg x s) := by
  refine kt_F.of (by decide) (Nat.le_of_ble_eq_true rfl) (fun X hX hr => ?_)
  have hp0 := hp
  obtain ⟨hk0, hr1, hr2, hr3, hk1, hk2, hk3⟩ := hp
  refine kr_iload_n (i := 3) hX dX5_equalNumber_0 rfl rfl ?_
  refine kr_if_ne (tgt := 21) hX dX5_equalNumber_1 (by decide) (fun c_1 => ?_) (fun c_1 => ?_)
  · skip
    refine kr_aload_n (i := 0) hX dX5_equalNumber_21 rfl rfl ?_
    refine kr_getr (c0 := 5) (k := 0) hX ⟨_, kf_5_9⟩ dX5_equalNumber_22 rfl (by assumption) (by assumption) ?_
    refine kr_iload_n (i := 1) hX dX5_equalNumber_25 rfl rfl ?_
    refine kr_iald hX dX5_equalNumber_26 (by assumption) (by assumption) ?_
    refine kr_iload_n (i := 2) hX dX5_equalNumber_27 rfl rfl ?_
    refine kr_icmp_ne (tgt := 44) hX dX5_equalNumber_28 (by decide) (fun c_28 => ?_) (fun c_28 => ?_)
    · skip
      refine kr_aload_n (i := 0) hX dX5_equalNumber_44 rfl rfl ?_
      refine kr_getr (c0 := 5) (k := 1) hX ⟨_, kf_5_15⟩ dX5_equalNumber_45 rfl (by assumption) (by assumption) ?_
      refine kr_iload_n (i := 1) hX dX5_equalNumber_48 rfl rfl ?_
      refine kr_iald hX dX5_equalNumber_49 (by assumption) (by assumption) ?_
      refine kr_iload_n (i := 2) hX dX5_equalNumber_50 rfl rfl ?_
      refine kr_icmp_ne (tgt := 63) hX dX5_equalNumber_51 (by decide) (fun c_51 => ?_) (fun c_51 => ?_)
      · skip
        refine kr_vret hX hr dX5_equalNumber_63 ⟨rfl, ?_⟩
        refine ⟨rfl, ?_⟩
        simp_all [m_lessN, m_eqN, m_lessV, m_eqV, m_nil, k_max, k_min]
      · skip
        refine kr_aload_n (i := 0) hX dX5_equalNumber_54 rfl rfl ?_
        refine kr_iload_n (i := 1) hX dX5_equalNumber_55 rfl rfl ?_
        refine kr_iconst (v := 0) hX dX5_equalNumber_56 (by decide) ?_
        refine kr_iload_n (i := 2) hX dX5_equalNumber_57 rfl rfl ?_
        refine kr_iconst (v := 1) hX dX5_equalNumber_58 (by decide) ?_
        refine kr_isub hX dX5_equalNumber_59 ?_
        refine kr_dV (c1 := 5) [_, _, _] hX km_5_94 dX5_equalNumber_60 (sp_cut hp0 (by assumption)) rfl rfl ⟨_, _, rfl⟩ (by decide) (Nat.le_of_ble_eq_true rfl) (Nat.le_refl _) (Nat.le_refl _) (by assumption) ?_
        refine kr_vret hX hr dX5_equalNumber_63 ⟨rfl, ?_⟩
        refine ⟨rfl, ?_⟩
        simp_all [m_lessN, m_eqN, m_lessV, m_eqV, m_nil, k_max, k_min]
    · skip
      refine kr_aload_n (i := 0) hX dX5_equalNumber_31 rfl rfl ?_
      refine kr_iload_n (i := 1) hX dX5_equalNumber_32 rfl rfl ?_
      refine kr_iload_n (i := 2) hX dX5_equalNumber_33 rfl rfl ?_
      refine kr_iconst (v := 1) hX dX5_equalNumber_34 (by decide) ?_
      refine kr_iadd hX dX5_equalNumber_35 ?_
      refine kr_bipush (v := 50) hX dX5_equalNumber_36 (by decide) ?_
      refine kr_dV (c1 := 5) [_, _, _] hX km_5_94 dX5_equalNumber_38 (sp_cut hp0 (by assumption)) rfl rfl ⟨_, _, rfl⟩ (by decide) (Nat.le_of_ble_eq_true rfl) (Nat.le_refl _) (Nat.le_refl _) (by assumption) ?_
      refine kr_goto (tgt := 63) hX dX5_equalNumber_41 (by decide) ?_
      refine kr_vret hX hr dX5_equalNumber_63 ⟨rfl, ?_⟩
      refine ⟨rfl, ?_⟩
      simp_all [m_lessN, m_eqN, m_lessV, m_eqV, m_nil, k_max, k_min]
  · skip
    refine kr_aload_n (i := 0) hX dX5_equalNumber_4 rfl rfl ?_
    refine kr_iload_n (i := 1) hX dX5_equalNumber_5 rfl rfl ?_
    refine kr_iload_n (i := 2) hX dX5_equalNumber_6 rfl rfl ?_
    refine kr_iload_n (i := 2) hX dX5_equalNumber_7 rfl rfl ?_
    refine kr_dV (c1 := 5) [_, _, _] hX km_5_94 dX5_equalNumber_8 (sp_cut hp0 (by assumption)) rfl rfl ⟨_, _, rfl⟩ (by decide) (Nat.le_of_ble_eq_true rfl) (Nat.le_refl _) (Nat.le_refl _) (by assumption) ?_
    refine kr_aload_n (i := 0) hX dX5_equalNumber_11 rfl rfl ?_
    refine kr_getr (c0 := 5) (k := 2) hX ⟨_, kf_5_18⟩ dX5_equalNumber_12 rfl (by assumption) (by assumption) ?_
    refine kr_iload_n (i := 1) hX dX5_equalNumber_15 rfl rfl ?_
    refine kr_iconst (v := 0) hX dX5_equalNumber_16 (by decide) ?_
    refine kr_bast hX dX5_equalNumber_17 (by first | exact Or.inl rfl | exact Or.inr rfl | assumption) (by assumption) (by assumption) ?_
    refine kr_goto (tgt := 63) hX dX5_equalNumber_18 (by decide) ?_
    refine kr_vret hX hr dX5_equalNumber_63 ⟨rfl, ?_⟩
    refine ⟨rfl, ?_⟩
    simp_all [m_lessN, m_eqN, m_lessV, m_eqV, m_nil, k_max, k_min]

set_option maxHeartbeats 4000000 in
set_option maxRecDepth 100000 in
theorem sp_lessV {G : kt_G} {σ : kt_Y} {μ : kt_M} {p : Nat} (hp : kt_rg σ p) {v x s : Int32} (hv : vp_in v 4) (hx : vp_in x 4) : kt_F G yX5_lessVariable cX5_lessVariable 6 none 1 [.ref p, .int v, .int x, .int s] σ μ (fun r μ2 => r = none ∧ μ2 = m_lessV μ p v.toNatClampNeg x.toNatClampNeg s) := by
  refine kt_F.of (by decide) (Nat.le_of_ble_eq_true rfl) (fun X hX hr => ?_)
  have hp0 := hp
  obtain ⟨hk0, hr1, hr2, hr3, hk1, hk2, hk3⟩ := hp
  refine kr_iload_n (i := 3) hX dX5_lessVariable_0 rfl rfl ?_
  refine kr_if_ne (tgt := 58) hX dX5_lessVariable_1 (by decide) (fun c_1 => ?_) (fun c_1 => ?_)
  · skip
    refine kr_aload_n (i := 0) hX dX5_lessVariable_58 rfl rfl ?_
    refine kr_getr (c0 := 5) (k := 2) hX ⟨_, kf_5_18⟩ dX5_lessVariable_59 rfl (by assumption) (by assumption) ?_
    refine kr_iload_n (i := 1) hX dX5_lessVariable_62 rfl rfl ?_
    refine kr_bald hX dX5_lessVariable_63 (by assumption) (by assumption) ?_
    refine kr_if_ne (tgt := 109) hX dX5_lessVariable_64 (by decide) (fun c_64 => ?_) (fun c_64 => ?_)
    · skip
      refine kr_vret hX hr dX5_lessVariable_109 ⟨rfl, ?_⟩
      refine ⟨rfl, ?_⟩
      simp_all [m_lessN, m_eqN, m_lessV, m_eqV, m_nil, k_max, k_min]
    · skip
      refine kr_aload_n (i := 0) hX dX5_lessVariable_67 rfl rfl ?_
      refine kr_getr (c0 := 5) (k := 2) hX ⟨_, kf_5_18⟩ dX5_lessVariable_68 rfl (by assumption) (by assumption) ?_
      refine kr_iload_n (i := 2) hX dX5_lessVariable_71 rfl rfl ?_
      refine kr_bald hX dX5_lessVariable_72 (by assumption) (by assumption) ?_
      refine kr_if_ne (tgt := 109) hX dX5_lessVariable_73 (by decide) (fun c_73 => ?_) (fun c_73 => ?_)
      · skip
        refine kr_vret hX hr dX5_lessVariable_109 ⟨rfl, ?_⟩
        refine ⟨rfl, ?_⟩
        simp_all [m_lessN, m_eqN, m_lessV, m_eqV, m_nil, k_max, k_min]
      · skip
        refine kr_aload_n (i := 0) hX dX5_lessVariable_76 rfl rfl ?_
        refine kr_getr (c0 := 5) (k := 0) hX ⟨_, kf_5_9⟩ dX5_lessVariable_77 rfl (by assumption) (by assumption) ?_
        refine kr_iload_n (i := 2) hX dX5_lessVariable_80 rfl rfl ?_
        refine kr_iald hX dX5_lessVariable_81 (by assumption) (by assumption) ?_
        refine kr_istore hX dX5_lessVariable_82 (by decide) rfl rfl ?_
        refine kr_aload_n (i := 0) hX dX5_lessVariable_84 rfl rfl ?_
        refine kr_getr (c0 := 5) (k := 1) hX ⟨_, kf_5_15⟩ dX5_lessVariable_85 rfl (by assumption) (by assumption) ?_
        refine kr_iload_n (i := 1) hX dX5_lessVariable_88 rfl rfl ?_
        refine kr_iald hX dX5_lessVariable_89 (by assumption) (by assumption) ?_
        refine kr_istore hX dX5_lessVariable_90 (by decide) rfl rfl ?_
        refine kr_aload_n (i := 0) hX dX5_lessVariable_92 rfl rfl ?_
        refine kr_iload_n (i := 1) hX dX5_lessVariable_93 rfl rfl ?_
        refine kr_iload hX dX5_lessVariable_94 rfl ?_
        refine kr_bipush (v := 50) hX dX5_lessVariable_96 (by decide) ?_
        refine kr_dV (c1 := 5) [_, _, _] hX km_5_94 dX5_lessVariable_98 (sp_cut hp0 (by assumption)) rfl rfl ⟨_, _, rfl⟩ (by decide) (Nat.le_of_ble_eq_true rfl) (Nat.le_refl _) (Nat.le_refl _) (by assumption) ?_
        refine kr_aload_n (i := 0) hX dX5_lessVariable_101 rfl rfl ?_
        refine kr_iload_n (i := 2) hX dX5_lessVariable_102 rfl rfl ?_
        refine kr_iconst (v := 0) hX dX5_lessVariable_103 (by decide) ?_
        refine kr_iload hX dX5_lessVariable_104 rfl ?_
        refine kr_dV (c1 := 5) [_, _, _] hX km_5_94 dX5_lessVariable_106 (sp_cut hp0 (by assumption)) rfl rfl ⟨_, _, rfl⟩ (by decide) (Nat.le_of_ble_eq_true rfl) (Nat.le_refl _) (Nat.le_refl _) (by assumption) ?_
        refine kr_vret hX hr dX5_lessVariable_109 ⟨rfl, ?_⟩
        refine ⟨rfl, ?_⟩
        simp_all [m_lessN, m_eqN, m_lessV, m_eqV, m_nil, k_max, k_min]
  · skip
    refine kr_aload_n (i := 0) hX dX5_lessVariable_4 rfl rfl ?_
    refine kr_getr (c0 := 5) (k := 0) hX ⟨_, kf_5_9⟩ dX5_lessVariable_5 rfl (by assumption) (by assumption) ?_
    refine kr_iload_n (i := 1) hX dX5_lessVariable_8 rfl rfl ?_
    refine kr_iald hX dX5_lessVariable_9 (by assumption) (by assumption) ?_
    refine kr_iconst (v := 1) hX dX5_lessVariable_10 (by decide) ?_
    refine kr_iadd hX dX5_lessVariable_11 ?_
    refine kr_istore hX dX5_lessVariable_12 (by decide) rfl rfl ?_
    refine kr_aload_n (i := 0) hX dX5_lessVariable_14 rfl rfl ?_
    refine kr_getr (c0 := 5) (k := 1) hX ⟨_, kf_5_15⟩ dX5_lessVariable_15 rfl (by assumption) (by assumption) ?_
    refine kr_iload_n (i := 2) hX dX5_lessVariable_18 rfl rfl ?_
    refine kr_iald hX dX5_lessVariable_19 (by assumption) (by assumption) ?_
    refine kr_iconst (v := 1) hX dX5_lessVariable_20 (by decide) ?_
    refine kr_isub hX dX5_lessVariable_21 ?_
    refine kr_istore hX dX5_lessVariable_22 (by decide) rfl rfl ?_
    refine kr_aload_n (i := 0) hX dX5_lessVariable_24 rfl rfl ?_
    refine kr_iload_n (i := 1) hX dX5_lessVariable_25 rfl rfl ?_
    refine kr_iconst (v := 0) hX dX5_lessVariable_26 (by decide) ?_
    refine kr_iload hX dX5_lessVariable_27 rfl ?_
    refine kr_dV (c1 := 5) [_, _, _] hX km_5_94 dX5_lessVariable_29 (sp_cut hp0 (by assumption)) rfl rfl ⟨_, _, rfl⟩ (by decide) (Nat.le_of_ble_eq_true rfl) (Nat.le_refl _) (Nat.le_refl _) (by assumption) ?_
    refine kr_aload_n (i := 0) hX dX5_lessVariable_32 rfl rfl ?_
    refine kr_iload_n (i := 2) hX dX5_lessVariable_33 rfl rfl ?_
    refine kr_iload hX dX5_lessVariable_34 rfl ?_
    refine kr_bipush (v := 50) hX dX5_lessVariable_36 (by decide) ?_
    refine kr_dV (c1 := 5) [_, _, _] hX km_5_94 dX5_lessVariable_38 (sp_cut hp0 (by assumption)) rfl rfl ⟨_, _, rfl⟩ (by decide) (Nat.le_of_ble_eq_true rfl) (Nat.le_refl _) (Nat.le_refl _) (by assumption) ?_
    refine kr_aload_n (i := 0) hX dX5_lessVariable_41 rfl rfl ?_
    refine kr_getr (c0 := 5) (k := 2) hX ⟨_, kf_5_18⟩ dX5_lessVariable_42 rfl (by assumption) (by assumption) ?_
    refine kr_iload_n (i := 1) hX dX5_lessVariable_45 rfl rfl ?_
    refine kr_iconst (v := 0) hX dX5_lessVariable_46 (by decide) ?_
    refine kr_bast hX dX5_lessVariable_47 (by first | exact Or.inl rfl | exact Or.inr rfl | assumption) (by assumption) (by assumption) ?_
    refine kr_aload_n (i := 0) hX dX5_lessVariable_48 rfl rfl ?_
    refine kr_getr (c0 := 5) (k := 2) hX ⟨_, kf_5_18⟩ dX5_lessVariable_49 rfl (by assumption) (by assumption) ?_
    refine kr_iload_n (i := 2) hX dX5_lessVariable_52 rfl rfl ?_
    refine kr_iconst (v := 0) hX dX5_lessVariable_53 (by decide) ?_
    refine kr_bast hX dX5_lessVariable_54 (by first | exact Or.inl rfl | exact Or.inr rfl | assumption) (by assumption) (by assumption) ?_
    refine kr_goto (tgt := 109) hX dX5_lessVariable_55 (by decide) ?_
    refine kr_vret hX hr dX5_lessVariable_109 ⟨rfl, ?_⟩
    refine ⟨rfl, ?_⟩
    simp_all [m_lessN, m_eqN, m_lessV, m_eqV, m_nil, k_max, k_min]

set_option maxHeartbeats 4000000 in
set_option maxRecDepth 100000 in
theorem sp_eqV {G : kt_G} {σ : kt_Y} {μ : kt_M} {p : Nat} (hp : kt_rg σ p) {v x s : Int32} (hv : vp_in v 4) (hx : vp_in x 4) : kt_F G yX5_equalVariable cX5_equalVariable 6 none 1 [.ref p, .int v, .int x, .int s] σ μ (fun r μ2 => r = none ∧ μ2 = m_eqV μ p v.toNatClampNeg x.toNatClampNeg s) := by
  refine kt_F.of (by decide) (Nat.le_of_ble_eq_true rfl) (fun X hX hr => ?_)
  have hp0 := hp
  obtain ⟨hk0, hr1, hr2, hr3, hk1, hk2, hk3⟩ := hp
  refine kr_iload_n (i := 3) hX dX5_equalVariable_0 rfl rfl ?_
  refine kr_if_ne (tgt := 70) hX dX5_equalVariable_1 (by decide) (fun c_1 => ?_) (fun c_1 => ?_)
  · skip
    refine kr_vret hX hr dX5_equalVariable_70 ⟨rfl, ?_⟩
    refine ⟨rfl, ?_⟩
    simp_all [m_lessN, m_eqN, m_lessV, m_eqV, m_nil, k_max, k_min]
  · skip
    refine kr_aload_n (i := 0) hX dX5_equalVariable_4 rfl rfl ?_
    refine kr_getr (c0 := 5) (k := 0) hX ⟨_, kf_5_9⟩ dX5_equalVariable_5 rfl (by assumption) (by assumption) ?_
    refine kr_iload_n (i := 1) hX dX5_equalVariable_8 rfl rfl ?_
    refine kr_iald hX dX5_equalVariable_9 (by assumption) (by assumption) ?_
    refine kr_aload_n (i := 0) hX dX5_equalVariable_10 rfl rfl ?_
    refine kr_getr (c0 := 5) (k := 0) hX ⟨_, kf_5_9⟩ dX5_equalVariable_11 rfl (by assumption) (by assumption) ?_
    refine kr_iload_n (i := 2) hX dX5_equalVariable_14 rfl rfl ?_
    refine kr_iald hX dX5_equalVariable_15 (by assumption) (by assumption) ?_
    refine kr_mmax hX kw_616 dX5_equalVariable_16 (Nat.le_of_ble_eq_true rfl) (Nat.le_refl _) (Nat.le_refl _) ?_
    refine kr_istore hX dX5_equalVariable_19 (by decide) rfl rfl ?_
    refine kr_aload_n (i := 0) hX dX5_equalVariable_21 rfl rfl ?_
    refine kr_getr (c0 := 5) (k := 1) hX ⟨_, kf_5_15⟩ dX5_equalVariable_22 rfl (by assumption) (by assumption) ?_
    refine kr_iload_n (i := 1) hX dX5_equalVariable_25 rfl rfl ?_
    refine kr_iald hX dX5_equalVariable_26 (by assumption) (by assumption) ?_
    refine kr_aload_n (i := 0) hX dX5_equalVariable_27 rfl rfl ?_
    refine kr_getr (c0 := 5) (k := 1) hX ⟨_, kf_5_15⟩ dX5_equalVariable_28 rfl (by assumption) (by assumption) ?_
    refine kr_iload_n (i := 2) hX dX5_equalVariable_31 rfl rfl ?_
    refine kr_iald hX dX5_equalVariable_32 (by assumption) (by assumption) ?_
    refine kr_mmin hX kw_613 dX5_equalVariable_33 (Nat.le_of_ble_eq_true rfl) (Nat.le_refl _) (Nat.le_refl _) ?_
    refine kr_istore hX dX5_equalVariable_36 (by decide) rfl rfl ?_
    refine kr_aload_n (i := 0) hX dX5_equalVariable_38 rfl rfl ?_
    refine kr_iload_n (i := 1) hX dX5_equalVariable_39 rfl rfl ?_
    refine kr_iload hX dX5_equalVariable_40 rfl ?_
    refine kr_iload hX dX5_equalVariable_42 rfl ?_
    refine kr_dV (c1 := 5) [_, _, _] hX km_5_94 dX5_equalVariable_44 (sp_cut hp0 (by assumption)) rfl rfl ⟨_, _, rfl⟩ (by decide) (Nat.le_of_ble_eq_true rfl) (Nat.le_refl _) (Nat.le_refl _) (by assumption) ?_
    refine kr_aload_n (i := 0) hX dX5_equalVariable_47 rfl rfl ?_
    refine kr_iload_n (i := 2) hX dX5_equalVariable_48 rfl rfl ?_
    refine kr_iload hX dX5_equalVariable_49 rfl ?_
    refine kr_iload hX dX5_equalVariable_51 rfl ?_
    refine kr_dV (c1 := 5) [_, _, _] hX km_5_94 dX5_equalVariable_53 (sp_cut hp0 (by assumption)) rfl rfl ⟨_, _, rfl⟩ (by decide) (Nat.le_of_ble_eq_true rfl) (Nat.le_refl _) (Nat.le_refl _) (by assumption) ?_
    refine kr_aload_n (i := 0) hX dX5_equalVariable_56 rfl rfl ?_
    refine kr_getr (c0 := 5) (k := 2) hX ⟨_, kf_5_18⟩ dX5_equalVariable_57 rfl (by assumption) (by assumption) ?_
    refine kr_iload_n (i := 1) hX dX5_equalVariable_60 rfl rfl ?_
    refine kr_iconst (v := 0) hX dX5_equalVariable_61 (by decide) ?_
    refine kr_bast hX dX5_equalVariable_62 (by first | exact Or.inl rfl | exact Or.inr rfl | assumption) (by assumption) (by assumption) ?_
    refine kr_aload_n (i := 0) hX dX5_equalVariable_63 rfl rfl ?_
    refine kr_getr (c0 := 5) (k := 2) hX ⟨_, kf_5_18⟩ dX5_equalVariable_64 rfl (by assumption) (by assumption) ?_
    refine kr_iload_n (i := 2) hX dX5_equalVariable_67 rfl rfl ?_
    refine kr_iconst (v := 0) hX dX5_equalVariable_68 (by decide) ?_
    refine kr_bast hX dX5_equalVariable_69 (by first | exact Or.inl rfl | exact Or.inr rfl | assumption) (by assumption) (by assumption) ?_
    refine kr_vret hX hr dX5_equalVariable_70 ⟨rfl, ?_⟩
    refine ⟨rfl, ?_⟩
    simp_all [m_lessN, m_eqN, m_lessV, m_eqV, m_nil, k_max, k_min]


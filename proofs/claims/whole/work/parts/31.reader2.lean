def k_skip (T : Nat → Int32) : Nat → Nat → Nat
  | 0, a => a
  | n + 1, a => if T a = 32 then k_skip T n (a + 1) else a
def k_run (T : Nat → Int32) (t : Int32) : Nat → Nat → Nat
  | 0, b => b
  | n + 1, b => if k_sort (T b) = t then k_run T t n (b + 1) else b
theorem k_skip_le (T : Nat → Int32) : ∀ (n a : Nat), a ≤ k_skip T n a ∧ k_skip T n a ≤ a + n
  | 0, a => ⟨Nat.le_refl _, Nat.le_refl _⟩
  | n + 1, a => by
    unfold k_skip; split
    · have := k_skip_le T n (a + 1); omega
    · omega
theorem k_run_le (T : Nat → Int32) (t : Int32) : ∀ (n b : Nat), b ≤ k_run T t n b ∧ k_run T t n b ≤ b + n
  | 0, b => ⟨Nat.le_refl _, Nat.le_refl _⟩
  | n + 1, b => by
    unfold k_run; split
    · have := k_run_le T t n (b + 1); omega
    · omega
/-- one token: from place a of L bytes T: (start, token, next, is it sound) -/
def k_tok (T : Nat → Int32) (L a : Nat) : Nat × Int32 × Nat × Bool :=
  let s := k_skip T (L - a) a
  if s < L then
    (let t := k_sort (T s)
     let n := if t = 1 ∨ t = 2 then k_run T t (L - (s + 1)) (s + 1) else s + 1
     (s, t, n, decide (¬ (t = 4 ∨ (t = 2 ∧ 2 < n - s)))))
  else (s, 0, s, true)
def m_tk (μ : kt_M) (p : Nat) (s : Nat) (t : Int32) (n : Nat) : kt_M := kt_si (kt_si (kt_si μ p 5 (nI s)) p 4 t) p 6 (nI n)
def k_T (μ : kt_M) (p : Nat) : Nat → Int32 := kt_i μ (p + 1)
def a_tok (μ : kt_M) (p : Nat) : Nat × Int32 × Nat × Bool := k_tok (k_T μ p) (kt_i μ p 1).toNatClampNeg (kt_i μ p 6).toNatClampNeg
def a_mem (μ : kt_M) (p : Nat) : kt_M := let k := a_tok μ p; let μ1 := m_tk μ p k.1 k.2.1 k.2.2.1; if k.2.2.2 = true then μ1 else m_fail μ1 p 1
theorem m_tk_k {μ : kt_M} {p s n x : Nat} {t : Int32} (h : x ≠ 4 ∧ x ≠ 5 ∧ x ≠ 6) : kt_i (m_tk μ p s t n) p x = kt_i μ p x := by
  unfold m_tk; rw [kt_i_sik h.2.2, kt_i_sik h.1, kt_i_sik h.2.1]
theorem m_tk_out {μ : kt_M} {p s n x k : Nat} {t : Int32} (h : x ≠ p) : kt_i (m_tk μ p s t n) x k = kt_i μ x k := by
  unfold m_tk; rw [kt_i_sin h, kt_i_sin h, kt_i_sin h]
theorem m_tk_5 {μ : kt_M} {p s n : Nat} {t : Int32} : kt_i (m_tk μ p s t n) p 5 = nI s := by
  unfold m_tk; rw [kt_i_sik (by decide), kt_i_sik (by decide), kt_i_sie]
theorem m_tk_4 {μ : kt_M} {p s n : Nat} {t : Int32} : kt_i (m_tk μ p s t n) p 4 = t := by
  unfold m_tk; rw [kt_i_sik (by decide), kt_i_sie]
theorem m_tk_6 {μ : kt_M} {p s n : Nat} {t : Int32} : kt_i (m_tk μ p s t n) p 6 = nI n := by
  unfold m_tk; rw [kt_i_sie]
theorem m_tk_n {μ : kt_M} {p s n m : Nat} {t : Int32} : kt_si (m_tk μ p s t n) p 6 (nI m) = m_tk μ p s t m := by unfold m_tk; rw [kt_si_over]
theorem k_by_m {μ μ' : kt_M} {p L j : Nat} (hL : kt_i μ p 1 = nI L) (hL2 : L ≤ 200) (h : j < L) (h1 : kt_i μ' p 1 = kt_i μ p 1) (h2 : ∀ k, kt_i μ' (p + 1) k = kt_i μ (p + 1) k) : k_by μ' p (nI j) = k_T μ p j := by
  rw [k_by_nI (by rw [h1]; exact hL) hL2 h, h2]; rfl
set_option maxHeartbeats 4000000 in
set_option maxRecDepth 100000 in
theorem lp_run {G : kt_G} {σ : kt_Y} {X : kt_X} (hX : kt_ok G X RX6 cX6_advance 1 1 0 0) (hr : kt_rt X = (some .boolean)) {Q : Option Value → kt_M → Prop} {p : Nat} (hp : kt_rd σ p) {μ : kt_M} {L : Nat} (hL : kt_i μ p 1 = nI L) (hL2 : L ≤ 200) {s : Nat} {t : Int32} : ∀ (n i : Nat), i + n = L → (kt_W G X 1 154 [(0, .ref p)] [] σ (m_tk μ p s t (k_run (k_T μ p) t n i)) 0 0 (kt_Z G X (kt_q σ Q) 0 0)) → kt_W G X 1 112 [(0, .ref p)] [] σ (m_tk μ p s t i) 0 0 (kt_Z G X (kt_q σ Q) 0 0) := by
  have hp0 := hp
  obtain ⟨hk0, hr0, hk1⟩ := hp
  intro n
  induction n with
  | zero =>
    intro i hin hQ
    have hib : i = L := by omega
    refine kr_aload_n (i := 0) hX dX6_advance_112 rfl rfl ?_
    refine kr_geti (c0 := 6) (k := 6) hX ⟨_, kf_6_31⟩ dX6_advance_113 rfl (by assumption) ?_
    refine kr_aload_n (i := 0) hX dX6_advance_116 rfl rfl ?_
    refine kr_geti (c0 := 6) (k := 1) hX ⟨_, kf_6_15⟩ dX6_advance_117 rfl (by assumption) ?_
    refine kr_icmp_ge (tgt := 154) hX dX6_advance_120 (by decide) (fun c_120 => ?_) (fun c_120 => ?_)
    · skip
      exact hQ
    · skip
      exact absurd (by rw [m_tk_6, m_tk_k (by decide), hL, hib]; exact Int32.le_refl _) c_120
  | succ n ih =>
    intro i hin hQ
    have hib : i < L := by omega
    refine kr_aload_n (i := 0) hX dX6_advance_112 rfl rfl ?_
    refine kr_geti (c0 := 6) (k := 6) hX ⟨_, kf_6_31⟩ dX6_advance_113 rfl (by assumption) ?_
    refine kr_aload_n (i := 0) hX dX6_advance_116 rfl rfl ?_
    refine kr_geti (c0 := 6) (k := 1) hX ⟨_, kf_6_15⟩ dX6_advance_117 rfl (by assumption) ?_
    refine kr_icmp_ge (tgt := 154) hX dX6_advance_120 (by decide) (fun c_120 => ?_) (fun c_120 => ?_)
    · skip
      exact absurd c_120 (by rw [m_tk_6, m_tk_k (by decide), hL]; exact nI_ge hib (by omega))
    · skip
      refine kr_aload_n (i := 0) hX dX6_advance_123 rfl rfl ?_
      refine kr_aload_n (i := 0) hX dX6_advance_124 rfl rfl ?_
      refine kr_geti (c0 := 6) (k := 6) hX ⟨_, kf_6_31⟩ dX6_advance_125 rfl (by assumption) ?_
      refine kr_rw (y := nI i) (by exact m_tk_6) ?_
      refine kr_cV (c1 := 6) [_] hX km_6_134 dX6_advance_128 (sp_byte hp0) rfl rfl ⟨_, _, rfl⟩ (by decide) (Nat.le_of_ble_eq_true rfl) (Nat.le_refl _) (Nat.le_refl _) (by assumption) ?_
      rintro _ _ ⟨rfl, rfl⟩
      refine kr_rw (y := k_T μ p i) (k_by_m hL hL2 hib (m_tk_k (by decide)) (fun k => m_tk_out (by omega))) ?_
      refine kr_dS [_] hX km_6_151 dX6_advance_131 (sp_sort) rfl rfl (by decide) (Nat.le_of_ble_eq_true rfl) (Nat.le_refl _) (Nat.le_refl _) ?_
      refine kr_aload_n (i := 0) hX dX6_advance_134 rfl rfl ?_
      refine kr_geti (c0 := 6) (k := 4) hX ⟨_, kf_6_25⟩ dX6_advance_135 rfl (by assumption) ?_
      refine kr_rw (y := t) (by exact m_tk_4) ?_
      refine kr_icmp_ne (tgt := 154) hX dX6_advance_138 (by decide) (fun c_138 => ?_) (fun c_138 => ?_)
      · skip
        have e : k_run (k_T μ p) t (n + 1) i = i := if_neg c_138
        rw [e] at hQ
        exact hQ
      · skip
        refine kr_aload_n (i := 0) hX dX6_advance_141 rfl rfl ?_
        refine kr_dup hX dX6_advance_142 rfl ?_
        refine kr_geti (c0 := 6) (k := 6) hX ⟨_, kf_6_31⟩ dX6_advance_143 rfl (by assumption) ?_
        refine kr_rw (y := nI i) (by exact m_tk_6) ?_
        refine kr_iconst (v := 1) hX dX6_advance_146 (by decide) ?_
        refine kr_iadd hX dX6_advance_147 ?_
        refine kr_rw (y := nI (i + 1)) (by exact nI_1 i) ?_
        refine kr_puti (c0 := 6) (k := 6) hX kf_6_31 dX6_advance_148 rfl rfl rfl (by assumption) ?_
        refine kr_goto (tgt := 112) hX dX6_advance_151 (by decide) ?_
        refine kr_mu m_tk_n ?_
        refine ih (i + 1) (by omega) ?_
        have e : k_run (k_T μ p) t (n + 1) i = k_run (k_T μ p) t n (i + 1) := if_pos c_138
        rw [e] at hQ
        exact hQ

set_option maxHeartbeats 4000000 in
set_option maxRecDepth 100000 in
theorem lp_skip {G : kt_G} {σ : kt_Y} {X : kt_X} (hX : kt_ok G X RX6 cX6_advance 1 1 0 0) (hr : kt_rt X = (some .boolean)) {Q : Option Value → kt_M → Prop} {p : Nat} (hp : kt_rd σ p) {μ : kt_M} {L : Nat} (hL : kt_i μ p 1 = nI L) (hL2 : L ≤ 200) : ∀ (n i : Nat), i + n = L → (kt_W G X 1 45 [(0, .ref p)] [] σ (kt_si μ p 5 (nI (k_skip (k_T μ p) n i))) 0 0 (kt_Z G X (kt_q σ Q) 0 0)) → kt_W G X 1 8 [(0, .ref p)] [] σ (kt_si μ p 5 (nI i)) 0 0 (kt_Z G X (kt_q σ Q) 0 0) := by
  have hp0 := hp
  obtain ⟨hk0, hr0, hk1⟩ := hp
  intro n
  induction n with
  | zero =>
    intro i hin hQ
    have hib : i = L := by omega
    refine kr_aload_n (i := 0) hX dX6_advance_8 rfl rfl ?_
    refine kr_geti (c0 := 6) (k := 5) hX ⟨_, kf_6_28⟩ dX6_advance_9 rfl (by assumption) ?_
    refine kr_aload_n (i := 0) hX dX6_advance_12 rfl rfl ?_
    refine kr_geti (c0 := 6) (k := 1) hX ⟨_, kf_6_15⟩ dX6_advance_13 rfl (by assumption) ?_
    refine kr_icmp_ge (tgt := 45) hX dX6_advance_16 (by decide) (fun c_16 => ?_) (fun c_16 => ?_)
    · skip
      exact hQ
    · skip
      exact absurd (by rw [kt_i_sie, kt_i_sik (by decide), hL, hib]; exact Int32.le_refl _) c_16
  | succ n ih =>
    intro i hin hQ
    have hib : i < L := by omega
    refine kr_aload_n (i := 0) hX dX6_advance_8 rfl rfl ?_
    refine kr_geti (c0 := 6) (k := 5) hX ⟨_, kf_6_28⟩ dX6_advance_9 rfl (by assumption) ?_
    refine kr_aload_n (i := 0) hX dX6_advance_12 rfl rfl ?_
    refine kr_geti (c0 := 6) (k := 1) hX ⟨_, kf_6_15⟩ dX6_advance_13 rfl (by assumption) ?_
    refine kr_icmp_ge (tgt := 45) hX dX6_advance_16 (by decide) (fun c_16 => ?_) (fun c_16 => ?_)
    · skip
      exact absurd c_16 (by rw [kt_i_sie, kt_i_sik (by decide), hL]; exact nI_ge hib (by omega))
    · skip
      refine kr_aload_n (i := 0) hX dX6_advance_19 rfl rfl ?_
      refine kr_aload_n (i := 0) hX dX6_advance_20 rfl rfl ?_
      refine kr_geti (c0 := 6) (k := 5) hX ⟨_, kf_6_28⟩ dX6_advance_21 rfl (by assumption) ?_
      refine kr_rw (y := nI i) (by exact kt_i_sie) ?_
      refine kr_cV (c1 := 6) [_] hX km_6_134 dX6_advance_24 (sp_byte hp0) rfl rfl ⟨_, _, rfl⟩ (by decide) (Nat.le_of_ble_eq_true rfl) (Nat.le_refl _) (Nat.le_refl _) (by assumption) ?_
      rintro _ _ ⟨rfl, rfl⟩
      refine kr_rw (y := k_T μ p i) (k_by_m hL hL2 hib (kt_i_sik (by decide)) (fun k => kt_i_sin (by omega))) ?_
      refine kr_bipush (v := 32) hX dX6_advance_27 (by decide) ?_
      refine kr_icmp_ne (tgt := 45) hX dX6_advance_29 (by decide) (fun c_29 => ?_) (fun c_29 => ?_)
      · skip
        have e : k_skip (k_T μ p) (n + 1) i = i := if_neg c_29
        rw [e] at hQ
        exact hQ
      · skip
        refine kr_aload_n (i := 0) hX dX6_advance_32 rfl rfl ?_
        refine kr_dup hX dX6_advance_33 rfl ?_
        refine kr_geti (c0 := 6) (k := 5) hX ⟨_, kf_6_28⟩ dX6_advance_34 rfl (by assumption) ?_
        refine kr_rw (y := nI i) (by exact kt_i_sie) ?_
        refine kr_iconst (v := 1) hX dX6_advance_37 (by decide) ?_
        refine kr_iadd hX dX6_advance_38 ?_
        refine kr_rw (y := nI (i + 1)) (by exact nI_1 i) ?_
        refine kr_puti (c0 := 6) (k := 5) hX kf_6_28 dX6_advance_39 rfl rfl rfl (by assumption) ?_
        refine kr_goto (tgt := 8) hX dX6_advance_42 (by decide) ?_
        refine kr_mu kt_si_over ?_
        refine ih (i + 1) (by omega) ?_
        have e : k_skip (k_T μ p) (n + 1) i = k_skip (k_T μ p) n (i + 1) := if_pos c_29
        rw [e] at hQ
        exact hQ

set_option maxHeartbeats 4000000 in
set_option maxRecDepth 100000 in
theorem lp_fin {G : kt_G} {σ : kt_Y} {X : kt_X} (hX : kt_ok G X RX6 cX6_advance 1 1 0 0) (hr : kt_rt X = (some .boolean)) {Q : Option Value → kt_M → Prop} {p : Nat} (hp : kt_rd σ p) {μ : kt_M} {s n : Nat} {t : Int32} (hsn : s ≤ n) (hn : n ≤ 200) (hQ : Q (some (.int (kt_f (¬ (t = 4 ∨ (t = 2 ∧ 2 < n - s)))))) (if ¬ (t = 4 ∨ (t = 2 ∧ 2 < n - s)) then m_tk μ p s t n else m_fail (m_tk μ p s t n) p 1)) : kt_W G X 1 154 [(0, .ref p)] [] σ (m_tk μ p s t n) 0 0 (kt_Z G X (kt_q σ Q) 0 0) := by
  have hp0 := hp
  obtain ⟨hk0, hr0, hk1⟩ := hp
  refine kr_aload_n (i := 0) hX dX6_advance_154 rfl rfl ?_
  refine kr_geti (c0 := 6) (k := 4) hX ⟨_, kf_6_25⟩ dX6_advance_155 rfl (by assumption) ?_
  refine kr_rw (y := t) (by exact m_tk_4) ?_
  refine kr_iconst (v := 4) hX dX6_advance_158 (by decide) ?_
  refine kr_icmp_eq (tgt := 183) hX dX6_advance_159 (by decide) (fun c_159 => ?_) (fun c_159 => ?_)
  · skip
    refine kr_aload_n (i := 0) hX dX6_advance_183 rfl rfl ?_
    refine kr_iconst (v := 1) hX dX6_advance_184 (by decide) ?_
    refine kr_dV (c1 := 6) [_] hX km_6_51 dX6_advance_185 (sp_fail hp0) rfl rfl ⟨_, _, rfl⟩ (by decide) (Nat.le_of_ble_eq_true rfl) (Nat.le_refl _) (Nat.le_refl _) (by assumption) ?_
    refine kr_zret hX hr (by first | exact Or.inl rfl | exact Or.inr rfl | assumption) dX6_advance_188 ⟨rfl, ?_⟩
    by_cases hh : t = 4 ∨ (t = 2 ∧ 2 < n - s)
    · rw [kt_f_f (fun h => h hh), if_neg (fun h => h hh)] at hQ
      first
      | exact hQ
      | exact absurd hh (by intro h; rcases h with h | h; exact absurd h (by assumption); first | exact absurd h.1 (by assumption) | exact absurd ((nI_leI (b := 2) (by omega) (by decide)).mp c_180) (by omega))
    · rw [kt_f_t hh, if_pos hh] at hQ
      first
      | exact hQ
      | exact absurd (Or.inl (by assumption)) hh
      | exact absurd (Or.inr ⟨by assumption, Nat.lt_of_not_le (fun h => c_180 ((nI_leI (b := 2) (by omega) (by decide)).mpr h))⟩) hh
  · skip
    refine kr_aload_n (i := 0) hX dX6_advance_162 rfl rfl ?_
    refine kr_geti (c0 := 6) (k := 4) hX ⟨_, kf_6_25⟩ dX6_advance_163 rfl (by assumption) ?_
    refine kr_rw (y := t) (by exact m_tk_4) ?_
    refine kr_iconst (v := 2) hX dX6_advance_166 (by decide) ?_
    refine kr_icmp_ne (tgt := 189) hX dX6_advance_167 (by decide) (fun c_167 => ?_) (fun c_167 => ?_)
    · skip
      refine kr_iconst (v := 1) hX dX6_advance_189 (by decide) ?_
      refine kr_zret hX hr (by first | exact Or.inl rfl | exact Or.inr rfl | assumption) dX6_advance_190 ⟨rfl, ?_⟩
      by_cases hh : t = 4 ∨ (t = 2 ∧ 2 < n - s)
      · rw [kt_f_f (fun h => h hh), if_neg (fun h => h hh)] at hQ
        first
        | exact hQ
        | exact absurd hh (by intro h; rcases h with h | h; exact absurd h (by assumption); first | exact absurd h.1 (by assumption) | exact absurd ((nI_leI (b := 2) (by omega) (by decide)).mp c_180) (by omega))
      · rw [kt_f_t hh, if_pos hh] at hQ
        first
        | exact hQ
        | exact absurd (Or.inl (by assumption)) hh
        | exact absurd (Or.inr ⟨by assumption, Nat.lt_of_not_le (fun h => c_180 ((nI_leI (b := 2) (by omega) (by decide)).mpr h))⟩) hh
    · skip
      refine kr_aload_n (i := 0) hX dX6_advance_170 rfl rfl ?_
      refine kr_geti (c0 := 6) (k := 6) hX ⟨_, kf_6_31⟩ dX6_advance_171 rfl (by assumption) ?_
      refine kr_rw (y := nI n) (by exact m_tk_6) ?_
      refine kr_aload_n (i := 0) hX dX6_advance_174 rfl rfl ?_
      refine kr_geti (c0 := 6) (k := 5) hX ⟨_, kf_6_28⟩ dX6_advance_175 rfl (by assumption) ?_
      refine kr_rw (y := nI s) (by exact m_tk_5) ?_
      refine kr_isub hX dX6_advance_178 ?_
      refine kr_rw (y := nI (n - s)) (by exact pk_sub hsn) ?_
      refine kr_iconst (v := 2) hX dX6_advance_179 (by decide) ?_
      refine kr_icmp_le (tgt := 189) hX dX6_advance_180 (by decide) (fun c_180 => ?_) (fun c_180 => ?_)
      · skip
        refine kr_iconst (v := 1) hX dX6_advance_189 (by decide) ?_
        refine kr_zret hX hr (by first | exact Or.inl rfl | exact Or.inr rfl | assumption) dX6_advance_190 ⟨rfl, ?_⟩
        by_cases hh : t = 4 ∨ (t = 2 ∧ 2 < n - s)
        · rw [kt_f_f (fun h => h hh), if_neg (fun h => h hh)] at hQ
          first
          | exact hQ
          | exact absurd hh (by intro h; rcases h with h | h; exact absurd h (by assumption); first | exact absurd h.1 (by assumption) | exact absurd ((nI_leI (b := 2) (by omega) (by decide)).mp c_180) (by omega))
        · rw [kt_f_t hh, if_pos hh] at hQ
          first
          | exact hQ
          | exact absurd (Or.inl (by assumption)) hh
          | exact absurd (Or.inr ⟨by assumption, Nat.lt_of_not_le (fun h => c_180 ((nI_leI (b := 2) (by omega) (by decide)).mpr h))⟩) hh
      · skip
        refine kr_aload_n (i := 0) hX dX6_advance_183 rfl rfl ?_
        refine kr_iconst (v := 1) hX dX6_advance_184 (by decide) ?_
        refine kr_dV (c1 := 6) [_] hX km_6_51 dX6_advance_185 (sp_fail hp0) rfl rfl ⟨_, _, rfl⟩ (by decide) (Nat.le_of_ble_eq_true rfl) (Nat.le_refl _) (Nat.le_refl _) (by assumption) ?_
        refine kr_zret hX hr (by first | exact Or.inl rfl | exact Or.inr rfl | assumption) dX6_advance_188 ⟨rfl, ?_⟩
        by_cases hh : t = 4 ∨ (t = 2 ∧ 2 < n - s)
        · rw [kt_f_f (fun h => h hh), if_neg (fun h => h hh)] at hQ
          first
          | exact hQ
          | exact absurd hh (by intro h; rcases h with h | h; exact absurd h (by assumption); first | exact absurd h.1 (by assumption) | exact absurd ((nI_leI (b := 2) (by omega) (by decide)).mp c_180) (by omega))
        · rw [kt_f_t hh, if_pos hh] at hQ
          first
          | exact hQ
          | exact absurd (Or.inl (by assumption)) hh
          | exact absurd (Or.inr ⟨by assumption, Nat.lt_of_not_le (fun h => c_180 ((nI_leI (b := 2) (by omega) (by decide)).mpr h))⟩) hh
theorem k_tok_0 {T : Nat → Int32} {L a s : Nat} (hs : k_skip T (L - a) a = s) (h : ¬ s < L) : k_tok T L a = (s, 0, s, true) := by
  unfold k_tok; rw [hs]; dsimp only; rw [if_neg h]
theorem k_tok_1 {T : Nat → Int32} {L a s : Nat} (hs : k_skip T (L - a) a = s) (h : s < L) (h1 : k_sort (T s) = 1 ∨ k_sort (T s) = 2) : k_tok T L a = (s, k_sort (T s), k_run T (k_sort (T s)) (L - (s + 1)) (s + 1), decide (¬ (k_sort (T s) = 4 ∨ (k_sort (T s) = 2 ∧ 2 < k_run T (k_sort (T s)) (L - (s + 1)) (s + 1) - s)))) := by
  unfold k_tok; rw [hs]; dsimp only; rw [if_pos h, if_pos h1]
theorem k_tok_2 {T : Nat → Int32} {L a s : Nat} (hs : k_skip T (L - a) a = s) (h : s < L) (h1 : ¬ (k_sort (T s) = 1 ∨ k_sort (T s) = 2)) : k_tok T L a = (s, k_sort (T s), s + 1, decide (¬ (k_sort (T s) = 4 ∨ (k_sort (T s) = 2 ∧ 2 < s + 1 - s)))) := by
  unfold k_tok; rw [hs]; dsimp only; rw [if_pos h, if_neg h1]
theorem a_mem_of {μ : kt_M} {p s n : Nat} {t : Int32} {c : Prop} [Decidable c] (h : a_tok μ p = (s, t, n, decide c)) : some (Value.int (kt_f c)) = some (.int (kt_f ((a_tok μ p).2.2.2 = true))) ∧ (if c then m_tk μ p s t n else m_fail (m_tk μ p s t n) p 1) = a_mem μ p := by
  unfold a_mem
  rw [h]
  dsimp only
  by_cases hc : c
  · rw [kt_f_t hc, if_pos hc, kt_f_t (decide_eq_true hc), if_pos (decide_eq_true hc)]; exact ⟨rfl, rfl⟩
  · rw [kt_f_f hc, if_neg hc, kt_f_f (by rw [decide_eq_false hc]; decide), if_neg (by rw [decide_eq_false hc]; decide)]; exact ⟨rfl, rfl⟩
set_option maxHeartbeats 4000000 in
set_option maxRecDepth 100000 in
theorem sp_adv {G : kt_G} {σ : kt_Y} {μ : kt_M} {p : Nat} (hp : kt_rd σ p) {L a : Nat} (hL : kt_i μ p 1 = nI L) (hL2 : L ≤ 200) (ha : kt_i μ p 6 = nI a) (haL : a ≤ L) : kt_F G yX6_advance cX6_advance 1 (some .boolean) 1 [.ref p] σ μ (fun r μ2 => r = some (.int (kt_f ((a_tok μ p).2.2.2 = true))) ∧ μ2 = a_mem μ p) := by
  refine kt_F.of (by decide) (Nat.le_of_ble_eq_true rfl) (fun X hX hr => ?_)
  have hp0 := hp
  obtain ⟨hk0, hr0, hk1⟩ := hp
  have ea : a_tok μ p = k_tok (k_T μ p) L a := by unfold a_tok; rw [hL, ha, nI_clamp (by omega), nI_clamp (by omega)]
  refine kr_aload_n (i := 0) hX dX6_advance_0 rfl rfl ?_
  refine kr_aload_n (i := 0) hX dX6_advance_1 rfl rfl ?_
  refine kr_geti (c0 := 6) (k := 6) hX ⟨_, kf_6_31⟩ dX6_advance_2 rfl (by assumption) ?_
  refine kr_rw (y := nI a) (by exact ha) ?_
  refine kr_puti (c0 := 6) (k := 5) hX kf_6_28 dX6_advance_5 rfl rfl rfl (by assumption) ?_
  refine lp_skip hX hr hp0 hL hL2 (L - a) a (by omega) ?_
  have hsle := k_skip_le (k_T μ p) (L - a) a
  generalize hs : k_skip (k_T μ p) (L - a) a = s at hsle ⊢
  refine kr_aload_n (i := 0) hX dX6_advance_45 rfl rfl ?_
  refine kr_geti (c0 := 6) (k := 5) hX ⟨_, kf_6_28⟩ dX6_advance_46 rfl (by assumption) ?_
  refine kr_rw (y := nI s) (by exact kt_i_sie) ?_
  refine kr_aload_n (i := 0) hX dX6_advance_49 rfl rfl ?_
  refine kr_geti (c0 := 6) (k := 1) hX ⟨_, kf_6_15⟩ dX6_advance_50 rfl (by assumption) ?_
  refine kr_rw (y := nI L) (by rw [kt_i_sik (by decide)]; exact hL) ?_
  refine kr_icmp_lt (tgt := 71) hX dX6_advance_53 (by decide) (fun c_53 => ?_) (fun c_53 => ?_)
  · skip
    have hsl : s < L := (nI_ltI (by omega) (by omega)).mp c_53
    refine kr_aload_n (i := 0) hX dX6_advance_71 rfl rfl ?_
    refine kr_aload_n (i := 0) hX dX6_advance_72 rfl rfl ?_
    refine kr_aload_n (i := 0) hX dX6_advance_73 rfl rfl ?_
    refine kr_geti (c0 := 6) (k := 5) hX ⟨_, kf_6_28⟩ dX6_advance_74 rfl (by assumption) ?_
    refine kr_rw (y := nI s) (by exact kt_i_sie) ?_
    refine kr_cV (c1 := 6) [_] hX km_6_134 dX6_advance_77 (sp_byte hp0) rfl rfl ⟨_, _, rfl⟩ (by decide) (Nat.le_of_ble_eq_true rfl) (Nat.le_refl _) (Nat.le_refl _) (by assumption) ?_
    rintro _ _ ⟨rfl, rfl⟩
    refine kr_rw (y := k_T μ p s) (k_by_m hL hL2 hsl (kt_i_sik (by decide)) (fun k => kt_i_sin (by omega))) ?_
    refine kr_dS [_] hX km_6_151 dX6_advance_80 (sp_sort) rfl rfl (by decide) (Nat.le_of_ble_eq_true rfl) (Nat.le_refl _) (Nat.le_refl _) ?_
    refine kr_puti (c0 := 6) (k := 4) hX kf_6_25 dX6_advance_83 rfl rfl rfl (by assumption) ?_
    refine kr_aload_n (i := 0) hX dX6_advance_86 rfl rfl ?_
    refine kr_aload_n (i := 0) hX dX6_advance_87 rfl rfl ?_
    refine kr_geti (c0 := 6) (k := 5) hX ⟨_, kf_6_28⟩ dX6_advance_88 rfl (by assumption) ?_
    refine kr_rw (y := nI s) (by rw [kt_i_sik (by decide)]; exact kt_i_sie) ?_
    refine kr_iconst (v := 1) hX dX6_advance_91 (by decide) ?_
    refine kr_iadd hX dX6_advance_92 ?_
    refine kr_rw (y := nI (s + 1)) (by exact nI_1 s) ?_
    refine kr_puti (c0 := 6) (k := 6) hX kf_6_31 dX6_advance_93 rfl rfl rfl (by assumption) ?_
    refine kr_aload_n (i := 0) hX dX6_advance_96 rfl rfl ?_
    refine kr_geti (c0 := 6) (k := 4) hX ⟨_, kf_6_25⟩ dX6_advance_97 rfl (by assumption) ?_
    refine kr_rw (y := k_sort (k_T μ p s)) (by exact m_tk_4) ?_
    refine kr_iconst (v := 1) hX dX6_advance_100 (by decide) ?_
    refine kr_icmp_eq (tgt := 112) hX dX6_advance_101 (by decide) (fun c_101 => ?_) (fun c_101 => ?_)
    · skip
      refine lp_run hX hr hp0 hL hL2 (L - (s + 1)) (s + 1) (by omega) ?_
      have hrl := k_run_le (k_T μ p) (k_sort (k_T μ p s)) (L - (s + 1)) (s + 1)
      refine lp_fin hX hr hp0 (by omega) (by omega) ?_
      exact a_mem_of (ea.trans (k_tok_1 hs hsl (by first | exact Or.inl c_101 | exact Or.inr c_109)))
    · skip
      refine kr_aload_n (i := 0) hX dX6_advance_104 rfl rfl ?_
      refine kr_geti (c0 := 6) (k := 4) hX ⟨_, kf_6_25⟩ dX6_advance_105 rfl (by assumption) ?_
      refine kr_rw (y := k_sort (k_T μ p s)) (by exact m_tk_4) ?_
      refine kr_iconst (v := 2) hX dX6_advance_108 (by decide) ?_
      refine kr_icmp_ne (tgt := 154) hX dX6_advance_109 (by decide) (fun c_109 => ?_) (fun c_109 => ?_)
      · skip
        refine lp_fin hX hr hp0 (by omega) (by omega) ?_
        exact a_mem_of (ea.trans (k_tok_2 hs hsl (fun h => h.elim c_101 c_109)))
      · skip
        refine lp_run hX hr hp0 hL hL2 (L - (s + 1)) (s + 1) (by omega) ?_
        have hrl := k_run_le (k_T μ p) (k_sort (k_T μ p s)) (L - (s + 1)) (s + 1)
        refine lp_fin hX hr hp0 (by omega) (by omega) ?_
        exact a_mem_of (ea.trans (k_tok_1 hs hsl (by first | exact Or.inl c_101 | exact Or.inr c_109)))
  · skip
    refine kr_aload_n (i := 0) hX dX6_advance_56 rfl rfl ?_
    refine kr_iconst (v := 0) hX dX6_advance_57 (by decide) ?_
    refine kr_puti (c0 := 6) (k := 4) hX kf_6_25 dX6_advance_58 rfl rfl rfl (by assumption) ?_
    refine kr_aload_n (i := 0) hX dX6_advance_61 rfl rfl ?_
    refine kr_aload_n (i := 0) hX dX6_advance_62 rfl rfl ?_
    refine kr_geti (c0 := 6) (k := 5) hX ⟨_, kf_6_28⟩ dX6_advance_63 rfl (by assumption) ?_
    refine kr_rw (y := nI s) (by rw [kt_i_sik (by decide)]; exact kt_i_sie) ?_
    refine kr_puti (c0 := 6) (k := 6) hX kf_6_31 dX6_advance_66 rfl rfl rfl (by assumption) ?_
    refine kr_iconst (v := 1) hX dX6_advance_69 (by decide) ?_
    refine kr_zret hX hr (by first | exact Or.inl rfl | exact Or.inr rfl | assumption) dX6_advance_70 ⟨rfl, ?_⟩
    have hsl : ¬ s < L := fun h => c_53 (nI_lt h (by omega))
    have hk := ea.trans (k_tok_0 hs hsl)
    refine ⟨?_, ?_⟩
    · rw [hk]; exact kt_ft rfl
    · unfold a_mem; rw [hk]; rfl


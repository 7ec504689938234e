/-! what holds of the tables and of the constants at the law's entry -/
theorem lw_flat {b : Nat} {s : State} (hgv : (Jvm.Cond.and given_1 narrow_1).before #[Value.ref b] s = true) : ∀ c ∈ flatC (Jvm.Cond.and given_1 narrow_1), c.before #[Value.ref b] s = true := flat_of_before _ hgv
def lw_tm (i : Nat) : Term := Term.string RX6 (kt_sk i)
set_option maxRecDepth 100000 in
theorem lw_ex {b : Nat} {s : State} (hs : ∀ c ∈ flatC (Jvm.Cond.and given_1 narrow_1), c.before #[Value.ref b] s = true) : ∀ i : Nat, i < 9 → (Cond.exactly (lw_tm i) "java/lang/String").before #[Value.ref b] s = true
  | 0, _ => hs _ (by decide +kernel)
  | 1, _ => hs _ (by decide +kernel)
  | 2, _ => hs _ (by decide +kernel)
  | 3, _ => hs _ (by decide +kernel)
  | 4, _ => hs _ (by decide +kernel)
  | 5, _ => hs _ (by decide +kernel)
  | 6, _ => hs _ (by decide +kernel)
  | 7, _ => hs _ (by decide +kernel)
  | 8, _ => hs _ (by decide +kernel)
  | n + 9, h => absurd h (by omega)
set_option maxRecDepth 100000 in
theorem lw_co {b : Nat} {s : State} (hs : ∀ c ∈ flatC (Jvm.Cond.and given_1 narrow_1), c.before #[Value.ref b] s = true) : ∀ i : Nat, i < 9 → (Cond.eq (.field (lw_tm i) "java/lang/String" "code\x72" "B") (.int 0)).before #[Value.ref b] s = true
  | 0, _ => hs _ (by decide +kernel)
  | 1, _ => hs _ (by decide +kernel)
  | 2, _ => hs _ (by decide +kernel)
  | 3, _ => hs _ (by decide +kernel)
  | 4, _ => hs _ (by decide +kernel)
  | 5, _ => hs _ (by decide +kernel)
  | 6, _ => hs _ (by decide +kernel)
  | 7, _ => hs _ (by decide +kernel)
  | 8, _ => hs _ (by decide +kernel)
  | n + 9, h => absurd h (by omega)
set_option maxRecDepth 100000 in
theorem lw_ar {b : Nat} {s : State} (hs : ∀ c ∈ flatC (Jvm.Cond.and given_1 narrow_1), c.before #[Value.ref b] s = true) : ∀ i : Nat, i < 9 → (Cond.arrayOf (.field (lw_tm i) "java/lang/String" "value" "[B") .byte).before #[Value.ref b] s = true
  | 0, _ => hs _ (by decide +kernel)
  | 1, _ => hs _ (by decide +kernel)
  | 2, _ => hs _ (by decide +kernel)
  | 3, _ => hs _ (by decide +kernel)
  | 4, _ => hs _ (by decide +kernel)
  | 5, _ => hs _ (by decide +kernel)
  | 6, _ => hs _ (by decide +kernel)
  | 7, _ => hs _ (by decide +kernel)
  | 8, _ => hs _ (by decide +kernel)
  | n + 9, h => absurd h (by omega)
set_option maxRecDepth 100000 in
theorem lw_le {b : Nat} {s : State} (hs : ∀ c ∈ flatC (Jvm.Cond.and given_1 narrow_1), c.before #[Value.ref b] s = true) : ∀ i : Nat, i < 9 → (Cond.eq (.length (.field (lw_tm i) "java/lang/String" "value" "[B")) (.int (Int32.ofNat (kt_sn.getD i 0)))).before #[Value.ref b] s = true
  | 0, _ => hs _ (by decide +kernel)
  | 1, _ => hs _ (by decide +kernel)
  | 2, _ => hs _ (by decide +kernel)
  | 3, _ => hs _ (by decide +kernel)
  | 4, _ => hs _ (by decide +kernel)
  | 5, _ => hs _ (by decide +kernel)
  | 6, _ => hs _ (by decide +kernel)
  | 7, _ => hs _ (by decide +kernel)
  | 8, _ => hs _ (by decide +kernel)
  | n + 9, h => absurd h (by omega)
set_option maxRecDepth 100000 in
theorem lw_el {b : Nat} {s : State} (hs : ∀ c ∈ flatC (Jvm.Cond.and given_1 narrow_1), c.before #[Value.ref b] s = true) : ∀ i : Nat, i < 9 → ∀ j : Nat, j < kt_sn.getD i 0 → (Cond.eq (.elem (.field (lw_tm i) "java/lang/String" "value" "[B") (.int (Int32.ofNat j))) (.int ((kt_sb.getD i []).getD j 0))).before #[Value.ref b] s = true
  | 0, _ => fun j hj => match j, hj with
    | 0, _ => hs _ (by decide +kernel)
    | 1, _ => hs _ (by decide +kernel)
    | 2, _ => hs _ (by decide +kernel)
    | n + 3, h => absurd h (by show ¬ n + 3 < 3; omega)
  | 1, _ => fun j hj => match j, hj with
    | 0, _ => hs _ (by decide +kernel)
    | 1, _ => hs _ (by decide +kernel)
    | 2, _ => hs _ (by decide +kernel)
    | n + 3, h => absurd h (by show ¬ n + 3 < 3; omega)
  | 2, _ => fun j hj => match j, hj with
    | 0, _ => hs _ (by decide +kernel)
    | 1, _ => hs _ (by decide +kernel)
    | 2, _ => hs _ (by decide +kernel)
    | n + 3, h => absurd h (by show ¬ n + 3 < 3; omega)
  | 3, _ => fun j hj => match j, hj with
    | 0, _ => hs _ (by decide +kernel)
    | 1, _ => hs _ (by decide +kernel)
    | 2, _ => hs _ (by decide +kernel)
    | 3, _ => hs _ (by decide +kernel)
    | n + 4, h => absurd h (by show ¬ n + 4 < 4; omega)
  | 4, _ => fun j hj => match j, hj with
    | 0, _ => hs _ (by decide +kernel)
    | 1, _ => hs _ (by decide +kernel)
    | 2, _ => hs _ (by decide +kernel)
    | 3, _ => hs _ (by decide +kernel)
    | n + 4, h => absurd h (by show ¬ n + 4 < 4; omega)
  | 5, _ => fun j hj => match j, hj with
    | 0, _ => hs _ (by decide +kernel)
    | 1, _ => hs _ (by decide +kernel)
    | 2, _ => hs _ (by decide +kernel)
    | 3, _ => hs _ (by decide +kernel)
    | 4, _ => hs _ (by decide +kernel)
    | n + 5, h => absurd h (by show ¬ n + 5 < 5; omega)
  | 6, _ => fun j hj => match j, hj with
    | 0, _ => hs _ (by decide +kernel)
    | 1, _ => hs _ (by decide +kernel)
    | 2, _ => hs _ (by decide +kernel)
    | 3, _ => hs _ (by decide +kernel)
    | n + 4, h => absurd h (by show ¬ n + 4 < 4; omega)
  | 7, _ => fun j hj => match j, hj with
    | 0, _ => hs _ (by decide +kernel)
    | 1, _ => hs _ (by decide +kernel)
    | n + 2, h => absurd h (by show ¬ n + 2 < 2; omega)
  | 8, _ => fun j hj => match j, hj with
    | 0, _ => hs _ (by decide +kernel)
    | 1, _ => hs _ (by decide +kernel)
    | n + 2, h => absurd h (by show ¬ n + 2 < 2; omega)
  | n + 9, h => absurd h (by omega)
set_option maxRecDepth 100000 in
theorem lw_ne {b : Nat} {s : State} (hs : ∀ c ∈ flatC (Jvm.Cond.and given_1 narrow_1), c.before #[Value.ref b] s = true) : ∀ i : Nat, i < 9 → ∀ j : Nat, j < 9 → i ≠ j → (Cond.not (Cond.eq (lw_tm i) (lw_tm j))).before #[Value.ref b] s = true ∨ (Cond.not (Cond.eq (lw_tm j) (lw_tm i))).before #[Value.ref b] s = true
  | 0, _ => fun j hj hij => match j, hj, hij with
    | 0, _, h => absurd rfl h
    | 1, _, h => (by first | exact Or.inl (hs _ (by decide +kernel)) | exact Or.inr (hs _ (by decide +kernel)))
    | 2, _, h => (by first | exact Or.inl (hs _ (by decide +kernel)) | exact Or.inr (hs _ (by decide +kernel)))
    | 3, _, h => (by first | exact Or.inl (hs _ (by decide +kernel)) | exact Or.inr (hs _ (by decide +kernel)))
    | 4, _, h => (by first | exact Or.inl (hs _ (by decide +kernel)) | exact Or.inr (hs _ (by decide +kernel)))
    | 5, _, h => (by first | exact Or.inl (hs _ (by decide +kernel)) | exact Or.inr (hs _ (by decide +kernel)))
    | 6, _, h => (by first | exact Or.inl (hs _ (by decide +kernel)) | exact Or.inr (hs _ (by decide +kernel)))
    | 7, _, h => (by first | exact Or.inl (hs _ (by decide +kernel)) | exact Or.inr (hs _ (by decide +kernel)))
    | 8, _, h => (by first | exact Or.inl (hs _ (by decide +kernel)) | exact Or.inr (hs _ (by decide +kernel)))
    | n + 9, h, _ => absurd h (by omega)
  | 1, _ => fun j hj hij => match j, hj, hij with
    | 0, _, h => (by first | exact Or.inl (hs _ (by decide +kernel)) | exact Or.inr (hs _ (by decide +kernel)))
    | 1, _, h => absurd rfl h
    | 2, _, h => (by first | exact Or.inl (hs _ (by decide +kernel)) | exact Or.inr (hs _ (by decide +kernel)))
    | 3, _, h => (by first | exact Or.inl (hs _ (by decide +kernel)) | exact Or.inr (hs _ (by decide +kernel)))
    | 4, _, h => (by first | exact Or.inl (hs _ (by decide +kernel)) | exact Or.inr (hs _ (by decide +kernel)))
    | 5, _, h => (by first | exact Or.inl (hs _ (by decide +kernel)) | exact Or.inr (hs _ (by decide +kernel)))
    | 6, _, h => (by first | exact Or.inl (hs _ (by decide +kernel)) | exact Or.inr (hs _ (by decide +kernel)))
    | 7, _, h => (by first | exact Or.inl (hs _ (by decide +kernel)) | exact Or.inr (hs _ (by decide +kernel)))
    | 8, _, h => (by first | exact Or.inl (hs _ (by decide +kernel)) | exact Or.inr (hs _ (by decide +kernel)))
    | n + 9, h, _ => absurd h (by omega)
  | 2, _ => fun j hj hij => match j, hj, hij with
    | 0, _, h => (by first | exact Or.inl (hs _ (by decide +kernel)) | exact Or.inr (hs _ (by decide +kernel)))
    | 1, _, h => (by first | exact Or.inl (hs _ (by decide +kernel)) | exact Or.inr (hs _ (by decide +kernel)))
    | 2, _, h => absurd rfl h
    | 3, _, h => (by first | exact Or.inl (hs _ (by decide +kernel)) | exact Or.inr (hs _ (by decide +kernel)))
    | 4, _, h => (by first | exact Or.inl (hs _ (by decide +kernel)) | exact Or.inr (hs _ (by decide +kernel)))
    | 5, _, h => (by first | exact Or.inl (hs _ (by decide +kernel)) | exact Or.inr (hs _ (by decide +kernel)))
    | 6, _, h => (by first | exact Or.inl (hs _ (by decide +kernel)) | exact Or.inr (hs _ (by decide +kernel)))
    | 7, _, h => (by first | exact Or.inl (hs _ (by decide +kernel)) | exact Or.inr (hs _ (by decide +kernel)))
    | 8, _, h => (by first | exact Or.inl (hs _ (by decide +kernel)) | exact Or.inr (hs _ (by decide +kernel)))
    | n + 9, h, _ => absurd h (by omega)
  | 3, _ => fun j hj hij => match j, hj, hij with
    | 0, _, h => (by first | exact Or.inl (hs _ (by decide +kernel)) | exact Or.inr (hs _ (by decide +kernel)))
    | 1, _, h => (by first | exact Or.inl (hs _ (by decide +kernel)) | exact Or.inr (hs _ (by decide +kernel)))
    | 2, _, h => (by first | exact Or.inl (hs _ (by decide +kernel)) | exact Or.inr (hs _ (by decide +kernel)))
    | 3, _, h => absurd rfl h
    | 4, _, h => (by first | exact Or.inl (hs _ (by decide +kernel)) | exact Or.inr (hs _ (by decide +kernel)))
    | 5, _, h => (by first | exact Or.inl (hs _ (by decide +kernel)) | exact Or.inr (hs _ (by decide +kernel)))
    | 6, _, h => (by first | exact Or.inl (hs _ (by decide +kernel)) | exact Or.inr (hs _ (by decide +kernel)))
    | 7, _, h => (by first | exact Or.inl (hs _ (by decide +kernel)) | exact Or.inr (hs _ (by decide +kernel)))
    | 8, _, h => (by first | exact Or.inl (hs _ (by decide +kernel)) | exact Or.inr (hs _ (by decide +kernel)))
    | n + 9, h, _ => absurd h (by omega)
  | 4, _ => fun j hj hij => match j, hj, hij with
    | 0, _, h => (by first | exact Or.inl (hs _ (by decide +kernel)) | exact Or.inr (hs _ (by decide +kernel)))
    | 1, _, h => (by first | exact Or.inl (hs _ (by decide +kernel)) | exact Or.inr (hs _ (by decide +kernel)))
    | 2, _, h => (by first | exact Or.inl (hs _ (by decide +kernel)) | exact Or.inr (hs _ (by decide +kernel)))
    | 3, _, h => (by first | exact Or.inl (hs _ (by decide +kernel)) | exact Or.inr (hs _ (by decide +kernel)))
    | 4, _, h => absurd rfl h
    | 5, _, h => (by first | exact Or.inl (hs _ (by decide +kernel)) | exact Or.inr (hs _ (by decide +kernel)))
    | 6, _, h => (by first | exact Or.inl (hs _ (by decide +kernel)) | exact Or.inr (hs _ (by decide +kernel)))
    | 7, _, h => (by first | exact Or.inl (hs _ (by decide +kernel)) | exact Or.inr (hs _ (by decide +kernel)))
    | 8, _, h => (by first | exact Or.inl (hs _ (by decide +kernel)) | exact Or.inr (hs _ (by decide +kernel)))
    | n + 9, h, _ => absurd h (by omega)
  | 5, _ => fun j hj hij => match j, hj, hij with
    | 0, _, h => (by first | exact Or.inl (hs _ (by decide +kernel)) | exact Or.inr (hs _ (by decide +kernel)))
    | 1, _, h => (by first | exact Or.inl (hs _ (by decide +kernel)) | exact Or.inr (hs _ (by decide +kernel)))
    | 2, _, h => (by first | exact Or.inl (hs _ (by decide +kernel)) | exact Or.inr (hs _ (by decide +kernel)))
    | 3, _, h => (by first | exact Or.inl (hs _ (by decide +kernel)) | exact Or.inr (hs _ (by decide +kernel)))
    | 4, _, h => (by first | exact Or.inl (hs _ (by decide +kernel)) | exact Or.inr (hs _ (by decide +kernel)))
    | 5, _, h => absurd rfl h
    | 6, _, h => (by first | exact Or.inl (hs _ (by decide +kernel)) | exact Or.inr (hs _ (by decide +kernel)))
    | 7, _, h => (by first | exact Or.inl (hs _ (by decide +kernel)) | exact Or.inr (hs _ (by decide +kernel)))
    | 8, _, h => (by first | exact Or.inl (hs _ (by decide +kernel)) | exact Or.inr (hs _ (by decide +kernel)))
    | n + 9, h, _ => absurd h (by omega)
  | 6, _ => fun j hj hij => match j, hj, hij with
    | 0, _, h => (by first | exact Or.inl (hs _ (by decide +kernel)) | exact Or.inr (hs _ (by decide +kernel)))
    | 1, _, h => (by first | exact Or.inl (hs _ (by decide +kernel)) | exact Or.inr (hs _ (by decide +kernel)))
    | 2, _, h => (by first | exact Or.inl (hs _ (by decide +kernel)) | exact Or.inr (hs _ (by decide +kernel)))
    | 3, _, h => (by first | exact Or.inl (hs _ (by decide +kernel)) | exact Or.inr (hs _ (by decide +kernel)))
    | 4, _, h => (by first | exact Or.inl (hs _ (by decide +kernel)) | exact Or.inr (hs _ (by decide +kernel)))
    | 5, _, h => (by first | exact Or.inl (hs _ (by decide +kernel)) | exact Or.inr (hs _ (by decide +kernel)))
    | 6, _, h => absurd rfl h
    | 7, _, h => (by first | exact Or.inl (hs _ (by decide +kernel)) | exact Or.inr (hs _ (by decide +kernel)))
    | 8, _, h => (by first | exact Or.inl (hs _ (by decide +kernel)) | exact Or.inr (hs _ (by decide +kernel)))
    | n + 9, h, _ => absurd h (by omega)
  | 7, _ => fun j hj hij => match j, hj, hij with
    | 0, _, h => (by first | exact Or.inl (hs _ (by decide +kernel)) | exact Or.inr (hs _ (by decide +kernel)))
    | 1, _, h => (by first | exact Or.inl (hs _ (by decide +kernel)) | exact Or.inr (hs _ (by decide +kernel)))
    | 2, _, h => (by first | exact Or.inl (hs _ (by decide +kernel)) | exact Or.inr (hs _ (by decide +kernel)))
    | 3, _, h => (by first | exact Or.inl (hs _ (by decide +kernel)) | exact Or.inr (hs _ (by decide +kernel)))
    | 4, _, h => (by first | exact Or.inl (hs _ (by decide +kernel)) | exact Or.inr (hs _ (by decide +kernel)))
    | 5, _, h => (by first | exact Or.inl (hs _ (by decide +kernel)) | exact Or.inr (hs _ (by decide +kernel)))
    | 6, _, h => (by first | exact Or.inl (hs _ (by decide +kernel)) | exact Or.inr (hs _ (by decide +kernel)))
    | 7, _, h => absurd rfl h
    | 8, _, h => (by first | exact Or.inl (hs _ (by decide +kernel)) | exact Or.inr (hs _ (by decide +kernel)))
    | n + 9, h, _ => absurd h (by omega)
  | 8, _ => fun j hj hij => match j, hj, hij with
    | 0, _, h => (by first | exact Or.inl (hs _ (by decide +kernel)) | exact Or.inr (hs _ (by decide +kernel)))
    | 1, _, h => (by first | exact Or.inl (hs _ (by decide +kernel)) | exact Or.inr (hs _ (by decide +kernel)))
    | 2, _, h => (by first | exact Or.inl (hs _ (by decide +kernel)) | exact Or.inr (hs _ (by decide +kernel)))
    | 3, _, h => (by first | exact Or.inl (hs _ (by decide +kernel)) | exact Or.inr (hs _ (by decide +kernel)))
    | 4, _, h => (by first | exact Or.inl (hs _ (by decide +kernel)) | exact Or.inr (hs _ (by decide +kernel)))
    | 5, _, h => (by first | exact Or.inl (hs _ (by decide +kernel)) | exact Or.inr (hs _ (by decide +kernel)))
    | 6, _, h => (by first | exact Or.inl (hs _ (by decide +kernel)) | exact Or.inr (hs _ (by decide +kernel)))
    | 7, _, h => (by first | exact Or.inl (hs _ (by decide +kernel)) | exact Or.inr (hs _ (by decide +kernel)))
    | 8, _, h => absurd rfl h
    | n + 9, h, _ => absurd h (by omega)
  | n + 9, h => absurd h (by omega)

theorem lw_RA {s : State} {A : Array Value} {ty : FieldType} (hp : ∀ C, ty ≠ .object C) (h : (Cond.arrayClass ty).before A s = true) : ∃ cA : ClassId, ArrOfT s cA ty ∧ va_RA s cA ty := by
  obtain ⟨c, k, comp, h1, h2, h3⟩ := Cond.arrayClass_spec h
  refine ⟨c, fun n z => ⟨fun k h => (by cases h), k, h2, comp, h3⟩, ?_⟩
  cases ty with
  | object C => exact absurd rfl (hp C)
  | _ => exact h1
theorem lw_RO {s : State} {A : Array Value} {C : String} (h : (Cond.arrayOver (.object C)).before A s = true) : ∃ cA : ClassId, ArrOfT s cA (.object C) ∧ va_RA s cA (.object C) := by
  obtain ⟨comp, c, k, h1, h2, h3, h4, h5⟩ := Cond.arrayOver_spec h
  exact ⟨c, fun n z => ⟨fun k h => (by cases h), k, h3, comp, h4⟩, k, comp, h3, h4, h1, h5⟩
set_option maxRecDepth 100000 in
theorem lw_m29 : Cond.methodLinkNest RX9 9 yX6_init "KnownTurns" ∈ lw_tbl := List.mem_append_right _ (List.mem_append_left _ (List.mem_of_getElem? (i := 29) (by decide +kernel)))
set_option maxRecDepth 100000 in
theorem lw_m67 : Cond.methodLinkNest RX4 9 yX0_init "KnownTurns" ∈ lw_tbl := List.mem_append_right _ (List.mem_append_left _ (List.mem_of_getElem? (i := 67) (by decide +kernel)))
set_option maxRecDepth 100000 in
theorem lw_m163 : Cond.methodLinkNest RX2 34 yX5_init "KnownTurns" ∈ lw_tbl := List.mem_append_right _ (List.mem_append_left _ (List.mem_of_getElem? (i := 163) (by decide +kernel)))
set_option maxRecDepth 100000 in
theorem lw_m207 : Cond.methodLinkNest RX9 48 yX3_init "KnownTurns" ∈ lw_tbl := List.mem_append_right _ (List.mem_append_left _ (List.mem_of_getElem? (i := 207) (by decide +kernel)))
set_option maxRecDepth 100000 in
theorem lw_m228 : Cond.methodLinkNest RX9 55 yX7_init "KnownTurns" ∈ lw_tbl := List.mem_append_right _ (List.mem_append_left _ (List.mem_of_getElem? (i := 228) (by decide +kernel)))
set_option maxRecDepth 100000 in
theorem lw_m267 : Cond.methodLinkNest RX9 62 yX1_init "KnownTurns" ∈ lw_tbl := List.mem_append_right _ (List.mem_append_right _ (List.mem_append_left _ (List.mem_of_getElem? (i := 27) (by decide +kernel))))
set_option maxRecDepth 100000 in
theorem lw_m279 : Cond.methodLinkNest RX9 91 yX8_init "KnownTurns" ∈ lw_tbl := List.mem_append_right _ (List.mem_append_right _ (List.mem_append_left _ (List.mem_of_getElem? (i := 39) (by decide +kernel))))
set_option maxRecDepth 100000 in
theorem lw_m490 : Cond.methodLinkNest RX6 137 yX9_isVariable "KnownTurns" ∈ lw_tbl := List.mem_append_right _ (List.mem_append_right _ (List.mem_append_right _ (List.mem_append_left _ (List.mem_of_getElem? (i := 10) (by decide +kernel)))))
set_option maxRecDepth 100000 in
theorem lw_m604 : Cond.methodLinkNest RX5 30 yX9_isVariable "KnownTurns" ∈ lw_tbl := List.mem_append_right _ (List.mem_append_right _ (List.mem_append_right _ (List.mem_append_left _ (List.mem_of_getElem? (i := 124) (by decide +kernel)))))
set_option maxRecDepth 100000 in
theorem lw_m883 : Cond.methodLinkNest RX7 73 yX9_isVariable "KnownTurns" ∈ lw_tbl := List.mem_append_right _ (List.mem_append_right _ (List.mem_append_right _ (List.mem_append_right _ (List.mem_append_left _ (List.mem_of_getElem? (i := 163) (by decide +kernel))))))
set_option maxRecDepth 100000 in
theorem lw_m134 : Cond.arrayOver (.object "KnownTurns$Block") ∈ lw_tbl := List.mem_append_right _ (List.mem_append_left _ (List.mem_of_getElem? (i := 134) (by decide +kernel)))
set_option maxRecDepth 100000 in
theorem lw_m153 : Cond.arrayOver (.object "KnownTurns$Program") ∈ lw_tbl := List.mem_append_right _ (List.mem_append_left _ (List.mem_of_getElem? (i := 153) (by decide +kernel)))
set_option maxRecDepth 100000 in
theorem lw_m161 : Cond.arrayOver (.object "KnownTurns$Ranges") ∈ lw_tbl := List.mem_append_right _ (List.mem_append_left _ (List.mem_of_getElem? (i := 161) (by decide +kernel)))
set_option maxRecDepth 100000 in
theorem lw_m277 : Cond.arrayOver (.object "KnownTurns$Sheet") ∈ lw_tbl := List.mem_append_right _ (List.mem_append_right _ (List.mem_append_left _ (List.mem_of_getElem? (i := 37) (by decide +kernel))))
set_option maxRecDepth 100000 in
theorem lw_m401 : Cond.stringRef RX6 122 "set" ∈ lw_tbl := List.mem_append_right _ (List.mem_append_right _ (List.mem_append_left _ (List.mem_of_getElem? (i := 161) (by decide +kernel))))
set_option maxRecDepth 100000 in
theorem lw_m454 : Cond.stringRef RX6 124 "add" ∈ lw_tbl := List.mem_append_right _ (List.mem_append_right _ (List.mem_append_left _ (List.mem_of_getElem? (i := 214) (by decide +kernel))))
set_option maxRecDepth 100000 in
theorem lw_m455 : Cond.stringRef RX6 126 "sub" ∈ lw_tbl := List.mem_append_right _ (List.mem_append_right _ (List.mem_append_left _ (List.mem_of_getElem? (i := 215) (by decide +kernel))))
set_option maxRecDepth 100000 in
theorem lw_m456 : Cond.stringRef RX6 128 "move" ∈ lw_tbl := List.mem_append_right _ (List.mem_append_right _ (List.mem_append_left _ (List.mem_of_getElem? (i := 216) (by decide +kernel))))
set_option maxRecDepth 100000 in
theorem lw_m457 : Cond.stringRef RX6 130 "read" ∈ lw_tbl := List.mem_append_right _ (List.mem_append_right _ (List.mem_append_left _ (List.mem_of_getElem? (i := 217) (by decide +kernel))))
set_option maxRecDepth 100000 in
theorem lw_m458 : Cond.stringRef RX6 132 "write" ∈ lw_tbl := List.mem_append_right _ (List.mem_append_right _ (List.mem_append_left _ (List.mem_of_getElem? (i := 218) (by decide +kernel))))
set_option maxRecDepth 100000 in
theorem lw_m463 : Cond.stringRef RX6 86 "stop" ∈ lw_tbl := List.mem_append_right _ (List.mem_append_right _ (List.mem_append_left _ (List.mem_of_getElem? (i := 223) (by decide +kernel))))
set_option maxRecDepth 100000 in
theorem lw_m464 : Cond.stringRef RX6 95 "go" ∈ lw_tbl := List.mem_append_right _ (List.mem_append_right _ (List.mem_append_left _ (List.mem_of_getElem? (i := 224) (by decide +kernel))))
set_option maxRecDepth 100000 in
theorem lw_m481 : Cond.stringRef RX6 100 "if" ∈ lw_tbl := List.mem_append_right _ (List.mem_append_right _ (List.mem_append_right _ (List.mem_append_left _ (List.mem_of_getElem? (i := 1) (by decide +kernel)))))
set_option maxRecDepth 100000 in
theorem lw_m415 : Cond.laysStatic "java/lang/String" "COMPACT_STRINGS" "Z" ∈ lw_tbl := List.mem_append_right _ (List.mem_append_right _ (List.mem_append_left _ (List.mem_of_getElem? (i := 175) (by decide +kernel))))
set_option maxRecDepth 100000 in
theorem lw_m431 : Cond.laysStatic "jdk/internal/util/Preconditions" "SIOOBE_FORMATTER" "Ljava/util/function/BiFunction;" ∈ lw_tbl := List.mem_append_right _ (List.mem_append_right _ (List.mem_append_left _ (List.mem_of_getElem? (i := 191) (by decide +kernel))))
set_option maxHeartbeats 4000000 in
set_option maxRecDepth 100000 in
theorem lw_K (l : Launch) {b : Nat} {s : State} (hts : ∀ w ∈ lw_tbl, w.before #[Value.ref b] s = true) (hgv : (Jvm.Cond.and given_1 narrow_1).before #[Value.ref b] s = true) : ∃ G : kt_G, kt_la G = l ∧ kt_b G = s.heap.size ∧ kt_K G s := by
  have ht : ∀ w ∈ kt_T, w.before #[Value.ref b] s = true := fun w h => hts w (List.mem_filter.mp h).1
  have hs := lw_flat hgv
  have hA : ∀ a : Nat, a < s.heap.size → ¬ (fun q : Nat => s.heap.size ≤ q) a := fun a h => Nat.not_le.mpr h
  obtain ⟨c0, d0, hk0⟩ := u_known (C := RX0) (T := TX0) (N := 11) (n := 11) ht ki_RX0 (ht _ kw_66)
  obtain ⟨c1, d1, hk1⟩ := u_known (C := RX1) (T := TX1) (N := 1) (n := 1) ht ki_RX1 (ht _ kw_266)
  obtain ⟨c2, d2, hk2⟩ := u_known (C := RX2) (T := TX2) (N := 8) (n := 8) ht ki_RX2 (ht _ kw_155)
  obtain ⟨c3, d3, hk3⟩ := u_known (C := RX3) (T := TX3) (N := 4) (n := 4) ht ki_RX3 (ht _ kw_206)
  obtain ⟨c4, d4, hk4⟩ := u_known (C := RX4) (T := TX4) (N := 4) (n := 4) ht ki_RX4 (ht _ kw_60)
  obtain ⟨c5, d5, hk5⟩ := u_known (C := RX5) (T := TX5) (N := 3) (n := 3) ht ki_RX5 (ht _ kw_162)
  obtain ⟨c6, d6, hk6⟩ := u_known (C := RX6) (T := TX6) (N := 7) (n := 7) ht ki_RX6 (ht _ kw_28)
  obtain ⟨c7, d7, hk7⟩ := u_known (C := RX7) (T := TX7) (N := 9) (n := 9) ht ki_RX7 (ht _ kw_227)
  obtain ⟨c8, d8, hk8⟩ := u_known (C := RX8) (T := TX8) (N := 3) (n := 3) ht ki_RX8 (ht _ kw_278)
  obtain ⟨c9, d9, hk9⟩ := u_known (C := RX9) (T := TX9) (N := 16) (n := 16) ht ki_RX9 (ht _ kw_20)
  obtain ⟨c10, d10, hk10⟩ := u_known (C := RX10) (T := TX10) (N := 34) (n := 34) ht ki_RX10 (ht _ kw_1012)
  obtain ⟨a1, hra1⟩ := lw_RA (ty := .int) (fun C h => by cases h) (ht _ kw_58)
  obtain ⟨a2, hra2⟩ := lw_RA (ty := .long) (fun C h => by cases h) (ht _ kw_1120)
  obtain ⟨a3, hra3⟩ := lw_RA (ty := .boolean) (fun C h => by cases h) (ht _ kw_177)
  obtain ⟨a4, hra4⟩ := lw_RO (hts _ lw_m134)
  obtain ⟨a5, hra5⟩ := lw_RO (hts _ lw_m153)
  obtain ⟨a6, hra6⟩ := lw_RO (hts _ lw_m161)
  obtain ⟨a7, hra7⟩ := lw_RO (hts _ lw_m277)
  obtain ⟨adK, adV, hS, hE⟩ := vk_Sof (N := 9) (tm := lw_tm) (len := kt_sn) (byt := kt_sb) (A := fun q : Nat => s.heap.size ≤ q) (by decide) (lw_ex hs) (lw_co hs) (lw_ar hs) (lw_le hs) (lw_el hs) (fun i j hi hj hij => lw_ne hs i hi j hj hij) hA
  refine ⟨(fun k => match k with | 0 => c0 | 1 => c1 | 2 => c2 | 3 => c3 | 4 => c4 | 5 => c5 | 6 => c6 | 7 => c7 | 8 => c8 | 9 => c9 | _ => c10, fun k => match k with | 0 => d0 | 1 => d1 | 2 => d2 | 3 => d3 | 4 => d4 | 5 => d5 | 6 => d6 | 7 => d7 | 8 => d8 | 9 => d9 | _ => d10, fun k => match k with | 1 => a1 | 2 => a2 | 3 => a3 | 4 => a4 | 5 => a5 | 6 => a6 | _ => a7, s.heap.size, adK, adV, l), rfl, rfl, ⟨?_, ?_⟩, ?_, ?_, hS, ?_, ?_, ?_⟩
  · intro k q hq
    match k, hq with
    | 0, hq => cases hq; exact hk0
    | 1, hq => cases hq; exact hk1
    | 2, hq => cases hq; exact hk2
    | 3, hq => cases hq; exact hk3
    | 4, hq => cases hq; exact hk4
    | 5, hq => cases hq; exact hk5
    | 6, hq => cases hq; exact hk6
    | 7, hq => cases hq; exact hk7
    | 8, hq => cases hq; exact hk8
    | 9, hq => cases hq; exact hk9
    | 10, hq => cases hq; exact hk10
    | k + 11, hq => simp [vwCl] at hq
  · intro k q hq
    match k, hq with
    | 0, hq => cases hq; exact hra1
    | 1, hq => cases hq; exact hra1
    | 2, hq => cases hq; exact hra2
    | 3, hq => cases hq; exact hra3
    | 4, hq => cases hq; exact hra4
    | 5, hq => cases hq; exact hra5
    | 6, hq => cases hq; exact hra6
    | 7, hq => cases hq; exact hra7
    | k + 8, hq => simp [kt_tys] at hq
  · intro w hw
    unfold kt_ns at hw
    simp only [List.mem_cons, List.mem_nil_iff, or_false] at hw
    rcases hw with rfl | rfl | rfl | rfl | rfl | rfl | rfl | rfl | rfl | rfl
    · exact va_Nw.of rfl (hts _ lw_m29)
    · exact va_Nw.of rfl (hts _ lw_m67)
    · exact va_Nw.of rfl (hts _ lw_m163)
    · exact va_Nw.of rfl (hts _ lw_m207)
    · exact va_Nw.of rfl (hts _ lw_m228)
    · exact va_Nw.of rfl (hts _ lw_m267)
    · exact va_Nw.of rfl (hts _ lw_m279)
    · exact va_Nw.of rfl (hts _ lw_m490)
    · exact va_Nw.of rfl (hts _ lw_m604)
    · exact va_Nw.of rfl (hts _ lw_m883)
  · intro C hw
    unfold kt_ao at hw
    simp only [List.mem_cons, List.mem_nil_iff, or_false] at hw
    rcases hw with rfl | rfl | rfl | rfl
    · exact va_AO.of (hts _ lw_m134)
    · exact va_AO.of (hts _ lw_m153)
    · exact va_AO.of (hts _ lw_m161)
    · exact va_AO.of (hts _ lw_m277)
  · intro i hi
    match i, hi with
    | 0, hi => exact vk_R.of (hts _ lw_m401) (hE 0 (by decide))
    | 1, hi => exact vk_R.of (hts _ lw_m454) (hE 1 (by decide))
    | 2, hi => exact vk_R.of (hts _ lw_m455) (hE 2 (by decide))
    | 3, hi => exact vk_R.of (hts _ lw_m456) (hE 3 (by decide))
    | 4, hi => exact vk_R.of (hts _ lw_m457) (hE 4 (by decide))
    | 5, hi => exact vk_R.of (hts _ lw_m458) (hE 5 (by decide))
    | 6, hi => exact vk_R.of (hts _ lw_m463) (hE 6 (by decide))
    | 7, hi => exact vk_R.of (hts _ lw_m464) (hE 7 (by decide))
    | 8, hi => exact vk_R.of (hts _ lw_m481) (hE 8 (by decide))
    | n + 9, h => omega
  · exact va_Zof (hts _ lw_m415) (ht _ kw_12) (va_eqt (hs _ (by decide +kernel))) hA
  · exact va_Zqof (hts _ lw_m431) (ht _ kw_14) (hs _ (by decide +kernel)) hA


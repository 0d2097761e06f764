/-! THE LAW'S ENTRY: from a run of the abstract machine to the walk that the claim wants -/
def lawS (L : Nat) (xs : Nat → Int32) : AS := (fun _ _ => 0, fun _ _ => none, fun c a k => if c = 18 ∧ a = 0 then (xs k).toInt else 0, fun _ _ _ => none, fun c a => if c = 18 ∧ a = 0 then L else 0, fun c => if c = 18 then 1 else 0, 0, 0)
def lawQ : AQ := fun r σ => r = some (vi 1) ∧ nC σ ≤ 600000 ∧ nS σ ≤ 7302249
theorem lawS_ok {L : Nat} {xs : Nat → Int32} (hL : L ≤ 2560) : okS L xs (lawS L xs) := by
  refine ⟨fun _ _ => inr_0, (fun _ _ _ h => by cases h), fun c a k => ?_, (fun _ _ _ _ h => by cases h), fun c a => ?_, fun c h => ?_, rfl, rfl, fun k => rfl⟩
  · show InR (if c = 18 ∧ a = 0 then (xs k).toInt else 0)
    split
    · exact inr_toInt _
    · exact inr_0
  · show (if c = 18 ∧ a = 0 then L else 0) ≤ 100000
    split <;> omega
  · have h : (if c = 18 then 1 else 0) ≠ 0 := h
    split at h
    · omega
    · exact absurd rfl h
def sTm (i : Nat) : Term := .string (cN (sOwn i)) (sIdx i)
def nFl : List Jvm.Cond := flatC (Jvm.Cond.and given_1 narrow_1)
set_option maxRecDepth 1000000 in
theorem n_ex : ∀ i, i < 10 → Cond.exactly (sTm i) "java/lang/String" ∈ nFl := by decide +kernel
set_option maxRecDepth 1000000 in
theorem n_co : ∀ i, i < 10 → Cond.eq (.field (sTm i) "java/lang/String" "coder" "B") (.int 0) ∈ nFl := by decide +kernel
set_option maxRecDepth 1000000 in
theorem n_ar : ∀ i, i < 10 → Cond.arrayOf (.field (sTm i) "java/lang/String" "value" "[B") .byte ∈ nFl := by decide +kernel
set_option maxRecDepth 1000000 in
theorem n_le : ∀ i, i < 10 → Cond.eq (.length (.field (sTm i) "java/lang/String" "value" "[B")) (.int (Int32.ofNat (sLen.getD i 0))) ∈ nFl := by decide +kernel
set_option maxRecDepth 1000000 in
theorem n_el : ∀ i, i < 10 → ∀ j, j < sLen.getD i 0 → Cond.eq (.elem (.field (sTm i) "java/lang/String" "value" "[B") (.int (Int32.ofNat j))) (.int ((sByt.getD i []).getD j 0)) ∈ nFl := by decide +kernel
set_option maxRecDepth 1000000 in
theorem n_ne : ∀ i, i < 10 → ∀ j, j < 10 → i ≠ j → (Cond.not (Cond.eq (sTm i) (sTm j)) ∈ nFl ∨ Cond.not (Cond.eq (sTm j) (sTm i)) ∈ nFl) := by decide +kernel
set_option maxRecDepth 1000000 in
theorem n_st : Cond.eq (.static "java/lang/String" "COMPACT_STRINGS" "Z") (.int 1) ∈ nFl ∧ Cond.isRef (.static "jdk/internal/util/Preconditions" "SIOOBE_FORMATTER" "Ljava/util/function/BiFunction;") ∈ nFl := by decide +kernel
set_option maxRecDepth 1000000 in
theorem n_lays : Cond.laysStatic "java/lang/String" "COMPACT_STRINGS" "Z" ∈ lw_tbl ∧ Cond.laysStatic "jdk/internal/util/Preconditions" "SIOOBE_FORMATTER" "Ljava/util/function/BiFunction;" ∈ lw_tbl ∧ Cond.arrayOver (.object RX8) ∈ lw_tbl ∧ Cond.arrayOver (.object RX0) ∈ lw_tbl ∧ Cond.arrayOver (.array .int) ∈ lw_tbl ∧ Cond.arrayClass .int ∈ lw_tbl ∧ Cond.arrayClass .boolean ∈ lw_tbl := by decide +kernel
set_option maxRecDepth 1000000 in
theorem n_str : ∀ i, i < 10 → Cond.stringRef (cN (sOwn i)) (sIdx i) (sText i) ∈ lw_tbl := by decide +kernel

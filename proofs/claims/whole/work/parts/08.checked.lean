/-- every instruction that the tables have: what is decoded, and what the tables say of it -/
theorem ck_all {m p : Nat} {i : Jvm.ClassFile.Instr} {len x y nx : Nat} (h : ins m p = some (i, len, x, y, nx)) : m < 176 ∧ decode (mB m) p = .ok (i, len) ∧ nx = p + len ∧ ckI m p i len x y = true := by
  have hm : m < 176 := by
    rcases Nat.lt_or_ge m 176 with a | a
    · exact a
    · have : Nat.blt m 176 = false := by
        cases hb : Nat.blt m 176 with
        | false => rfl
        | true => exact absurd (Nat.le_of_ble_eq_true hb) (by omega)
      simp [ins, this] at h
  have hp : p < 700 := by
    rcases Nat.lt_or_ge p 700 with a | a
    · exact a
    · have : Nat.blt p 700 = false := by
        cases hb : Nat.blt p 700 with
        | false => rfl
        | true => exact absurd (Nat.le_of_ble_eq_true hb) (by omega)
      simp [ins, this] at h
  have hc := ck_insA m hm p hp
  unfold chk at hc
  rw [h] at hc
  simp only [Bool.and_eq_true, decide_eq_true_eq, Nat.beq_eq] at hc
  exact ⟨hm, hc.1.1, hc.1.2, hc.2⟩

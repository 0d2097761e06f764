/-! SETS of 8, as bits -/
theorem i32_nat {a : Nat} (h : a < 2147483648) : (Int32.ofInt (a : Int)).toBitVec = BitVec.ofNat 32 a ∧ (BitVec.ofNat 32 a).toNat = a := by
  constructor
  · rw [Int32.toBitVec_ofInt]
    rfl
  · rw [BitVec.toNat_ofNat]; exact Nat.mod_eq_of_lt (by omega)
theorem bv_int {x : BitVec 32} (h : x.toNat < 2147483648) : x.toInt = (x.toNat : Int) := by
  rw [BitVec.toInt_eq_toNat_of_lt]
  omega
theorem iOr_nat {a b : Nat} (ha : a < 2147483648) (hb : b < 2147483648) : iOr (a : Int) (b : Int) = ((a ||| b : Nat) : Int) := by
  unfold iOr
  have h1 := i32_nat ha
  have h2 := i32_nat hb
  have : (Int32.ofInt (a : Int) ||| Int32.ofInt (b : Int)).toInt = (BitVec.ofNat 32 a ||| BitVec.ofNat 32 b).toInt := by
    rw [← Int32.toInt_toBitVec, Int32.toBitVec_or, h1.1, h2.1]
  rw [this]
  have hn : (BitVec.ofNat 32 a ||| BitVec.ofNat 32 b).toNat = a ||| b := by rw [BitVec.toNat_or, h1.2, h2.2]
  have hlt : a ||| b < 2147483648 := Nat.or_lt_two_pow (n := 31) ha hb
  rw [bv_int (by rw [hn]; exact hlt), hn]
theorem iAnd_nat {a b : Nat} (ha : a < 2147483648) (hb : b < 2147483648) : iAnd (a : Int) (b : Int) = ((a &&& b : Nat) : Int) := by
  unfold iAnd
  have h1 := i32_nat ha
  have h2 := i32_nat hb
  have : (Int32.ofInt (a : Int) &&& Int32.ofInt (b : Int)).toInt = (BitVec.ofNat 32 a &&& BitVec.ofNat 32 b).toInt := by
    rw [← Int32.toInt_toBitVec, Int32.toBitVec_and, h1.1, h2.1]
  rw [this]
  have hn : (BitVec.ofNat 32 a &&& BitVec.ofNat 32 b).toNat = a &&& b := by rw [BitVec.toNat_and, h1.2, h2.2]
  have hlt : a &&& b < 2147483648 := Nat.lt_of_le_of_lt Nat.and_le_left ha
  rw [bv_int (by rw [hn]; exact hlt), hn]
theorem sm_ush_ : ∀ a : Nat, a < 16 → ∀ b : Nat, b < 16 → ∀ k : Nat, k < 8 → iUshr ((16 * a + b : Nat) : Int) (k : Int) = (((16 * a + b) / 2 ^ k : Nat) : Int) := by decide
theorem sm_ush (k : Nat) (hk : k < 8) (n : Nat) (hn : n < 256) : iUshr (n : Int) (k : Int) = ((n / 2 ^ k : Nat) : Int) := by
  have := sm_ush_ (n / 16) (by omega) (n % 16) (by omega) k hk
  rw [Nat.div_add_mod] at this
  exact this
theorem sm_shr_ : ∀ a : Nat, a < 16 → ∀ b : Nat, b < 16 → ∀ k : Nat, k < 8 → iShr ((16 * a + b : Nat) : Int) (k : Int) = (((16 * a + b) / 2 ^ k : Nat) : Int) := by decide
theorem sm_shr (k : Nat) (hk : k < 8) (n : Nat) (hn : n < 256) : iShr (n : Int) (k : Int) = ((n / 2 ^ k : Nat) : Int) := by
  have := sm_shr_ (n / 16) (by omega) (n % 16) (by omega) k hk
  rw [Nat.div_add_mod] at this
  exact this
theorem sm_shl : ∀ k : Nat, k < 8 → iShl 1 (k : Int) = ((2 ^ k : Nat) : Int) := by decide
def bN (x : Int) (p : Nat → Bool) : Prop := ∃ n : Nat, n < 256 ∧ x = (n : Int) ∧ ∀ k, k < 8 → n.testBit k = p k
theorem bN_0 : bN 0 (fun _ => false) := ⟨0, by decide, rfl, fun k _ => Nat.zero_testBit k⟩
theorem bN_or {x y : Int} {p q : Nat → Bool} (h : bN x p) (g : bN y q) : bN (iOr x y) (fun k => p k || q k) := by
  obtain ⟨n, h1, h2, h3⟩ := h
  obtain ⟨m, g1, g2, g3⟩ := g
  refine ⟨n ||| m, Nat.or_lt_two_pow (n := 8) h1 g1, ?_, fun k hk => ?_⟩
  · rw [h2, g2, iOr_nat (by omega) (by omega)]
  · rw [Nat.testBit_or, h3 k hk, g3 k hk]
theorem bN_shl {r : Nat} (hr : r < 8) : bN (iShl 1 (r : Nat)) (fun k => decide (k = r)) := by
  refine ⟨2 ^ r, ?_, sm_shl r hr, fun k hk => ?_⟩
  · have : ∀ r : Nat, r < 8 → 2 ^ r < 256 := by decide
    exact this r hr
  · rw [Nat.testBit_two_pow]
    by_cases w : r = k
    · subst w; simp
    · simp [w]; omega
theorem bN_and {x : Int} {p : Nat → Bool} (h : bN x p) {r : Nat} (hr : r < 8) : bN (iAnd x (iShl 1 (r : Nat))) (fun k => decide (k = r) && p k) := by
  obtain ⟨n, h1, h2, h3⟩ := h
  obtain ⟨m, g1, g2, g3⟩ := bN_shl hr
  refine ⟨n &&& m, Nat.lt_of_le_of_lt Nat.and_le_left h1, ?_, fun k hk => ?_⟩
  · rw [h2, g2, iAnd_nat (by omega) (by omega)]
  · rw [Nat.testBit_and, h3 k hk, g3 k hk, Bool.and_comm]
theorem bN_one {n : Nat} {k : Nat} {b : Bool} (h : n.testBit k = b) (hn : n < 256) : iAnd ((n / 2 ^ k : Nat) : Int) 1 = bI b := by
  have h1 : n / 2 ^ k < 256 := Nat.lt_of_le_of_lt (Nat.div_le_self _ _) hn
  rw [show (1 : Int) = ((1 : Nat) : Int) from rfl, iAnd_nat (by omega) (by omega), Nat.and_one_is_mod]
  rw [Nat.testBit_eq_decide_div_mod_eq] at h
  subst h
  have := Nat.mod_two_eq_zero_or_one (n / 2 ^ k)
  rcases this with w | w
  · rw [w]; rfl
  · rw [w]; rfl
theorem bN_bit {x : Int} {p : Nat → Bool} (h : bN x p) {k : Nat} (hk : k < 8) : iAnd (iUshr x (k : Nat)) 1 = bI (p k) := by
  obtain ⟨n, h1, h2, h3⟩ := h
  rw [h2, sm_ush k hk n h1]
  exact bN_one (h3 k hk) h1
theorem bN_bit2 {x : Int} {p : Nat → Bool} (h : bN x p) {k : Nat} (hk : k < 8) : iAnd (iShr x (k : Nat)) 1 = bI (p k) := by
  obtain ⟨n, h1, h2, h3⟩ := h
  rw [h2, sm_shr k hk n h1]
  exact bN_one (h3 k hk) h1
theorem bN.cg {x : Int} {p q : Nat → Bool} (h : bN x p) (e : ∀ k, k < 8 → p k = q k) : bN x q := by
  obtain ⟨n, h1, h2, h3⟩ := h
  exact ⟨n, h1, h2, fun k hk => by rw [h3 k hk, e k hk]⟩
theorem bN.rg {x : Int} {p : Nat → Bool} (h : bN x p) : 0 ≤ x ∧ x < 256 := by
  obtain ⟨n, h1, h2, h3⟩ := h
  omega


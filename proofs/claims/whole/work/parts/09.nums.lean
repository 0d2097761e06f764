def InR (n : Int) : Prop := -2147483648 ≤ n ∧ n ≤ 2147483647
theorem inR_iff {n : Int} : inR n = true ↔ InR n := by simp [inR, InR]
theorem wr_id {x : Int} (h1 : -2147483648 ≤ x) (h2 : x ≤ 2147483647) : wr x = x := by
  unfold wr
  rw [Int.bmod_def]
  omega
theorem inr_wr (x : Int) : InR (wr x) := by
  unfold wr InR
  rw [Int.bmod_def]
  omega
theorem inr_toInt (x : Int32) : InR x.toInt := by
  have h1 := Int32.le_toInt x
  have h2 := Int32.toInt_lt x
  unfold InR
  omega
theorem toInt_ofInt {n : Int} (h : InR n) : (Int32.ofInt n).toInt = n := by
  obtain ⟨h1, h2⟩ := h
  rw [Int32.toInt_ofInt]
  show Int.bmod n 4294967296 = n
  rw [Int.bmod_def]
  omega
theorem ofInt_wr (x : Int) : Int32.ofInt (wr x) = Int32.ofInt x := by
  apply Int32.toInt_inj.mp
  rw [toInt_ofInt (inr_wr x), Int32.toInt_ofInt]
  rfl
theorem oI_add (a b : Int) : Int32.ofInt a + Int32.ofInt b = Int32.ofInt (wr (a + b)) := by rw [ofInt_wr, Int32.ofInt_add]
theorem oI_sub (a b : Int) : Int32.ofInt a - Int32.ofInt b = Int32.ofInt (wr (a - b)) := by rw [ofInt_wr, Int32.ofInt_sub]
theorem oI_mul (a b : Int) : Int32.ofInt a * Int32.ofInt b = Int32.ofInt (wr (a * b)) := by rw [ofInt_wr, Int32.ofInt_mul]
theorem oI_lt {a b : Int} (ha : InR a) (hb : InR b) : Int32.ofInt a < Int32.ofInt b ↔ a < b := by rw [Int32.lt_iff_toInt_lt, toInt_ofInt ha, toInt_ofInt hb]
theorem oI_le {a b : Int} (ha : InR a) (hb : InR b) : Int32.ofInt a ≤ Int32.ofInt b ↔ a ≤ b := by rw [Int32.le_iff_toInt_le, toInt_ofInt ha, toInt_ofInt hb]
theorem oI_eq {a b : Int} (ha : InR a) (hb : InR b) : Int32.ofInt a = Int32.ofInt b ↔ a = b := by rw [← Int32.toInt_inj, toInt_ofInt ha, toInt_ofInt hb]
theorem oI_clamp {i : Int} (h : InR i) : (Int32.ofInt i).toNatClampNeg = i.toNat := by
  show (Int32.ofInt i).toInt.toNat = i.toNat
  rw [toInt_ofInt h]
theorem oI_in {i : Int} {n : Nat} (h : InR i) (h0 : 0 ≤ i) (h1 : i < n) : vp_in (Int32.ofInt i) n := by
  rw [vp_in_iff, toInt_ofInt h]
  exact ⟨h0, h1⟩
theorem inr_nat {n : Nat} (h : n ≤ 100000) : InR (n : Int) := by unfold InR; omega
theorem oI_nat (n : Nat) : Int32.ofInt (n : Int) = Int32.ofNat n := rfl
theorem oI_toInt (x : Int32) : Int32.ofInt x.toInt = x := Int32.ofInt_toInt x
theorem inr_0 : InR 0 := by unfold InR; omega

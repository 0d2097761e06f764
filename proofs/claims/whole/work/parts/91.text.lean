/-! THE MODEL: worth and text -/
theorem wr_nat {q : Nat} (h : q ≤ 2147483647) : Int.bmod (q : Int) 4294967296 = (q : Int) := by rw [Int.bmod_def]; omega
theorem inr_nat2 {q : Nat} (h : q ≤ 2147483647) : InR (q : Int) := by unfold InR; omega
theorem iDiv_nn {a b : Nat} (ha : a ≤ 2147483647) (hb2 : b ≤ 2147483647) : iDiv (a : Int) (b : Int) = ((a / b : Nat) : Int) := by
  have hd : a / b ≤ a := Nat.div_le_self a b
  unfold iDiv
  rw [Int32.toInt_div, toInt_ofInt (inr_nat2 ha), toInt_ofInt (inr_nat2 hb2)]
  have e : (a : Int).tdiv (b : Int) = ((a / b : Nat) : Int) := (Int.ofNat_tdiv a b).symm
  rw [e]
  exact wr_nat (Nat.le_trans hd ha)
theorem iRem_nn {a b : Nat} (ha : a ≤ 2147483647) (hb2 : b ≤ 2147483647) : iRem (a : Int) (b : Int) = ((a % b : Nat) : Int) := by
  have h1 := iDiv_nn ha hb2
  unfold iDiv at h1
  have hd : a / b ≤ a := Nat.div_le_self a b
  have hm2 : a / b * b + a % b = a := Nat.div_add_mod' a b
  generalize a / b = q at hd hm2 h1
  have e1 : Int32.ofInt (a : Int) / Int32.ofInt (b : Int) = Int32.ofInt (q : Int) := by
    apply Int32.toInt_inj.mp
    rw [h1, toInt_ofInt (inr_nat2 (Nat.le_trans hd ha))]
  unfold iRem
  generalize hp : q * b = p at hm2
  have hp2 : (q : Int) * (b : Int) = (p : Int) := by rw [← hp, Int.natCast_mul]
  rw [e1, oI_mul, hp2, wr_id (by omega) (by omega), oI_sub, wr_id (by omega) (by omega), toInt_ofInt (by unfold InR; omega)]
  omega
/-- a good tree (true), a good list (false) -/
def gA : Bool → TT → Prop
  | true, .num n => n < 256
  | true, .mulL _ ts => gA false ts
  | true, .mulR (.add a b) c => c < 256 ∧ gA true a ∧ gA true b
  | false, .var _ => True
  | false, .add t ts => gA true t ∧ gA false ts
  | _, _ => False
theorem gA_isN : ∀ {t : TT}, gA true t → ∀ acc, worthA t acc = wr (wr (acc * 10) + worthT t)
  | .num n, _, acc => by
    have z : wr (0 * 10) = 0 := by unfold wr; decide
    simp only [worthT, worthA, z, Int.zero_add]; rw [wr_add_wr]
  | .mulL k l, _, acc => by
    have z : wr (0 * 10) = 0 := by unfold wr; decide
    simp only [worthT, worthA, z, Int.zero_add]; rw [wr_add_wr]
  | .mulR (.add a b) c, _, acc => by
    have z : wr (0 * 10) = 0 := by unfold wr; decide
    simp only [worthT, worthA, z, Int.zero_add]; rw [wr_add_wr]
theorem gA_list : ∀ (l : List TT), (∀ t ∈ l, gA true t) → gA false (listT l)
  | [], _ => trivial
  | t :: l, h => ⟨h t List.mem_cons_self, gA_list l (fun u hu => h u (List.mem_cons_of_mem _ hu))⟩
/-- what is closed is good -/
theorem NodeS.good {σ : AS} {N L : Nat} {tab : Nat → TT} {cl : Nat → Prop} {kids : Nat → List Nat} {own : Nat → Nat} (hn : NodeS σ N L tab cl kids own) : ∀ (D i : Nat), cl i → sizeT (tab i) ≤ D → gA true (tab i)
  | 0, i, hc, hs => by
    exfalso
    obtain ⟨h1, h2⟩ := (hn.2.2.2 i (hn.2.2.1 i hc)).2.2.2 hc
    rw [h1.size] at hs
    simp [sizeT, boughT] at hs
  | D + 1, i, hc, hs => by
    obtain ⟨b1, b2, b3, b4⟩ := hn.2.2.2 i (hn.2.2.1 i hc)
    obtain ⟨h1, h2⟩ := b4 hc
    have hsz := h1.size
    rw [sizeT_bough] at hsz
    have kid : ∀ c ∈ kids i, gA true (tab c) := fun c hk => NodeS.good hn D c (b3 c hk) (by
      have := sizeT_mem (t := tab c) ((kids i).map tab) (List.mem_map_of_mem hk)
      omega)
    rcases h1 with ⟨k1, n, k2, k3, k4, k5⟩ | ⟨k1, k2, k3⟩ | ⟨k1, c, a, b, k2, k3, k4, k5⟩
    · rw [k3]; exact k2
    · rw [k3]; exact gA_list _ (fun t ht => by
        obtain ⟨c, hc, rfl⟩ := List.mem_map.mp ht
        exact kid c hc)
    · rw [k5]
      exact ⟨k2, kid a (by rw [k4]; simp), kid b (by rw [k4]; simp)⟩
theorem digs_len {n : Nat} (h : n < 256) : (digs n).length ≤ 3 := by
  unfold digs
  split <;> split <;> simp
theorem text_len : ∀ (t : TT), (gA true t → (textA t none).length + 1 ≤ 4 * sizeT t) ∧ (gA false t → ∀ sep first, (textA t (some (sep, first))).length ≤ 4 * sizeT t)
  | .num n => ⟨fun h => by have := digs_len h; simp only [textA, sizeT]; omega, fun h => h.elim⟩
  | .var _ => ⟨fun h => h.elim, fun _ _ _ => by simp [textA]⟩
  | .add a b => ⟨fun h => h.elim, fun h sep first => by
    have h1 := (text_len a).1 h.1
    have h2 := (text_len b).2 h.2 sep false
    simp only [textA, sizeT, List.length_append]
    split
    · simp; omega
    · simp; omega⟩
  | .mulL _ ts => ⟨fun h => by
    have h2 := (text_len ts).2 h 44 true
    simp only [textA, sizeT, List.length_append, List.length_cons, List.length_nil, List.cons_append]
    omega, fun h => h.elim⟩
  | .mulR ab c => by
    match ab with
    | .add a b =>
      refine ⟨fun h => ?_, fun h => h.elim⟩
      obtain ⟨_, h1, h2⟩ := h
      have h3 := (text_len a).1 h1
      have h4 := (text_len b).1 h2
      simp only [textA, sizeT, List.length_append, List.length_cons, List.length_nil, List.cons_append]
      omega
    | .num _ => exact ⟨fun h => h.elim, fun h => h.elim⟩
    | .var _ => exact ⟨fun h => h.elim, fun h => h.elim⟩
    | .mulL _ _ => exact ⟨fun h => h.elim, fun h => h.elim⟩
    | .mulR _ _ => exact ⟨fun h => h.elim, fun h => h.elim⟩
theorem inr_reck (c : Nat) (a b : Int) : InR (reck c a b) := by
  unfold reck
  split
  · exact inr_wr _
  · split
    · exact inr_wr _
    · split
      · exact inr_wr _
      · exact inr_0


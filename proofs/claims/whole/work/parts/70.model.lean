/-! THE MODEL: its arrays -/
def mArr : Nat → Option Nat
  | 1100 => some 23
  | 1101 => some 24
  | 1102 => some 25
  | 1107 => some 26
  | 1108 => some 27
  | 1109 => some 28
  | 1110 => some 29
  | 1111 => some 30
  | 1112 => some 31
  | 1113 => some 32
  | 1114 => some 33
  | 1115 => some 34
  | 1116 => some 35
  | 1117 => some 36
  | 1118 => some 37
  | 1119 => some 38
  | 1120 => some 39
  | 1121 => some 40
  | 1122 => some 41
  | 1124 => some 42
  | 1138 => some 43
  | 1139 => some 44
  | 1153 => some 45
  | 1154 => some 46
  | 1155 => some 47
  | 1158 => some 48
  | 1159 => some 49
  | 1160 => some 50
  | 1161 => some 51
  | 1162 => some 52
  | 1163 => some 53
  | 1164 => some 54
  | 1165 => some 55
  | 1166 => some 56
  | 1167 => some 57
  | 1168 => some 58
  | 1176 => some 59
  | 1177 => some 60
  | 1178 => some 61
  | 1179 => some 62
  | 1180 => some 63
  | 1123 => some 0
  | 1156 => some 1
  | 1157 => some 2
  | 1183 => some 0
  | _ => none
def mLen : Nat → Option Nat
  | 23 => some 240
  | 24 => some 240
  | 25 => some 240
  | 26 => some 8
  | 27 => some 260
  | 28 => some 260
  | 29 => some 260
  | 30 => some 260
  | 31 => some 260
  | 32 => some 260
  | 33 => some 260
  | 34 => some 260
  | 35 => some 260
  | 36 => some 260
  | 37 => some 32
  | 38 => some 32
  | 39 => some 32
  | 40 => some 32
  | 41 => some 32
  | 42 => some 8
  | 43 => some 240
  | 44 => some 240
  | 45 => some 1928
  | 46 => some 1928
  | 47 => some 1928
  | 48 => some 80
  | 49 => some 80
  | 50 => some 80
  | 51 => some 80
  | 52 => some 9000
  | 53 => some 9000
  | 54 => some 9000
  | 55 => some 9000
  | 56 => some 9000
  | 57 => some 9000
  | 58 => some 9000
  | 59 => some 2001
  | 60 => some 2001
  | 61 => some 2001
  | 62 => some 2001
  | 63 => some 30000
  | _ => none
abbrev mFld (σ : AS) : Prop := ∀ f n, mArr f = some n → FR σ f 0 = some n
abbrev mLns (σ : AS) : Prop := ∀ n l, mLen n = some l → LN σ 13 n = l
def modR (σ : AS) : Prop := mFld σ ∧ mLns σ ∧ LN σ 14 0 = 8 ∧ LN σ 14 1 = 1928 ∧ LN σ 14 2 = 1928
theorem lt_len {σ : AS} {n l k : Nat} (hl : mLns σ) (e : mLen n = some l) (h : k < l) : k < LN σ 13 n := by rw [hl n l e]; exact h
def fX (F A : Nat → Nat → Prop) (σ σ' : AS) : Prop := (∀ f a, ¬ F f a → FI σ' f a = FI σ f a) ∧ FR σ' = FR σ ∧ (∀ k a j, ¬ A k a → AI σ' k a j = AI σ k a j) ∧ AR σ' = AR σ ∧ LN σ' = LN σ ∧ CN σ' = CN σ ∧ nC σ' = nC σ ∧ nS σ' = nS σ
theorem fX.rf (F A : Nat → Nat → Prop) (σ : AS) : fX F A σ σ := ⟨fun _ _ _ => rfl, rfl, fun _ _ _ _ => rfl, rfl, rfl, rfl, rfl, rfl⟩
theorem fX.tr {F A : Nat → Nat → Prop} {a b c : AS} (h : fX F A a b) (g : fX F A b c) : fX F A a c := by
  obtain ⟨h1, h2, h3, h4, h5, h6, h7, h8⟩ := h
  obtain ⟨g1, g2, g3, g4, g5, g6, g7, g8⟩ := g
  exact ⟨fun f x hn => by rw [g1 f x hn, h1 f x hn], by rw [g2, h2], fun k x j hn => by rw [g3 k x j hn, h3 k x j hn], by rw [g4, h4], by rw [g5, h5], by rw [g6, h6], by rw [g7, h7], by rw [g8, h8]⟩
theorem fX.mono {F F' A A' : Nat → Nat → Prop} {a b : AS} (h : fX F A a b) (hF : ∀ f x, F f x → F' f x) (hA : ∀ k x, A k x → A' k x) : fX F' A' a b := by
  obtain ⟨h1, h2, h3, h4, h5, h6, h7, h8⟩ := h
  exact ⟨fun f x hn => h1 f x (fun q => hn (hF f x q)), h2, fun k x j hn => h3 k x j (fun q => hn (hA k x q)), h4, h5, h6, h7, h8⟩
theorem fX_sFI {F A : Nat → Nat → Prop} {σ : AS} {f a : Nat} {v : Int} (h : F f a) : fX F A σ (sFI σ f a v) := ⟨fun f' a' hn => by rw [FI_sFI, if_neg (fun q => hn (by rw [q.1, q.2]; exact h))], rfl, fun _ _ _ _ => rfl, rfl, rfl, rfl, rfl, rfl⟩
theorem fX_sAI {F A : Nat → Nat → Prop} {σ : AS} {k a j : Nat} {v : Int} (h : A k a) : fX F A σ (sAI σ k a j v) := ⟨fun _ _ _ => rfl, rfl, fun k' a' j' hn => by rw [AI_sAI, if_neg (fun q => hn (by rw [q.1, q.2.1]; exact h))], rfl, rfl, rfl, rfl, rfl⟩
theorem modR.keep {F A : Nat → Nat → Prop} {σ σ' : AS} (h : modR σ) (hx : fX F A σ σ') : modR σ' := by
  obtain ⟨h1, h2, h3⟩ := h
  unfold modR mFld mLns
  rw [hx.2.1, hx.2.2.2.2.1]
  exact ⟨h1, h2, h3⟩
theorem toInt_0 {x : Int32} (h : x.toInt = 0) : x = 0 := Int32.toInt_inj.mp h
theorem ofInt_toInt {b : Int} (h : InR b) : (Int32.ofInt b).toInt = b := Int32.toInt_ofInt_of_le h.1 (by have := h.2; omega)
theorem iOr_0l {b : Int} (h : InR b) : iOr 0 b = b := by
  unfold iOr
  rw [show Int32.ofInt 0 = 0 from rfl, Int32.zero_or]
  exact ofInt_toInt h
theorem iOr_ne {a b : Int} (hb : InR b) (h : b ≠ 0) : iOr a b ≠ 0 := by
  intro q
  unfold iOr at q
  have q := toInt_0 q
  have q2 : (Int32.ofInt b).toBitVec = 0 := (BitVec.or_eq_zero_iff.mp (congrArg Int32.toBitVec q)).2
  have q3 : Int32.ofInt b = 0 := Int32.toBitVec_inj.mp q2
  have := ofInt_toInt hb
  rw [q3] at this
  exact h this.symm
theorem inr_iOr (a b : Int) : InR (iOr a b) := inr_toInt _
theorem inr_iShl (a b : Int) : InR (iShl a b) := inr_toInt _
theorem iShl_ne : ∀ n : Nat, n < 32 → iShl 1 n ≠ 0 := by decide


/-! THE OBJECT'S STATE, pure; the MODEL's picture of it; the MODEL's parse -/
/-- rules; atoms: (rule, place, kind, first, second); which may be NOTHING; which come to SELF -/
abbrev GG : Type := (Nat → Option (PT 9)) × List (Nat × Nat × Nat × Int × Int) × (Nat → Bool) × (Nat → Bool)
/-- a size, its bytes -/
abbrev TP : Type := Nat × (Nat → Int)
/-- tape, input; grammar; steps of all; the last parse -/
abbrev SS : Type := (TP × TP) × GG × Nat × Option RR
def rulG (G : GG) : Nat → PT 9 := fun r => (G.1 r).getD ([] : List (List (Item (PT 8))))
def cntG (G : GG) : Nat := ((List.range 8).filter (fun r => (G.1 r).isSome)).length
def tpOK (t : TP) : Prop := t.1 ≤ 240 ∧ ∀ i, i < t.1 → 0 ≤ t.2 i ∧ t.2 i ≤ 255
def tapM (σ : AS) (f c : Nat) (t : TP) : Prop := FI σ f 0 = (t.1 : Int) ∧ ∀ i, i < t.1 → AI σ 13 c i = t.2 i
def grmM (σ : AS) (G : GG) : Prop := lawM σ (rulG G) ∧ (∀ r, r < 8 → (AI σ 13 26 r ≠ -1 ↔ (G.1 r).isSome = true)) ∧ FI σ 1105 0 = (cntG G : Int) ∧ FI σ 1106 0 = (G.2.1.length : Int) ∧ G.2.1.length ≤ 32 ∧ (∀ (i : Nat) a, G.2.1[i]? = some a → AI σ 13 41 i = (a.1 : Int) ∧ AI σ 13 37 i = (a.2.1 : Int) ∧ AI σ 13 38 i = (a.2.2.1 : Int) ∧ AI σ 13 39 i = a.2.2.2.1 ∧ AI σ 13 40 i = a.2.2.2.2) ∧ (∀ r, r < 8 → AI σ 14 0 r = bI (G.2.2.1 r)) ∧ ∀ r, r < 8 → iAnd (iShr (AI σ 13 42 r) (r : Nat)) 1 = bI (G.2.2.2 r)
def outM (σ : AS) (o : Option TT) : Prop := match o with
  | none => FI σ 1175 0 = 0 ∧ FI σ 1181 0 = 0
  | some t => gA true t ∧ sizeT t ≤ 2000 ∧ FI σ 1175 0 = (sizeT t : Int) ∧ flM σ 0 (flatT t 0) ∧ txM σ (textT t)
def lasM (σ : AS) (r : RR) : Prop := FI σ 1171 0 = r.2.2.2.2.1.1 ∧ FI σ 1172 0 = r.2.2.2.2.1.2 ∧ FI σ 1173 0 = (r.2.2.2.1.1 : Int) ∧ FI σ 1174 0 = (r.2.2.2.1.2.2 : Int) ∧ FI σ 1170 0 = bI (sharpE r) ∧ outM σ (treeE r)
def besM (σ : AS) : Prop := FR σ 1183 0 = some 0 ∧ LN σ 17 0 = 13 ∧ ∀ i, i < 13 → AR σ 17 0 i = some (64 + i) ∧ LN σ 13 (64 + i) = 260
def moS (σ : AS) (S : SS) : Prop := modR σ ∧ besM σ ∧ tpOK S.1.1 ∧ tpOK S.1.2 ∧ tapM σ 1103 23 S.1.1 ∧ tapM σ 1104 24 S.1.2 ∧ grmM σ S.2.1 ∧ FI σ 1144 0 = (S.2.2.1 : Int) ∧ S.2.2.1 ≤ 40000 ∧ (match S.2.2.2 with | none => FI σ 1169 0 = 0 | some r => FI σ 1169 0 = 1 ∧ lasM σ r)
/-- only the MODEL's things changed -/
def moX (σ σ' : AS) : Prop := (∀ f a, f < 1100 → FI σ' f a = FI σ f a) ∧ (∀ f a, f < 1100 → FR σ' f a = FR σ f a) ∧ (∀ a j, (a < 23 ∨ 77 ≤ a) → AI σ' 13 a j = AI σ 13 a j) ∧ (∀ k a j, k ≠ 13 → k ≠ 14 → AI σ' k a j = AI σ k a j) ∧ AR σ' = AR σ ∧ LN σ' = LN σ ∧ CN σ' = CN σ ∧ nC σ' = nC σ ∧ nS σ' = nS σ
theorem moX.rf (σ : AS) : moX σ σ := ⟨fun _ _ _ => rfl, fun _ _ _ => rfl, fun _ _ _ => rfl, fun _ _ _ _ _ => rfl, rfl, rfl, rfl, rfl, rfl⟩
theorem moX.tr {a b c : AS} (h : moX a b) (g : moX b c) : moX a c := by
  obtain ⟨h1, h2, h3, h4, h5, h6, h7, h8, h9⟩ := h
  obtain ⟨g1, g2, g3, g4, g5, g6, g7, g8, g9⟩ := g
  exact ⟨fun f x hn => by rw [g1 f x hn, h1 f x hn], fun f x hn => by rw [g2 f x hn, h2 f x hn], fun k x j => by rw [g3 k x j, h3 k x j], fun k a j w1 w2 => by rw [g4 k a j w1 w2, h4 k a j w1 w2], by rw [g5, h5], by rw [g6, h6], by rw [g7, h7], by rw [g8, h8], by rw [g9, h9]⟩
theorem fX.mo {F A : Nat → Nat → Prop} {σ σ' : AS} (h : fX F A σ σ') (hF : ∀ f a, F f a → 1100 ≤ f) (hA : ∀ k a, A k a → (k = 13 ∧ 23 ≤ a ∧ a ≤ 76) ∨ k = 14) : moX σ σ' := by
  obtain ⟨h1, h2, h3, h4, h5, h6, h7, h8⟩ := h
  refine ⟨fun f a w => h1 f a (fun q => by have := hF f a q; omega), fun f a _ => by rw [h2], fun a j w => h3 _ _ _ (fun q => by have := hA _ _ q; omega), fun k a j w1 w2 => h3 _ _ _ (fun q => by have := hA _ _ q; omega), h4, h5, h6, h7, h8⟩
theorem moX_sFR {σ : AS} {f a : Nat} {v : Option Nat} (h : 1100 ≤ f) : moX σ (sFR σ f a v) := ⟨fun _ _ _ => rfl, fun f' a' w => by rw [FR_sFR, if_neg (fun q => by omega)], fun _ _ _ => rfl, fun _ _ _ _ _ => rfl, rfl, rfl, rfl, rfl, rfl⟩
theorem moX_sFI {σ : AS} {f a : Nat} {v : Int} (h : 1100 ≤ f) : moX σ (sFI σ f a v) := ⟨fun f' a' w => by rw [FI_sFI, if_neg (fun q => by omega)], fun _ _ _ => rfl, fun _ _ _ => rfl, fun _ _ _ _ _ => rfl, rfl, rfl, rfl, rfl, rfl⟩
theorem modR.rf {σ σ' : AS} (h : modR σ) (h1 : ∀ f, f ≠ 1140 → FR σ' f 0 = FR σ f 0) (h2 : LN σ' = LN σ) : modR σ' := by
  obtain ⟨a1, a2, a3⟩ := h
  unfold modR mLns
  rw [h2]
  refine ⟨fun f n hf => ?_, a2, a3⟩
  rw [h1 f (fun w => by subst w; cases hf)]
  exact a1 f n hf
theorem grmM.keep {σ σ' : AS} {G : GG} (h : grmM σ G) (hA : ∀ a j, 26 ≤ a → a ≤ 42 → AI σ' 13 a j = AI σ 13 a j) (hB : ∀ j, AI σ' 14 0 j = AI σ 14 0 j) (h1 : FI σ' 1105 0 = FI σ 1105 0) (h2 : FI σ' 1106 0 = FI σ 1106 0) : grmM σ' G := by
  obtain ⟨a1, a2, a3, a4, a5, a6, a7, a8⟩ := h
  have ed : dnM σ' = dnM σ := by funext r; unfold dnM; rw [hA _ _ (by decide) (by decide)]
  refine ⟨fun r hr q => ?_, fun r hr => by rw [hA _ _ (by decide) (by decide)]; exact a2 r hr, by rw [h1]; exact a3, by rw [h2]; exact a4, a5, fun i a hi => ?_, fun r hr => by rw [hB]; exact a7 r hr, fun r hr => by rw [hA _ _ (by decide) (by decide)]; exact a8 r hr⟩
  · rw [hA _ _ (by decide) (by decide)] at q ⊢
    obtain ⟨a, b1, b2⟩ := a1 r hr q
    exact ⟨a, b1, altM.keep (fun a j w1 w2 => hA _ _ (by omega) (by omega)) (fun r w => by rw [ed]; exact w) 9 _ _ b2⟩
  · rw [hA _ _ (by decide) (by decide), hA _ _ (by decide) (by decide), hA _ _ (by decide) (by decide), hA _ _ (by decide) (by decide), hA _ _ (by decide) (by decide)]
    exact a6 i a hi
theorem besM.keep {σ σ' : AS} (h : besM σ) (h1 : FR σ' 1183 0 = FR σ 1183 0) (h2 : AR σ' = AR σ) (h3 : LN σ' = LN σ) : besM σ' := by
  unfold besM
  rw [h1, h2, h3]
  exact h
theorem tapM.keep {σ σ' : AS} {f c : Nat} {t : TP} (h : tapM σ f c t) (h1 : FI σ' f 0 = FI σ f 0) (h2 : ∀ j, AI σ' 13 c j = AI σ 13 c j) : tapM σ' f c t := ⟨by rw [h1]; exact h.1, fun i hi => by rw [h2]; exact h.2 i hi⟩


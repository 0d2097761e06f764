/-! THE CLASS's picture of the object's state -/
def itemG (σ : AS) (dn : Nat → Prop) {A : Type} (sub : A → Option Nat → Prop) (it : Item A) (a : Nat) : Prop := itemR σ dn sub it a ∧ (it.1.1 ≤ 6 → ∀ t, FR σ 402 a = some t → t < CN σ 0) ∧ ((it.1.1 ≤ 4 ∨ it.1.1 = 7) → FR σ 404 a = none)
/-- as altR; its parts are l4 .. h4, its sequences l8 .. h8, what is in one comes behind it -/
def altG (σ : AS) (dn : Nat → Prop) : (n : Nat) → (l4 h4 l8 h8 : Nat) → PT n → Option Nat → Prop
  | 0, _, _, _, _, _, _ => False
  | n + 1, l4, h4, l8, h8, alt, o => (alt : List (List (Item (PT n)))) ≠ [] ∧ chnR (FR σ 801) (fun (s : List (Item (PT n))) a => ((l8 ≤ a ∧ a < h8) ∧ s ≠ []) ∧ chnR (FR σ 406) (fun it b => (l4 ≤ b ∧ b < h4) ∧ itemG σ dn (altG σ dn n (b + 1) h4 (a + 1) h8) it b) s (FR σ 800 a)) alt o
/-- what was there of parts, sequences and atoms is as it was -/
def psoX (σ σ' : AS) : Prop := (∀ f a, (f < 100 ∨ (400 ≤ f ∧ f < 500) ∨ (800 ≤ f ∧ f < 900)) → a < CN σ (f / 100) → FI σ' f a = FI σ f a ∧ FR σ' f a = FR σ f a) ∧ ∀ k, (k = 0 ∨ k = 4 ∨ k = 8) → CN σ k ≤ CN σ' k
/-- the parts l4 .. h4, the sequences l8 .. h8 and the atoms are as they were -/
def psoI (l4 h4 l8 h8 : Nat) (σ σ' : AS) : Prop := (∀ f a, 400 ≤ f → f < 500 → l4 ≤ a → a < h4 → FI σ' f a = FI σ f a ∧ FR σ' f a = FR σ f a) ∧ (∀ f a, 800 ≤ f → f < 900 → l8 ≤ a → a < h8 → FR σ' f a = FR σ f a) ∧ (∀ f a, f < 100 → a < CN σ 0 → FI σ' f a = FI σ f a) ∧ CN σ 0 ≤ CN σ' 0
theorem psoX.rf (σ : AS) : psoX σ σ := ⟨fun _ _ _ _ => ⟨rfl, rfl⟩, fun _ _ => Nat.le_refl _⟩
theorem psoX.tr {a b c : AS} (h : psoX a b) (g : psoX b c) : psoX a c := by
  refine ⟨fun f x hf hx => ?_, fun k hk => Nat.le_trans (h.2 k hk) (g.2 k hk)⟩
  have h1 := h.1 f x hf hx
  have hk : f / 100 = 0 ∨ f / 100 = 4 ∨ f / 100 = 8 := by omega
  have g1 := g.1 f x hf (Nat.lt_of_lt_of_le hx (h.2 _ hk))
  exact ⟨g1.1.trans h1.1, g1.2.trans h1.2⟩
theorem psoX.I {σ σ' : AS} (h : psoX σ σ') {l4 h4 l8 h8 : Nat} (w4 : h4 ≤ CN σ 4) (w8 : h8 ≤ CN σ 8) : psoI l4 h4 l8 h8 σ σ' := ⟨fun f a f1 f2 _ ha => h.1 f a (Or.inr (Or.inl ⟨f1, f2⟩)) (by rw [show f / 100 = 4 by omega]; omega), fun f a f1 f2 _ ha => (h.1 f a (Or.inr (Or.inr ⟨f1, f2⟩)) (by rw [show f / 100 = 8 by omega]; omega)).2, fun f a f1 ha => (h.1 f a (Or.inl f1) (by rw [show f / 100 = 0 by omega]; exact ha)).1, h.2 0 (by decide)⟩
theorem psoI.sub {σ σ' : AS} {l4 h4 l8 h8 l4' h4' l8' h8' : Nat} (h : psoI l4 h4 l8 h8 σ σ') (w1 : l4 ≤ l4') (w2 : h4' ≤ h4) (w3 : l8 ≤ l8') (w4 : h8' ≤ h8) : psoI l4' h4' l8' h8' σ σ' := ⟨fun f a f1 f2 f3 f4 => h.1 f a f1 f2 (by omega) (by omega), fun f a f1 f2 f3 f4 => h.2.1 f a f1 f2 (by omega) (by omega), h.2.2⟩
theorem chnR.keepB {A : Type} {nx nx' : Nat → Option Nat} {R R' : A → Nat → Prop} (hR : ∀ x a, R x a → R' x a ∧ nx' a = nx a) : ∀ (l : List A) (o : Option Nat), chnR nx R l o → chnR nx' R' l o
  | [], _, h => h
  | x :: xs, o, h => by
    obtain ⟨a, h1, h2, h3⟩ := h
    obtain ⟨r1, r2⟩ := hR x a h2
    exact ⟨a, h1, r1, by rw [r2]; exact chnR.keepB hR xs _ h3⟩
theorem itemG.keep {σ σ' : AS} {dn dn' : Nat → Prop} {A : Type} {sub sub' : A → Option Nat → Prop} {a : Nat} (fi : ∀ f, 400 ≤ f → f < 500 → f ≠ 406 → FI σ' f a = FI σ f a ∧ FR σ' f a = FR σ f a) (hat0 : ∀ f t, f < 100 → t < CN σ 0 → FI σ' f t = FI σ f t) (hc0 : CN σ 0 ≤ CN σ' 0) (hd : ∀ r, dn r → dn' r) (hs : ∀ x o, sub x o → sub' x o) (it : Item A) (h : itemG σ dn sub it a) : itemG σ' dn' sub' it a := by
  obtain ⟨⟨c1, c2, c3, c4, c5, c6, c7, c8⟩, hat, h404⟩ := h
  refine ⟨⟨by rw [(fi 400 (by decide) (by decide) (by decide)).1]; exact c1, by rw [(fi 401 (by decide) (by decide) (by decide)).1]; exact c2, c3, c4, fun w => ?_, fun w => by rw [(fi 403 (by decide) (by decide) (by decide)).1]; exact ⟨(c6 w).1, (c6 w).2.1, hd _ (c6 w).2.2⟩, fun w => by rw [(fi 404 (by decide) (by decide) (by decide)).2]; exact hs _ _ (c7 w), fun w => by rw [(fi 405 (by decide) (by decide) (by decide)).2]; exact hs _ _ (c8 w)⟩, fun w t ht => ?_, fun w => by rw [(fi 404 (by decide) (by decide) (by decide)).2]; exact h404 w⟩
  · obtain ⟨t, d1, d2, d3, d4, d5⟩ := c5 w
    have ht := hat w t d1
    exact ⟨t, by rw [(fi 402 (by decide) (by decide) (by decide)).2]; exact d1, by rw [hat0 _ _ (by decide) ht]; exact d2, by rw [hat0 _ _ (by decide) ht]; exact d3, by rw [hat0 _ _ (by decide) ht]; exact d4, d5⟩
  · rw [(fi 402 (by decide) (by decide) (by decide)).2] at ht
    exact Nat.lt_of_lt_of_le (hat w t ht) hc0
theorem altG.keepI {σ σ' : AS} {dn dn' : Nat → Prop} (hd : ∀ r, dn r → dn' r) : ∀ (n l4 h4 l8 h8 h4' h8' : Nat) (alt : PT n) (o : Option Nat), psoI l4 h4 l8 h8 σ σ' → h4 ≤ h4' → h8 ≤ h8' → altG σ dn n l4 h4 l8 h8 alt o → altG σ' dn' n l4 h4' l8 h8' alt o
  | 0, _, _, _, _, _, _, _, _, _, _, _, h => h
  | n + 1, l4, h4, l8, h8, h4', h8', alt, o, hx, w4, w8, h => by
    obtain ⟨h1, h2⟩ := h
    refine ⟨h1, chnR.keepB ?_ _ _ h2⟩
    intro s a ⟨⟨⟨b1, b2⟩, b3⟩, b4⟩
    refine ⟨⟨⟨⟨b1, by omega⟩, b3⟩, ?_⟩, hx.2.1 801 a (by decide) (by decide) b1 b2⟩
    rw [hx.2.1 800 a (by decide) (by decide) b1 b2]
    refine chnR.keepB ?_ _ _ b4
    intro it b ⟨⟨d1, d2⟩, d3⟩
    have fi : ∀ f, 400 ≤ f → f < 500 → FI σ' f b = FI σ f b ∧ FR σ' f b = FR σ f b := fun f w1 w2 => hx.1 f b w1 w2 d1 d2
    exact ⟨⟨⟨d1, by omega⟩, itemG.keep (fun f w1 w2 _ => fi f w1 w2) hx.2.2.1 hx.2.2.2 hd (fun x o => altG.keepI hd n (b + 1) h4 (a + 1) h8 h4' h8' x o (hx.sub (by omega) (Nat.le_refl _) (by omega) (Nat.le_refl _)) w4 w8) it d3⟩, (fi 406 (by decide) (by decide)).2⟩
theorem altG.lo {σ : AS} {dn : Nat → Prop} : ∀ (n l4 h4 l8 h8 l4' l8' : Nat) (alt : PT n) (o : Option Nat), l4' ≤ l4 → l8' ≤ l8 → altG σ dn n l4 h4 l8 h8 alt o → altG σ dn n l4' h4 l8' h8 alt o
  | 0, _, _, _, _, _, _, _, _, _, _, h => h
  | n + 1, l4, h4, l8, h8, l4', l8', alt, o, w4, w8, h => by
    obtain ⟨h1, h2⟩ := h
    refine ⟨h1, chnR.keepB ?_ _ _ h2⟩
    intro s a ⟨⟨⟨b1, b2⟩, b3⟩, b4⟩
    refine ⟨⟨⟨⟨by omega, b2⟩, b3⟩, chnR.keepB ?_ _ _ b4⟩, rfl⟩
    intro it b ⟨⟨d1, d2⟩, d3⟩
    exact ⟨⟨⟨by omega, d2⟩, d3⟩, rfl⟩
theorem altG.keep {σ σ' : AS} {dn dn' : Nat → Prop} (hx : psoX σ σ') (hd : ∀ r, dn r → dn' r) (n : Nat) (alt : PT n) (o : Option Nat) (h : altG σ dn n 0 (CN σ 4) 0 (CN σ 8) alt o) : altG σ' dn' n 0 (CN σ' 4) 0 (CN σ' 8) alt o := altG.keepI hd n 0 (CN σ 4) 0 (CN σ 8) _ _ alt o (hx.I (Nat.le_refl _) (Nat.le_refl _)) (hx.2 4 (by decide)) (hx.2 8 (by decide)) h
theorem altG.R {σ : AS} {dn : Nat → Prop} : ∀ (n l4 h4 l8 h8 : Nat) (alt : PT n) (o : Option Nat), altG σ dn n l4 h4 l8 h8 alt o → altR σ dn n alt o
  | 0, _, _, _, _, _, _, h => h
  | n + 1, l4, h4, l8, h8, alt, o, h => by
    obtain ⟨h1, h2⟩ := h
    refine ⟨h1, h2.mono rfl ?_ _ _⟩
    intro s a ⟨⟨b0, b2⟩, b3⟩
    refine ⟨b2, b3.mono rfl ?_ _ _⟩
    intro it b ⟨_, ⟨d1, d2, d3, d4, d5, d6, d7, d8⟩, c3⟩
    exact ⟨d1, d2, d3, d4, d5, d6, fun w => altG.R n _ _ _ _ _ _ (d7 w), fun w => altG.R n _ _ _ _ _ _ (d8 w)⟩
def litsG (G : GG) : List Int := (G.2.1.filter (fun a => a.2.2.1 == 0)).map (fun a => a.2.2.2.1)
def cntA (G : GG) (r : Nat) : Nat := (G.2.1.filter (fun a => a.1 == r)).length
def bodG (σ : AS) (dn : Nat → Prop) (o : Option (PT 9)) (q : Option Nat) : Prop := match o with
  | none => q = none
  | some alt => q ≠ none ∧ altG σ dn 9 0 (CN σ 4) 0 (CN σ 8) alt q
/-- Grammar g, its bodies, atoms, rows -/
def grmC (σ : AS) (g : Nat) (G : GG) (b fa ra ca rq cq : Nat) : Prop := g < CN σ 1 ∧ FR σ 100 g = some b ∧ b < CN σ 16 ∧ FR σ 101 g = some ra ∧ FR σ 102 g = some fa ∧ fa < CN σ 15 ∧ FR σ 103 g = some rq ∧ (21 ≤ ra ∧ ra < CN σ 6 ∧ 21 ≤ rq ∧ rq < CN σ 6) ∧ (((21 ≤ ca ∧ ca ≤ 22) ∨ 77 ≤ ca) ∧ ca < CN σ 13 ∧ ((21 ≤ cq ∧ cq ≤ 22) ∨ 77 ≤ cq) ∧ cq < CN σ 13) ∧
  rowF σ ra ca 8 8 (fun r => (cntA G r : Int)) ∧ rowF σ rq cq 32 (litsG G).length (fun i => (litsG G).getD i 0) ∧ LN σ 16 b = 8 ∧ LN σ 15 fa = 32 ∧ (∀ r, r < 8 → bodG σ (dnR σ b) (G.1 r) (AR σ 16 b r)) ∧ FI σ 104 g = (cntG G : Int) ∧ FI σ 105 g = (G.2.1.length : Int) ∧ G.2.1.length ≤ 32 ∧
  (∀ (i : Nat) a, G.2.1[i]? = some a → ∃ t, AR σ 15 fa i = some t ∧ t < CN σ 0 ∧ FI σ 1 t = (a.2.1 : Int) ∧ FI σ 0 t = (a.2.2.1 : Int) ∧ FI σ 3 t = a.2.2.2.1 ∧ FI σ 4 t = a.2.2.2.2) ∧ (∀ r, r < 8 → iAnd (iUshr (FI σ 106 g) (r : Nat)) 1 = bI (G.2.2.1 r)) ∧ ∀ r, r < 8 → iAnd (iUshr (FI σ 107 g) (r : Nat)) 1 = bI (G.2.2.2 r)
theorem grmC.keep {σ σ' : AS} {g : Nat} {G : GG} {b fa ra ca rq cq : Nat} (h : grmC σ g G b fa ra ca rq cq) (hp : psoX σ σ') (h1 : ∀ f a, 100 ≤ f → f < 200 → a < CN σ 1 → FI σ' f a = FI σ f a ∧ FR σ' f a = FR σ f a) (h2 : ∀ a, 21 ≤ a → a < CN σ 6 → FI σ' 601 a = FI σ 601 a ∧ FR σ' 600 a = FR σ 600 a) (h3 : ∀ k a, (k = 15 ∨ k = 16) → a < CN σ k → AR σ' k a = AR σ k a ∧ LN σ' k a = LN σ k a) (h4 : ∀ a, ((21 ≤ a ∧ a ≤ 22) ∨ 77 ≤ a) → a < CN σ 13 → AI σ' 13 a = AI σ 13 a ∧ LN σ' 13 a = LN σ 13 a) (h5 : ∀ k, CN σ k ≤ CN σ' k) : grmC σ' g G b fa ra ca rq cq := by
  obtain ⟨a1, a2, a3, a4, a5, a6, a7, ⟨a8, a9, a10, a11⟩, ⟨a12, a13, a14, a15⟩, a16, a17, a18, a19, a20, a21, a22, a23, a24, a25, a26⟩ := h
  have fg : ∀ f, 100 ≤ f → f < 200 → FI σ' f g = FI σ f g ∧ FR σ' f g = FR σ f g := fun f w1 w2 => h1 f g w1 w2 a1
  have rk : ∀ {r c cap n : Nat} {f : Nat → Int}, rowF σ r c cap n f → 21 ≤ r → r < CN σ 6 → ((21 ≤ c ∧ c ≤ 22) ∨ 77 ≤ c) → c < CN σ 13 → rowF σ' r c cap n f := fun h w1 w2 w3 w4 => ⟨by rw [(h2 _ w1 w2).2]; exact h.1, by rw [(h2 _ w1 w2).1]; exact h.2.1, by rw [(h4 _ w3 w4).2]; exact h.2.2.1, h.2.2.2.1, h.2.2.2.2.1, fun k hk => by rw [(h4 _ w3 w4).1]; exact h.2.2.2.2.2 k hk⟩
  have edn : dnR σ' b = dnR σ b := by unfold dnR; rw [(h3 16 b (Or.inr rfl) a3).1]
  refine ⟨Nat.lt_of_lt_of_le a1 (h5 _), by rw [(fg 100 (by decide) (by decide)).2]; exact a2, Nat.lt_of_lt_of_le a3 (h5 _), by rw [(fg 101 (by decide) (by decide)).2]; exact a4, by rw [(fg 102 (by decide) (by decide)).2]; exact a5, Nat.lt_of_lt_of_le a6 (h5 _), by rw [(fg 103 (by decide) (by decide)).2]; exact a7, ⟨a8, Nat.lt_of_lt_of_le a9 (h5 _), a10, Nat.lt_of_lt_of_le a11 (h5 _)⟩, ⟨a12, Nat.lt_of_lt_of_le a13 (h5 _), a14, Nat.lt_of_lt_of_le a15 (h5 _)⟩, rk a16 a8 a9 a12 a13, rk a17 a10 a11 a14 a15, by rw [(h3 16 b (Or.inr rfl) a3).2]; exact a18, by rw [(h3 15 fa (Or.inl rfl) a6).2]; exact a19, fun r hr => ?_, by rw [(fg 104 (by decide) (by decide)).1]; exact a21, by rw [(fg 105 (by decide) (by decide)).1]; exact a22, a23, fun i a hi => ?_, fun r hr => by rw [(fg 106 (by decide) (by decide)).1]; exact a25 r hr, fun r hr => by rw [(fg 107 (by decide) (by decide)).1]; exact a26 r hr⟩
  · rw [(h3 16 b (Or.inr rfl) a3).1, edn]
    have := a20 r hr
    revert this
    cases G.1 r with
    | none => intro w; exact w
    | some alt => intro w; exact ⟨w.1, w.2.keep hp (fun r w => w) 9 alt _⟩
  · obtain ⟨t, b1, b2, b3, b4, b5, b6⟩ := a24 i a hi
    have ft : ∀ f, f < 100 → FI σ' f t = FI σ f t := fun f w1 => (hp.1 f t (Or.inl w1) (by rw [show f / 100 = 0 by omega]; exact b2)).1
    exact ⟨t, by rw [(h3 15 fa (Or.inl rfl) a6).1]; exact b1, Nat.lt_of_lt_of_le b2 (h5 _), by rw [ft _ (by decide)]; exact b3, by rw [ft _ (by decide)]; exact b4, by rw [ft _ (by decide)]; exact b5, by rw [ft _ (by decide)]; exact b6⟩
theorem grmC.law {σ : AS} {g : Nat} {G : GG} {b fa ra ca rq cq : Nat} (h : grmC σ g G b fa ra ca rq cq) : lawR σ b (rulG G) ∧ ∀ r, r < 8 → (dnR σ b r ↔ (G.1 r).isSome = true) := by
  obtain ⟨a1, a2, a3, a4, a5, a6, a7, a8, a12, a16, a17, a18, a19, a20, -⟩ := h
  refine ⟨⟨a18, fun r hr hn => ?_⟩, fun r hr => ?_⟩
  · have := a20 r hr
    revert this
    unfold rulG
    cases G.1 r with
    | none => intro w; exact absurd w hn
    | some alt => intro w; exact w.2.R 9 _ _ _ _ alt _
  · have := a20 r hr
    revert this
    unfold dnR
    cases G.1 r with
    | none => intro w; exact ⟨fun q => absurd w q, fun q => by cases q⟩
    | some alt => intro w; exact ⟨fun _ => rfl, fun _ => w.1⟩


/-! THE MODEL: its state while it parses -/
def chnA {A : Type} (nx : Nat → Int) (R : A → Nat → Prop) : List A → Int → Prop
  | [], v => v = -1
  | x :: xs, v => ∃ a : Nat, v = (a : Int) ∧ R x a ∧ chnA nx R xs (nx a)
theorem chnA.mono {A : Type} {nx nx' : Nat → Int} {R R' : A → Nat → Prop} (hn : ∀ a, nx' a = nx a) (hR : ∀ x a, R x a → R' x a) : ∀ (l : List A) (v : Int), chnA nx R l v → chnA nx' R' l v
  | [], _, h => h
  | x :: xs, v, ⟨a, h1, h2, h3⟩ => ⟨a, h1, hR x a h2, by rw [hn]; exact chnA.mono hn hR xs _ h3⟩
def mKind (k : Nat) : Nat := if k = 10 then 12 else if k = 12 then 10 else k
def itemM (σ : AS) (dn : Nat → Prop) {A : Type} (sub : A → Nat → Prop) (it : Item A) (i : Nat) : Prop :=
  i < 260 ∧ AI σ 13 31 i = (it.1.2.1 : Int) ∧ it.1.1 ≤ 12 ∧ (it.1.2.1 = 0 ∨ it.1.2.1 = 63 ∨ it.1.2.1 = 42 ∨ it.1.2.1 = 43) ∧ ∃ p : Nat, p < 260 ∧ AI σ 13 30 i = (p : Int) ∧ AI σ 13 33 p = (mKind it.1.1 : Int) ∧ (it.1.1 ≤ 1 → AI σ 13 34 p = it.2.1.1 ∧ AI σ 13 35 p = it.2.1.2) ∧ (it.1.1 ≤ 6 → AI σ 13 36 p = (it.1.2.2 : Int) ∧ it.1.2.2 < 32) ∧ (it.1.1 = 12 → AI σ 13 34 p = (it.1.2.2 : Int) ∧ it.1.2.2 < 8 ∧ dn it.1.2.2) ∧
  ((it.1.1 = 5 ∨ it.1.1 = 6 ∨ (8 ≤ it.1.1 ∧ it.1.1 ≤ 11)) → ∃ a : Nat, AI σ 13 34 p = (a : Int) ∧ sub it.2.2.1 a) ∧ (it.1.1 = 10 → ∃ b : Nat, AI σ 13 35 p = (b : Int) ∧ sub it.2.2.2 b)
def altM (σ : AS) (dn : Nat → Prop) : (n : Nat) → PT n → Nat → Prop
  | 0, _, _ => False
  | n + 1, alt, a => a < 260 ∧ (alt : List (List (Item (PT n)))) ≠ [] ∧ chnA (AI σ 13 29) (fun (s : List (Item (PT n))) k => k < 260 ∧ s ≠ [] ∧ chnA (AI σ 13 32) (itemM σ dn (altM σ dn n)) s (AI σ 13 28 k)) alt (AI σ 13 27 a)
theorem itemM.keep {σ σ' : AS} {dn dn' : Nat → Prop} {A : Type} {sub sub' : A → Nat → Prop} (h : ∀ a j, 27 ≤ a → a ≤ 36 → AI σ' 13 a j = AI σ 13 a j) (hd : ∀ r, dn r → dn' r) (hs : ∀ x a, sub x a → sub' x a) (it : Item A) (i : Nat) : itemM σ dn sub it i → itemM σ' dn' sub' it i := by
  rintro ⟨a1, a2, a3, a4, p, a5, a6, a7, a8, a9, a10, a11, a12⟩
  refine ⟨a1, by rw [h _ _ (by decide) (by decide)]; exact a2, a3, a4, p, a5, by rw [h _ _ (by decide) (by decide)]; exact a6, by rw [h _ _ (by decide) (by decide)]; exact a7, fun w => by rw [h _ _ (by decide) (by decide), h _ _ (by decide) (by decide)]; exact a8 w, fun w => by rw [h _ _ (by decide) (by decide)]; exact a9 w, fun w => by rw [h _ _ (by decide) (by decide)]; exact ⟨(a10 w).1, (a10 w).2.1, hd _ (a10 w).2.2⟩, fun w => ?_, fun w => ?_⟩
  · obtain ⟨a, b1, b2⟩ := a11 w
    exact ⟨a, by rw [h _ _ (by decide) (by decide)]; exact b1, hs _ _ b2⟩
  · obtain ⟨a, b1, b2⟩ := a12 w
    exact ⟨a, by rw [h _ _ (by decide) (by decide)]; exact b1, hs _ _ b2⟩
theorem altM.keep {σ σ' : AS} {dn dn' : Nat → Prop} (h : ∀ a j, 27 ≤ a → a ≤ 36 → AI σ' 13 a j = AI σ 13 a j) (hd : ∀ r, dn r → dn' r) : ∀ (n : Nat) (alt : PT n) (a : Nat), altM σ dn n alt a → altM σ' dn' n alt a
  | 0, _, _, w => w
  | n + 1, alt, a, ⟨h1, h2, h3⟩ => by
    refine ⟨h1, h2, ?_⟩
    rw [h _ _ (by decide) (by decide)]
    refine h3.mono (fun a => h _ _ (by decide) (by decide)) ?_
    intro s k ⟨b1, b2, b3⟩
    refine ⟨b1, b2, ?_⟩
    rw [h _ _ (by decide) (by decide)]
    exact b3.mono (fun a => h _ _ (by decide) (by decide)) (itemM.keep h hd (altM.keep h hd n))
/-- (the input's array, its size), the input, the rules -/
abbrev EM : Type := (Nat × Nat) × (Nat → Int) × (Nat → PT 9)
def dnM (σ : AS) (r : Nat) : Prop := AI σ 13 26 r ≠ -1
def lawM (σ : AS) (rules : Nat → PT 9) : Prop := ∀ r, r < 8 → AI σ 13 26 r ≠ -1 → ∃ a : Nat, AI σ 13 26 r = (a : Int) ∧ altM σ (dnM σ) 9 (rules r) a
def envM (σ : AS) (e : EM) : Prop := modR σ ∧ lawM σ e.2.2 ∧ FR σ 1140 0 = some e.1.1 ∧ LN σ 13 e.1.1 = 240 ∧ FI σ 1141 0 = (e.1.2 : Int) ∧ e.1.2 ≤ 240 ∧ e.1.1 < 26 ∧ ∀ i, i < e.1.2 → AI σ 13 e.1.1 i = e.2.1 i ∧ 0 ≤ e.2.1 i ∧ e.2.1 i ≤ 255
def mpF (f a : Nat) : Prop := 1142 ≤ f ∧ f ≤ 1152 ∧ a = 0
def mpA (k a : Nat) : Prop := (k = 13 ∧ 45 ≤ a ∧ a ≤ 58) ∨ (k = 14 ∧ 1 ≤ a ∧ a ≤ 2)
def mpX (σ σ' : AS) : Prop := fX mpF mpA σ σ'
theorem mpX.lo {σ σ' : AS} (h : mpX σ σ') {a j : Nat} (ha : a < 45) : AI σ' 13 a j = AI σ 13 a j := h.2.2.1 _ _ _ (fun q => by rcases q with q | q <;> omega)
theorem dnM.run {σ σ' : AS} (h : mpX σ σ') : dnM σ' = dnM σ := by funext r; unfold dnM; rw [h.lo (by decide)]
theorem altM.run {σ σ' : AS} (h : mpX σ σ') {n : Nat} {alt : PT n} {a : Nat} (w : altM σ (dnM σ) n alt a) : altM σ' (dnM σ') n alt a := altM.keep (fun a j _ ha => h.lo (by omega)) (fun r q => by rw [dnM.run h]; exact q) n alt a w
theorem envM.run {σ σ' : AS} {e : EM} (h : mpX σ σ') (w : envM σ e) : envM σ' e := by
  obtain ⟨a1, a2, a3, a4, a5, a6, a7, a8⟩ := w
  refine ⟨a1.keep h, fun r hr q => ?_, by rw [h.2.1]; exact a3, by rw [h.2.2.2.2.1]; exact a4, by rw [h.1 _ _ (fun q => by have := q.1; omega)]; exact a5, a6, a7, fun i hi => by rw [h.lo (by omega)]; exact a8 i hi⟩
  rw [h.lo (by decide)] at q ⊢
  obtain ⟨a, b1, b2⟩ := a2 r hr q
  exact ⟨a, b1, b2.run h⟩
def memM (σ : AS) (e : EM) (tab : Nat → TT) (cl : Nat → Prop) (k p : Nat) : Option (Option Ans) → Prop
  | none => AI σ 13 45 k = 0 ∧ AI σ 14 2 k = 0
  | some none => AI σ 13 45 k = 0 ∧ AI σ 14 2 k = 1
  | some (some q) => AI σ 14 1 k = bI q.2.2 ∧ ((q.1 = -5 ∧ AI σ 13 45 k = 2) ∨ ((p : Int) ≤ q.1 ∧ q.1 ≤ e.1.2 ∧ AI σ 13 45 k = 1 ∧ AI σ 13 46 k = q.1 ∧ ∃ o, AI σ 13 47 k = oI o ∧ (∀ i, o = some i → cl i) ∧ o.map tab = q.2.1))
def cntM (σ : AS) (st : ES) : Prop := FI σ 1143 0 = (st.1.1 : Int) ∧ FI σ 1144 0 = (st.1.2.1 : Int) ∧ FI σ 1146 0 = (st.1.2.2 : Int) ∧ st.1.1 ≤ 1000 ∧ st.1.2.1 ≤ 40000 ∧ st.1.2.2 ≤ st.1.1
/-- what is so also where a parse ended -/
def RunM0 (σ : AS) (e : EM) (st : ES) (F : Nat) : Prop := envM σ e ∧ cntM σ st ∧ okM σ F ∧ viewM σ F = st.2.1
def RunM (σ : AS) (e : EM) (st : ES) (F N L : Nat) (tab : Nat → TT) (cl : Nat → Prop) (kids : Nat → List Nat) (own : Nat → Nat) : Prop :=
  RunM0 σ e st F ∧ FI σ 1142 0 = 0 ∧ FI σ 1149 0 = (F : Int) ∧ NodeS σ N L tab cl kids own ∧ ∀ r p, r < 8 → p ≤ 240 → memM σ e tab cl (r * 241 + p) p (st.2.2 (r * 241 + p))
/-- what an answer at p leaves: dep around, frame F -/
def OutM (e : EM) (c1 c2 : Nat) (σ : AS) (s0 F N L : Nat) (tab : Nat → TT) (cl : Nat → Prop) (kids : Nat → List Nat) (p : Nat) (r : RR) (σ' : AS) (N' L' : Nat) (tab' : Nat → TT) (cl' : Nat → Prop) (kids' : Nat → List Nat) (own' : Nat → Nat) : Prop :=
  mpX σ σ' ∧ RunM0 σ' e r.2.2.2 F ∧ (∀ a j, 48 ≤ a → a ≤ 51 → j < F → AI σ' 13 a j = AI σ 13 a j) ∧ AI σ' 13 48 F = AI σ 13 48 F ∧ FI σ' 1145 0 = FI σ 1145 0 ∧ s0 ≤ r.2.2.2.1.1 ∧ (r.1 < -5 → FI σ' 1142 0 = r.1) ∧
  (-5 ≤ r.1 → RunM σ' e r.2.2.2 F N' L' tab' cl' kids' own' ∧ N ≤ N' ∧ (∀ i, i < N → tab' i = tab i ∧ (cl i → cl' i) ∧ (cl' i → cl i) ∧ kids' i = kids i ∧ AI σ' 13 52 i = AI σ 13 52 i ∧ AI σ' 13 53 i = AI σ 13 53 i) ∧ N' + c1 + 4 * s0 ≤ N + 4 * r.2.2.2.1.1 ∧ L' + c2 + 3 * s0 ≤ L + 3 * r.2.2.2.1.1 ∧ FI σ' 1152 0 = bI r.2.2.1) ∧
  (0 ≤ r.1 → (p : Int) ≤ r.1 ∧ r.1 ≤ e.1.2 ∧ FI σ' 1147 0 = r.1 ∧ ∃ o, FI σ' 1148 0 = oI o ∧ (∀ i, o = some i → cl' i) ∧ o.map tab' = r.2.1) ∧ (r.1 < -9 ∨ r.1 = -5 ∨ 0 ≤ r.1)
def retM (r : RR) : Int := if 0 ≤ r.1 then 1 else 0
def PostM (e : EM) (Q : AQ) (c1 c2 : Nat) (σ : AS) (s0 F N L : Nat) (tab : Nat → TT) (cl : Nat → Prop) (kids : Nat → List Nat) (p : Nat) (r : RR) : Prop :=
  ∀ σ' N' L' tab' cl' kids' own', OutM e c1 c2 σ s0 F N L tab cl kids p r σ' N' L' tab' cl' kids' own' → Q (some (vi (retM r))) σ'
/-- the contract of altAt -/
def AltM (e : EM) (d k dep n : Nat) : Prop := ∀ (alt : PT n) (a : Nat) (Q : AQ) (σ : AS) (st : ES) (F N L : Nat) (tab : Nat → TT) (cl : Nat → Prop) (kids : Nat → List Nat) (own : Nat → Nat) (p : Nat), RunM σ e st F N L tab cl kids own → altM σ (dnM σ) n alt a → p ≤ e.1.2 → F ≤ dep → FI σ 1145 0 = (dep : Int) → AI σ 13 48 F ≤ (p : Int) → N ≤ 4 * st.1.1 + dep → L ≤ 3 * st.1.1 → PostM e Q 2 2 σ st.1.1 F N L tab cl kids p (altE e.2.1 e.1.2 e.2.2 k n alt p st) → wp d m_M_altAt [vr 11 0, vi (a : Nat), vi (p : Nat)] σ Q
theorem OutM.from {e : EM} {c1 c2 : Nat} {σ σ1 σ' : AS} {s0 s1 F N L N1 L1 N' L' : Nat} {tab tab1 tab' : Nat → TT} {cl cl1 cl' : Nat → Prop} {kids kids1 kids' : Nat → List Nat} {own' : Nat → Nat} {p p1 : Nat} {r : RR} (h : OutM e c1 c2 σ1 s1 F N1 L1 tab1 cl1 kids1 p1 r σ' N' L' tab' cl' kids' own') (hx : mpX σ σ1) (h1 : ∀ a j, 48 ≤ a → a ≤ 51 → j < F → AI σ1 13 a j = AI σ 13 a j) (h2 : AI σ1 13 48 F = AI σ 13 48 F) (h3 : FI σ1 1145 0 = FI σ 1145 0) (hs : s0 ≤ s1) (hN : N ≤ N1) (hj : ∀ i, i < N → tab1 i = tab i ∧ (cl i → cl1 i) ∧ (cl1 i → cl i) ∧ kids1 i = kids i ∧ AI σ1 13 52 i = AI σ 13 52 i ∧ AI σ1 13 53 i = AI σ 13 53 i) (b1 : N1 + 4 * s0 ≤ N + 4 * s1) (b2 : L1 + 3 * s0 ≤ L + 3 * s1) (hp : p ≤ p1) : OutM e c1 c2 σ s0 F N L tab cl kids p r σ' N' L' tab' cl' kids' own' := by
  obtain ⟨a1, a2, a3, a4, a5, a6, a7, a8, a9, a10⟩ := h
  refine ⟨hx.tr a1, a2, fun a j w1 w2 w3 => by rw [a3 a j w1 w2 w3, h1 a j w1 w2 w3], by rw [a4, h2], by rw [a5, h3], by omega, a7, fun w => ?_, fun w => ?_, a10⟩
  · obtain ⟨c1, c2, c3, c4, c5, c6⟩ := a8 w
    refine ⟨c1, by omega, fun i hi => ?_, by omega, by omega, c6⟩
    obtain ⟨d1, d2, d3, d4, d5, d6⟩ := c3 i (by omega)
    obtain ⟨e1, e2, e3, e4, e5, e6⟩ := hj i hi
    exact ⟨by rw [d1, e1], fun w => d2 (e2 w), fun w => e3 (d3 w), by rw [d4, e4], by rw [d5, e5], by rw [d6, e6]⟩
  · obtain ⟨c1, c2⟩ := a9 w
    exact ⟨by omega, c2⟩


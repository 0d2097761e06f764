/-! THE MODEL's reading: what it builds, with bounds -/
theorem chnA.keepB {A : Type} {nx nx' : Nat → Int} {R R' : A → Nat → Prop} (h : ∀ x a, R x a → R' x a ∧ nx' a = nx a) : ∀ (l : List A) (v : Int), chnA nx R l v → chnA nx' R' l v
  | [], _, h0 => h0
  | x :: xs, v, ⟨a, h1, h2, h3⟩ => ⟨a, h1, (h x a h2).1, by rw [(h x a h2).2]; exact chnA.keepB h xs _ h3⟩
/-- a chain whose last points to z -/
def chnB {A : Type} (nx : Nat → Int) (R : A → Nat → Prop) : List A → Int → Nat → Prop
  | [], v, z => v = (z : Int)
  | x :: l, v, z => ∃ a : Nat, v = (a : Int) ∧ R x a ∧ chnB nx R l (nx a) z
theorem chnB.keep {A : Type} {nx nx' : Nat → Int} {R R' : A → Nat → Prop} {z : Nat} (hk : ∀ x c, R x c → R' x c ∧ nx' c = nx c) : ∀ {l : List A} {v : Int}, chnB nx R l v z → chnB nx' R' l v z
  | [], _, h => h
  | x :: l, v, h => by
    obtain ⟨a, h1, h2, h3⟩ := h
    obtain ⟨k1, k2⟩ := hk _ _ h2
    exact ⟨a, h1, k1, by rw [k2]; exact chnB.keep hk h3⟩
theorem chnB.snoc {A : Type} {nx : Nat → Int} {R : A → Nat → Prop} {z b : Nat} {y : A} (hz : nx z = (b : Int)) (hR : R y z) : ∀ {l : List A} {v : Int}, chnB nx R l v z → chnB nx R (l ++ [y]) v b
  | [], v, h => ⟨z, h, hR, hz⟩
  | x :: l, v, h => by
    obtain ⟨a, h1, h2, h3⟩ := h
    exact ⟨a, h1, h2, chnB.snoc hz hR h3⟩
theorem chnB.A {A : Type} {nx : Nat → Int} {R : A → Nat → Prop} {z : Nat} {y : A} (hz : nx z = -1) (hR : R y z) : ∀ {l : List A} {v : Int}, chnB nx R l v z → chnA nx R (l ++ [y]) v
  | [], v, h => ⟨z, h, hR, hz⟩
  | x :: l, v, h => by
    obtain ⟨a, h1, h2, h3⟩ := h
    exact ⟨a, h1, h2, chnB.A hz hR h3⟩
def nodJ (lA hA lS hS lI hI hP : Nat) (σ σ' : AS) : Prop := (∀ j, lA ≤ j → j < hA → AI σ' 13 27 j = AI σ 13 27 j) ∧ (∀ j, lS ≤ j → j < hS → AI σ' 13 28 j = AI σ 13 28 j ∧ AI σ' 13 29 j = AI σ 13 29 j) ∧ (∀ j, lI ≤ j → j < hI → AI σ' 13 30 j = AI σ 13 30 j ∧ AI σ' 13 31 j = AI σ 13 31 j ∧ AI σ' 13 32 j = AI σ 13 32 j) ∧ (∀ j, j < hP → AI σ' 13 33 j = AI σ 13 33 j ∧ AI σ' 13 34 j = AI σ 13 34 j ∧ AI σ' 13 35 j = AI σ 13 35 j ∧ AI σ' 13 36 j = AI σ 13 36 j)
theorem nodJ.rf (lA hA lS hS lI hI hP : Nat) (σ : AS) : nodJ lA hA lS hS lI hI hP σ σ := ⟨fun _ _ _ => rfl, fun _ _ _ => ⟨rfl, rfl⟩, fun _ _ _ => ⟨rfl, rfl, rfl⟩, fun _ _ => ⟨rfl, rfl, rfl, rfl⟩⟩
theorem nodJ.tr {lA hA lS hS lI hI hP : Nat} {a b c : AS} (h : nodJ lA hA lS hS lI hI hP a b) (g : nodJ lA hA lS hS lI hI hP b c) : nodJ lA hA lS hS lI hI hP a c :=
  ⟨fun j w1 w2 => (g.1 j w1 w2).trans (h.1 j w1 w2), fun j w1 w2 => ⟨(g.2.1 j w1 w2).1.trans (h.2.1 j w1 w2).1, (g.2.1 j w1 w2).2.trans (h.2.1 j w1 w2).2⟩, fun j w v => ⟨(g.2.2.1 j w v).1.trans (h.2.2.1 j w v).1, (g.2.2.1 j w v).2.1.trans (h.2.2.1 j w v).2.1, (g.2.2.1 j w v).2.2.trans (h.2.2.1 j w v).2.2⟩, fun j w => ⟨(g.2.2.2 j w).1.trans (h.2.2.2 j w).1, (g.2.2.2 j w).2.1.trans (h.2.2.2 j w).2.1, (g.2.2.2 j w).2.2.1.trans (h.2.2.2 j w).2.2.1, (g.2.2.2 j w).2.2.2.trans (h.2.2.2 j w).2.2.2⟩⟩
theorem nodJ.sub {lA hA lS hS lI hI hP lA' hA' lS' hS' lI' hI' hP' : Nat} {σ σ' : AS} (h : nodJ lA hA lS hS lI hI hP σ σ') (w1 : lA ≤ lA') (w2 : hA' ≤ hA) (w3 : lS ≤ lS') (w4 : hS' ≤ hS) (w7 : lI ≤ lI') (w5 : hI' ≤ hI) (w6 : hP' ≤ hP) : nodJ lA' hA' lS' hS' lI' hI' hP' σ σ' := ⟨fun j v1 v2 => h.1 j (by omega) (by omega), fun j v1 v2 => h.2.1 j (by omega) (by omega), fun j v v2 => h.2.2.1 j (by omega) (by omega), fun j v => h.2.2.2 j (by omega)⟩
theorem nodI.J {lA hA lS hS hI hP : Nat} {σ σ' : AS} (h : nodI lA hA lS hS hI hP σ σ') (lI : Nat) : nodJ lA hA lS hS lI hI hP σ σ' := ⟨h.1, h.2.1, fun j _ w => h.2.2.1 j w, h.2.2.2⟩
theorem rdM.J {σ σ' : AS} (h : rdM σ σ') {lA hA lS hS lI hI hP : Nat} (w2 : hA ≤ ct σ 1130) (w4 : hS ≤ ct σ 1131) (w5 : hI ≤ ct σ 1132) (w6 : hP ≤ ct σ 1133) : nodJ lA hA lS hS lI hI hP σ σ' := (h.nod w2 w4 w5 w6).J lI
theorem nodJ.all {σ σ' : AS} (h : ∀ a j, 27 ≤ a → a ≤ 36 → AI σ' 13 a j = AI σ 13 a j) (lA hA lS hS lI hI hP : Nat) : nodJ lA hA lS hS lI hI hP σ σ' := ⟨fun j _ _ => h _ _ (by decide) (by decide), fun j _ _ => ⟨h _ _ (by decide) (by decide), h _ _ (by decide) (by decide)⟩, fun j _ _ => ⟨h _ _ (by decide) (by decide), h _ _ (by decide) (by decide), h _ _ (by decide) (by decide)⟩, fun j _ => ⟨h _ _ (by decide) (by decide), h _ _ (by decide) (by decide), h _ _ (by decide) (by decide), h _ _ (by decide) (by decide)⟩⟩
/-- a part of a kind -/
def parB (σ : AS) (dn : Nat → Prop) {A : Type} (sub : A → Nat → Prop) (it : Item A) (p : Nat) : Prop :=
  AI σ 13 33 p = (mKind it.1.1 : Int) ∧ (it.1.1 ≤ 1 → AI σ 13 34 p = it.2.1.1 ∧ AI σ 13 35 p = it.2.1.2) ∧ (it.1.1 ≤ 6 → AI σ 13 36 p = (it.1.2.2 : Int) ∧ it.1.2.2 < 32) ∧ (it.1.1 = 12 → AI σ 13 34 p = (it.1.2.2 : Int) ∧ it.1.2.2 < 8 ∧ dn it.1.2.2) ∧ ((it.1.1 = 5 ∨ it.1.1 = 6 ∨ (8 ≤ it.1.1 ∧ it.1.1 ≤ 11)) → ∃ a : Nat, AI σ 13 34 p = (a : Int) ∧ sub it.2.2.1 a) ∧ (it.1.1 = 10 → ∃ b : Nat, AI σ 13 35 p = (b : Int) ∧ sub it.2.2.2 b)
theorem parB.keep {σ σ' : AS} {dn dn' : Nat → Prop} {A : Type} {sub sub' : A → Nat → Prop} {it it' : Item A} {p : Nat} (e : it'.1.1 = it.1.1 ∧ it'.1.2.2 = it.1.2.2 ∧ it'.2 = it.2) (h : AI σ' 13 33 p = AI σ 13 33 p ∧ AI σ' 13 34 p = AI σ 13 34 p ∧ AI σ' 13 35 p = AI σ 13 35 p ∧ AI σ' 13 36 p = AI σ 13 36 p) (hd : ∀ r, dn r → dn' r) (hs : ∀ x a, sub x a → sub' x a) (g : parB σ dn sub it p) : parB σ' dn' sub' it' p := by
  obtain ⟨e1, e2, e3⟩ := e
  obtain ⟨h1, h2, h3, h4⟩ := h
  obtain ⟨g1, g2, g3, g4, g5, g6⟩ := g
  unfold parB
  rw [h1, h2, h3, h4, e1, e2, e3]
  refine ⟨g1, g2, g3, fun w => ⟨(g4 w).1, (g4 w).2.1, hd _ (g4 w).2.2⟩, fun w => ?_, fun w => ?_⟩
  · obtain ⟨a, q1, q2⟩ := g5 w
    exact ⟨a, q1, hs _ _ q2⟩
  · obtain ⟨a, q1, q2⟩ := g6 w
    exact ⟨a, q1, hs _ _ q2⟩
def inB (σ : AS) (dn : Nat → Prop) {A : Type} (sub : Nat → A → Nat → Prop) (lI hI hP : Nat) (it : Item A) (i : Nat) : Prop := (lI ≤ i ∧ i < hI) ∧ AI σ 13 31 i = (it.1.2.1 : Int) ∧ (it.1.1 ≤ 12 ∧ (it.1.2.1 = 0 ∨ it.1.2.1 = 63 ∨ it.1.2.1 = 42 ∨ it.1.2.1 = 43)) ∧ ∃ p : Nat, p < hP ∧ AI σ 13 30 i = (p : Int) ∧ parB σ dn (sub i) it p
theorem inB.keep {σ σ' : AS} {dn dn' : Nat → Prop} {A : Type} {sub sub' : Nat → A → Nat → Prop} {lI hI hP lI' hI' hP' : Nat} {it : Item A} {i : Nat} (h : inB σ dn sub lI hI hP it i) (hd : ∀ r, dn r → dn' r) (b : lI' ≤ i ∧ i < hI') (b2 : hP ≤ hP') (e : AI σ' 13 30 i = AI σ 13 30 i ∧ AI σ' 13 31 i = AI σ 13 31 i) (e2 : ∀ j, j < hP → AI σ' 13 33 j = AI σ 13 33 j ∧ AI σ' 13 34 j = AI σ 13 34 j ∧ AI σ' 13 35 j = AI σ 13 35 j ∧ AI σ' 13 36 j = AI σ 13 36 j) (hs : ∀ x a, sub i x a → sub' i x a) : inB σ' dn' sub' lI' hI' hP' it i := by
  obtain ⟨h1, h2, h3, p, h4, h5, h6⟩ := h
  exact ⟨b, e.2.trans h2, h3, p, Nat.lt_of_lt_of_le h4 b2, e.1.trans h5, h6.keep ⟨rfl, rfl, rfl⟩ (e2 p h4) hd hs⟩
def altB (σ : AS) (dn : Nat → Prop) : (n : Nat) → Nat → Nat → Nat → Nat → Nat → Nat → Nat → PT n → Nat → Prop
  | 0, _, _, _, _, _, _, _, _, _ => False
  | n + 1, lA, hA, lS, hS, lI, hI, hP, alt, a => ((lA ≤ a ∧ a < hA) ∧ (alt : List (List (Item (PT n)))) ≠ []) ∧ chnA (AI σ 13 29) (fun (s : List (Item (PT n))) k => ((lS ≤ k ∧ k < hS) ∧ s ≠ []) ∧ chnA (AI σ 13 32) (inB σ dn (fun i => altB σ dn n (a + 1) hA (k + 1) hS lI i hP) lI hI hP) s (AI σ 13 28 k)) alt (AI σ 13 27 a)
/-- a SEQ in the ALT a -/
def sqB (σ : AS) (dn : Nat → Prop) (n a hA lS hS lI hI hP : Nat) (s : List (Item (PT n))) (k : Nat) : Prop := ((lS ≤ k ∧ k < hS) ∧ s ≠ []) ∧ chnA (AI σ 13 32) (inB σ dn (fun i => altB σ dn n (a + 1) hA (k + 1) hS lI i hP) lI hI hP) s (AI σ 13 28 k)
theorem altB.keepJ {σ σ' : AS} {dn dn' : Nat → Prop} (hd : ∀ r, dn r → dn' r) : ∀ (n lA hA lS hS lI hI hP lA' hA' lS' hS' lI' hI' hP' : Nat) (x : PT n) (a : Nat), nodJ lA hA lS hS lI hI hP σ σ' → lA' ≤ lA → hA ≤ hA' → lS' ≤ lS → hS ≤ hS' → lI' ≤ lI → hI ≤ hI' → hP ≤ hP' → altB σ dn n lA hA lS hS lI hI hP x a → altB σ' dn' n lA' hA' lS' hS' lI' hI' hP' x a
  | 0, _, _, _, _, _, _, _, _, _, _, _, _, _, _, _, _, _, _, _, _, _, _, _, _, h => h
  | n + 1, lA, hA, lS, hS, lI, hI, hP, lA', hA', lS', hS', lI', hI', hP', x, a, hj, w1, w2, w3, w4, w5, w6, w7, h => by
    obtain ⟨⟨⟨h1, h2⟩, h3⟩, h4⟩ := h
    refine ⟨⟨⟨by omega, by omega⟩, h3⟩, ?_⟩
    rw [hj.1 a h1 h2]
    refine chnA.keepB (fun s k hs => ?_) _ _ h4
    obtain ⟨⟨⟨k1, k2⟩, k3⟩, k4⟩ := hs
    refine ⟨⟨⟨⟨by omega, by omega⟩, k3⟩, ?_⟩, (hj.2.1 k k1 k2).2⟩
    rw [(hj.2.1 k k1 k2).1]
    refine chnA.keepB (fun it i hi => ?_) _ _ k4
    have bi := hi.1
    have ei := hj.2.2.1 i bi.1 bi.2
    refine ⟨hi.keep hd ⟨by omega, by omega⟩ w7 ⟨ei.1, ei.2.1⟩ hj.2.2.2 (fun y b hb => ?_), ei.2.2⟩
    exact altB.keepJ hd n _ _ _ _ _ _ _ _ _ _ _ _ _ _ _ _ (hj.sub (by omega) (Nat.le_refl _) (by omega) (Nat.le_refl _) (Nat.le_refl _) (by omega) (Nat.le_refl _)) (Nat.le_refl _) w2 (Nat.le_refl _) w4 w5 (Nat.le_refl _) w7 hb
theorem altB.M {σ : AS} {dn : Nat → Prop} : ∀ (n lA hA lS hS lI hI hP : Nat) (x : PT n) (a : Nat), hA ≤ 260 → hS ≤ 260 → hI ≤ 260 → hP ≤ 260 → altB σ dn n lA hA lS hS lI hI hP x a → altM σ dn n x a
  | 0, _, _, _, _, _, _, _, _, _, _, _, _, _, h => h
  | n + 1, lA, hA, lS, hS, lI, hI, hP, x, a, wA, wS, wI, wP, h => by
    obtain ⟨⟨⟨h1, h2⟩, h3⟩, h4⟩ := h
    refine ⟨by omega, h3, chnA.keepB (fun s k hs => ?_) _ _ h4⟩
    obtain ⟨⟨⟨k1, k2⟩, k3⟩, k4⟩ := hs
    refine ⟨⟨by omega, k3, chnA.keepB (fun it i hi => ⟨?_, rfl⟩) _ _ k4⟩, rfl⟩
    obtain ⟨b1, b2, ⟨b3, b4⟩, p, b5, b6, b7, b8, b9, b10, b11, b12⟩ := hi
    have go : ∀ (y : PT n) b, altB σ dn n (a + 1) hA (k + 1) hS lI i hP y b → altM σ dn n y b := fun y b w => altB.M n _ _ _ _ _ _ _ y b wA wS (by omega) wP w
    refine ⟨by omega, b2, b3, b4, p, by omega, b6, b7, b8, b9, b10, fun w => ?_, fun w => ?_⟩
    · obtain ⟨c, c1, c2⟩ := b11 w
      exact ⟨c, c1, go _ _ c2⟩
    · obtain ⟨c, c1, c2⟩ := b12 w
      exact ⟨c, c1, go _ _ c2⟩
theorem MdS.low {σ : AS} {t : TP} {st : RT} {opn e : Nat} (h : MdS σ t st opn e) (w1 : ct σ 1130 ≤ st.1) (w2 : ct σ 1131 ≤ st.1) : MdS σ t st opn 0 := ⟨h.1, h.2.1, h.2.2.1, h.2.2.2.1, h.2.2.2.2.1, h.2.2.2.2.2.1, h.2.2.2.2.2.2.1, ⟨h.2.2.2.2.2.2.2.1.1, w1⟩, ⟨h.2.2.2.2.2.2.2.2.1.1, w2⟩, h.2.2.2.2.2.2.2.2.2⟩
/-- what reading a part leaves -/
def prtQ (t : TP) (st : RT) (opn n : Nat) (R : PR (Item (PT n))) (σ σ' : AS) (p : Nat) : Prop := rdM σ σ' ∧ match R with
  | .inl q => MdF σ' t q opn (9 - opn) ∧ ct σ' 1132 + 1 ≤ t.1 + (9 - opn)
  | .inr x => MdS σ' t x.2 opn 0 ∧ (p < ct σ' 1133 ∧ ct σ' 1132 + 1 ≤ x.2.1) ∧ (x.1.1.1 ≤ 12 ∧ x.1.1.2.1 = 0) ∧ parB σ' (dnN x.2.2.2) (altB σ' (dnN x.2.2.2) n (ct σ 1130) (ct σ' 1130) (ct σ 1131) (ct σ' 1131) (ct σ 1132) (ct σ' 1132) (ct σ' 1133)) x.1 p
def altQ (t : TP) (st : RT) (opn n : Nat) (R : PR (PT n)) (σ σ' : AS) (a : Nat) : Prop := rdM σ σ' ∧ match R with
  | .inl q => MdF σ' t q opn (9 - opn)
  | .inr x => MdS σ' t x.2 opn 0 ∧ altB σ' (dnN x.2.2.2) n (ct σ 1130) (ct σ' 1130) (ct σ 1131) (ct σ' 1131) (ct σ 1132) (ct σ' 1132) (ct σ' 1133) x.1 a
/-- what is known of the ALTs one level deeper -/
def altHM (d : Nat) (t : TP) (rule opn n : Nat) : Option (RT → PR (PT n)) → Prop
  | none => opn = 8
  | some f => opn < 8 ∧ (∀ st, okT t st → adv t rule st (f st)) ∧ ∀ e, d ≤ e → ∀ (σ : AS) (st : RT) (Q : AQ), MdS σ t st (opn + 1) 0 → (FI σ 1136 0 = 1 → FI σ 1137 0 = (rule : Int)) → (∀ σ' a, altQ t st (opn + 1) n (f st) σ σ' a → Q (some (vi (a : Nat))) σ') → wp e m_M_alt [vr 11 0] σ Q
theorem altHM.le {d : Nat} {t : TP} {rule opn n : Nat} : ∀ {o : Option (RT → PR (PT n))}, altHM d t rule opn n o → opn ≤ 8
  | none, h => by have : opn = 8 := h; omega
  | some f, h => Nat.le_of_lt h.1
/-- a new part -/
theorem ptM_rd {σ : AS} {P : Nat} {k x y a : Int} (hP : FI σ 1133 0 = (P : Int)) : rdM σ (ptM σ P k x y a) ∧ ct (ptM σ P k x y a) 1133 = P + 1 ∧ FI (ptM σ P k x y a) 1133 0 = ((P + 1 : Nat) : Int) ∧ (∀ f, f ≠ 1133 → FI (ptM σ P k x y a) f 0 = FI σ f 0) ∧ (AI (ptM σ P k x y a) 13 33 P = k ∧ AI (ptM σ P k x y a) 13 34 P = x ∧ AI (ptM σ P k x y a) 13 35 P = y ∧ AI (ptM σ P k x y a) 13 36 P = a) ∧ fX (fun f a => f = 1133 ∧ a = 0) (fun k a => k = 13 ∧ 33 ≤ a ∧ a ≤ 36) σ (ptM σ P k x y a) ∧ (∀ lA hA lS hS lI hI, nodJ lA hA lS hS lI hI P σ (ptM σ P k x y a)) := by
  have x0 : fX (fun f a => f = 1133 ∧ a = 0) (fun k a => k = 13 ∧ 33 ≤ a ∧ a ≤ 36) σ (ptM σ P k x y a) :=
    (((((fX_sAI ⟨rfl, by decide, by decide⟩ : fX (fun f a => f = 1133 ∧ a = 0) (fun k a => k = 13 ∧ 33 ≤ a ∧ a ≤ 36) _ _).tr (fX_sAI ⟨rfl, by decide, by decide⟩)).tr (fX_sAI ⟨rfl, by decide, by decide⟩)).tr (fX_sAI ⟨rfl, by decide, by decide⟩)).tr (fX_sFI ⟨rfl, rfl⟩))
  have fP : FI (ptM σ P k x y a) 1133 0 = ((P + 1 : Nat) : Int) := by unfold ptM; rw [FI_sFI, if_pos ⟨rfl, rfl⟩]; omega
  have fi : ∀ f, f ≠ 1133 → FI (ptM σ P k x y a) f 0 = FI σ f 0 := fun f w => x0.1 _ _ (fun q => w q.1)
  have cP : ct (ptM σ P k x y a) 1133 = P + 1 := by unfold ct; rw [fP]; omega
  have ai : ∀ c j, (c < 33 ∨ j < P) → AI (ptM σ P k x y a) 13 c j = AI σ 13 c j := by
    intro c j w
    by_cases q : c < 33
    · exact x0.2.2.1 _ _ _ (fun v => by omega)
    · have hj : j ≠ P := by omega
      unfold ptM
      show AI (sAI (sAI (sAI (sAI σ 13 33 P k) 13 34 P x) 13 35 P y) 13 36 P a) 13 c j = _
      rw [AI_sAI, if_neg (fun v => hj v.2.2), AI_sAI, if_neg (fun v => hj v.2.2), AI_sAI, if_neg (fun v => hj v.2.2), AI_sAI, if_neg (fun v => hj v.2.2)]
  have nj : ∀ lA hA lS hS lI hI, nodJ lA hA lS hS lI hI P σ (ptM σ P k x y a) := fun lA hA lS hS lI hI => ⟨fun j _ _ => ai _ _ (Or.inl (by decide)), fun j _ _ => ⟨ai _ _ (Or.inl (by decide)), ai _ _ (Or.inl (by decide))⟩, fun j _ _ => ⟨ai _ _ (Or.inl (by decide)), ai _ _ (Or.inl (by decide)), ai _ _ (Or.inl (by decide))⟩, fun j w => ⟨ai _ _ (Or.inr w), ai _ _ (Or.inr w), ai _ _ (Or.inr w), ai _ _ (Or.inr w)⟩⟩
  have c0 : ct σ 1133 = P := by unfold ct; rw [hP]; omega
  refine ⟨⟨x0.mono (fun f x q => by rw [q.1, q.2]; exact ⟨by decide, by decide, rfl⟩) (fun k x q => ⟨q.1, Or.inl ⟨by omega, by omega⟩⟩), ⟨fi _ (by decide), fi _ (by decide)⟩, fun f w1 w2 => ?_, ?_⟩, cP, fP, fi, ?_, x0, nj⟩
  · by_cases e : f = 1133
    · rw [e, cP, c0]; omega
    · unfold ct
      rw [fi f e]
      exact Nat.le_refl _
  · rw [c0]
    have := nj 0 (ct σ 1130) 0 (ct σ 1131) 0 (ct σ 1132)
    exact ⟨this.1, this.2.1, fun j w => this.2.2.1 j (Nat.zero_le _) w, this.2.2.2⟩
  · unfold ptM
    refine ⟨?_, ?_, ?_, ?_⟩ <;> simp [AI_sFI, AI_sAI]


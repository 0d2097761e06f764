/-! THE CLASS's Reader: what it makes -/
def rdX (C : Nat → Nat) (σ σ' : AS) : Prop :=
  (∀ f a, a < CN σ (f / 100) → ¬ rsF (C 0) f a → ¬ (f = 105 ∧ a = C 1) → ¬ (f = 601 ∧ (a = C 6 ∨ a = C 8)) → FI σ' f a = FI σ f a) ∧ (∀ f a, a < CN σ (f / 100) → FR σ' f a = FR σ f a) ∧ (∀ k a j, a < CN σ k → ¬ (k = 13 ∧ (a = C 7 ∨ a = C 9)) → AI σ' k a j = AI σ k a j) ∧ (∀ k a j, a < CN σ k → ¬ (k = 15 ∧ a = C 3) → AR σ' k a j = AR σ k a j) ∧ (∀ k a, a < CN σ k → LN σ' k a = LN σ k a) ∧ (∀ k, CN σ k ≤ CN σ' k) ∧ (∀ k, k ≠ 0 → k ≠ 4 → k ≠ 8 → CN σ' k = CN σ k) ∧ nC σ ≤ nC σ' ∧ nS σ' + 7 * nC σ ≤ nS σ + 7 * nC σ'
theorem rdX.rf (C : Nat → Nat) (σ : AS) : rdX C σ σ := ⟨fun _ _ _ _ _ _ => rfl, fun _ _ _ => rfl, fun _ _ _ _ _ => rfl, fun _ _ _ _ _ => rfl, fun _ _ _ => rfl, fun _ => Nat.le_refl _, fun _ _ _ _ => rfl, Nat.le_refl _, Nat.le_refl _⟩
theorem rdX.tr {C : Nat → Nat} {a b c : AS} (h : rdX C a b) (g : rdX C b c) : rdX C a c := by
  obtain ⟨h1, h2, h3, h4, h5, h6, h7, h8, h9⟩ := h
  obtain ⟨g1, g2, g3, g4, g5, g6, g7, g8, g9⟩ := g
  have m : ∀ k x, x < CN a k → x < CN b k := fun k x w => Nat.lt_of_lt_of_le w (h6 k)
  exact ⟨fun f x w w1 w2 w3 => by rw [g1 f x (m _ _ w) w1 w2 w3, h1 f x w w1 w2 w3], fun f x w => by rw [g2 f x (m _ _ w), h2 f x w], fun k x j w w1 => by rw [g3 k x j (m _ _ w) w1, h3 k x j w w1], fun k x j w w1 => by rw [g4 k x j (m _ _ w) w1, h4 k x j w w1], fun k x w => by rw [g5 k x (m _ _ w), h5 k x w], fun k => Nat.le_trans (h6 k) (g6 k), fun k w1 w2 w3 => by rw [g7 k w1 w2 w3, h7 k w1 w2 w3], by omega, by omega⟩
theorem rdX.sFI {C : Nat → Nat} {σ σ' : AS} (h : rdX C σ σ') {f a : Nat} {v : Int} (w : CN σ (f / 100) ≤ a ∨ rsF (C 0) f a ∨ (f = 105 ∧ a = C 1)) : rdX C σ (sFI σ' f a v) := by
  obtain ⟨h1, h2, h3, h4, h5, h6, h7, h8, h9⟩ := h
  refine ⟨fun f' x w0 w1 w2 w3 => ?_, h2, h3, h4, h5, h6, h7, h8, h9⟩
  rw [FI_sFI, if_neg]
  · exact h1 f' x w0 w1 w2 w3
  · rintro ⟨rfl, rfl⟩
    rcases w with w | w | w
    · omega
    · exact w1 w
    · exact w2 w
theorem rdX.sFR {C : Nat → Nat} {σ σ' : AS} (h : rdX C σ σ') {f a : Nat} {v : Option Nat} (w : CN σ (f / 100) ≤ a) : rdX C σ (sFR σ' f a v) := by
  obtain ⟨h1, h2, h3, h4, h5, h6, h7, h8, h9⟩ := h
  exact ⟨h1, fun f' x w0 => by rw [FR_sFR, if_neg (fun q => by obtain ⟨rfl, rfl⟩ := q; omega)]; exact h2 f' x w0, h3, h4, h5, h6, h7, h8, h9⟩
theorem rdX.sAR {C : Nat → Nat} {σ σ' : AS} (h : rdX C σ σ') {j : Nat} {v : Option Nat} : rdX C σ (sAR σ' 15 (C 3) j v) := by
  obtain ⟨h1, h2, h3, h4, h5, h6, h7, h8, h9⟩ := h
  exact ⟨h1, h2, h3, fun k x j' w0 w1 => by rw [AR_sAR, if_neg (fun q => w1 ⟨q.1, q.2.1⟩)]; exact h4 k x j' w0 w1, h5, h6, h7, h8, h9⟩
theorem rdX.nO {C : Nat → Nat} {σ σ' : AS} (h : rdX C σ σ') {c : Nat} (hc : c = 0 ∨ c = 4 ∨ c = 8) : rdX C σ (nO σ' c) := by
  obtain ⟨h1, h2, h3, h4, h5, h6, h7, h8, h9⟩ := h
  have hcf : cF c ≤ 7 := by rcases hc with rfl | rfl | rfl <;> decide
  refine ⟨fun f x w0 w1 w2 w3 => ?_, fun f x w0 => ?_, h3, h4, h5, fun k => ?_, fun k w1 w2 w3 => ?_, ?_, ?_⟩
  · rw [FI_nO, if_neg (fun q => by obtain ⟨rfl, rfl⟩ := q; have := h6 (f / 100); omega)]; exact h1 f x w0 w1 w2 w3
  · rw [FR_nO, if_neg (fun q => by obtain ⟨rfl, rfl⟩ := q; have := h6 (f / 100); omega)]; exact h2 f x w0
  · rw [CN_nO]
    have := h6 k
    split
    · rename_i q; subst q; omega
    · exact this
  · rw [CN_nO, if_neg (by omega)]; exact h7 k w1 w2 w3
  · rw [nC_nO]; omega
  · rw [nC_nO, nS_nO]; omega
theorem rsX.rd {C : Nat → Nat} {σ σ' : AS} (h : rsX (C 0) σ σ') : rdX C σ σ' := by
  obtain ⟨h1, h2, h3, h4, h5, h6, h7, h8⟩ := h
  exact ⟨fun f a _ w1 _ _ => h1 f a w1, fun _ _ _ => by rw [h2], fun k a j _ _ => h3 k a j (fun q => q.2), fun _ _ _ _ _ => by rw [h4], fun _ _ _ => by rw [h5], fun _ => by rw [h6]; exact Nat.le_refl _, fun _ _ _ _ => by rw [h6], by rw [h7]; exact Nat.le_refl _, by rw [h7, h8]; exact Nat.le_refl _⟩
theorem rowX.rd {C : Nat → Nat} {r c : Nat} {σ σ' : AS} (h : rowX r c σ σ') (hr : (r = C 6 ∧ c = C 7) ∨ (r = C 8 ∧ c = C 9)) : rdX C σ σ' := by
  obtain ⟨h1, h2, h3, h4, h5, h6, h7, h8⟩ := h
  exact ⟨fun f a _ _ _ w3 => h1 f a (fun q => w3 ⟨q.1, by rcases hr with w | w; exact Or.inl (by rw [q.2, w.1]); exact Or.inr (by rw [q.2, w.1])⟩), fun _ _ _ => by rw [h2], fun k a j _ w => h3 k a j (fun q => w ⟨q.1, by rcases hr with w | w; exact Or.inl (by rw [q.2, w.2]); exact Or.inr (by rw [q.2, w.2])⟩), fun _ _ _ _ _ => by rw [h4], fun _ _ _ => by rw [h5], fun _ => by rw [h6]; exact Nat.le_refl _, fun _ _ _ _ => by rw [h6], by rw [h7]; exact Nat.le_refl _, by rw [h7, h8]; exact Nat.le_refl _⟩
theorem rdX.pso {C : Nat → Nat} {σ σ' : AS} (h : rdX C σ σ') : psoX σ σ' := ⟨fun f a w w0 => ⟨h.1 f a w0 (fun q => by have := q.1; have := q.2.1; omega) (fun q => by omega) (fun q => by omega), h.2.1 f a w0⟩, fun k _ => h.2.2.2.2.2.1 k⟩
theorem rdX.row {C : Nat → Nat} {σ σ' : AS} (hx : rdX C σ σ') {r c cap n : Nat} {f : Nat → Int} (h : rowF σ r c cap n f) (h1 : r < CN σ 6) (h2 : r ≠ C 6 ∧ r ≠ C 8) (h3 : c < CN σ 13) (h4 : c ≠ C 7 ∧ c ≠ C 9) : rowF σ' r c cap n f := by
  obtain ⟨a1, a2, a3, a4, a5, a6⟩ := h
  obtain ⟨b1, b2, b3, b4, b5, b6⟩ := hx
  exact ⟨by rw [b2 600 r h1]; exact a1, by rw [b1 601 r h1 (fun q => by have := q.1; have := q.2.1; omega) (fun q => by omega) (fun q => by rcases q.2 with q | q; exact h2.1 q; exact h2.2 q)]; exact a2, by rw [b5 13 c h3]; exact a3, a4, a5, fun k hk => by rw [b3 13 c k h3 (fun q => by rcases q.2 with q | q; exact h4.1 q; exact h4.2 q)]; exact a6 k hk⟩
theorem RdK.rd {σ σ' : AS} {C : Nat → Nat} {t : TP} (h : RdK σ C t) (hx : rdX C σ σ') : RdK σ' C t := by
  obtain ⟨⟨h1, h2, h3, h4⟩, ⟨r1, r2, r3, r4, r5, r6, r7, r8, r9⟩, ⟨s1, s2, s3, s4, s5, s6, s7, s8, s9⟩, t1, ⟨q1, q2, q3, q4, q5, q6, q7⟩, l1, l2, t2, t3⟩ := h
  obtain ⟨b1, b2, b3, b4, b5, b6, b7, b8, b9⟩ := id hx
  have m : ∀ k x, x < CN σ k → x < CN σ' k := fun k x w => Nat.lt_of_lt_of_le w (b6 k)
  exact ⟨⟨m _ _ h1, m _ _ h2, m _ _ h3, m _ _ h4⟩, ⟨r1, m _ _ r2, r3, m _ _ r4, r5, m _ _ r6, r7, r8, r9⟩, ⟨s1, m _ _ s2, s3, m _ _ s4, s5, m _ _ s6, s7, s8, s9⟩, t1, ⟨by rw [b2 500 _ h1]; exact q1, by rw [b2 501 _ h1]; exact q2, by rw [b2 502 _ h1]; exact q3, by rw [b2 100 _ h2]; exact q4, by rw [b2 101 _ h2]; exact q5, by rw [b2 102 _ h2]; exact q6, by rw [b2 103 _ h2]; exact q7⟩, by rw [b5 16 _ h3]; exact l1, by rw [b5 15 _ h4]; exact l2, t2, hx.row t3 (by omega) (by omega) (by omega) (by omega)⟩
/-- a new Part, as its maker leaves it -/
def newP (σ : AS) (a kind : Nat) (o : Option Nat) : Prop := FI σ 400 a = (kind : Int) ∧ FI σ 401 a = 0 ∧ FI σ 403 a = -1 ∧ FR σ 402 a = o ∧ FR σ 404 a = none ∧ FR σ 405 a = none ∧ FR σ 406 a = none
/-- the reader's state while the quoted bytes are q -/
def RdA (σ : AS) (C : Nat → Nat) (t : TP) (st : RT) (opn : Nat) (q : List Int) : Prop := RdK σ C t ∧ okT t st ∧ (∃ a : Nat, FI σ 503 (C 0) = (a : Int) ∧ a ≤ t.1 ∧ sk t a = st.1) ∧ FI σ 504 (C 0) = (opn : Int) ∧ FI σ 505 (C 0) = -1 ∧ FI σ 105 (C 1) = (st.2.1.length : Int) ∧ atmR σ (C 3) st.2.1 ∧ rowF σ (C 6) (C 7) 32 q.length (fun i => q.getD i 0) ∧ rowF σ (C 8) (C 9) 8 8 (fuF st.2.2)
theorem RdS_A {σ : AS} {C : Nat → Nat} {t : TP} {st : RT} {opn : Nat} : RdS σ C t st opn ↔ RdA σ C t st opn (litT st.2.1) := Iff.rfl


/-! THE CLASS's Reader: the rules so far; addRule -/
/-- only new things changed -/
def newX (σ σ' : AS) : Prop := (∀ f a, a < CN σ (f / 100) → FI σ' f a = FI σ f a ∧ FR σ' f a = FR σ f a) ∧ (∀ k a j, a < CN σ k → AI σ' k a j = AI σ k a j ∧ AR σ' k a j = AR σ k a j) ∧ (∀ k a, a < CN σ k → LN σ' k a = LN σ k a) ∧ ∀ k, CN σ k ≤ CN σ' k
theorem newX.rf (σ : AS) : newX σ σ := ⟨fun _ _ _ => ⟨rfl, rfl⟩, fun _ _ _ _ => ⟨rfl, rfl⟩, fun _ _ _ => rfl, fun _ => Nat.le_refl _⟩
theorem newX.tr {a b c : AS} (h : newX a b) (g : newX b c) : newX a c := by
  obtain ⟨h1, h2, h3, h4⟩ := h
  obtain ⟨g1, g2, g3, g4⟩ := g
  have m : ∀ k x, x < CN a k → x < CN b k := fun k x w => Nat.lt_of_lt_of_le w (h4 k)
  exact ⟨fun f x w => ⟨(g1 f x (m _ _ w)).1.trans (h1 f x w).1, (g1 f x (m _ _ w)).2.trans (h1 f x w).2⟩, fun k x j w => ⟨(g2 k x j (m _ _ w)).1.trans (h2 k x j w).1, (g2 k x j (m _ _ w)).2.trans (h2 k x j w).2⟩, fun k x w => (g3 k x (m _ _ w)).trans (h3 k x w), fun k => Nat.le_trans (h4 k) (g4 k)⟩
/-- the reader's things are new -/
def newC (C : Nat → Nat) (σ : AS) : Prop := CN σ 5 ≤ C 0 ∧ CN σ 1 ≤ C 1 ∧ CN σ 16 ≤ C 2 ∧ CN σ 15 ≤ C 3 ∧ CN σ 6 ≤ C 4 ∧ CN σ 13 ≤ C 5 ∧ CN σ 6 ≤ C 6 ∧ CN σ 13 ≤ C 7 ∧ CN σ 6 ≤ C 8 ∧ CN σ 13 ≤ C 9
theorem newX.rd {C : Nat → Nat} {σ0 σ σ' : AS} (h : newX σ0 σ) (hc : newC C σ0) (g : rdX C σ σ') : newX σ0 σ' := by
  obtain ⟨h1, h2, h3, h4⟩ := h
  obtain ⟨g1, g2, g3, g4, g5, g6, g7, g8, g9⟩ := g
  obtain ⟨c0, c1, c2, c3, c4, c5, c6, c7, c8, c9⟩ := hc
  have m : ∀ k x, x < CN σ0 k → x < CN σ k := fun k x w => Nat.lt_of_lt_of_le w (h4 k)
  refine ⟨fun f x w => ⟨(g1 f x (m _ _ w) (fun q => ?_) (fun q => ?_) (fun q => ?_)).trans (h1 f x w).1, (g2 f x (m _ _ w)).trans (h1 f x w).2⟩, fun k x j w => ⟨(g3 k x j (m _ _ w) (fun q => ?_)).trans (h2 k x j w).1, (g4 k x j (m _ _ w) (fun q => ?_)).trans (h2 k x j w).2⟩, fun k x w => (g5 k x (m _ _ w)).trans (h3 k x w), fun k => Nat.le_trans (h4 k) (g6 k)⟩
  · obtain ⟨q1, q2, q3⟩ := q
    have : f / 100 = 5 := by omega
    rw [this] at w; omega
  · obtain ⟨rfl, rfl⟩ := q
    have w : C 1 < CN σ0 1 := w
    omega
  · obtain ⟨rfl, q⟩ := q
    have w : x < CN σ0 6 := w
    omega
  · obtain ⟨rfl, q⟩ := q
    omega
  · obtain ⟨rfl, rfl⟩ := q
    omega
theorem newX.rs {σ0 σ σ' : AS} {C : Nat → Nat} (h : newX σ0 σ) (hc : newC C σ0) (g : rsX (C 0) σ σ') : newX σ0 σ' := h.rd hc g.rd
/-- what addRule changes -/
def arX (C : Nat → Nat) (r : Nat) (v : Option Nat) (σ σ' : AS) : Prop := (∀ f a, ¬ (f = 104 ∧ a = C 1) → ¬ (f = 601 ∧ a = C 4) → FI σ' f a = FI σ f a) ∧ FR σ' = FR σ ∧ (∀ k a j, ¬ (k = 13 ∧ a = C 5) → AI σ' k a j = AI σ k a j) ∧ (∀ k a j, AR σ' k a j = if k = 16 ∧ a = C 2 ∧ j = r then v else AR σ k a j) ∧ LN σ' = LN σ ∧ CN σ' = CN σ ∧ nC σ' = nC σ ∧ nS σ' = nS σ
theorem newX.ad {C : Nat → Nat} {r : Nat} {v : Option Nat} {σ0 σ σ' : AS} (h : newX σ0 σ) (hc : newC C σ0) (g : arX C r v σ σ') : newX σ0 σ' := by
  obtain ⟨h1, h2, h3, h4⟩ := h
  obtain ⟨g1, g2, g3, g4, g5, g6, g7, g8⟩ := g
  obtain ⟨c0, c1, c2, c3, c4, c5, c6, c7, c8, c9⟩ := hc
  refine ⟨fun f x w => ⟨(g1 f x (fun q => ?_) (fun q => ?_)).trans (h1 f x w).1, by rw [g2]; exact (h1 f x w).2⟩, fun k x j w => ⟨(g3 k x j (fun q => ?_)).trans (h2 k x j w).1, by rw [g4, if_neg (fun q => by obtain ⟨rfl, rfl, -⟩ := q; omega)]; exact (h2 k x j w).2⟩, fun k x w => by rw [g5]; exact h3 k x w, fun k => by rw [g6]; exact h4 k⟩
  · obtain ⟨rfl, rfl⟩ := q
    have w : C 1 < CN σ0 1 := w
    omega
  · obtain ⟨rfl, rfl⟩ := q
    have w : C 4 < CN σ0 6 := w
    omega
  · obtain ⟨rfl, rfl⟩ := q
    omega
theorem arX.row {C : Nat → Nat} {r : Nat} {v : Option Nat} {σ σ' : AS} (g : arX C r v σ σ') {x c cap n : Nat} {f : Nat → Int} (h : rowF σ x c cap n f) (w1 : x ≠ C 4) (w2 : c ≠ C 5) : rowF σ' x c cap n f := by
  obtain ⟨g1, g2, g3, g4, g5, g6, g7, g8⟩ := g
  exact ⟨by rw [g2]; exact h.1, by rw [g1 _ _ (fun q => by omega) (fun q => w1 q.2)]; exact h.2.1, by rw [g5]; exact h.2.2.1, h.2.2.2.1, h.2.2.2.2.1, fun k hk => by rw [g3 _ _ _ (fun q => w2 q.2)]; exact h.2.2.2.2.2 k hk⟩
theorem RdK.ad {C : Nat → Nat} {r : Nat} {v : Option Nat} {t : TP} {σ σ' : AS} (h : RdK σ C t) (g : arX C r v σ σ') : RdK σ' C t := by
  obtain ⟨⟨h1, h2, h3, h4⟩, ⟨r1, r2, r3, r4, r5, r6, r7, r8, r9⟩, ⟨s1, s2, s3, s4, s5, s6, s7, s8, s9⟩, t1, ⟨q1, q2, q3, q4, q5, q6, q7⟩, l1, l2, t2, t3⟩ := h
  obtain ⟨g1, g2, g3, g4, g5, g6, g7, g8⟩ := id g
  unfold RdK
  rw [g5, g6, g2]
  exact ⟨⟨h1, h2, h3, h4⟩, ⟨r1, r2, r3, r4, r5, r6, r7, r8, r9⟩, ⟨s1, s2, s3, s4, s5, s6, s7, s8, s9⟩, t1, ⟨q1, q2, q3, q4, q5, q6, q7⟩, l1, l2, t2, g.row t3 (by omega) (by omega)⟩
theorem RdS.ad {C : Nat → Nat} {r opn : Nat} {v : Option Nat} {t : TP} {st : RT} {σ σ' : AS} (h : RdS σ C t st opn) (g : arX C r v σ σ') : RdS σ' C t st opn := by
  obtain ⟨b1, b2, ⟨a, b3, b31⟩, b4, b5, b6, b7, b8, b9⟩ := h
  obtain ⟨-, ⟨r1, r2, r3, r4, r5, r6, r7, r8, r9⟩, ⟨s1, s2, s3, s4, s5, s6, s7, s8, s9⟩, -⟩ := id b1
  obtain ⟨g1, g2, g3, g4, g5, g6, g7, g8⟩ := id g
  have fi : ∀ f y, f ≠ 104 → f ≠ 601 → FI σ' f y = FI σ f y := fun f y w1 w2 => g1 f y (fun q => w1 q.1) (fun q => w2 q.1)
  refine ⟨b1.ad g, b2, ⟨a, by rw [fi _ _ (by decide) (by decide)]; exact b3, b31⟩, by rw [fi _ _ (by decide) (by decide)]; exact b4, by rw [fi _ _ (by decide) (by decide)]; exact b5, by rw [fi _ _ (by decide) (by decide)]; exact b6, fun i x hi => ?_, g.row b8 (fun q => r7 q.symm) (fun q => s7 q.symm), g.row b9 (fun q => r8 q.symm) (fun q => s8 q.symm)⟩
  obtain ⟨tt, c1, c2, c3, c4, c5, c6⟩ := b7 i x hi
  exact ⟨tt, by rw [g4, if_neg (by omega)]; exact c1, by rw [g6]; exact c2, by rw [fi _ _ (by decide) (by decide)]; exact c3, by rw [fi _ _ (by decide) (by decide)]; exact c4, by rw [fi _ _ (by decide) (by decide)]; exact c5, by rw [fi _ _ (by decide) (by decide)]; exact c6⟩
theorem RdF.ad {C : Nat → Nat} {r opn p : Nat} {v : Option Nat} {t : TP} {σ σ' : AS} (h : RdF σ C t p opn) (g : arX C r v σ σ') : RdF σ' C t p opn := by
  obtain ⟨b1, b2, ⟨a, b3, b31⟩, b4, b5, ⟨k, b6, b7⟩, ⟨n, f, b8⟩, ⟨f2, b9⟩⟩ := h
  obtain ⟨-, ⟨r1, r2, r3, r4, r5, r6, r7, r8, r9⟩, ⟨s1, s2, s3, s4, s5, s6, s7, s8, s9⟩, -⟩ := id b1
  have fi : ∀ f y, f ≠ 104 → f ≠ 601 → FI σ' f y = FI σ f y := fun f y w1 w2 => g.1 f y (fun q => w1 q.1) (fun q => w2 q.1)
  exact ⟨b1.ad g, b2, ⟨a, by rw [fi _ _ (by decide) (by decide)]; exact b3, b31⟩, by rw [fi _ _ (by decide) (by decide)]; exact b4, by rw [fi _ _ (by decide) (by decide)]; exact b5, ⟨k, b6, by rw [fi _ _ (by decide) (by decide)]; exact b7⟩, ⟨n, f, g.row b8 (fun q => r7 q.symm) (fun q => s7 q.symm)⟩, ⟨f2, g.row b9 (fun q => r8 q.symm) (fun q => s8 q.symm)⟩⟩
section
variable {d : Nat} {Q : AQ} {σ : AS} {C : Nat → Nat} {t : TP} {st : RT} {opn : Nat}
theorem c_G_addRule (hK : RdK σ C t) {f : Nat → Int} {r s n : Nat} {m : Int} (hr : r < 8) (h4 : rowF σ (C 4) (C 5) 8 8 f) (hn : FI σ 104 (C 1) = (n : Int)) (hn2 : n ≤ 100) (kk : ∀ σ', arX C r (some s) σ σ' → rowF σ' (C 4) (C 5) 8 8 (up f r m) → FI σ' 104 (C 1) = ((n + 1 : Nat) : Int) → Q none σ') : wp (d + 3) m_Grammar_addRule [vr 1 (C 1), vi (r : Nat), vr 8 s, vi m] σ Q := by
  obtain ⟨-, -, -, -, ⟨q1, q2, q3, q4, q5, q6, q7⟩, l1, l2, -⟩ := hK
  refine x_in (ls := [some _, some _, some _, some _]) rfl rfl ?_
  refine x_iload_n i_Grammar_addRule_0 rfl ?_
  refine x_if_lt_f i_Grammar_addRule_1 (by omega) ?_
  refine x_iload_n i_Grammar_addRule_4 rfl ?_
  refine x_aload_n i_Grammar_addRule_5 rfl ?_
  refine x_getR (c2 := 16) i_Grammar_addRule_6 rfl rfl (by assumption) ?_
  refine x_alen i_Grammar_addRule_9 (by omega) ?_
  rw [l1]
  refine x_icmp_ge_f i_Grammar_addRule_10 (by omega) ?_
  refine x_aload_n i_Grammar_addRule_13 rfl ?_
  refine x_getR (c2 := 16) i_Grammar_addRule_14 rfl rfl (by assumption) ?_
  refine x_iload_n i_Grammar_addRule_17 rfl ?_
  refine x_aload_n i_Grammar_addRule_18 rfl ?_
  refine x_aastore i_Grammar_addRule_19 (by omega) rfl (k := r) rfl (by omega) ?_
  have h4' : rowF (sAR σ 16 (C 2) r (some s)) (C 4) (C 5) 8 8 f := h4
  refine x_aload_n i_Grammar_addRule_20 rfl ?_
  refine x_getR (c2 := 6) i_Grammar_addRule_21 rfl rfl (by assumption) ?_
  refine x_iload_n i_Grammar_addRule_24 rfl ?_
  refine x_iload_n i_Grammar_addRule_25 rfl ?_
  refine x_cv2 i_Grammar_addRule_26 rfl rfl rfl ?_
  refine c_put h4' (j := r) rfl hr (fun σ1 y1 x1 _ => ?_)
  obtain ⟨z1, z2, z3, z4, z5, z6, z7, z8⟩ := x1
  have e4 : FI σ1 104 (C 1) = (n : Int) := by rw [z1 _ _ (fun q => by omega)]; exact hn
  refine x_aload_n i_Grammar_addRule_29 rfl ?_
  refine x_dup i_Grammar_addRule_30 ?_
  refine x_getI i_Grammar_addRule_31 rfl rfl ?_
  rw [e4]
  refine x_iconst i_Grammar_addRule_34 ?_
  refine x_iadd i_Grammar_addRule_35 (by omega) ?_
  refine x_putI i_Grammar_addRule_36 rfl rfl ?_
  have e6 : (n : Int) + 1 = ((n + 1 : Nat) : Int) := by omega
  rw [e6]
  refine x_vret i_Grammar_addRule_39 rfl ?_
  refine kk _ ⟨fun f a w1 w2 => ?_, z2, z3, fun k a j => ?_, z5, z6, z7, z8⟩ ⟨y1.1, ?_, y1.2.2⟩ ?_
  · rw [FI_sFI, if_neg w1, z1 f a w2]; rfl
  · show AR σ1 k a j = _
    rw [z4, AR_sAR]
  · rw [FI_sFI, if_neg (by omega)]; exact y1.2.1
  · rw [FI_sFI, if_pos ⟨rfl, rfl⟩]
end


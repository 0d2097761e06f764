/-! THE CLASS's state, and how both pictures are kept -/
def clS (σ : AS) (S : SS) : Prop := ∃ t b g bo fa ra ca rq cq : Nat, ((t = 0 ∧ b = 1) ∨ (t = 1 ∧ b = 0)) ∧ FR σ 1000 0 = some t ∧ FR σ 1001 0 = some b ∧ FR σ 1002 0 = some 2 ∧ FR σ 1003 0 = some 0 ∧ FR σ 1004 0 = some 0 ∧ FR σ 1005 0 = some g ∧ tpOK S.1.1 ∧ tpOK S.1.2 ∧ rowF σ t t 240 S.1.1.1 S.1.1.2 ∧ rowF σ b b 240 S.1.2.1 S.1.2.2 ∧ (∃ n f, rowF σ 2 2 20 n f) ∧ grmC σ g S.2.1 bo fa ra ca rq cq ∧ runI σ S.2.2.1 ∧ lastC σ S.2.2.2 ∧ 23 ≤ CN σ 6 ∧ 77 ≤ CN σ 13
/-- what the class never touches -/
def clX (σ σ' : AS) : Prop := (∀ f a, 1100 ≤ f → FI σ' f a = FI σ f a ∧ FR σ' f a = FR σ f a) ∧ ∀ k a, (k = 14 ∨ k = 17 ∨ k = 18 ∨ (k = 13 ∧ 23 ≤ a ∧ a ≤ 76)) → AI σ' k a = AI σ k a ∧ AR σ' k a = AR σ k a ∧ LN σ' k a = LN σ k a
theorem clX.rf (σ : AS) : clX σ σ := ⟨fun _ _ _ => ⟨rfl, rfl⟩, fun _ _ _ => ⟨rfl, rfl, rfl⟩⟩
theorem clX.tr {a b c : AS} (h : clX a b) (g : clX b c) : clX a c := ⟨fun f x w => ⟨(g.1 f x w).1.trans (h.1 f x w).1, (g.1 f x w).2.trans (h.1 f x w).2⟩, fun k x w => ⟨(g.2 k x w).1.trans (h.2 k x w).1, (g.2 k x w).2.1.trans (h.2 k x w).2.1, (g.2 k x w).2.2.trans (h.2 k x w).2.2⟩⟩
theorem tX.cl {F : Nat → Nat → Prop} {A : Nat → Prop} {σ σ' : AS} (h : tX F A σ σ') (hF : ∀ f a, F f a → f < 1100) (hA : ∀ a, A a → a < 23) : clX σ σ' := by
  obtain ⟨h1, h2, h3, h4, h5, h6⟩ := h
  exact ⟨fun f a w => ⟨h1 f a (fun q => by have := hF f a q; omega), by rw [h2]⟩, fun k a w => ⟨funext fun j => h3 k a j (fun q => by have := hA a q.2; omega), by rw [h4], by rw [h5]⟩⟩
theorem moS.keepC {σ σ' : AS} {S : SS} (h : moS σ S) (hx : clX σ σ') : moS σ' S := by
  obtain ⟨⟨m1, m2, m3, m4, m5⟩, ⟨e1, e2, e3⟩, ht1, ht2, htp, hti, hg, hsp, hsp2, hla⟩ := h
  have fi : ∀ f, 1100 ≤ f → FI σ' f 0 = FI σ f 0 := fun f w => (hx.1 f 0 w).1
  have fr : ∀ f, 1100 ≤ f → FR σ' f 0 = FR σ f 0 := fun f w => (hx.1 f 0 w).2
  have ai : ∀ a j, 23 ≤ a → a ≤ 76 → AI σ' 13 a j = AI σ 13 a j := fun a j w1 w2 => by rw [(hx.2 13 a (Or.inr (Or.inr (Or.inr ⟨rfl, w1, w2⟩)))).1]
  have ln : ∀ a, 23 ≤ a → a ≤ 76 → LN σ' 13 a = LN σ 13 a := fun a w1 w2 => (hx.2 13 a (Or.inr (Or.inr (Or.inr ⟨rfl, w1, w2⟩)))).2.2
  have bi : ∀ a j, AI σ' 14 a j = AI σ 14 a j := fun a j => by rw [(hx.2 14 a (Or.inl rfl)).1]
  have lb : ∀ a, LN σ' 14 a = LN σ 14 a := fun a => (hx.2 14 a (Or.inl rfl)).2.2
  refine ⟨⟨fun f n hf => ?_, fun n l hl => ?_, by rw [lb]; exact m3, by rw [lb]; exact m4, by rw [lb]; exact m5⟩, ⟨by rw [fr _ (by decide)]; exact e1, by rw [(hx.2 17 0 (Or.inr (Or.inl rfl))).2.2]; exact e2, fun i hi => ?_⟩, ht1, ht2, htp.keep (fi _ (by decide)) (fun j => ai _ _ (by decide) (by decide)), hti.keep (fi _ (by decide)) (fun j => ai _ _ (by decide) (by decide)), hg.keep (fun a j w1 w2 => ai _ _ (by omega) (by omega)) (fun j => bi _ _) (fi _ (by decide)) (fi _ (by decide)), by rw [fi _ (by decide)]; exact hsp, hsp2, lasM_keep hla (fun f w1 w2 => fi _ (by omega)) (fun a j w1 w2 => ai _ _ (by omega) (by omega))⟩
  · have hf2 : 1100 ≤ f := by
      unfold mArr at hf
      split at hf <;> first | omega | cases hf
    rw [fr f hf2]
    exact m1 f n hf
  · have hn : 23 ≤ n ∧ n ≤ 76 := by
      unfold mLen at hl
      split at hl <;> first | omega | cases hl
    rw [ln n hn.1 hn.2]
    exact m2 n l hl
  · rw [(hx.2 17 0 (Or.inr (Or.inl rfl))).2.1, ln _ (by omega) (by omega)]
    exact e3 i hi
theorem rowF.mo {σ σ' : AS} {r c cap n : Nat} {f : Nat → Int} (h : rowF σ r c cap n f) (hx : moX σ σ') (hc : c < 23 ∨ 77 ≤ c) : rowF σ' r c cap n f := by
  obtain ⟨a1, a2, a3, a4, a5, a6⟩ := h
  obtain ⟨b1, b2, b3, b4, b5, b6, b7, b8, b9⟩ := hx
  exact ⟨by rw [b2 _ _ (by decide)]; exact a1, by rw [b1 _ _ (by decide)]; exact a2, by rw [b6]; exact a3, a4, a5, fun k hk => by rw [b3 _ _ hc]; exact a6 k hk⟩
theorem TrS.mo {σ σ' : AS} {N K : Nat} {tab : Nat → TT} {H : List Nat} (h : TrS σ N K tab H) (hx : moX σ σ') : TrS σ' N K tab H := by
  obtain ⟨so, nu, fk, sz, va, ki, he, ⟨q0, q1, q2, q3, q4, q5, q6⟩, r1, r2, r3, r4, r5, r6, r7, z⟩ := h
  have b2 := hx.2.1
  exact ⟨so, nu, fk, sz, va, ki, he, ⟨by rw [b2 _ _ (by decide)]; exact q0, by rw [b2 _ _ (by decide)]; exact q1, by rw [b2 _ _ (by decide)]; exact q2, by rw [b2 _ _ (by decide)]; exact q3, by rw [b2 _ _ (by decide)]; exact q4, by rw [b2 _ _ (by decide)]; exact q5, by rw [b2 _ _ (by decide)]; exact q6⟩, r1.mo hx (by decide), r2.mo hx (by decide), r3.mo hx (by decide), r4.mo hx (by decide), r5.mo hx (by decide), r6.mo hx (by decide), r7.mo hx (by decide), z⟩
theorem runI.mo {σ σ' : AS} {n : Nat} (h : runI σ n) (hx : moX σ σ') : runI σ' n := by
  obtain ⟨⟨v1, v2, v3, v4⟩, ⟨n3, f3, m3⟩, ⟨f4, m4⟩, ⟨f5, m5⟩, ⟨N, K, tab, H, tr⟩, c2, bs⟩ := h
  have b1 := hx.1
  have b2 := hx.2.1
  exact ⟨⟨by rw [b2 _ _ (by decide)]; exact v1, by rw [b2 _ _ (by decide)]; exact v2, by rw [b2 _ _ (by decide)]; exact v3, by rw [b2 _ _ (by decide)]; exact v4⟩, ⟨n3, f3, m3.mo hx (by decide)⟩, ⟨f4, m4.mo hx (by decide)⟩, ⟨f5, m5.mo hx (by decide)⟩, ⟨N, K, tab, H, tr.mo hx⟩, by rw [b1 _ _ (by decide)]; exact c2, bs⟩
theorem lastC.mo {σ σ' : AS} {o : Option RR} (h : lastC σ o) (hx : moX σ σ') : lastC σ' o := by
  obtain ⟨⟨p1, p2, p3, p4, p5⟩, ⟨n1, f1, a2⟩, ⟨n2, f2, a3⟩, ⟨n3, f3, a4⟩, ⟨L4, a5⟩, ⟨L5, a6⟩, a7⟩ := h
  have b1 := hx.1
  have b2 := hx.2.1
  refine ⟨⟨by rw [b2 _ _ (by decide)]; exact p1, by rw [b2 _ _ (by decide)]; exact p2, by rw [b2 _ _ (by decide)]; exact p3, by rw [b2 _ _ (by decide)]; exact p4, by rw [b2 _ _ (by decide)]; exact p5⟩, ⟨n1, f1, a2.mo hx (by decide)⟩, ⟨n2, f2, a3.mo hx (by decide)⟩, ⟨n3, f3, a4.mo hx (by decide)⟩, ⟨L4, a5.mo hx (by decide)⟩, ⟨L5, a6.mo hx (by decide)⟩, ?_⟩
  cases o with
  | none => show FI σ' 200 0 = 0; rw [b1 _ _ (by decide)]; exact a7
  | some r =>
    obtain ⟨c0, c1, c2, c3, c4, c5, c6, c7, c8, c9, c10, c11⟩ := a7
    exact ⟨by rw [b1 _ _ (by decide)]; exact c0, by rw [b1 _ _ (by decide)]; exact c1, by rw [b1 _ _ (by decide)]; exact c2, by rw [b1 _ _ (by decide)]; exact c3, by rw [b1 _ _ (by decide)]; exact c4, by rw [b1 _ _ (by decide)]; exact c5, by rw [b1 _ _ (by decide)]; exact c6, c7, c8.mo hx (by decide), c9.mo hx (by decide), c10.mo hx (by decide), by rw [b1 _ _ (by decide)]; exact c11.imp id (fun w => ⟨w.1, w.2.mo hx (by decide)⟩)⟩
theorem clS.keepM {σ σ' : AS} {S : SS} (h : clS σ S) (hx : moX σ σ') : clS σ' S := by
  obtain ⟨t, b, g, bo, fa, ra, ca, rq, cq, htb, f0, f1, f2, f3, f4, f5, o1, o2, r0, r1, ⟨n2, g2, r2⟩, hg, hr, hl, k1, k2⟩ := h
  obtain ⟨b1, b2, b3, b4, b5, b6, b7, b8, b9⟩ := id hx
  refine ⟨t, b, g, bo, fa, ra, ca, rq, cq, htb, by rw [b2 _ _ (by decide)]; exact f0, by rw [b2 _ _ (by decide)]; exact f1, by rw [b2 _ _ (by decide)]; exact f2, by rw [b2 _ _ (by decide)]; exact f3, by rw [b2 _ _ (by decide)]; exact f4, by rw [b2 _ _ (by decide)]; exact f5, o1, o2, r0.mo hx (by omega), r1.mo hx (by omega), ⟨n2, g2, r2.mo hx (by decide)⟩, hg.keep ⟨fun f a w _ => ⟨b1 f a (by omega), b2 f a (by omega)⟩, fun k _ => by rw [b7]; exact Nat.le_refl _⟩ (fun f a w1 w2 _ => ⟨b1 f a (by omega), b2 f a (by omega)⟩) (fun a _ _ => ⟨b1 _ a (by decide), b2 _ a (by decide)⟩) (fun k a _ _ => by rw [b5, b6]; exact ⟨rfl, rfl⟩) (fun a w _ => ⟨funext fun j => b3 a j (by omega), by rw [b6]⟩) (fun k => by rw [b7]; exact Nat.le_refl _), hr.mo hx, hl.mo hx, by rw [b7]; exact k1, by rw [b7]; exact k2⟩
theorem grmC.tx {F : Nat → Nat → Prop} {A : Nat → Prop} {σ σ' : AS} {g : Nat} {G : GG} {b fa ra ca rq cq : Nat} (h : grmC σ g G b fa ra ca rq cq) (hx : tX F A σ σ') (hF : ∀ f a, F f a → ¬ (f < 200 ∨ (400 ≤ f ∧ f < 500) ∨ (800 ≤ f ∧ f < 900) ∨ (f = 601 ∧ 21 ≤ a))) (hA : ∀ a, A a → a < 21) : grmC σ' g G b fa ra ca rq cq := by
  obtain ⟨b1, b2, b3, b4, b5, b6, b7, b8⟩ := id hx
  have fi : ∀ f a, (f < 200 ∨ (400 ≤ f ∧ f < 500) ∨ (800 ≤ f ∧ f < 900) ∨ (f = 601 ∧ 21 ≤ a)) → FI σ' f a = FI σ f a := fun f a w => b1 f a (fun q => hF f a q w)
  exact h.keep ⟨fun f a w _ => ⟨fi f a (by omega), by rw [b2]⟩, fun k _ => by rw [b6]; exact Nat.le_refl _⟩ (fun f a w1 w2 _ => ⟨fi f a (by omega), by rw [b2]⟩) (fun a w _ => ⟨fi _ a (by omega), by rw [b2]⟩) (fun k a _ _ => by rw [b4, b5]; exact ⟨rfl, rfl⟩) (fun a w _ => ⟨funext fun j => b3 _ a j (fun q => by have := hA a q.2; omega), by rw [b5]⟩) (fun k => by rw [b6]; exact Nat.le_refl _)
theorem runI.tx {F : Nat → Nat → Prop} {A : Nat → Prop} {σ σ' : AS} {n : Nat} (h : runI σ n) (hx : tX F A σ σ') (hF : ∀ f a, F f a → ¬ (f = 708 ∨ (f = 601 ∧ 3 ≤ a ∧ a ≤ 12))) (hA : ∀ a, A a → ¬ (3 ≤ a ∧ a ≤ 12)) : runI σ' n := by
  obtain ⟨⟨v1, v2, v3, v4⟩, ⟨n3, f3, m3⟩, ⟨f4, m4⟩, ⟨f5, m5⟩, ⟨N, K, tab, H, tr⟩, c2, bs⟩ := h
  have e2 := hx.2.1
  have k : ∀ r, 3 ≤ r → r ≤ 12 → ¬ F 601 r := fun r w1 w2 q => hF _ _ q (Or.inr ⟨rfl, w1, w2⟩)
  have ka : ∀ r, 3 ≤ r → r ≤ 12 → ¬ A r := fun r w1 w2 q => hA _ q ⟨w1, w2⟩
  exact ⟨by unfold runR; rw [e2]; exact ⟨v1, v2, v3, v4⟩, ⟨n3, f3, hx.row m3 (k _ (by decide) (by decide)) (ka _ (by decide) (by decide))⟩, ⟨f4, hx.row m4 (k _ (by decide) (by decide)) (ka _ (by decide) (by decide))⟩, ⟨f5, hx.row m5 (k _ (by decide) (by decide)) (ka _ (by decide) (by decide))⟩, ⟨N, K, tab, H, tr.keep hx (fun r w1 w2 => k r (by omega) w2) (fun r w1 w2 => ka r (by omega) w2)⟩, by rw [hx.1 _ _ (fun q => hF _ _ q (Or.inl rfl))]; exact c2, bs⟩


/-! THE CLASS's pictures, when only new things change -/
def occ (σ : AS) : Prop := 1 ≤ CN σ 2 ∧ 1 ≤ CN σ 7 ∧ 1 ≤ CN σ 9 ∧ 1 ≤ CN σ 10 ∧ 1 ≤ CN σ 11 ∧ 3 ≤ CN σ 14 ∧ 1 ≤ CN σ 17 ∧ 1 ≤ CN σ 18
theorem occ.mono {σ σ' : AS} (h : occ σ) (hx : ∀ k, CN σ k ≤ CN σ' k) : occ σ' := by
  obtain ⟨h1, h2, h3, h4, h5, h6, h7, h8⟩ := h
  exact ⟨Nat.le_trans h1 (hx _), Nat.le_trans h2 (hx _), Nat.le_trans h3 (hx _), Nat.le_trans h4 (hx _), Nat.le_trans h5 (hx _), Nat.le_trans h6 (hx _), Nat.le_trans h7 (hx _), Nat.le_trans h8 (hx _)⟩
theorem newX.f0 {σ σ' : AS} (hx : newX σ σ') (ho : occ σ) {f : Nat} (hf : f / 100 = 2 ∨ f / 100 = 7 ∨ f / 100 = 9 ∨ f / 100 = 10 ∨ f / 100 = 11) : FI σ' f 0 = FI σ f 0 ∧ FR σ' f 0 = FR σ f 0 := by
  obtain ⟨h1, h2, h3, h4, h5, h6, h7, h8⟩ := ho
  refine hx.1 f 0 ?_
  rcases hf with w | w | w | w | w <;> rw [w] <;> omega
theorem newX.pso {σ σ' : AS} (hx : newX σ σ') : psoX σ σ' := ⟨fun f a _ w => hx.1 f a w, fun k _ => hx.2.2.2 k⟩
theorem moS.keepN {σ σ' : AS} {S : SS} (h : moS σ S) (hx : newX σ σ') (ho : occ σ) (h13 : 77 ≤ CN σ 13) : moS σ' S := by
  obtain ⟨⟨m1, m2, m3, m4, m5⟩, ⟨e1, e2, e3⟩, ht1, ht2, htp, hti, hg, hsp, hsp2, hla⟩ := h
  have fi : ∀ f, f / 100 = 11 → FI σ' f 0 = FI σ f 0 := fun f w => (hx.f0 ho (by omega)).1
  have fr : ∀ f, f / 100 = 11 → FR σ' f 0 = FR σ f 0 := fun f w => (hx.f0 ho (by omega)).2
  have ai : ∀ a j, a ≤ 76 → AI σ' 13 a j = AI σ 13 a j := fun a j w => (hx.2.1 13 a j (by omega)).1
  have ln : ∀ a, a ≤ 76 → LN σ' 13 a = LN σ 13 a := fun a w => hx.2.2.1 13 a (by omega)
  have o14 : 3 ≤ CN σ 14 := ho.2.2.2.2.2.1
  have o17 : 1 ≤ CN σ 17 := ho.2.2.2.2.2.2.1
  have bi : ∀ a j, a < 3 → AI σ' 14 a j = AI σ 14 a j := fun a j w => (hx.2.1 14 a j (by omega)).1
  have lb : ∀ a, a < 3 → LN σ' 14 a = LN σ 14 a := fun a w => hx.2.2.1 14 a (by omega)
  refine ⟨⟨fun f n hf => ?_, fun n l hl => ?_, by rw [lb _ (by decide)]; exact m3, by rw [lb _ (by decide)]; exact m4, by rw [lb _ (by decide)]; exact m5⟩, ⟨by rw [fr _ (by decide)]; exact e1, by rw [hx.2.2.1 17 0 o17]; exact e2, fun i hi => ?_⟩, ht1, ht2, htp.keep (fi _ (by decide)) (fun j => ai _ _ (by decide)), hti.keep (fi _ (by decide)) (fun j => ai _ _ (by decide)), hg.keep (fun a j w1 w2 => ai _ _ (by omega)) (fun j => bi _ _ (by decide)) (fi _ (by decide)) (fi _ (by decide)), by rw [fi _ (by decide)]; exact hsp, hsp2, lasM_keep hla (fun f w1 w2 => fi _ (by omega)) (fun a j w1 w2 => ai _ _ (by omega))⟩
  · have hf2 : f / 100 = 11 := by
      unfold mArr at hf
      split at hf <;> first | omega | cases hf
    rw [fr f hf2]
    exact m1 f n hf
  · have hn : n ≤ 76 := by
      unfold mLen at hl
      split at hl <;> first | omega | cases hl
    rw [ln n hn]
    exact m2 n l hl
  · rw [(hx.2.1 17 0 i o17).2, ln _ (by omega)]
    exact e3 i hi
theorem clS.keepN {σ σ' : AS} {S : SS} (h : clS σ S) (hx : newX σ σ') (ho : occ σ) : clS σ' S := by
  obtain ⟨t, b, g, bo, fa, ra, ca, rq, cq, htb, f0, f1, f2, f3, f4, f5, o1, o2, r0, r1, ⟨n2, g2, r2⟩, hg, hr, hl, k1, k2⟩ := h
  have fi : ∀ f, (f / 100 = 2 ∨ f / 100 = 7 ∨ f / 100 = 9 ∨ f / 100 = 10 ∨ f / 100 = 11) → FI σ' f 0 = FI σ f 0 := fun f w => (hx.f0 ho w).1
  have fr : ∀ f, (f / 100 = 2 ∨ f / 100 = 7 ∨ f / 100 = 9 ∨ f / 100 = 10 ∨ f / 100 = 11) → FR σ' f 0 = FR σ f 0 := fun f w => (hx.f0 ho w).2
  have rk : ∀ {r c cap n : Nat} {f : Nat → Int}, rowF σ r c cap n f → r < 23 → c < 77 → rowF σ' r c cap n f := fun h w1 w2 => hx.row h (by omega) (by omega)
  refine ⟨t, b, g, bo, fa, ra, ca, rq, cq, htb, by rw [fr _ (by decide)]; exact f0, by rw [fr _ (by decide)]; exact f1, by rw [fr _ (by decide)]; exact f2, by rw [fr _ (by decide)]; exact f3, by rw [fr _ (by decide)]; exact f4, by rw [fr _ (by decide)]; exact f5, o1, o2, rk r0 (by omega) (by omega), rk r1 (by omega) (by omega), ⟨n2, g2, rk r2 (by decide) (by decide)⟩, hg.keep hx.pso (fun f a w1 w2 w => hx.1 f a (by rw [show f / 100 = 1 by omega]; exact w)) (fun a _ w => ⟨(hx.1 601 a w).1, (hx.1 600 a w).2⟩) (fun k a _ w => ⟨funext fun j => (hx.2.1 k a j w).2, hx.2.2.1 k a w⟩) (fun a _ w => ⟨funext fun j => (hx.2.1 13 a j w).1, hx.2.2.1 13 a w⟩) hx.2.2.2, ?_, ?_, Nat.le_trans k1 (hx.2.2.2 _), Nat.le_trans k2 (hx.2.2.2 _)⟩
  · obtain ⟨⟨v1, v2, v3, v4⟩, ⟨n3, f3, m3⟩, ⟨f4, m4⟩, ⟨f5, m5⟩, ⟨N, K, tab, H, tr⟩, c2, bs⟩ := hr
    obtain ⟨so, nu, fk, sz, va, ki, he, ⟨q0, q1, q2, q3, q4, q5, q6⟩, t1, t2, t3, t4, t5, t6, t7, z⟩ := tr
    exact ⟨⟨by rw [fr _ (by decide)]; exact v1, by rw [fr _ (by decide)]; exact v2, by rw [fr _ (by decide)]; exact v3, by rw [fr _ (by decide)]; exact v4⟩, ⟨n3, f3, rk m3 (by decide) (by decide)⟩, ⟨_, rk m4 (by decide) (by decide)⟩, ⟨_, rk m5 (by decide) (by decide)⟩, ⟨N, K, tab, H, so, nu, fk, sz, va, ki, he, ⟨by rw [fr _ (by decide)]; exact q0, by rw [fr _ (by decide)]; exact q1, by rw [fr _ (by decide)]; exact q2, by rw [fr _ (by decide)]; exact q3, by rw [fr _ (by decide)]; exact q4, by rw [fr _ (by decide)]; exact q5, by rw [fr _ (by decide)]; exact q6⟩, rk t1 (by decide) (by decide), rk t2 (by decide) (by decide), rk t3 (by decide) (by decide), rk t4 (by decide) (by decide), rk t5 (by decide) (by decide), rk t6 (by decide) (by decide), rk t7 (by decide) (by decide), z⟩, by rw [fi _ (by decide)]; exact c2, bs⟩
  · obtain ⟨⟨p1, p2, p3, p4, p5⟩, ⟨n1, f1, a2⟩, ⟨n2, f2, a3⟩, ⟨n3, f3, a4⟩, ⟨L4, a5⟩, ⟨L5, a6⟩, a7⟩ := hl
    refine ⟨⟨by rw [fr _ (by decide)]; exact p1, by rw [fr _ (by decide)]; exact p2, by rw [fr _ (by decide)]; exact p3, by rw [fr _ (by decide)]; exact p4, by rw [fr _ (by decide)]; exact p5⟩, ⟨n1, f1, rk a2 (by decide) (by decide)⟩, ⟨n2, f2, rk a3 (by decide) (by decide)⟩, ⟨n3, f3, rk a4 (by decide) (by decide)⟩, ⟨L4, rk a5 (by decide) (by decide)⟩, ⟨L5, rk a6 (by decide) (by decide)⟩, ?_⟩
    revert a7
    cases S.2.2.2 with
    | none => intro a7; show FI σ' 200 0 = 0; rw [fi _ (by decide)]; exact a7
    | some r =>
      intro a7
      obtain ⟨c0, c1, c2, c3, c4, c5, c6, c7, c8, c9, c10, c11⟩ := a7
      exact ⟨by rw [fi _ (by decide)]; exact c0, by rw [fi _ (by decide)]; exact c1, by rw [fi _ (by decide)]; exact c2, by rw [fi _ (by decide)]; exact c3, by rw [fi _ (by decide)]; exact c4, by rw [fi _ (by decide)]; exact c5, by rw [fi _ (by decide)]; exact c6, c7, rk c8 (by decide) (by decide), rk c9 (by decide) (by decide), rk c10 (by decide) (by decide), by rw [fi _ (by decide)]; exact c11.imp id (fun w => ⟨w.1, rk w.2 (by decide) (by decide)⟩)⟩


/-! THE MODEL: how its state is kept -/
def fnA (_ _ : Nat) : Prop := False
section
variable {e : EM} {σ σ' : AS} {st : ES} {F N L : Nat} {tab : Nat → TT} {cl : Nat → Prop} {kids : Nat → List Nat} {own : Nat → Nat}
theorem NodeS.same (h : NodeS σ N L tab cl kids own) (hA : ∀ a j, 52 ≤ a → a ≤ 58 → AI σ' 13 a j = AI σ 13 a j) (h1 : FI σ' 1150 0 = FI σ 1150 0) (h2 : FI σ' 1151 0 = FI σ 1151 0) : NodeS σ' N L tab cl kids own := by
  obtain ⟨n1, n2, n3, n4⟩ := h
  refine ⟨by rw [h1]; exact n1, by rw [h2]; exact n2, n3, fun i hi => ?_⟩
  obtain ⟨b1, b2, b3, b4⟩ := n4 i hi
  rw [hA _ _ (by decide) (by decide), hA _ _ (by decide) (by decide), hA _ _ (by decide) (by decide)]
  refine ⟨b1.keep (Nat.le_refl _) (fun l _ h => ⟨h, hA _ _ (by decide) (by decide), hA _ _ (by decide) (by decide)⟩), b2, b3, fun w => ?_⟩
  obtain ⟨c1, c2⟩ := b4 w
  refine ⟨?_, c2⟩
  unfold nodeT
  rw [hA _ _ (by decide) (by decide), hA _ _ (by decide) (by decide)]
  exact c1
theorem okM.same {f f' : Nat} (h : okM σ f) (hA : ∀ a, 48 ≤ a → a ≤ 51 → AI σ' 13 a f' = AI σ 13 a f) : okM σ' f' := by
  unfold okM
  rw [hA _ (by decide) (by decide), hA _ (by decide) (by decide), hA _ (by decide) (by decide), hA _ (by decide) (by decide)]
  exact h
theorem viewM_same {f : Nat} (hA : ∀ a, 48 ≤ a → a ≤ 51 → AI σ' 13 a f = AI σ 13 a f) : viewM σ' f = viewM σ f := by
  unfold viewM
  rw [hA _ (by decide) (by decide), hA _ (by decide) (by decide), hA _ (by decide) (by decide), hA _ (by decide) (by decide)]
theorem memM.same {k p : Nat} {v : Option (Option Ans)} (h : memM σ e tab cl k p v) (hA : ∀ a j, 45 ≤ a → a ≤ 47 → AI σ' 13 a j = AI σ 13 a j) (hB : ∀ a j, AI σ' 14 a j = AI σ 14 a j) : memM σ' e tab cl k p v := by
  match v, h with
  | none, h => exact ⟨by rw [hA _ _ (by decide) (by decide)]; exact h.1, by rw [hB]; exact h.2⟩
  | some none, h => exact ⟨by rw [hA _ _ (by decide) (by decide)]; exact h.1, by rw [hB]; exact h.2⟩
  | some (some q), h =>
    obtain ⟨h1, h2⟩ := h
    refine ⟨by rw [hB]; exact h1, ?_⟩
    rw [hA _ _ (by decide) (by decide), hA _ _ (by decide) (by decide), hA _ _ (by decide) (by decide)]
    exact h2
theorem memM.up {tab' : Nat → TT} {cl' : Nat → Prop} {k p : Nat} {v : Option (Option Ans)} (h : memM σ e tab cl k p v) (hc : ∀ i, cl i → cl' i ∧ tab' i = tab i) : memM σ e tab' cl' k p v := by
  match v, h with
  | none, h => exact h
  | some none, h => exact h
  | some (some q), ⟨h1, h2⟩ =>
    refine ⟨h1, h2.elim Or.inl (fun ⟨a, b, c, d, o, f, g, i⟩ => Or.inr ⟨a, b, c, d, o, f, fun j hj => (hc j (g j hj)).1, ?_⟩)⟩
    rw [← i]
    cases o with
    | none => rfl
    | some j => simp only [Option.map_some]; rw [(hc j (g j rfl)).2]
theorem cntM.same (h : cntM σ st) (h1 : ∀ f, 1143 ≤ f → f ≤ 1146 → f ≠ 1145 → FI σ' f 0 = FI σ f 0) : cntM σ' st := by
  obtain ⟨a, b, c, d⟩ := h
  exact ⟨by rw [h1 _ (by decide) (by decide) (by decide)]; exact a, by rw [h1 _ (by decide) (by decide) (by decide)]; exact b, by rw [h1 _ (by decide) (by decide) (by decide)]; exact c, d⟩
/-- place, tree, sharp, how deep -/
def psF (f a : Nat) : Prop := (f = 1145 ∨ f = 1147 ∨ f = 1148 ∨ f = 1152) ∧ a = 0
theorem psX_mp (hx : fX psF fnA σ σ') : mpX σ σ' := hx.mono (fun f a q => by rcases q.1 with w | w | w | w <;> exact ⟨by omega, by omega, q.2⟩) (fun _ _ q => q.elim)
theorem psX_fi (hx : fX psF fnA σ σ') {f : Nat} (h : f ≠ 1145 ∧ f ≠ 1147 ∧ f ≠ 1148 ∧ f ≠ 1152) : FI σ' f 0 = FI σ f 0 := hx.1 _ _ (fun q => by rcases q.1 with w | w | w | w <;> omega)
theorem psX_ai (hx : fX psF fnA σ σ') (k a j : Nat) : AI σ' k a j = AI σ k a j := hx.2.2.1 _ _ _ (fun q => q)
theorem RunM0.set (h : RunM0 σ e st F) (hx : fX psF fnA σ σ') : RunM0 σ' e st F := by
  obtain ⟨a1, a2, a3, a4⟩ := h
  exact ⟨a1.run (psX_mp hx), a2.same (fun f h1 h2 h3 => psX_fi hx (by omega)), a3.same (fun a _ _ => psX_ai hx _ _ _), by rw [viewM_same (fun a _ _ => psX_ai hx _ _ _)]; exact a4⟩
theorem RunM.set (h : RunM σ e st F N L tab cl kids own) (hx : fX psF fnA σ σ') : RunM σ' e st F N L tab cl kids own := by
  obtain ⟨a1, a2, a3, a4, a5⟩ := h
  exact ⟨a1.set hx, by rw [psX_fi hx (by decide)]; exact a2, by rw [psX_fi hx (by decide)]; exact a3, a4.same (fun a j _ _ => psX_ai hx _ _ _) (psX_fi hx (by decide)) (psX_fi hx (by decide)), fun r p hr hp => (a5 r p hr hp).same (fun a j _ _ => psX_ai hx _ _ _) (fun a j => psX_ai hx _ _ _)⟩
theorem ndX_mp (hx : fX ndF ndA σ σ') : mpX σ σ' := hx.mono (fun f a q => by rcases q.1 with w | w <;> exact ⟨by omega, by omega, q.2⟩) (fun k a q => Or.inl ⟨q.1, by have := q.2.1; omega, q.2.2⟩)
theorem RunM.nodes {N' L' : Nat} {tab' : Nat → TT} {cl' : Nat → Prop} {kids' : Nat → List Nat} {own' : Nat → Nat} (h : RunM σ e st F N L tab cl kids own) (hx : fX ndF ndA σ σ') (hn : NodeS σ' N' L' tab' cl' kids' own') (hc : ∀ i, cl i → cl' i ∧ tab' i = tab i) : RunM σ' e st F N' L' tab' cl' kids' own' := by
  obtain ⟨⟨b1, b2, b3, b4⟩, a2, a3, a4, a5⟩ := h
  have fi : ∀ f, f ≠ 1150 → f ≠ 1151 → FI σ' f 0 = FI σ f 0 := fun f h1 h2 => hx.1 _ _ (fun q => by rcases q.1 with w | w <;> omega)
  have ai : ∀ a j, a < 52 → AI σ' 13 a j = AI σ 13 a j := fun a j h => hx.2.2.1 _ _ _ (fun q => by have := q.2.1; omega)
  have bi : ∀ a j, AI σ' 14 a j = AI σ 14 a j := fun a j => hx.2.2.1 _ _ _ (fun q => by have := q.1; omega)
  exact ⟨⟨b1.run (ndX_mp hx), b2.same (fun f h1 h2 h3 => fi f (by omega) (by omega)), b3.same (fun a _ _ => ai _ _ (by omega)), by rw [viewM_same (fun a _ _ => ai _ _ (by omega))]; exact b4⟩, by rw [fi _ (by decide) (by decide)]; exact a2, by rw [fi _ (by decide) (by decide)]; exact a3, hn, fun r p hr hp => ((a5 r p hr hp).same (fun a j _ _ => ai _ _ (by omega)) bi).up hc⟩
theorem frX_mp {f : Nat} (hx : frX f σ σ') : mpX σ σ' := hx.1.mono (fun _ _ q => q.elim) (fun k a q => Or.inl ⟨q.1, by have := q.2.1; omega, by have := q.2.2; omega⟩)
theorem RunM.note {fw : Int × Int} (h : RunM σ e st F N L tab cl kids own) (hx : frX F σ σ') (ho : okM σ' F) (hv : viewM σ' F = fw) : RunM σ' e (st.1, fw, st.2.2) F N L tab cl kids own := by
  obtain ⟨⟨b1, b2, b3, b4⟩, a2, a3, a4, a5⟩ := h
  have fi : ∀ f, FI σ' f 0 = FI σ f 0 := fun f => hx.1.1 _ _ (fun q => q)
  have ai : ∀ a j, a ≠ 49 ∧ a ≠ 50 ∧ a ≠ 51 → AI σ' 13 a j = AI σ 13 a j := fun a j h => hx.1.2.2.1 _ _ _ (fun q => by have := q.2; omega)
  have bi : ∀ a j, AI σ' 14 a j = AI σ 14 a j := fun a j => hx.1.2.2.1 _ _ _ (fun q => by have := q.1; omega)
  exact ⟨⟨b1.run (frX_mp hx), b2.same (fun f _ _ _ => fi f), ho, hv⟩, by rw [fi]; exact a2, by rw [fi]; exact a3, a4.same (fun a j _ _ => ai _ _ (by omega)) (fi _) (fi _), fun r p hr hp => (a5 r p hr hp).same (fun a j _ _ => ai _ _ (by omega)) bi⟩
end
section
variable {d : Nat} {Q : AQ} {e : EM} {σ : AS} {st : ES} {F N L : Nat} {tab : Nat → TT} {cl : Nat → Prop} {kids : Nat → List Nat} {own : Nat → Nat}
/-- what is expected at p is written down -/
theorem c_M_expE (h : RunM σ e st F N L tab cl kids own) (hF : F < 80) {p a : Nat} (hp : p ≤ e.1.2) (hat : AI σ 13 48 F ≤ (p : Int)) (ha : a < 32) (kk : ∀ σ', RunM σ' e (expE a p st) F N L tab cl kids own → frX F σ σ' → Q none σ') : wp (d + 1) m_M_expects [vr 11 0, vi (F : Nat), vi (p : Nat), vi (iShl 1 (a : Nat))] σ Q := by
  obtain ⟨⟨b1, b2, b3, b4⟩, a2, a3, a4, a5⟩ := id h
  have hz : e.1.2 ≤ 240 := b1.2.2.2.2.2.1
  refine c_M_expects b1.1 hF (by omega) b3 hat (inr_iShl _ _) (iShl_ne a ha) (fun σ' x1 x2 x3 => kk σ' (h.note x1 x2 ?_) x1)
  rw [x3, b4]
end


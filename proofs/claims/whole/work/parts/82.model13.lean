/-! THE MODEL: brackets -/
theorem AltM.up {e : EM} {d k dep n : Nat} (h : AltM e d k dep n) : AltM e (d + 1) k dep n := fun alt a Q σ st F N L tab cl kids own p h1 h2 h3 h4 h5 h6 h7 h8 h9 => wp.up (h alt a Q σ st F N L tab cl kids own p h1 h2 h3 h4 h5 h6 h7 h8 h9)
theorem OutM.re {e : EM} {c1 c2 : Nat} {σ σ' σ'' : AS} {s0 F N L N' L' : Nat} {tab tab' : Nat → TT} {cl cl' : Nat → Prop} {kids kids' : Nat → List Nat} {own' : Nat → Nat} {p : Nat} {r r' : RR} (h : OutM e c1 c2 σ s0 F N L tab cl kids p r σ' N' L' tab' cl' kids' own') (hx : fX psF fnA σ' σ'') (h5 : FI σ'' 1145 0 = FI σ' 1145 0) (hst : r'.2.2.2 = r.2.2.2) (hneg : r'.1 < -5 → r'.1 = r.1) (hneg2 : -5 ≤ r'.1 → -5 ≤ r.1) (hsh : -5 ≤ r'.1 → FI σ'' 1152 0 = bI r'.2.2.1) (hpos : 0 ≤ r'.1 → (p : Int) ≤ r'.1 ∧ r'.1 ≤ e.1.2 ∧ FI σ'' 1147 0 = r'.1 ∧ ∃ o, FI σ'' 1148 0 = oI o ∧ (∀ i, o = some i → cl' i) ∧ o.map tab' = r'.2.1) (h10 : r'.1 < -9 ∨ r'.1 = -5 ∨ 0 ≤ r'.1) : OutM e c1 c2 σ s0 F N L tab cl kids p r' σ'' N' L' tab' cl' kids' own' := by
  obtain ⟨a1, a2, a3, a4, a5, a6, a7, a8, a9, a10⟩ := h
  refine ⟨a1.tr (psX_mp hx), by rw [hst]; exact a2.set hx, fun a j w1 w2 w3 => by rw [psX_ai hx]; exact a3 a j w1 w2 w3, by rw [psX_ai hx]; exact a4, h5.trans a5, by rw [hst]; exact a6, fun w => by rw [psX_fi hx (by decide), hneg w]; exact a7 (by rw [← hneg w]; exact w), fun w => ?_, hpos, h10⟩
  obtain ⟨b1, b2, b3, b4, b5, b6⟩ := a8 (hneg2 w)
  rw [hst]
  exact ⟨b1.set hx, b2, fun i hi => by rw [psX_ai hx, psX_ai hx]; exact b3 i hi, b4, b5, hsh w⟩
def puF (f a : Nat) : Prop := f = 1149 ∧ a = 0
def puA (k a : Nat) : Prop := k = 13 ∧ 48 ≤ a ∧ a ≤ 51
theorem puX_mp {σ σ' : AS} (hx : fX puF puA σ σ') : mpX σ σ' := hx.mono (fun f a q => by obtain ⟨q1, q2⟩ := q; exact ⟨by omega, by omega, q2⟩) (fun k a q => by obtain ⟨q1, q2, q3⟩ := q; exact Or.inl ⟨q1, by omega, by omega⟩)
section
variable {d : Nat} {Q : AQ} {e : EM} {σ σ' : AS} {st : ES} {F N L : Nat} {tab : Nat → TT} {cl : Nat → Prop} {kids : Nat → List Nat} {own : Nat → Nat}
/-- another frame is the last -/
theorem RunM.frame {F' : Nat} {fw : Int × Int} (h : RunM σ e st F N L tab cl kids own) (hx : fX puF puA σ σ') (h1 : FI σ' 1149 0 = (F' : Int)) (h2 : okM σ' F') (h3 : viewM σ' F' = fw) : RunM σ' e (st.1, fw, st.2.2) F' N L tab cl kids own := by
  obtain ⟨⟨b1, b2, b3, b4⟩, a2, a3, a4, a5⟩ := h
  have fi : ∀ f, f ≠ 1149 → FI σ' f 0 = FI σ f 0 := fun f h => hx.1 _ _ (fun q => h q.1)
  have ai : ∀ a j, a < 48 ∨ 51 < a → AI σ' 13 a j = AI σ 13 a j := fun a j h => hx.2.2.1 _ _ _ (fun q => by obtain ⟨q1, q2, q3⟩ := q; omega)
  have bi : ∀ a j, AI σ' 14 a j = AI σ 14 a j := fun a j => hx.2.2.1 _ _ _ (fun q => by have := q.1; omega)
  exact ⟨⟨b1.run (puX_mp hx), b2.same (fun f w1 w2 _ => fi f (by omega)), h2, h3⟩, by rw [fi _ (by decide)]; exact a2, h1, a4.same (fun a j _ _ => ai _ _ (by omega)) (fi _ (by decide)) (fi _ (by decide)), fun r p hr hp => (a5 r p hr hp).same (fun a j _ _ => ai _ _ (by omega)) bi⟩
theorem OutM.nest {σ1 σ2 σ4 : AS} {s1 N2 L2 p : Nat} {tab2 : Nat → TT} {cl2 : Nat → Prop} {kids2 : Nat → List Nat} {own2 : Nat → Nat} {r r' : RR} (ho : OutM e 2 2 σ1 s1 (F + 1) N L tab cl kids p r σ2 N2 L2 tab2 cl2 kids2 own2) (hx1 : fX puF puA σ σ1) (hj1 : ∀ a j, j ≠ F + 1 → AI σ1 13 a j = AI σ 13 a j) (hx2 : mpX σ2 σ4) (hj2 : ∀ a j, 48 ≤ a → a ≤ 51 → j < F → AI σ4 13 a j = AI σ2 13 a j) (h48 : AI σ4 13 48 F = AI σ2 13 48 F) (hnd : ∀ a j, 52 ≤ a → a ≤ 58 → AI σ4 13 a j = AI σ2 13 a j) (h5 : FI σ4 1145 0 = FI σ2 1145 0) (hr0 : RunM0 σ4 e r'.2.2.2 F) (hst : r'.2.2.2.1 = r.2.2.2.1) (hov : r'.1 < -5 → FI σ4 1142 0 = r'.1) (hrun : -5 ≤ r'.1 → -5 ≤ r.1 ∧ RunM σ4 e r'.2.2.2 F N2 L2 tab2 cl2 kids2 own2 ∧ FI σ4 1152 0 = bI r'.2.2.1) (hpos : 0 ≤ r'.1 → (p : Int) ≤ r'.1 ∧ r'.1 ≤ e.1.2 ∧ FI σ4 1147 0 = r'.1 ∧ ∃ o, FI σ4 1148 0 = oI o ∧ (∀ i, o = some i → cl2 i) ∧ o.map tab2 = r'.2.1) (h10 : r'.1 < -9 ∨ r'.1 = -5 ∨ 0 ≤ r'.1) : OutM e 2 2 σ s1 F N L tab cl kids p r' σ4 N2 L2 tab2 cl2 kids2 own2 := by
  obtain ⟨a1, a2, a3, a4, a5, a6, a7, a8, a9, a10⟩ := ho
  have e1 : ∀ a j, 52 ≤ a → AI σ1 13 a j = AI σ 13 a j := fun a j h => hx1.2.2.1 _ _ _ (fun q => by obtain ⟨q1, q2, q3⟩ := q; omega)
  refine ⟨((puX_mp hx1).tr a1).tr hx2, hr0, fun a j w1 w2 w3 => by rw [hj2 a j w1 w2 w3, a3 a j w1 w2 (by omega)]; exact hj1 _ _ (by omega), by rw [h48, a3 48 F (by decide) (by decide) (by omega)]; exact hj1 _ _ (by omega), by rw [h5, a5]; exact hx1.1 _ _ (fun q => by have := q.1; omega), by rw [hst]; exact a6, hov, fun w => ?_, hpos, h10⟩
  obtain ⟨w1, w2, w3⟩ := hrun w
  obtain ⟨b1, b2, b3, b4, b5, b6⟩ := a8 w1
  exact ⟨w2, b2, fun i hi => by
    obtain ⟨c1, c2, c3, c4, c5, c6⟩ := b3 i hi
    exact ⟨c1, c2, c3, c4, by rw [hnd _ _ (by decide) (by decide), c5, e1 _ _ (by decide)], by rw [hnd _ _ (by decide) (by decide), c6, e1 _ _ (by decide)]⟩, by rw [hst]; exact b4, by rw [hst]; exact b5, w3⟩
theorem c_M_expects0 {f p : Int} (kk : Q none σ) : wp (d + 1) m_M_expects [vr 11 0, vi f, vi p, vi 0] σ Q := by
  refine x_in (ls := [some _, some _, some _, some _]) rfl rfl ?_
  refine x_iload_n i_M_expects_0 rfl ?_
  refine x_if_ne_f i_M_expects_1 rfl ?_
  refine x_vret i_M_expects_4 rfl ?_
  exact kk
theorem noteE_far {p q : Nat} {b b2 : Int} {fw : Int × Int} (h : p < q) : noteE p b2 (noteE q b fw) = noteE q b fw := by
  have : ¬ (noteE q b fw).1 ≤ (p : Int) := by
    unfold noteE
    split
    · show ¬ (q : Int) ≤ (p : Int); omega
    · split <;> (show ¬ fw.1 ≤ (p : Int); omega)
  generalize noteE q b fw = v at this
  unfold noteE
  rw [if_neg (by omega), if_neg (by omega)]
end


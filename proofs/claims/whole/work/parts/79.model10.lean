/-! THE MODEL: items -/
def prtM (σ : AS) (n : Nat) (it : Item (PT n)) (p : Nat) : Prop := p < 260 ∧ AI σ 13 33 p = (mKind it.1.1 : Int) ∧ (it.1.1 ≤ 1 → AI σ 13 34 p = it.2.1.1 ∧ AI σ 13 35 p = it.2.1.2) ∧ (it.1.1 ≤ 6 → AI σ 13 36 p = (it.1.2.2 : Int) ∧ it.1.2.2 < 32) ∧ (it.1.1 = 12 → AI σ 13 34 p = (it.1.2.2 : Int) ∧ it.1.2.2 < 8 ∧ dnM σ it.1.2.2) ∧
  ((it.1.1 = 5 ∨ it.1.1 = 6 ∨ (8 ≤ it.1.1 ∧ it.1.1 ≤ 11)) → ∃ a : Nat, AI σ 13 34 p = (a : Int) ∧ altM σ (dnM σ) n it.2.2.1 a) ∧ (it.1.1 = 10 → ∃ b : Nat, AI σ 13 35 p = (b : Int) ∧ altM σ (dnM σ) n it.2.2.2 b) ∧ it.1.1 ≤ 12
theorem itmM.prt {σ : AS} {n : Nat} {it : Item (PT n)} {i : Nat} (h : itmM σ n it i) : ∃ p, AI σ 13 30 i = ((p : Nat) : Int) ∧ prtM σ n it p := by
  obtain ⟨a1, a2, a3, a4, p, a5, a6, a7, a8, a9, a10, a11, a12⟩ := h
  exact ⟨p, a6, a5, a7, a8, a9, a10, a11, a12, a3⟩
theorem prtM.run {σ σ' : AS} (hx : mpX σ σ') {n : Nat} {it : Item (PT n)} {p : Nat} (h : prtM σ n it p) : prtM σ' n it p := by
  obtain ⟨a5, a7, a8, a9, a10, a11, a12, a13⟩ := h
  refine ⟨a5, by rw [hx.lo (by decide)]; exact a7, fun w => by rw [hx.lo (by decide), hx.lo (by decide)]; exact a8 w, fun w => by rw [hx.lo (by decide)]; exact a9 w, fun w => by rw [hx.lo (by decide), dnM.run hx]; exact a10 w, fun w => ?_, fun w => ?_, a13⟩
  · obtain ⟨a, b1, b2⟩ := a11 w
    exact ⟨a, by rw [hx.lo (by decide)]; exact b1, altM.run hx b2⟩
  · obtain ⟨a, b1, b2⟩ := a12 w
    exact ⟨a, by rw [hx.lo (by decide)]; exact b1, altM.run hx b2⟩
def PtM (e : EM) (d dep n : Nat) (f : Item (PT n) → Nat → ES → RR) : Prop := ∀ (it : Item (PT n)) (pn : Nat) (Q : AQ) (σ : AS) (st : ES) (F N L : Nat) (tab : Nat → TT) (cl : Nat → Prop) (kids : Nat → List Nat) (own : Nat → Nat) (p : Nat), RunM σ e st F N L tab cl kids own → prtM σ n it pn → p ≤ e.1.2 → F ≤ dep → FI σ 1145 0 = (dep : Int) → AI σ 13 48 F ≤ (p : Int) → N ≤ 4 * st.1.1 + dep + 1 → L ≤ 3 * st.1.1 → PostM e Q 3 3 σ st.1.1 F N L tab cl kids p (f it p st) → wp d m_M_part_ [vr 11 0, vi (pn : Nat), vi (p : Nat)] σ Q
theorem OutM.weak {e : EM} {c1 c2 c1' c2' : Nat} {σ σ' : AS} {s0 F N L N' L' : Nat} {tab tab' : Nat → TT} {cl cl' : Nat → Prop} {kids kids' : Nat → List Nat} {own' : Nat → Nat} {p : Nat} {r : RR} (h : OutM e c1 c2 σ s0 F N L tab cl kids p r σ' N' L' tab' cl' kids' own') (h1 : c1' ≤ c1) (h2 : c2' ≤ c2) : OutM e c1' c2' σ s0 F N L tab cl kids p r σ' N' L' tab' cl' kids' own' := by
  obtain ⟨a1, a2, a3, a4, a5, a6, a7, a8, a9⟩ := h
  exact ⟨a1, a2, a3, a4, a5, a6, a7, fun w => by
    obtain ⟨c1, c2, c3, c4, c5, c6⟩ := a8 w
    exact ⟨c1, c2, c3, by omega, by omega, c6⟩, a9⟩


/-! THE MODEL: chains -/
abbrev extM (N : Nat) (σ : AS) (tab : Nat → TT) (cl : Nat → Prop) (kids : Nat → List Nat) (σ' : AS) (tab' : Nat → TT) (cl' : Nat → Prop) (kids' : Nat → List Nat) : Prop := ∀ i, i < N → tab' i = tab i ∧ (cl i → cl' i) ∧ (cl' i → cl i) ∧ kids' i = kids i ∧ AI σ' 13 52 i = AI σ 13 52 i ∧ AI σ' 13 53 i = AI σ 13 53 i
theorem extM.rf (N : Nat) (σ : AS) (tab : Nat → TT) (cl : Nat → Prop) (kids : Nat → List Nat) : extM N σ tab cl kids σ tab cl kids := fun _ _ => ⟨rfl, id, id, rfl, rfl, rfl⟩
theorem extM.tr {N N1 : Nat} {σ σ1 σ2 : AS} {tab tab1 tab2 : Nat → TT} {cl cl1 cl2 : Nat → Prop} {kids kids1 kids2 : Nat → List Nat} (h : extM N σ tab cl kids σ1 tab1 cl1 kids1) (hN : N ≤ N1) (g : extM N1 σ1 tab1 cl1 kids1 σ2 tab2 cl2 kids2) : extM N σ tab cl kids σ2 tab2 cl2 kids2 := fun i hi => by
  obtain ⟨q1, q2, q3, q4, q5, q6⟩ := g i (by omega)
  obtain ⟨t1, t2, t3, t4, t5, t6⟩ := h i hi
  exact ⟨by rw [q1, t1], fun w => q2 (t2 w), fun w => t3 (q3 w), by rw [q4, t4], by rw [q5, t5], by rw [q6, t6]⟩
theorem PostM.step {e : EM} {Q : AQ} {σ : AS} {s0 s1 F N L : Nat} {tab : Nat → TT} {cl : Nat → Prop} {kids : Nat → List Nat} {p : Nat} {r : RR} (hs : s1 = s0 + 1) (kk : PostM e Q 3 3 σ s0 F N L tab cl kids p r) : PostM e Q 2 2 σ s1 F N L tab cl kids p r := by
  subst hs
  intro σ' N' L' tab' cl' kids' own' h
  refine kk σ' N' L' tab' cl' kids' own' ?_
  obtain ⟨a1, a2, a3, a4, a5, a6, a7, a8, a9⟩ := h
  exact ⟨a1, a2, a3, a4, a5, by omega, a7, fun w => by
    obtain ⟨c1, c2, c3, c4, c5, c6⟩ := a8 w
    exact ⟨c1, c2, c3, by omega, by omega, c6⟩, a9⟩
section
variable {d : Nat} {Q : AQ} {e : EM} {σ : AS} {st : ES} {F N L : Nat} {tab : Nat → TT} {cl : Nat → Prop} {kids : Nat → List Nat} {own : Nat → Nat}
theorem ndX_lo {σ σ' : AS} (hx : fX ndF ndA σ σ') : (∀ a j, a < 52 → AI σ' 13 a j = AI σ 13 a j) ∧ (∀ f, f ≠ 1150 → f ≠ 1151 → FI σ' f 0 = FI σ f 0) := ⟨fun a j h => hx.2.2.1 _ _ _ (fun q => by have := q.2.1; omega), fun f h1 h2 => hx.1 _ _ (fun q => by rcases q.1 with w | w <;> omega)⟩
theorem c_M_orEmpty (h : RunM σ e st F N L tab cl kids own) (hN : N < 9000) {o : Option Nat} (ho : ∀ i, o = some i → cl i) (kk : ∀ (σ' : AS) (N' : Nat) (tab' : Nat → TT) (cl' : Nat → Prop) (kids' : Nat → List Nat) (x : Nat), fX ndF ndA σ σ' → RunM σ' e st F N' L tab' cl' kids' own → N ≤ N' → N' ≤ N + 1 → extM N σ tab cl kids σ' tab' cl' kids' → cl' x → tab' x = (o.map tab).getD (boughT []) → Q (some (vi (x : Nat))) σ') : wp (d + 2) m_M_orEmpty [vr 11 0, vi (oI o)] σ Q := by
  obtain ⟨⟨⟨hmr, -⟩, -⟩, a2, a3, a4, a5⟩ := id h
  refine x_in (ls := [some _, some _]) rfl rfl ?_
  refine x_iload_n i_M_orEmpty_0 rfl ?_
  refine x_iconst i_M_orEmpty_1 ?_
  cases o with
  | some i =>
    refine x_icmp_ne_t i_M_orEmpty_2 (by simp only [oI]; omega) ?_
    refine x_iload_n i_M_orEmpty_14 rfl ?_
    refine x_iret i_M_orEmpty_15 rfl ?_
    exact kk σ N tab cl kids i (fX.rf _ _ _) h (Nat.le_refl _) (by omega) (extM.rf _ _ _ _ _) (ho i rfl) rfl
  | none =>
    have hNc : ¬ cl N := fun w => by have := a4.2.2.1 N w; omega
    refine x_icmp_ne_f i_M_orEmpty_2 rfl ?_
    refine x_aload_n i_M_orEmpty_5 rfl ?_
    refine x_iconst i_M_orEmpty_6 ?_
    refine x_iconst i_M_orEmpty_7 ?_
    refine x_cv2 i_M_orEmpty_8 rfl rfl rfl ?_
    refine c_M_makes hmr a4 hN (fun σ1 x1 n1 g1 g2 g3 => ?_)
    have n2 := n1.close (i := N) (t := boughT []) (by omega) hNc (Or.inr (Or.inl ⟨g1, g2, by rw [upT_eq, upK_eq]; rfl⟩)) (by show 1 ≤ 2000; decide)
    have h3 := h.nodes x1 n2 (fun i hi => ⟨Or.inl hi, upT_ne (fun w => hNc (by rw [← w]; exact hi))⟩)
    refine x_goto i_M_orEmpty_11 ?_
    refine x_iret i_M_orEmpty_15 rfl ?_
    exact kk σ1 (N + 1) _ _ _ N x1 h3 (by omega) (Nat.le_refl _) (fun i hi => ⟨upT_ne (by omega), Or.inl, fun w => w.resolve_right (by omega), upK_ne (by omega), g3 _ _ (by omega), g3 _ _ (by omega)⟩) (Or.inr rfl) (upT_eq _ _ _)
end


/-! THE MODEL: atoms -/
theorem retM_0 {r : RR} (h : r.1 < 0) : retM r = 0 := if_neg (by omega)
theorem retM_1 {r : RR} (h : 0 ≤ r.1) : retM r = 1 := if_pos h
section
variable {d : Nat} {Q : AQ} {e : EM} {σ : AS} {st : ES} {F N L : Nat} {tab : Nat → TT} {cl : Nat → Prop} {kids : Nat → List Nat} {own : Nat → Nat}
theorem psX3 (σ : AS) (p t b : Int) : fX psF fnA σ (sFI (sFI (sFI σ 1147 0 p) 1148 0 t) 1152 0 b) := ((fX_sFI ⟨Or.inr (Or.inl rfl), rfl⟩).tr (fX_sFI ⟨Or.inr (Or.inr (Or.inl rfl)), rfl⟩)).tr (fX_sFI ⟨Or.inr (Or.inr (Or.inr rfl)), rfl⟩)
theorem psX1 (σ : AS) (b : Int) : fX psF fnA σ (sFI σ 1152 0 b) := fX_sFI ⟨Or.inr (Or.inr (Or.inr rfl)), rfl⟩
/-- an answer with no new node -/
theorem OutM.plain {c1 c2 s0 p : Nat} {r : RR} {σ' : AS} (h : RunM σ' e r.2.2.2 F N L tab cl kids own) (hx : mpX σ σ') (h1 : ∀ a j, 48 ≤ a → a ≤ 51 → j < F → AI σ' 13 a j = AI σ 13 a j) (h2 : AI σ' 13 48 F = AI σ 13 48 F) (h3 : FI σ' 1145 0 = FI σ 1145 0) (hs : s0 + 1 ≤ r.2.2.2.1.1) (hc1 : c1 ≤ 4) (hc2 : c2 ≤ 3) (hsh : FI σ' 1152 0 = bI r.2.2.1) (ht : 0 ≤ r.1 → (p : Int) ≤ r.1 ∧ r.1 ≤ e.1.2 ∧ FI σ' 1147 0 = r.1 ∧ ∃ o, FI σ' 1148 0 = oI o ∧ (∀ i, o = some i → cl i) ∧ o.map tab = r.2.1) (h4 : r.1 = -5 ∨ 0 ≤ r.1) (hk : ∀ a i, 52 ≤ a → AI σ' 13 a i = AI σ 13 a i) : OutM e c1 c2 σ s0 F N L tab cl kids p r σ' N L tab cl kids own :=
  ⟨hx, h.1, h1, h2, h3, by omega, fun w => by omega, fun _ => ⟨h, Nat.le_refl _, fun i _ => ⟨rfl, id, id, rfl, hk _ _ (by decide), hk _ _ (by decide)⟩, by omega, by omega, hsh⟩, ht, Or.inr h4⟩
theorem frX_lo {σ' : AS} (hx : frX F σ σ') : (∀ a j, 48 ≤ a → a ≤ 51 → j < F → AI σ' 13 a j = AI σ 13 a j) ∧ AI σ' 13 48 F = AI σ 13 48 F ∧ FI σ' 1145 0 = FI σ 1145 0 := ⟨fun a j _ _ h => hx.2 a j (by omega), hx.1.2.2.1 _ _ _ (fun q => by have := q.2.1; omega), hx.1.1 _ _ (fun q => q)⟩
theorem psX_lo {σ' : AS} (hx : fX psF fnA σ σ') (h : FI σ' 1145 0 = FI σ 1145 0) (F : Nat) : (∀ a j, 48 ≤ a → a ≤ 51 → j < F → AI σ' 13 a j = AI σ 13 a j) ∧ AI σ' 13 48 F = AI σ 13 48 F ∧ FI σ' 1145 0 = FI σ 1145 0 := ⟨fun a j _ _ _ => psX_ai hx _ _ _, psX_ai hx _ _ _, h⟩
theorem c_M_atomNo (h : RunM σ e st F N L tab cl kids own) {s0 : Nat} (hs : st.1.1 = s0 + 1) (hF : F < 80) {p a q : Nat} (hp : p ≤ e.1.2) (hat : AI σ 13 48 F ≤ (p : Int)) (hq : q < 260) (ha : AI σ 13 36 q = (a : Int)) (ha2 : a < 32) {v : Int} (kk : PostM e Q 3 3 σ s0 F N L tab cl kids p (-5, none, false, expE a p st)) : wp (d + 2) m_M_atomAt [vr 11 0, vi (q : Nat), vi (p : Nat), vi 0, vi v] σ Q := by
  obtain ⟨⟨⟨⟨hm, hl, -⟩, -⟩, -⟩, a2, a3, a4, a5⟩ := id h
  refine x_in (ls := [some _, some _, some _, some _, some _]) rfl rfl ?_
  refine x_iload_n i_M_atomAt_0 rfl ?_
  refine x_if_eq_t i_M_atomAt_1 rfl ?_
  refine x_aload_n i_M_atomAt_20 rfl ?_
  refine x_aload_n i_M_atomAt_21 rfl ?_
  refine x_getI i_M_atomAt_22 rfl rfl ?_
  rw [a3]
  refine x_iload_n i_M_atomAt_25 rfl ?_
  refine x_iconst i_M_atomAt_26 ?_
  refine x_aload_n i_M_atomAt_27 rfl ?_
  refine x_getR (c2 := 13) i_M_atomAt_28 rfl rfl (hm _ _ rfl) ?_
  refine x_iload_n i_M_atomAt_31 rfl ?_
  refine x_iaload i_M_atomAt_32 rfl (lt_len hl rfl hq) ?_
  rw [ha]
  refine x_ishl i_M_atomAt_33 ?_
  refine x_cv3 i_M_atomAt_34 rfl rfl rfl ?_
  refine c_M_expE h hF hp hat ha2 (fun σ1 h1 x1 => ?_)
  refine x_aload_n i_M_atomAt_37 rfl ?_
  refine x_iconst i_M_atomAt_38 ?_
  refine x_cv1 i_M_atomAt_39 rfl rfl rfl ?_
  refine c_M_fails (Or.inl rfl) ?_
  have y := psX1 σ1 0
  obtain ⟨z1, z2, z3⟩ := frX_lo x1
  have := kk _ N L tab cl kids own (OutM.plain (h1.set y) ((frX_mp x1).tr (psX_mp y)) (fun a j w1 w2 w3 => by rw [psX_ai y]; exact z1 a j w1 w2 w3) (by rw [psX_ai y]; exact z2) z3 (by show s0 + 1 ≤ st.1.1; omega) (by decide) (by decide) (by simp [FI_sFI, bI]) (fun w => absurd w n50) (Or.inl rfl) (fun a i ha => by rw [psX_ai y]; exact x1.1.2.2.1 _ _ _ (fun q => by have := q.2.2; omega)))
  refine x_zret i_M_atomAt_42 rfl (by omega) ?_
  exact this
theorem c_M_atomYes (h : RunM σ e st F N L tab cl kids own) {s0 : Nat} (hs : st.1.1 = s0 + 1) (hN : N < 9000) {p v : Nat} (hp : p < e.1.2) (hv : v < 256) {q : Int} (kk : PostM e Q 3 3 σ s0 F N L tab cl kids p (((p + 1 : Nat) : Int), some (.num v), false, st)) : wp (d + 2) m_M_atomAt [vr 11 0, vi q, vi (p : Nat), vi 1, vi (v : Nat)] σ Q := by
  obtain ⟨⟨⟨hmr, -, -, -, -, hz, -, -⟩, -⟩, a2, a3, a4, a5⟩ := id h
  have hNc : ¬ cl N := fun w => by have := a4.2.2.1 N w; omega
  refine x_in (ls := [some _, some _, some _, some _, some _]) rfl rfl ?_
  refine x_iload_n i_M_atomAt_0 rfl ?_
  refine x_if_eq_f i_M_atomAt_1 (by decide) ?_
  refine x_aload_n i_M_atomAt_4 rfl ?_
  refine x_iload_n i_M_atomAt_5 rfl ?_
  refine x_iconst i_M_atomAt_6 ?_
  refine x_iadd i_M_atomAt_7 (by omega) ?_
  refine x_aload_n i_M_atomAt_8 rfl ?_
  refine x_iconst i_M_atomAt_9 ?_
  refine x_iload i_M_atomAt_10 rfl ?_
  refine x_cv2 i_M_atomAt_12 rfl rfl rfl ?_
  refine c_M_makes hmr a4 hN (fun σ1 x1 n1 g1 g2 g3 => ?_)
  refine x_iconst i_M_atomAt_15 ?_
  refine x_cv3 i_M_atomAt_16 rfl rfl rfl ?_
  refine c_M_done (Or.inl rfl) ?_
  have n2 := n1.close (i := N) (t := .num v) (by omega) hNc (Or.inl ⟨g1, v, hv, upT_eq _ _ _, g2, upK_eq _ _ _⟩) (by show 1 ≤ 2000; decide)
  have h1 := h.nodes x1 n2 (fun i hi => ⟨Or.inl hi, upT_ne (fun w => hNc (by rw [← w]; exact hi))⟩)
  have y := psX3 σ1 ((p : Int) + 1) (N : Nat) 0
  have ai : ∀ a j, a < 52 → AI σ1 13 a j = AI σ 13 a j := fun a j h => x1.2.2.1 _ _ _ (fun q => by have := q.2.1; omega)
  have f5 : FI σ1 1145 0 = FI σ 1145 0 := x1.1 _ _ (fun q => by rcases q.1 with w | w <;> omega)
  have := kk _ (N + 1) L _ _ _ own ⟨(ndX_mp x1).tr (psX_mp y), (h1.set y).1, fun a j _ w _ => by rw [psX_ai y]; exact ai a j (by omega), by rw [psX_ai y]; exact ai _ _ (by decide), f5, by show s0 ≤ st.1.1; omega, fun w => absurd w (by show ¬ ((p + 1 : Nat) : Int) < -5; omega), fun _ => ⟨h1.set y, by omega, fun i hi => ⟨upT_ne (by omega), Or.inl, fun w => w.resolve_right (by omega), upK_ne (by omega), by rw [psX_ai y]; exact g3 _ _ (by omega), by rw [psX_ai y]; exact g3 _ _ (by omega)⟩, by show N + 1 + 3 + 4 * s0 ≤ N + 4 * st.1.1; omega, by show L + 3 + 3 * s0 ≤ L + 3 * st.1.1; omega, by simp [FI_sFI, bI]⟩, fun _ => ⟨by show (p : Int) ≤ ((p + 1 : Nat) : Int); omega, by show ((p + 1 : Nat) : Int) ≤ _; omega, by simp [FI_sFI], some N, by simp [FI_sFI, oI], fun i hi => (by cases hi; exact Or.inr rfl), by simp [upT_eq]⟩, Or.inr (Or.inr (by show 0 ≤ ((p + 1 : Nat) : Int); omega))⟩
  rw [retM_1 (by show 0 ≤ ((p + 1 : Nat) : Int); omega)] at this
  refine x_zret i_M_atomAt_19 rfl (by omega) ?_
  exact this
end


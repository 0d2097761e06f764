/-! THE MODEL: a name's MEMORY; what a PART is -/
def cnF (f a : Nat) : Prop := 1142 ≤ f ∧ f ≤ 1146 ∧ a = 0
theorem cnX_mp {σ σ' : AS} (hx : fX cnF fnA σ σ') : mpX σ σ' := hx.mono (fun f a q => ⟨q.1, by have := q.2.1; omega, q.2.2⟩) (fun _ _ q => q.elim)
def memRR (v : Option Ans) (st : ES) : RR := match v with
  | none => (-16, none, false, st)
  | some (a, t, s) => (a, t, s, ((st.1.1, st.1.2.1, st.1.2.2 + 1), st.2))
def goM (e : EM) (k n : Nat) (it : Item (PT n)) (p : Nat) (st : ES) : RR :=
  if it.1.1 = 12 then
    match st.2.2 (it.1.2.2 * 241 + p) with
    | none => ruledM e k it.1.2.2 p st
    | some v => memRR v st
  else if it.1.1 = 7 then ((p : Int), none, true, st)
  else if it.1.1 ≤ 4 then matchE e.2.1 e.1.2 it.1.1 it.1.2.2 it.2.1.1 it.2.1.2 p st
  else if it.1.1 = 10 then
    let r := altE e.2.1 e.1.2 e.2.2 k n it.2.2.1 p st
    if r.1 < 0 then r else chainE (fun p st => altE e.2.1 e.1.2 e.2.2 k n it.2.2.1 p st) (fun p st => altE e.2.1 e.1.2 e.2.2 k n it.2.2.2 p st) 1001 r.1.toNat r.2.1 r.2.2.1 r.2.2.2
  else brackE (fun p st => altE e.2.1 e.1.2 e.2.2 k n it.2.2.1 p st) it.1.1 it.1.2.2 p st
section
variable {d : Nat} {Q : AQ} {e : EM} {σ σ' : AS} {st : ES} {F N L : Nat} {tab : Nat → TT} {cl : Nat → Prop} {kids : Nat → List Nat} {own : Nat → Nat}
theorem RunM0.cnt {st' : ES} (h : RunM0 σ e st F) (hx : fX cnF fnA σ σ') (hc : cntM σ' st') (h2 : st'.2.1 = st.2.1) : RunM0 σ' e st' F := by
  obtain ⟨b1, b2, b3, b4⟩ := h
  have ai : ∀ k a j, AI σ' k a j = AI σ k a j := fun k a j => hx.2.2.1 _ _ _ (fun q => q)
  exact ⟨b1.run (cnX_mp hx), hc, b3.same (fun a _ _ => ai _ _ _), by rw [viewM_same (fun a _ _ => ai _ _ _), h2]; exact b4⟩
theorem RunM.cnt {st' : ES} (h : RunM σ e st F N L tab cl kids own) (hx : fX cnF fnA σ σ') (ho : FI σ' 1142 0 = 0) (hc : cntM σ' st') (h2 : st'.2 = st.2) : RunM σ' e st' F N L tab cl kids own := by
  obtain ⟨a1, a2, a3, a4, a5⟩ := h
  have ai : ∀ k a j, AI σ' k a j = AI σ k a j := fun k a j => hx.2.2.1 _ _ _ (fun q => q)
  have fi : ∀ f, 1146 < f → FI σ' f 0 = FI σ f 0 := fun f h => hx.1 _ _ (fun q => by have := q.2.1; omega)
  exact ⟨a1.cnt hx hc (by rw [h2]), ho, by rw [fi _ (by decide)]; exact a3, a4.same (fun a j _ _ => ai _ _ _) (fi _ (by decide)) (fi _ (by decide)), fun r p hr hp => by rw [h2]; exact (a5 r p hr hp).same (fun a j _ _ => ai _ _ _) (fun a j => ai _ _ _)⟩
theorem c_M_memo (h : RunM σ e st F N L tab cl kids own) {r p s0 : Nat} (hs : st.1.1 = s0 + 1) (hmem : st.1.2.2 + 1 ≤ st.1.1) (hr : r < 8) (hp : p ≤ e.1.2) {v : Option Ans} (hnew : st.2.2 (r * 241 + p) = some v) (kk : PostM e Q 3 3 σ s0 F N L tab cl kids p (memRR v st)) : wp (d + 2) m_M_named [vr 11 0, vi (r : Nat), vi (p : Nat)] σ Q := by
  obtain ⟨⟨⟨⟨hm, hl, lb1, lb2, lb3⟩, law, -, -, -, hz, -, -⟩, hcn, -⟩, a2, a3, a4, a5⟩ := id h
  have hk : r * 241 + p < 1928 := by omega
  have m0 := a5 r p hr (by omega)
  rw [hnew] at m0
  refine x_in (ls := [some _, some _, some _, none, none]) rfl rfl ?_
  refine x_sipush i_M_named_0 ?_
  refine x_iload_n i_M_named_3 rfl ?_
  refine x_imul i_M_named_4 (by omega) ?_
  refine x_iload_n i_M_named_5 rfl ?_
  refine x_iadd i_M_named_6 (by omega) ?_
  rw [show (241 : Int) * (r : Nat) + (p : Nat) = ((r * 241 + p : Nat) : Int) by omega]
  refine x_istore_n (ls' := [_, _, _, _, _]) i_M_named_7 rfl rfl ?_
  refine x_aload_n i_M_named_8 rfl ?_
  refine x_getR (c2 := 13) i_M_named_9 rfl rfl (hm _ _ rfl) ?_
  refine x_iload_n i_M_named_12 rfl ?_
  refine x_iaload i_M_named_13 rfl (lt_len hl rfl hk) ?_
  match v, m0, kk with
  | none, m0, kk =>
    have kk : PostM e Q 3 3 σ s0 F N L tab cl kids p (-16, none, false, st) := kk
    obtain ⟨m1, m2⟩ := m0
    rw [m1]
    refine x_if_eq_t i_M_named_14 rfl ?_
    refine x_aload_n i_M_named_73 rfl ?_
    refine x_getR (c2 := 14) i_M_named_74 rfl rfl (hm _ _ rfl) ?_
    refine x_iload_n i_M_named_77 rfl ?_
    refine x_baload i_M_named_78 rfl (by rw [lb3]; exact hk) ?_
    rw [m2]
    refine x_if_eq_f i_M_named_79 (by decide) ?_
    refine x_aload_n i_M_named_82 rfl ?_
    refine x_bipush i_M_named_83 ?_
    refine x_putI i_M_named_85 rfl rfl ?_
    refine x_iconst i_M_named_88 ?_
    have x3 : fX cnF fnA σ (sFI σ 1142 0 (-16)) := fX_sFI ⟨by decide, by decide, rfl⟩
    have := kk _ N L tab cl kids own ⟨cnX_mp x3, h.1.over, fun _ _ _ _ _ => rfl, rfl, rfl, by show s0 ≤ st.1.1; omega, fun _ => by simp [FI_sFI], fun w => absurd w (by show ¬ ((-5 : Int) ≤ -16); decide), fun w => absurd w (by show ¬ ((0 : Int) ≤ -16); decide), Or.inl (by show (-16 : Int) < -9; decide)⟩
    refine x_zret i_M_named_89 rfl (by omega) ?_
    exact this
  | some (a, t, s), m0, kk =>
    have kk : PostM e Q 3 3 σ s0 F N L tab cl kids p (a, t, s, ((st.1.1, st.1.2.1, st.1.2.2 + 1), st.2)) := kk
    obtain ⟨m1, m2⟩ := m0
    obtain ⟨c1, c2, c3, c4, c5, c6⟩ := id hcn
    have m1 : AI σ 14 1 (r * 241 + p) = bI s := m1
    have x1 : fX cnF fnA σ (sFI σ 1146 0 (FI σ 1146 0 + 1)) := fX_sFI ⟨by decide, by decide, rfl⟩
    have h1 : RunM (sFI σ 1146 0 (FI σ 1146 0 + 1)) e ((st.1.1, st.1.2.1, st.1.2.2 + 1), st.2) F N L tab cl kids own := h.cnt x1 (by rw [FI_sFI, if_neg (by omega)]; exact a2) ⟨by rw [FI_sFI, if_neg (by omega)]; exact c1, by rw [FI_sFI, if_neg (by omega)]; exact c2, by rw [FI_sFI, if_pos ⟨rfl, rfl⟩, c3]; show (st.1.2.2 : Int) + 1 = ((st.1.2.2 + 1 : Nat) : Int); omega, c4, c5, hmem⟩ rfl
    have ai : ∀ k a j, AI (sFI σ 1146 0 (FI σ 1146 0 + 1)) k a j = AI σ k a j := fun _ _ _ => rfl
    have f5 : FI (sFI σ 1146 0 (FI σ 1146 0 + 1)) 1145 0 = FI σ 1145 0 := rfl
    rcases m2 with ⟨w1, w2⟩ | ⟨w1, w2, w3, w4, o, w5, w6, w7⟩
    · rw [w2]
      refine x_if_eq_f i_M_named_14 (by decide) ?_
      refine x_aload_n i_M_named_17 rfl ?_
      refine x_dup i_M_named_18 ?_
      refine x_getI i_M_named_19 rfl rfl ?_
      refine x_iconst i_M_named_22 ?_
      refine x_iadd i_M_named_23 (by omega) ?_
      refine x_putI i_M_named_24 rfl rfl ?_
      refine x_aload_n i_M_named_27 rfl ?_
      refine x_getR (c2 := 13) i_M_named_28 rfl rfl (hm _ _ rfl) ?_
      refine x_iload_n i_M_named_31 rfl ?_
      generalize hσ1 : sFI σ 1146 0 (FI σ 1146 0 + 1) = σ1 at x1 h1 ai f5
      obtain ⟨hm, hl, lb1, lb2, lb3⟩ := h1.1.1.1
      refine x_iaload i_M_named_32 rfl (lt_len hl rfl hk) ?_
      rw [ai, w2]
      refine x_iconst i_M_named_33 ?_
      refine x_icmp_ne_t i_M_named_34 (by decide) ?_
      refine x_aload_n i_M_named_62 rfl ?_
      refine x_aload_n i_M_named_63 rfl ?_
      refine x_getR (c2 := 14) i_M_named_64 rfl rfl (hm _ _ rfl) ?_
      refine x_iload_n i_M_named_67 rfl ?_
      refine x_baload i_M_named_68 rfl (by rw [lb2]; exact hk) ?_
      rw [ai, m1]
      refine x_cv1 i_M_named_69 rfl rfl rfl ?_
      refine c_M_fails (bI_01 s) ?_
      have y := psX1 σ1 (bI s)
      have w1 : a = -5 := w1
      have := kk _ N L tab cl kids own (OutM.plain (h1.set y) ((cnX_mp x1).tr (psX_mp y)) (fun a j _ _ _ => by rw [psX_ai y, ai]) (by rw [psX_ai y, ai]) (by rw [FI_sFI, if_neg (by omega)]; exact f5) (by show s0 + 1 ≤ st.1.1; omega) (by decide) (by decide) (by simp [FI_sFI]) (fun w => by have w : 0 ≤ a := w; omega) (Or.inl w1) (fun a i _ => by rw [psX_ai y, ai]))
      rw [retM_0 (by show a < 0; omega)] at this
      refine x_zret i_M_named_72 rfl (by omega) ?_
      exact this
    · rw [w3]
      refine x_if_eq_f i_M_named_14 (by decide) ?_
      refine x_aload_n i_M_named_17 rfl ?_
      refine x_dup i_M_named_18 ?_
      refine x_getI i_M_named_19 rfl rfl ?_
      refine x_iconst i_M_named_22 ?_
      refine x_iadd i_M_named_23 (by omega) ?_
      refine x_putI i_M_named_24 rfl rfl ?_
      refine x_aload_n i_M_named_27 rfl ?_
      refine x_getR (c2 := 13) i_M_named_28 rfl rfl (hm _ _ rfl) ?_
      refine x_iload_n i_M_named_31 rfl ?_
      generalize hσ1 : sFI σ 1146 0 (FI σ 1146 0 + 1) = σ1 at x1 h1 ai f5
      obtain ⟨hm, hl, lb1, lb2, lb3⟩ := h1.1.1.1
      refine x_iaload i_M_named_32 rfl (lt_len hl rfl hk) ?_
      rw [ai, w3]
      refine x_iconst i_M_named_33 ?_
      refine x_icmp_ne_f i_M_named_34 rfl ?_
      refine x_aload_n i_M_named_37 rfl ?_
      refine x_aload_n i_M_named_38 rfl ?_
      refine x_getR (c2 := 13) i_M_named_39 rfl rfl (hm _ _ rfl) ?_
      refine x_iload_n i_M_named_42 rfl ?_
      refine x_iaload i_M_named_43 rfl (lt_len hl rfl hk) ?_
      refine x_aload_n i_M_named_44 rfl ?_
      refine x_getR (c2 := 13) i_M_named_45 rfl rfl (hm _ _ rfl) ?_
      refine x_iload_n i_M_named_48 rfl ?_
      refine x_iaload i_M_named_49 rfl (lt_len hl rfl hk) ?_
      refine x_aload_n i_M_named_50 rfl ?_
      refine x_getR (c2 := 14) i_M_named_51 rfl rfl (hm _ _ rfl) ?_
      refine x_iload_n i_M_named_54 rfl ?_
      refine x_baload i_M_named_55 rfl (by rw [lb2]; exact hk) ?_
      rw [ai, ai, ai, m1, w4, w5]
      refine x_cv3 i_M_named_56 rfl rfl rfl ?_
      refine c_M_done (bI_01 s) ?_
      have y := psX3 σ1 a (oI o) (bI s)
      have w1 : (p : Int) ≤ a := w1
      refine x_goto i_M_named_59 ?_
      have := kk _ N L tab cl kids own (OutM.plain (h1.set y) ((cnX_mp x1).tr (psX_mp y)) (fun a j _ _ _ => by rw [psX_ai y, ai]) (by rw [psX_ai y, ai]) (by rw [FI_sFI, if_neg (by omega), FI_sFI, if_neg (by omega), FI_sFI, if_neg (by omega)]; exact f5) (by show s0 + 1 ≤ st.1.1; omega) (by decide) (by decide) (by simp [FI_sFI]) (fun w => ⟨w1, w2, by simp [FI_sFI], o, by simp [FI_sFI], w6, w7⟩) (Or.inr (by show 0 ≤ a; omega)) (fun a i _ => by rw [psX_ai y, ai]))
      rw [retM_1 (by show 0 ≤ a; omega)] at this
      refine x_zret i_M_named_72 rfl (by omega) ?_
      exact this
end


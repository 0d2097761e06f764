/-! THE MODEL: part, all of a parse -/
section
variable {d : Nat} {e : EM}
theorem c_M_part {k dep n : Nat} (hk : dep + k = 60) (ha : k ≠ 0 → ∀ n, AltM e (d + 2) k (dep + 1) n) : PtM e (d + 5) dep n (partE e.2.1 e.1.2 (fun a => altE e.2.1 e.1.2 e.2.2 k n a) (ruledM e k) (decide (k = 0))) := by
  intro it pn Q σ st F N L tab cl kids own p h hpr hp hF hde hat hN hL kk
  obtain ⟨⟨⟨⟨hm, hl, hlb⟩, -, -, -, -, hz, -, -⟩, hcn, hok, hvw⟩, a2, a3, a4, a5⟩ := id h
  obtain ⟨c1, c2, c3, c4, c5, c6⟩ := id hcn
  have full : (1000 ≤ st.1.1 ∨ 40000 ≤ st.1.2.1) → Ex (wp (d + 4)) m_M_part_ Q 29 [some (vr 11 0), some (vi (pn : Nat)), some (vi (p : Nat)), none] [] σ := by
    intro w
    unfold partE at kk
    rw [if_pos w] at kk
    refine x_aload_n i_M_part__29 rfl ?_
    refine x_bipush i_M_part__30 ?_
    refine x_putI i_M_part__32 rfl rfl ?_
    refine x_iconst i_M_part__35 ?_
    have x3 : mpX σ (sFI σ 1142 0 (-17)) := fX_sFI ⟨by decide, by decide, rfl⟩
    have := kk _ N L tab cl kids own ⟨x3, h.1.over, fun _ _ _ _ _ => rfl, rfl, rfl, Nat.le_refl _, fun _ => by simp [FI_sFI], fun w => absurd w (by show ¬ ((-5 : Int) ≤ -17); decide), fun w => absurd w (by show ¬ ((0 : Int) ≤ -17); decide), Or.inl (by show (-17 : Int) < -9; decide)⟩
    refine x_zret i_M_part__36 rfl (by omega) ?_
    exact this
  refine x_in (ls := [some _, some _, some _, none]) rfl rfl ?_
  refine x_aload_n i_M_part__0 rfl ?_
  refine x_getI i_M_part__1 rfl rfl ?_
  rw [a2]
  refine x_if_eq_t i_M_part__4 rfl ?_
  refine x_aload_n i_M_part__9 rfl ?_
  refine x_getI i_M_part__10 rfl rfl ?_
  rw [c1]
  refine x_sipush i_M_part__13 ?_
  refine x_icmp_eq i_M_part__16 (fun g1 => ?_) (fun g1 => ?_)
  · exact full (Or.inl (by omega))
  · refine x_aload_n i_M_part__19 rfl ?_
    refine x_getI i_M_part__20 rfl rfl ?_
    rw [c2]
    refine x_ldcW i_M_part__23 ?_
    refine x_icmp_ne i_M_part__26 (fun g2 => ?_) (fun g2 => ?_)
    · have hno : ¬ (1000 ≤ st.1.1 ∨ 40000 ≤ st.1.2.1) := by omega
      unfold partE at kk
      rw [if_neg hno] at kk
      clear full
      refine x_aload_n i_M_part__37 rfl ?_
      refine x_dup i_M_part__38 ?_
      refine x_getI i_M_part__39 rfl rfl ?_
      rw [c1]
      refine x_iconst i_M_part__42 ?_
      refine x_iadd i_M_part__43 (by omega) ?_
      refine x_putI i_M_part__44 rfl rfl ?_
      refine x_aload_n i_M_part__47 rfl ?_
      refine x_dup i_M_part__48 ?_
      refine x_getI i_M_part__49 rfl rfl ?_
      rw [FI_sFI, if_neg (by omega), c2]
      refine x_iconst i_M_part__52 ?_
      refine x_iadd i_M_part__53 (by omega) ?_
      refine x_putI i_M_part__54 rfl rfl ?_
      generalize hσ1 : sFI (sFI σ 1143 0 ((st.1.1 : Int) + 1)) 1144 0 ((st.1.2.1 : Int) + 1) = σ1
      have x1 : fX cnF fnA σ σ1 := by rw [← hσ1]; exact (fX_sFI ⟨by decide, by decide, rfl⟩).tr (fX_sFI ⟨by decide, by decide, rfl⟩)
      have f5 : FI σ1 1145 0 = (dep : Int) := by rw [← hσ1, FI_sFI, if_neg (by omega), FI_sFI, if_neg (by omega)]; exact hde
      have cn1 : cntM σ1 (stepE st) := by
        rw [← hσ1]
        exact ⟨by simp [FI_sFI, stepE], by simp [FI_sFI, stepE], by simp [FI_sFI, stepE]; exact c3, by show st.1.1 + 1 ≤ 1000; omega, by show st.1.2.1 + 1 ≤ 40000; omega, by show st.1.2.2 ≤ st.1.1 + 1; omega⟩
      have o1 : FI σ1 1142 0 = 0 := by rw [← hσ1, FI_sFI, if_neg (by omega), FI_sFI, if_neg (by omega)]; exact a2
      have h1 := h.cnt (st' := stepE st) x1 o1 cn1 rfl
      clear hσ1
      have ai : ∀ k a j, AI σ1 k a j = AI σ k a j := fun k a j => x1.2.2.1 _ _ _ (fun q => q)
      refine x_aload_n i_M_part__57 rfl ?_
      refine x_getI i_M_part__58 rfl rfl ?_
      rw [f5]
      refine x_bipush i_M_part__61 ?_
      refine x_icmp_ne i_M_part__63 (fun g3 => ?_) (fun g3 => ?_)
      · have hk0 : k ≠ 0 := by omega
        rw [if_neg (by rw [decide_eq_false hk0]; decide)] at kk
        refine x_aload_n i_M_part__74 rfl ?_
        refine x_dup i_M_part__75 ?_
        refine x_getI i_M_part__76 rfl rfl ?_
        rw [f5]
        refine x_iconst i_M_part__79 ?_
        refine x_iadd i_M_part__80 (by omega) ?_
        refine x_putI i_M_part__81 rfl rfl ?_
        rw [show (dep : Int) + 1 = ((dep + 1 : Nat) : Int) by omega]
        have x2 : fX cnF fnA σ1 (sFI σ1 1145 0 ((dep + 1 : Nat) : Int)) := fX_sFI ⟨by decide, by decide, rfl⟩
        have f6 : FI (sFI σ1 1145 0 ((dep + 1 : Nat) : Int)) 1145 0 = ((dep + 1 : Nat) : Int) := by simp [FI_sFI]
        have h2 := h1.cnt (st' := stepE st) x2 (by rw [FI_sFI, if_neg (by omega)]; exact o1) (by
          obtain ⟨q1, q2, q3, q4⟩ := cn1
          exact ⟨by rw [FI_sFI, if_neg (by omega)]; exact q1, by rw [FI_sFI, if_neg (by omega)]; exact q2, by rw [FI_sFI, if_neg (by omega)]; exact q3, q4⟩) rfl
        have ai2 : ∀ k a j, AI (sFI σ1 1145 0 ((dep + 1 : Nat) : Int)) k a j = AI σ k a j := fun k a j => ai k a j
        generalize sFI σ1 1145 0 ((dep + 1 : Nat) : Int) = σ2 at x2 f6 h2 ai2
        have x12 := x1.tr x2
        refine x_aload_n i_M_part__84 rfl ?_
        refine x_iload_n i_M_part__85 rfl ?_
        refine x_iload_n i_M_part__86 rfl ?_
        refine x_cv2 i_M_part__87 rfl rfl rfl ?_
        refine c_M_goes (s0 := st.1.1) (ha hk0) h2 (hpr.run (cnX_mp x12)) ⟨hp, by omega, by omega, f6, by rw [ai2]; exact hat, by show N ≤ 4 * (st.1.1 + 1) + (dep + 1); omega, by show L ≤ 3 * (st.1.1 + 1); omega⟩ rfl (by show st.1.2.2 + 1 ≤ st.1.1 + 1; omega) ?_
        intro σ3 N3 L3 tab3 cl3 kids3 own3 ho
        have kk : PostM e Q 3 3 σ st.1.1 F N L tab cl kids p (goM e k n it p (stepE st)) := by
          unfold goM
          split
          · rename_i w12
            rw [if_pos w12] at kk
            have e0 : ((st.1.1 + 1, st.1.2.1 + 1, st.1.2.2), st.2) = stepE st := rfl
            cases hv : (stepE st).2.2 (it.1.2.2 * 241 + p) with
            | none =>
              rw [show ((st.1.1 + 1, st.1.2.1 + 1, st.1.2.2), st.2) = stepE st from rfl, hv] at kk
              exact kk
            | some v =>
              rw [show ((st.1.1 + 1, st.1.2.1 + 1, st.1.2.2), st.2) = stepE st from rfl, hv] at kk
              cases v with
              | none => exact kk
              | some v =>
                obtain ⟨a, t, s⟩ := v
                exact kk
          · rename_i w12
            rw [if_neg w12] at kk
            exact kk
        generalize goM e k n it p (stepE st) = r at ho kk
        obtain ⟨o1, o2, o3, o4, o5, o6, o7, o8, o9, o10⟩ := id ho
        refine x_istore_n (ls' := [_, _, _, _]) i_M_part__90 rfl rfl ?_
        refine x_aload_n i_M_part__91 rfl ?_
        refine x_dup i_M_part__92 ?_
        refine x_getI i_M_part__93 rfl rfl ?_
        refine x_iconst i_M_part__96 ?_
        refine x_isub i_M_part__97 (by omega) ?_
        refine x_putI i_M_part__98 rfl rfl ?_
        refine x_iload_n i_M_part__101 rfl ?_
        rw [o5, f6]
        rw [show ((dep + 1 : Nat) : Int) - 1 = (dep : Int) by omega]
        have y : fX psF fnA σ3 (sFI σ3 1145 0 (dep : Int)) := fX_sFI ⟨Or.inl rfl, rfl⟩
        have fin : Q (some (vi (retM r))) (sFI σ3 1145 0 (dep : Int)) := by
          refine kk _ N3 L3 tab3 cl3 kids3 own3 ⟨((cnX_mp x12).tr o1).tr (psX_mp y), o2.set y, fun a j w1 w2 w3 => by rw [psX_ai y, o3 a j w1 w2 w3, ai2], by rw [psX_ai y, o4, ai2], by simp [FI_sFI]; exact hde.symm, o6, fun w => by rw [psX_fi y (by decide)]; exact o7 w, fun w => ?_, fun w => ?_, o10⟩
          · obtain ⟨b1, b2, b3, b4, b5, b6⟩ := o8 w
            exact ⟨b1.set y, b2, fun i hi => by
              obtain ⟨e1, e2, e3, e4, e5, e6⟩ := b3 i hi
              exact ⟨e1, e2, e3, e4, by rw [psX_ai y, e5, ai2], by rw [psX_ai y, e6, ai2]⟩, b4, b5, by rw [FI_sFI, if_neg (by omega)]; exact b6⟩
          · obtain ⟨b1, b2, b3, b4⟩ := o9 w
            exact ⟨b1, b2, by rw [FI_sFI, if_neg (by omega)]; exact b3, by rw [FI_sFI, if_neg (by omega)]; exact b4⟩
        by_cases h0 : 0 ≤ r.1
        · rw [retM_1 h0] at fin ⊢
          refine x_if_eq_f i_M_part__102 (by decide) ?_
          refine x_aload_n i_M_part__105 rfl ?_
          refine x_getI i_M_part__106 rfl rfl ?_
          rw [FI_sFI, if_neg (by omega), (o8 (by omega)).1.2.1]
          refine x_if_ne_f i_M_part__109 rfl ?_
          refine x_iconst i_M_part__112 ?_
          refine x_goto i_M_part__113 ?_
          refine x_zret i_M_part__117 rfl (by omega) ?_
          exact fin
        · rw [retM_0 (by omega)] at fin ⊢
          refine x_if_eq_t i_M_part__102 rfl ?_
          refine x_iconst i_M_part__116 ?_
          refine x_zret i_M_part__117 rfl (by omega) ?_
          exact fin
      · have hk0 : k = 0 := by omega
        rw [if_pos (decide_eq_true hk0)] at kk
        refine x_aload_n i_M_part__66 rfl ?_
        refine x_bipush i_M_part__67 ?_
        refine x_putI i_M_part__69 rfl rfl ?_
        refine x_iconst i_M_part__72 ?_
        have x3 : mpX σ1 (sFI σ1 1142 0 (-18)) := fX_sFI ⟨by decide, by decide, rfl⟩
        have := kk _ N L tab cl kids own ⟨(cnX_mp x1).tr x3, h1.1.over, fun a j _ _ _ => ai _ _ _, ai _ _ _, f5.trans hde.symm, by show st.1.1 ≤ st.1.1 + 1; omega, fun _ => by simp [FI_sFI], fun w => absurd w (by show ¬ ((-5 : Int) ≤ -18); decide), fun w => absurd w (by show ¬ ((0 : Int) ≤ -18); decide), Or.inl (by show (-18 : Int) < -9; decide)⟩
        refine x_zret i_M_part__73 rfl (by omega) ?_
        exact this
    · exact full (Or.inr (by omega))
theorem AltM_all (e : EM) : ∀ (k dep n : Nat), dep + k = 61 → k ≠ 0 → AltM e (6 * k + 2) k dep n
  | 0, _, _, _, h => absurd rfl h
  | k + 1, dep, 0, _, _ => fun alt a Q σ st F N L tab cl kids own p _ h => h.elim
  | k + 1, dep, n + 1, hd, _ => by
    have ih : k ≠ 0 → ∀ n, AltM e (6 * k + 2) k (dep + 1) n := fun hk n => AltM_all e k (dep + 1) n (by omega) hk
    intro alt a Q σ st F N L tab cl kids own p h hs hp hF hde hat hN hL kk
    obtain ⟨s1, s2, s3⟩ := hs
    rw [altE_s] at kk
    refine c_M_altAt (d := 6 * k + 6) (n := n) (ss := alt) (f := fun s p st => seqE (fun (it : Item (PT n)) p st => itemE (partE e.2.1 e.1.2 (fun a => altE e.2.1 e.1.2 e.2.2 k n a) (ruledM e k) (decide (k = 0)) it) it.1.2.1 p st) justI s p false [] none st) ?_ s1 s2 h s3 hp hF hde hat hN hL kk
    intro s a Q1 σ1 st1 F1 N1 L1 tab1 cl1 kids1 own1 p1 h1 hs1 hp1 hF1 hde1 hat1 hN1 hL1 k1
    refine c_M_seqAt (d := 6 * k + 4) (by omega) (g := fun (it : Item (PT n)) p st => itemE (partE e.2.1 e.1.2 (fun a => altE e.2.1 e.1.2 e.2.2 k n a) (ruledM e k) (decide (k = 0)) it) it.1.2.1 p st) ?_ h1 hs1 hp1 hF1 hde1 hat1 hN1 hL1 k1
    intro it a2 Q2 σ2 st2 F2 N2 L2 tab2 cl2 kids2 own2 p2 h2 hi2 hp2 hF2 hde2 hat2 hN2 hL2 k2
    refine c_M_itemAt (d := 6 * k + 3) (by omega) (f := partE e.2.1 e.1.2 (fun a => altE e.2.1 e.1.2 e.2.2 k n a) (ruledM e k) (decide (k = 0))) ?_ h2 hi2 hp2 hF2 hde2 hat2 hN2 hL2 k2
    exact c_M_part (d := 6 * k) (by omega) ih
end


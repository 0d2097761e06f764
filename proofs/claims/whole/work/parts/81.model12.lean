/-! THE MODEL: chains -/
section
variable {d : Nat} {Q : AQ} {e : EM} {σ : AS} {st : ES} {F N L : Nat} {tab : Nat → TT} {cl : Nat → Prop} {kids : Nat → List Nat} {own : Nat → Nat}
theorem bI_or3 (a b c : Bool) (z : Int) (h : z = bI (b || c)) : iOr (bI a) z = bI (a || (c || b)) := by
  rw [h, iOr_bI]; cases a <;> cases b <;> cases c <;> rfl
theorem c_M_chain {k dep n : Nat} (hdep : dep ≤ 70) (ha : AltM e (d + 2) k dep n) (h : RunM σ e st F N L tab cl kids own) {ta tb : PT n} {a b : Nat} (mA : altM σ (dnM σ) n ta a) (mB : altM σ (dnM σ) n tb b) {p : Nat} (hp : p ≤ e.1.2) (hF : F ≤ dep) (hde : FI σ 1145 0 = (dep : Int)) (hat : AI σ 13 48 F ≤ (p : Int)) (hN : N ≤ 4 * st.1.1 + dep) (hL : L ≤ 3 * st.1.1) {A B : Nat → ES → RR} (hA : A = fun p st => altE e.2.1 e.1.2 e.2.2 k n ta p st) (hB : B = fun p st => altE e.2.1 e.1.2 e.2.2 k n tb p st) (kk : PostM e Q 2 2 σ st.1.1 F N L tab cl kids p (if (A p st).1 < 0 then A p st else chainE A B 1001 (A p st).1.toNat (A p st).2.1 (A p st).2.2.1 (A p st).2.2.2)) : wp (d + 3) m_M_chain [vr 11 0, vi (a : Nat), vi (b : Nat), vi (p : Nat)] σ Q := by
  have cA : ∀ (Q : AQ) (σ1 : AS) (st1 : ES) (N1 L1 : Nat) (tab1 : Nat → TT) (cl1 : Nat → Prop) (kids1 : Nat → List Nat) (own1 : Nat → Nat) (p1 : Nat), RunM σ1 e st1 F N1 L1 tab1 cl1 kids1 own1 → mpX σ σ1 → p1 ≤ e.1.2 → FI σ1 1145 0 = FI σ 1145 0 → AI σ1 13 48 F ≤ (p1 : Int) → N1 ≤ 4 * st1.1.1 + dep → L1 ≤ 3 * st1.1.1 → PostM e Q 2 2 σ1 st1.1.1 F N1 L1 tab1 cl1 kids1 p1 (A p1 st1) → wp (d + 2) m_M_altAt [vr 11 0, vi (a : Nat), vi (p1 : Nat)] σ1 Q := by
    intro Q σ1 st1 N1 L1 tab1 cl1 kids1 own1 p1 h1 x1 hp1 y1 y2 y3 y4 k1
    rw [hA] at k1
    exact ha ta a Q σ1 st1 F N1 L1 tab1 cl1 kids1 own1 p1 h1 (mA.run x1) hp1 hF (by rw [y1]; exact hde) y2 y3 y4 k1
  have cB : ∀ (Q : AQ) (σ1 : AS) (st1 : ES) (N1 L1 : Nat) (tab1 : Nat → TT) (cl1 : Nat → Prop) (kids1 : Nat → List Nat) (own1 : Nat → Nat) (p1 : Nat), RunM σ1 e st1 F N1 L1 tab1 cl1 kids1 own1 → mpX σ σ1 → p1 ≤ e.1.2 → FI σ1 1145 0 = FI σ 1145 0 → AI σ1 13 48 F ≤ (p1 : Int) → N1 ≤ 4 * st1.1.1 + dep → L1 ≤ 3 * st1.1.1 → PostM e Q 2 2 σ1 st1.1.1 F N1 L1 tab1 cl1 kids1 p1 (B p1 st1) → wp (d + 2) m_M_altAt [vr 11 0, vi (b : Nat), vi (p1 : Nat)] σ1 Q := by
    intro Q σ1 st1 N1 L1 tab1 cl1 kids1 own1 p1 h1 x1 hp1 y1 y2 y3 y4 k1
    rw [hB] at k1
    exact ha tb b Q σ1 st1 F N1 L1 tab1 cl1 kids1 own1 p1 h1 (mB.run x1) hp1 hF (by rw [y1]; exact hde) y2 y3 y4 k1
  clear hA hB ha mA mB
  have loop : ∀ (fu : Nat) (σ1 : AS) (st1 : ES) (N1 L1 : Nat) (tab1 : Nat → TT) (cl1 : Nat → Prop) (kids1 : Nat → List Nat) (own1 : Nat → Nat) (ow : Option Nat) (p1 j : Nat) (cut : Bool), fu + j = 1001 → RunM σ1 e st1 F N1 L1 tab1 cl1 kids1 own1 → mpX σ σ1 → p ≤ p1 → p1 ≤ e.1.2 → (∀ a j, 48 ≤ a → a ≤ 51 → j < F → AI σ1 13 a j = AI σ 13 a j) → AI σ1 13 48 F = AI σ 13 48 F → FI σ1 1145 0 = FI σ 1145 0 → N ≤ N1 → extM N σ tab cl kids σ1 tab1 cl1 kids1 → st.1.1 + j ≤ st1.1.1 → N1 + 2 + 4 * st.1.1 ≤ N + 4 * st1.1.1 → L1 + 2 + 3 * st.1.1 ≤ L + 3 * st1.1.1 → (∀ i, ow = some i → cl1 i) → PostM e Q 2 2 σ st.1.1 F N L tab cl kids p (chainE A B fu p1 (ow.map tab1) cut st1) → Ex (wp (d + 2)) m_M_chain Q 40 [some (vr 11 0), some (vi (a : Nat)), some (vi (b : Nat)), some (vi (p : Nat)), none, some (vi (p1 : Nat)), some (vi (oI ow)), some (vi (bI cut)), none, none, none, none] [] σ1 := by
    intro fu
    induction fu with
    | zero =>
      intro σ1 st1 N1 L1 tab1 cl1 kids1 own1 ow p1 j cut hfu h1 x1 hpp hp1 y1 y2 y3 hN1 ht hst1 b1 b2 how kk
      exfalso
      have := h1.1.2.1.2.2.2.1
      omega
    | succ fu ih =>
      intro σ1 st1 N1 L1 tab1 cl1 kids1 own1 ow p1 j cut hfu h1 x1 hpp hp1 y1 y2 y3 hN1 ht hst1 b1 b2 how kk
      have hcut := bI_01 cut
      -- the chain's answer so far
      have settle : ∀ (σ2 : AS) (st2 : ES) (N2 L2 : Nat) (tab2 : Nat → TT) (cl2 : Nat → Prop) (kids2 : Nat → List Nat) (own2 : Nat → Nat), RunM σ2 e st2 F N2 L2 tab2 cl2 kids2 own2 → mpX σ σ2 → (∀ a j, 48 ≤ a → a ≤ 51 → j < F → AI σ2 13 a j = AI σ 13 a j) → AI σ2 13 48 F = AI σ 13 48 F → FI σ2 1145 0 = FI σ 1145 0 → N1 ≤ N2 → extM N1 σ1 tab1 cl1 kids1 σ2 tab2 cl2 kids2 → st1.1.1 ≤ st2.1.1 → N2 + 4 * st1.1.1 ≤ N1 + 4 * st2.1.1 → L2 + 3 * st1.1.1 ≤ L1 + 3 * st2.1.1 → PostM e Q 2 2 σ st.1.1 F N L tab cl kids p ((p1 : Int), ow.map tab1, cut, st2) → Q (some (vi 1)) (sFI (sFI (sFI σ2 1147 0 (p1 : Nat)) 1148 0 (oI ow)) 1152 0 (bI cut)) := by
        intro σ2 st2 N2 L2 tab2 cl2 kids2 own2 z1 z2 z3 z4 z5 z6 z7 z8 z9 z10 z11
        have y := psX3 σ2 (p1 : Nat) (oI ow) (bI cut)
        have hlt : ∀ i, ow = some i → i < N1 := fun i hi => h1.2.2.2.1.2.2.1 i (how i hi)
        have e1 : ow.map tab2 = ow.map tab1 := by
          cases ow with
          | none => rfl
          | some i => simp only [Option.map_some]; rw [(z7 i (hlt i rfl)).1]
        have := z11 _ N2 L2 tab2 cl2 kids2 own2 ⟨z2.tr (psX_mp y), (z1.set y).1, fun a j w1 w2 w3 => by rw [psX_ai y]; exact z3 a j w1 w2 w3, by rw [psX_ai y]; exact z4, z5, by show st.1.1 ≤ st2.1.1; omega, fun w => absurd w (by show ¬ ((p1 : Int) < -5); omega), fun _ => ⟨z1.set y, by omega, fun i hi => by
            obtain ⟨q1, q2, q3, q4, q5, q6⟩ := (ht.tr hN1 z7) i hi
            exact ⟨q1, q2, q3, q4, by rw [psX_ai y]; exact q5, by rw [psX_ai y]; exact q6⟩, by show N2 + 2 + 4 * st.1.1 ≤ N + 4 * st2.1.1; omega, by show L2 + 2 + 3 * st.1.1 ≤ L + 3 * st2.1.1; omega, by simp [FI_sFI]⟩, fun _ => ⟨by show (p : Int) ≤ (p1 : Int); omega, by show (p1 : Int) ≤ _; omega, by simp [FI_sFI], ow, by simp [FI_sFI], fun i hi => (z7 i (hlt i hi)).2.1 (how i hi), e1⟩, Or.inr (Or.inr (by show 0 ≤ (p1 : Int); omega))⟩
        rw [retM_1 (by show 0 ≤ (p1 : Int); omega)] at this
        exact this
      have n9 : ¬ (0 : Int) ≤ -15 := by decide
      refine x_aload_n i_M_chain_40 rfl ?_
      refine x_iload_n i_M_chain_41 rfl ?_
      refine x_iload i_M_chain_42 rfl ?_
      refine x_cv2 i_M_chain_44 rfl rfl rfl ?_
      refine cB _ σ1 st1 N1 L1 tab1 cl1 kids1 own1 p1 h1 x1 hp1 y3 (by rw [y2]; omega) (by omega) (by omega) ?_
      intro σ2 N2 L2 tab2 cl2 kids2 own2 ho
      generalize hr : B p1 st1 = r at ho
      obtain ⟨o1, o2, o3, o4, o5, o6, o7, o8, o9, o10⟩ := id ho
      have z1 : ∀ a j, 48 ≤ a → a ≤ 51 → j < F → AI σ2 13 a j = AI σ 13 a j := fun a j w1 w2 w3 => by rw [o3 a j w1 w2 w3, y1 a j w1 w2 w3]
      have z2 : AI σ2 13 48 F = AI σ 13 48 F := o4.trans y2
      have z3 : FI σ2 1145 0 = FI σ 1145 0 := o5.trans y3
      have x2 : mpX σ σ2 := x1.tr o1
      refine x_istore (ls' := [_, _, _, _, _, _, _, _, _, _, _, _]) i_M_chain_47 rfl rfl ?_
      refine x_aload_n i_M_chain_49 rfl ?_
      refine x_getI i_M_chain_50 rfl rfl ?_
      by_cases he : r.1 < -5
      · rw [chainE_f (by rw [hr]; omega), hr, if_neg (fun w => by omega)] at kk
        have := kk σ2 N2 L2 tab2 cl2 kids2 own2 ⟨x2, o2, z1, z2, z3, by omega, o7, fun w => absurd he (by omega), fun w => absurd he (by omega), o10⟩
        rw [retM_0 (by omega)] at this
        rw [o7 he]
        refine x_if_eq_f i_M_chain_53 (by omega) ?_
        refine x_iconst i_M_chain_56 ?_
        refine x_zret i_M_chain_57 rfl (by omega) ?_
        exact this
      obtain ⟨u1, u2, u3, u4, u5, u6⟩ := o8 (by omega)
      have u3 : extM N1 σ1 tab1 cl1 kids1 σ2 tab2 cl2 kids2 := u3
      rw [u1.2.1]
      refine x_if_eq_t i_M_chain_53 rfl ?_
      refine x_iload i_M_chain_58 rfl ?_
      by_cases h0 : 0 ≤ r.1
      · obtain ⟨t1, t2, t3, os, t4, t5, t6⟩ := o9 h0
        clear o9 o8
        rw [retM_1 h0]
        have e1 : ((r.1.toNat : Nat) : Int) = r.1 := by omega
        refine x_if_ne_t i_M_chain_60 (by decide) ?_
        refine x_aload_n i_M_chain_89 rfl ?_
        refine x_getI i_M_chain_90 rfl rfl ?_
        rw [t4]
        refine x_istore (ls' := [_, _, _, _, _, _, _, _, _, _, _, _]) i_M_chain_93 rfl rfl ?_
        refine x_aload_n i_M_chain_95 rfl ?_
        refine x_getI i_M_chain_96 rfl rfl ?_
        rw [u6]
        refine x_istore (ls' := [_, _, _, _, _, _, _, _, _, _, _, _]) i_M_chain_99 rfl rfl ?_
        refine x_aload_n i_M_chain_101 rfl ?_
        refine x_iload_n i_M_chain_102 rfl ?_
        refine x_aload_n i_M_chain_103 rfl ?_
        refine x_getI i_M_chain_104 rfl rfl ?_
        rw [t3, ← e1]
        refine x_cv2 i_M_chain_107 rfl rfl rfl ?_
        refine cA _ σ2 _ N2 L2 tab2 cl2 kids2 own2 r.1.toNat u1 x2 (by omega) z3 (by rw [z2]; omega) (by omega) (by omega) ?_
        intro σ3 N3 L3 tab3 cl3 kids3 own3 ho3
        generalize hq : A r.1.toNat r.2.2.2 = q at ho3
        rw [chainE_t hr (by omega) hq] at kk
        obtain ⟨g1, g2, g3, g4, g5, g6, g7, g8, g9, g10⟩ := id ho3
        have z1 : ∀ a j, 48 ≤ a → a ≤ 51 → j < F → AI σ3 13 a j = AI σ 13 a j := fun a j w1 w2 w3 => by rw [g3 a j w1 w2 w3, z1 a j w1 w2 w3]
        have z2 : AI σ3 13 48 F = AI σ 13 48 F := g4.trans z2
        have z3 : FI σ3 1145 0 = FI σ 1145 0 := g5.trans z3
        have x3 : mpX σ σ3 := x2.tr g1
        refine x_istore (ls' := [_, _, _, _, _, _, _, _, _, _, _, _]) i_M_chain_110 rfl rfl ?_
        refine x_aload_n i_M_chain_112 rfl ?_
        refine x_getI i_M_chain_113 rfl rfl ?_
        by_cases he3 : q.1 < -5
        · rw [if_pos (by omega), if_neg (fun w => by omega)] at kk
          have := kk σ3 N3 L3 tab3 cl3 kids3 own3 ⟨x3, g2, z1, z2, z3, by show st.1.1 ≤ q.2.2.2.1.1; omega, g7, fun w => absurd he3 (by show ¬ q.1 < -5; have w : -5 ≤ q.1 := w; omega), fun w => absurd he3 (by have w : 0 ≤ q.1 := w; omega), g10⟩
          rw [retM_0 (by show q.1 < 0; omega)] at this
          rw [g7 he3]
          refine x_if_eq_f i_M_chain_116 (by omega) ?_
          refine x_iconst i_M_chain_119 ?_
          refine x_zret i_M_chain_120 rfl (by omega) ?_
          exact this
        obtain ⟨i1, i2, i3, i4, i5, i6⟩ := g8 (by omega)
        have i3 : extM N2 σ2 tab2 cl2 kids2 σ3 tab3 cl3 kids3 := i3
        have ext13 := u3.tr u2 i3
        have ext03 := ht.tr hN1 ext13
        rw [i1.2.1]
        refine x_if_eq_t i_M_chain_116 rfl ?_
        refine x_iload i_M_chain_121 rfl ?_
        by_cases h03 : 0 ≤ q.1
        · obtain ⟨v1, v2, v3, oq, v4, v5, v6⟩ := g9 h03
          clear g9 g8
          rw [if_neg (by omega)] at kk
          rw [retM_1 h03]
          have e2 : ((q.1.toNat : Nat) : Int) = q.1 := by omega
          refine x_if_ne_t i_M_chain_123 (by decide) ?_
          refine x_aload_n i_M_chain_157 rfl ?_
          refine x_getI i_M_chain_158 rfl rfl ?_
          rw [v3]
          refine x_iload i_M_chain_161 rfl ?_
          refine x_icmp_ne i_M_chain_163 (fun g1 => ?_) (fun g1 => ?_)
          · rw [if_neg g1] at kk
            have hs3 : q.2.2.2.1.1 ≤ 1000 := i1.1.2.1.2.2.2.1
            have hNc : ¬ cl3 N3 := fun w => by have := i1.2.2.2.1.2.2.1 N3 w; omega
            have hos : ∀ i, os = some i → cl3 i ∧ tab3 i = tab2 i := fun i hi => ⟨(i3 i (u1.2.2.2.1.2.2.1 i (t5 i hi))).2.1 (t5 i hi), (i3 i (u1.2.2.2.1.2.2.1 i (t5 i hi))).1⟩
            have how3 : ∀ i, ow = some i → cl3 i ∧ tab3 i = tab1 i := fun i hi => ⟨(ext13 i (h1.2.2.2.1.2.2.1 i (how i hi))).2.1 (how i hi), (ext13 i (h1.2.2.2.1.2.2.1 i (how i hi))).1⟩
            have eo : os.map tab3 = r.2.1 := by
              rw [← t6]
              cases os with
              | none => rfl
              | some i => simp only [Option.map_some]; rw [(hos i rfl).2]
            have ew : ow.map tab3 = ow.map tab1 := by
              cases ow with
              | none => rfl
              | some i => simp only [Option.map_some]; rw [(how3 i rfl).2]
            have mk : ∀ c : Nat, c < 256 → c = codeT r.2.1 → Ex (wp (d + 2)) m_M_chain Q 237 [some (vr 11 0), some (vi (a : Nat)), some (vi (b : Nat)), some (vi (p : Nat)), some (vi 1), some (vi q.1), some (vi (oI ow)), some (vi (bI (cut || (q.2.2.1 || r.2.2.1)))), some (vi (oI os)), some (vi (bI r.2.2.1)), some (vi (oI oq)), none] [vi (c : Nat), vi 2, vr 11 0] σ3 := by
              intro c hc1 hc2
              refine x_cv2 i_M_chain_237 rfl rfl rfl ?_
              refine c_M_makes i1.1.1.1 i1.2.2.2.1 (by omega) (fun σ4 a1 a2 a3 a4 a5 => ?_)
              have r4 := i1.nodes a1 a2 (fun _ h => ⟨h, rfl⟩)
              refine x_istore (ls' := [_, _, _, _, _, _, _, _, _, _, _, _]) i_M_chain_240 rfl rfl ?_
              refine x_aload_n i_M_chain_242 rfl ?_
              refine x_iload i_M_chain_243 rfl ?_
              refine x_aload_n i_M_chain_245 rfl ?_
              refine x_iload i_M_chain_246 rfl ?_
              refine x_cv1 i_M_chain_248 rfl rfl rfl ?_
              refine c_M_orEmpty r4 (by omega) (o := ow) (fun i hi => (how3 i hi).1) (fun σ5 N5 tab5 cl5 kids5 x5 b1 b2 b3 b4 b5 b6 b7 => ?_)
              obtain ⟨q1, q2, q3, q4, q5, q6⟩ := b5 N3 (by omega)
              rw [upK_eq] at q4
              have hx5 := b2.2.2.2.1.2.2.1 x5 b6
              have hNc5 : ¬ cl5 N3 := fun w => hNc (q3 w)
              refine x_cv2 i_M_chain_251 rfl rfl rfl ?_
              refine c_M_adds b2.1.1.1 b2.2.2.2.1 (by omega) (by omega) (t := N3) (c := x5) (by omega) hNc5 b6 (by rw [q4]; simp) (fun j hj => by rw [q4] at hj; cases hj) (fun σ6 own6 c1 c2 c3 c4 => ?_)
              have r6 := b2.nodes c1 c2 (fun _ h => ⟨h, rfl⟩)
              refine x_aload_n i_M_chain_254 rfl ?_
              refine x_iload i_M_chain_255 rfl ?_
              refine x_aload_n i_M_chain_257 rfl ?_
              refine x_iload i_M_chain_258 rfl ?_
              have hoq : ∀ i, oq = some i → cl5 i ∧ tab5 i = tab3 i := fun i hi => by
                have hi3 := i1.2.2.2.1.2.2.1 i (v5 i hi)
                exact ⟨(b5 i (by omega)).2.1 (v5 i hi), (b5 i (by omega)).1⟩
              refine x_cv1 i_M_chain_260 rfl rfl rfl ?_
              refine c_M_orEmpty r6 (by omega) (o := oq) (fun i hi => (hoq i hi).1) (fun σ7 N7 tab7 cl7 kids7 x7 d1 d2 d3 d4 d5 d6 d7 => ?_)
              obtain ⟨p1', p2, p3, p4, p5, p6⟩ := d5 N3 (by omega)
              rw [upK_eq, q4] at p4
              have hx7 := d2.2.2.2.1.2.2.1 x7 d6
              have hNc7 : ¬ cl7 N3 := fun w => hNc5 (p3 w)
              have cx5 : cl7 x5 := (d5 x5 hx5).2.1 b6
              have sz : ∀ j, cl7 j → sizeT (tab7 j) ≤ 2000 := fun j hj => ((d2.2.2.2.1.2.2.2 j (d2.2.2.2.1.2.2.1 j hj)).2.2.2 hj).2
              refine x_cv2 i_M_chain_263 rfl rfl rfl ?_
              refine c_M_adds d2.1.1.1 d2.2.2.2.1 (by omega) (by omega) (t := N3) (c := x7) (by omega) hNc7 d6 (by rw [p4]; simp) (fun j hj => by rw [p4] at hj; simp at hj; rw [hj]; exact sz _ cx5) (fun σ8 own8 f1 f2 f3 f4 => ?_)
              rw [p4] at f2
              have r8 := d2.nodes f1 f2 (fun _ h => ⟨h, rfl⟩)
              have ef : forkE r.2.1 (ow.map tab1) q.2.1 = forkT c (tab7 x5) (tab7 x7) := by
                unfold forkE
                have e3 : oq.map tab5 = q.2.1 := by
                  rw [← v6]
                  cases oq with
                  | none => rfl
                  | some i => simp only [Option.map_some]; rw [(hoq i rfl).2]
                rw [← hc2, (d5 x5 hx5).1, b7, d7, e3, ew]
              rw [ef] at kk
              have ek : upK kids7 N3 ([] ++ [x5] ++ [x7]) N3 = [x5, x7] := upK_eq _ _ _
              have hsz : AI σ8 13 54 N3 = (sizeT (forkT c (tab7 x5) (tab7 x7)) : Nat) := by
                rw [(r8.2.2.2.1.2.2.2 N3 (by omega)).2.1, ek]
                simp [sizeT, forkT, boughT, listT]
              have x8 : fX ndF ndA σ3 σ8 := (((a1.tr b1).tr c1).tr d1).tr f1
              obtain ⟨w1, w2⟩ := ndX_lo x8
              have x8' : mpX σ σ8 := x3.tr (ndX_mp x8)
              have ext8 : extM N3 σ3 tab3 cl3 kids3 σ8 tab7 cl7 (upK kids7 N3 ([] ++ [x5] ++ [x7])) := by
                intro i hi
                obtain ⟨l1, l2, l3, l4, l5, l6⟩ := b5 i (by omega)
                obtain ⟨m1, m2, m3, m4, m5, m6⟩ := d5 i (by omega)
                exact ⟨by rw [m1, l1], fun w => m2 (l2 w), fun w => l3 (m3 w), by rw [upK_ne (by omega), m4, upK_ne (by omega), l4, upK_ne (by omega)], by rw [f3, m5, c3, l5]; exact a5 _ _ (by omega), by rw [f4, m6, c4, l6]; exact a5 _ _ (by omega)⟩
              refine x_aload_n i_M_chain_266 rfl ?_
              refine x_iload i_M_chain_267 rfl ?_
              refine x_cv1 i_M_chain_269 rfl rfl rfl ?_
              refine c_M_whole r8.1.1.1 (t := N3) (by omega) (fun σ9 l1 l2 => ?_)
              by_cases hbig : 2000 < sizeT (forkT c (tab7 x5) (tab7 x7))
              · rw [if_pos hbig] at kk
                have l2 := l2 (by omega)
                refine x_istore (ls' := [_, _, _, _, _, _, _, _, _, _, _, _]) i_M_chain_272 rfl rfl ?_
                refine x_aload_n i_M_chain_274 rfl ?_
                refine x_getI i_M_chain_275 rfl rfl ?_
                refine x_if_eq_f i_M_chain_278 (by rw [l2]; simp [FI_sFI]) ?_
                refine x_iconst i_M_chain_281 ?_
                have x9 : mpX σ8 σ9 := by rw [l2]; exact fX_sFI ⟨by decide, by decide, rfl⟩
                have a9 : ∀ k a j, AI σ9 k a j = AI σ8 k a j := by intro k a j; rw [l2]; rfl
                have r0 : RunM0 σ9 e q.2.2.2 F := by rw [l2]; exact r8.1.over
                have := kk σ9 N7 (L3 + 2) tab7 cl7 kids7 own8 ⟨x8'.tr x9, r0, fun a j q1 q2 q3 => by rw [a9, w1 _ _ (by omega)]; exact z1 a j q1 q2 q3, by rw [a9, w1 _ _ (by decide)]; exact z2, by rw [l2]; exact (w2 _ (by decide) (by decide)).trans z3, by show st.1.1 ≤ q.2.2.2.1.1; omega, fun _ => by rw [l2]; simp [FI_sFI], fun w => absurd w (by show ¬ ((-5 : Int) ≤ -19); decide), fun w => absurd w (by show ¬ ((0 : Int) ≤ -19); decide), Or.inl (by show (-19 : Int) < -9; decide)⟩
                refine x_zret i_M_chain_282 rfl (by omega) ?_
                exact this
              · rw [if_neg hbig] at kk
                have l1 := l1 (by omega)
                subst l1
                have n5 := r8.2.2.2.1.close (i := N3) (t := forkT c (tab7 x5) (tab7 x7)) (by omega) hNc7 (Or.inr (Or.inr ⟨by rw [f3, p5, c3, q5]; exact a3, c, x5, x7, hc1, by rw [f4, p6, c4, q6]; exact a4, ek, by rw [upT_eq, upT_ne (fun w => hNc7 (by rw [← w]; exact cx5)), upT_ne (fun w => hNc7 (by rw [← w]; exact d6))]⟩)) (by omega)
                have r9 := r8.nodes (fX.rf _ _ _) n5 (fun i hi => ⟨Or.inl hi, upT_ne (fun w => hNc7 (by rw [← w]; exact hi))⟩)
                have := ih σ9 q.2.2.2 N7 (L3 + 1 + 1) _ _ _ own8 (some N3) q.1.toNat (j + 1) (cut || (q.2.2.1 || r.2.2.1)) (by omega) r9 x8' (by omega) (by omega) (fun a j q1 q2 q3 => by rw [w1 _ _ (by omega)]; exact z1 a j q1 q2 q3) (by rw [w1 _ _ (by decide)]; exact z2) ((w2 _ (by decide) (by decide)).trans z3) (by omega) (ext03.tr (N1 := N3) (by omega) (fun i hi => by
                  obtain ⟨m1, m2, m3, m4⟩ := ext8 i hi
                  exact ⟨by rw [upT_ne (by omega)]; exact m1, fun w => Or.inl (m2 w), fun w => m3 (w.resolve_right (by omega)), m4⟩)) (by omega) (by omega) (by omega) (fun i hi => by injection hi with hi; exact Or.inr hi.symm) (by rw [show (some N3).map (upT tab7 N3 (forkT c (tab7 x5) (tab7 x7))) = some (forkT c (tab7 x5) (tab7 x7)) by simp [upT_eq]]; exact kk)
                refine x_istore (ls' := [_, _, _, _, _, _, _, _, _, _, _, _]) i_M_chain_272 rfl rfl ?_
                refine x_aload_n i_M_chain_274 rfl ?_
                refine x_getI i_M_chain_275 rfl rfl ?_
                rw [r9.2.1]
                refine x_if_eq_t i_M_chain_278 rfl ?_
                refine x_goto i_M_chain_283 ?_
                refine Ex.weak (ls := [_, _, _, _, none, _, _, _, none, none, none, none]) ⟨Or.inr rfl, Or.inr rfl, Or.inr rfl, Or.inr rfl, Or.inl rfl, Or.inr rfl, Or.inr rfl, Or.inr rfl, Or.inl rfl, Or.inl rfl, Or.inl rfl, Or.inl rfl, trivial⟩ ?_
                rw [e2] at this
                exact this
            have fork2 : Ex (wp (d + 2)) m_M_chain Q 202 [some (vr 11 0), some (vi (a : Nat)), some (vi (b : Nat)), some (vi (p : Nat)), some (vi 1), some (vi q.1), some (vi (oI ow)), some (vi (bI (cut || (q.2.2.1 || r.2.2.1)))), some (vi (oI os)), some (vi (bI r.2.2.1)), none, none] [] σ3 := by
              refine x_aload_n i_M_chain_202 rfl ?_
              refine x_getI i_M_chain_203 rfl rfl ?_
              rw [v4]
              refine x_istore (ls' := [_, _, _, _, _, _, _, _, _, _, _, _]) i_M_chain_206 rfl rfl ?_
              refine x_aload_n i_M_chain_208 rfl ?_
              refine x_iconst i_M_chain_209 ?_
              refine x_iload i_M_chain_210 rfl ?_
              refine x_iconst i_M_chain_212 ?_
              cases hos1 : os with
              | none =>
                refine x_icmp_eq_t i_M_chain_213 rfl ?_
                refine x_iconst i_M_chain_236 ?_
                rw [hos1] at mk eo
                exact mk 0 (by decide) (by rw [← eo]; rfl)
              | some s =>
                rw [hos1] at mk eo
                have cs := (hos s hos1).1
                have hs := i1.2.2.2.1.2.2.1 s cs
                obtain ⟨nt, -⟩ := (i1.2.2.2.1.2.2.2 s hs).2.2.2 cs
                have hm : mFld σ3 := i1.1.1.1.1
                have hl : mLns σ3 := i1.1.1.1.2.1
                refine x_icmp_eq_f i_M_chain_213 (by simp only [oI]; omega) ?_
                refine x_aload_n i_M_chain_216 rfl ?_
                refine x_getR (c2 := 13) i_M_chain_217 rfl rfl (hm _ _ rfl) ?_
                refine x_iload i_M_chain_220 rfl ?_
                refine x_iaload i_M_chain_222 rfl (lt_len hl rfl (by omega)) ?_
                rcases nt with ⟨k1, n, k2, k3, k4, k5⟩ | ⟨k1, k2, k3⟩ | ⟨k1, c, a', b', k2, k3, k4, k5⟩
                · rw [k1]
                  refine x_if_ne_f i_M_chain_223 rfl ?_
                  refine x_aload_n i_M_chain_226 rfl ?_
                  refine x_getR (c2 := 13) i_M_chain_227 rfl rfl (hm _ _ rfl) ?_
                  refine x_iload i_M_chain_230 rfl ?_
                  refine x_iaload i_M_chain_232 rfl (lt_len hl rfl (by omega)) ?_
                  rw [k4]
                  refine x_goto i_M_chain_233 ?_
                  exact mk n k2 (by rw [← eo]; simp only [Option.map_some]; rw [k3]; rfl)
                · rw [k1]
                  refine x_if_ne_t i_M_chain_223 (by decide) ?_
                  refine x_iconst i_M_chain_236 ?_
                  exact mk 0 (by decide) (by rw [← eo]; simp only [Option.map_some]; rw [k3]; rfl)
                · rw [k1]
                  refine x_if_ne_t i_M_chain_223 (by decide) ?_
                  refine x_iconst i_M_chain_236 ?_
                  exact mk 0 (by decide) (by rw [← eo]; simp only [Option.map_some]; rw [k5]; rfl)
            have fin : ∀ z : Int, z = bI (r.2.2.1 || q.2.2.1) → Ex (wp (d + 2)) m_M_chain Q 199 [some (vr 11 0), some (vi (a : Nat)), some (vi (b : Nat)), some (vi (p : Nat)), some (vi 1), some (vi q.1), some (vi (oI ow)), some (vi (bI cut)), some (vi (oI os)), some (vi (bI r.2.2.1)), none, none] [vi z, vi (bI cut)] σ3 := by
              intro z hz
              refine x_ior i_M_chain_199 ?_
              rw [bI_or3 _ _ _ z hz]
              refine x_istore (ls' := [_, _, _, _, _, _, _, _, _, _, _, _]) i_M_chain_200 rfl rfl ?_
              exact fork2
            refine x_aload_n i_M_chain_174 rfl ?_
            refine x_getI i_M_chain_175 rfl rfl ?_
            rw [v3]
            refine x_istore (ls' := [_, _, _, _, _, _, _, _, _, _, _, _]) i_M_chain_178 rfl rfl ?_
            refine x_iload i_M_chain_180 rfl ?_
            refine x_iload i_M_chain_182 rfl ?_
            refine x_if_ne i_M_chain_184 (fun g2 => ?_) (fun g2 => ?_)
            · refine x_iconst i_M_chain_194 ?_
              refine x_goto i_M_chain_195 ?_
              exact fin 1 (by rw [bI_t g2]; rfl)
            · refine x_aload_n i_M_chain_187 rfl ?_
              refine x_getI i_M_chain_188 rfl rfl ?_
              rw [i6]
              refine x_if_eq i_M_chain_191 (fun g3 => ?_) (fun g3 => ?_)
              · refine x_iconst i_M_chain_198 ?_
                exact fin 0 (by rw [bI_f g2, bI_f g3]; rfl)
              · refine x_iconst i_M_chain_194 ?_
                refine x_goto i_M_chain_195 ?_
                exact fin 1 (by rw [bI_t g3, Bool.or_true]; rfl)
          · rw [if_pos (by omega)] at kk
            refine x_aload_n i_M_chain_166 rfl ?_
            refine x_bipush i_M_chain_167 ?_
            refine x_putI i_M_chain_169 rfl rfl ?_
            refine x_iconst i_M_chain_172 ?_
            have x4 : mpX σ3 (sFI σ3 1142 0 (-15)) := fX_sFI ⟨by decide, by decide, rfl⟩
            have := kk _ N3 L3 tab3 cl3 kids3 own3 ⟨x3.tr x4, g2.over, z1, z2, z3, by show st.1.1 ≤ q.2.2.2.1.1; omega, fun _ => by simp [FI_sFI], fun w => absurd w (by show ¬ ((-5 : Int) ≤ -15); decide), fun w => absurd w n9, Or.inl (by show (-15 : Int) < -9; decide)⟩
            refine x_zret i_M_chain_173 rfl (by omega) ?_
            exact this
        · have h5 : q.1 = -5 := by clear g9; omega
          clear g9 g8
          rw [if_pos (by omega)] at kk
          rw [retM_0 (by omega)]
          refine x_if_ne_f i_M_chain_123 rfl ?_
          refine x_aload_n i_M_chain_126 rfl ?_
          refine x_getI i_M_chain_127 rfl rfl ?_
          rw [i6]
          have bad : (q.2.2.1 || r.2.2.1) = true → Ex (wp (d + 2)) m_M_chain Q 138 [some (vr 11 0), some (vi (a : Nat)), some (vi (b : Nat)), some (vi (p : Nat)), some (vi 0), some (vi (p1 : Nat)), some (vi (oI ow)), some (vi (bI cut)), some (vi (oI os)), some (vi (bI r.2.2.1)), none, none] [] σ3 := by
            intro hb
            rw [if_neg (fun w => by rw [hb] at w; cases w.2), hb] at kk
            refine x_aload_n i_M_chain_138 rfl ?_
            refine x_iconst i_M_chain_139 ?_
            refine x_cv1 i_M_chain_140 rfl rfl rfl ?_
            refine c_M_fails (Or.inr rfl) ?_
            refine x_goto i_M_chain_143 ?_
            have y := psX1 σ3 1
            have := kk _ N3 L3 tab3 cl3 kids3 own3 ⟨x3.tr (psX_mp y), (i1.set y).1, fun a j w1 w2 w3 => by rw [psX_ai y]; exact z1 a j w1 w2 w3, by rw [psX_ai y]; exact z2, z3, by show st.1.1 ≤ q.2.2.2.1.1; omega, fun w => absurd w (by show ¬ q.1 < -5; omega), fun _ => ⟨i1.set y, by omega, fun i hi => by rw [psX_ai y, psX_ai y]; exact ext03 i hi, by show N3 + 2 + 4 * st.1.1 ≤ N + 4 * q.2.2.2.1.1; omega, by show L3 + 2 + 3 * st.1.1 ≤ L + 3 * q.2.2.2.1.1; omega, by simp [FI_sFI, bI]⟩, fun w => absurd w (by show ¬ 0 ≤ q.1; omega), Or.inr (Or.inl h5)⟩
            rw [retM_0 (by show q.1 < 0; omega)] at this
            refine x_zret i_M_chain_156 rfl (by omega) ?_
            exact this
          refine x_if_ne i_M_chain_130 (fun g1 => ?_) (fun g1 => ?_)
          · exact bad (by rw [bI_t g1]; rfl)
          · refine x_iload i_M_chain_133 rfl ?_
            refine x_if_eq i_M_chain_135 (fun g2 => ?_) (fun g2 => ?_)
            · have hb : (q.2.2.1 || r.2.2.1) = false := by rw [bI_f g1, bI_f g2]; rfl
              rw [if_pos ⟨h5, hb⟩] at kk
              refine x_aload_n i_M_chain_146 rfl ?_
              refine x_iload i_M_chain_147 rfl ?_
              refine x_iload i_M_chain_149 rfl ?_
              refine x_iload i_M_chain_151 rfl ?_
              refine x_cv3 i_M_chain_153 rfl rfl rfl ?_
              refine c_M_done hcut ?_
              refine x_zret i_M_chain_156 rfl (by omega) ?_
              exact settle σ3 _ N3 L3 tab3 cl3 kids3 own3 i1 x3 z1 z2 z3 (by omega) ext13 (by omega) (by omega) (by omega) kk
            · exact bad (by rw [bI_t g2, Bool.or_true])
      · have h5 : r.1 = -5 := by clear o9; omega
        clear o9 o8
        rw [chainE_f (by rw [hr]; omega), hr] at kk
        rw [retM_0 (by omega)]
        refine x_if_ne_f i_M_chain_60 rfl ?_
        refine x_aload_n i_M_chain_63 rfl ?_
        refine x_getI i_M_chain_64 rfl rfl ?_
        rw [u6]
        refine x_if_eq i_M_chain_67 (fun g1 => ?_) (fun g1 => ?_)
        · rw [if_pos ⟨h5, bI_f g1⟩] at kk
          refine x_aload_n i_M_chain_78 rfl ?_
          refine x_iload i_M_chain_79 rfl ?_
          refine x_iload i_M_chain_81 rfl ?_
          refine x_iload i_M_chain_83 rfl ?_
          refine x_cv3 i_M_chain_85 rfl rfl rfl ?_
          refine c_M_done hcut ?_
          refine x_zret i_M_chain_88 rfl (by omega) ?_
          exact settle σ2 _ N2 L2 tab2 cl2 kids2 own2 u1 x2 z1 z2 z3 u2 u3 o6 (by omega) (by omega) kk
        · have hb := bI_t g1
          rw [if_neg (fun w => by rw [hb] at w; cases w.2)] at kk
          refine x_aload_n i_M_chain_70 rfl ?_
          refine x_iconst i_M_chain_71 ?_
          refine x_cv1 i_M_chain_72 rfl rfl rfl ?_
          refine c_M_fails (Or.inr rfl) ?_
          refine x_goto i_M_chain_75 ?_
          have y := psX1 σ2 1
          have := kk _ N2 L2 tab2 cl2 kids2 own2 ⟨x2.tr (psX_mp y), (u1.set y).1, fun a j w1 w2 w3 => by rw [psX_ai y]; exact z1 a j w1 w2 w3, by rw [psX_ai y]; exact z2, z3, by omega, fun w => by omega, fun _ => ⟨u1.set y, by omega, fun i hi => by rw [psX_ai y, psX_ai y]; exact (ht.tr hN1 u3) i hi, by omega, by omega, by rw [hb]; simp [FI_sFI, bI]⟩, fun w => absurd w h0, Or.inr (Or.inl h5)⟩
          rw [retM_0 (by omega)] at this
          refine x_zret i_M_chain_88 rfl (by omega) ?_
          exact this
  refine x_in (ls := [some _, some _, some _, some _, none, none, none, none, none, none, none, none]) rfl rfl ?_
  refine x_aload_n i_M_chain_0 rfl ?_
  refine x_iload_n i_M_chain_1 rfl ?_
  refine x_iload_n i_M_chain_2 rfl ?_
  refine x_cv2 i_M_chain_3 rfl rfl rfl ?_
  refine cA _ σ st N L tab cl kids own p h (fX.rf _ _ _) hp rfl hat hN hL ?_
  intro σ2 N2 L2 tab2 cl2 kids2 own2 ho
  generalize A p st = r at ho kk
  obtain ⟨o1, o2, o3, o4, o5, o6, o7, o8, o9, o10⟩ := id ho
  refine x_istore (ls' := [_, _, _, _, _, _, _, _, _, _, _, _]) i_M_chain_6 rfl rfl ?_
  refine x_aload_n i_M_chain_8 rfl ?_
  refine x_getI i_M_chain_9 rfl rfl ?_
  by_cases he : r.1 < -5
  · rw [if_pos (by omega)] at kk
    have := kk σ2 N2 L2 tab2 cl2 kids2 own2 ho
    rw [retM_0 (by omega)] at this
    rw [o7 he]
    refine x_if_ne_t i_M_chain_12 (by omega) ?_
    refine x_iconst i_M_chain_20 ?_
    refine x_zret i_M_chain_21 rfl (by omega) ?_
    exact this
  obtain ⟨u1, u2, u3, u4, u5, u6⟩ := o8 (by omega)
  rw [u1.2.1]
  refine x_if_ne_f i_M_chain_12 rfl ?_
  refine x_iload i_M_chain_15 rfl ?_
  by_cases h0 : 0 ≤ r.1
  · rw [if_neg (by omega)] at kk
    obtain ⟨t1, t2, t3, os, t4, t5, t6⟩ := o9 h0
    have e1 : ((r.1.toNat : Nat) : Int) = r.1 := by omega
    rw [retM_1 h0]
    refine x_if_ne_t i_M_chain_17 (by decide) ?_
    refine x_aload_n i_M_chain_22 rfl ?_
    refine x_getI i_M_chain_23 rfl rfl ?_
    rw [t3]
    refine x_istore (ls' := [_, _, _, _, _, _, _, _, _, _, _, _]) i_M_chain_26 rfl rfl ?_
    refine x_aload_n i_M_chain_28 rfl ?_
    refine x_getI i_M_chain_29 rfl rfl ?_
    rw [t4]
    refine x_istore (ls' := [_, _, _, _, _, _, _, _, _, _, _, _]) i_M_chain_32 rfl rfl ?_
    refine x_aload_n i_M_chain_34 rfl ?_
    refine x_getI i_M_chain_35 rfl rfl ?_
    rw [u6]
    refine x_istore (ls' := [_, _, _, _, _, _, _, _, _, _, _, _]) i_M_chain_38 rfl rfl ?_
    refine Ex.weak (ls := [_, _, _, _, none, _, _, _, _, _, _, _]) ⟨Or.inr rfl, Or.inr rfl, Or.inr rfl, Or.inr rfl, Or.inl rfl, Or.inr rfl, Or.inr rfl, Or.inr rfl, Or.inr rfl, Or.inr rfl, Or.inr rfl, Or.inr rfl, trivial⟩ ?_
    rw [← t6] at kk
    have := loop 1001 σ2 r.2.2.2 N2 L2 tab2 cl2 kids2 own2 os r.1.toNat 0 r.2.2.1 rfl u1 o1 (by omega) (by omega) o3 o4 o5 u2 u3 o6 (by omega) (by omega) t5 kk
    rw [e1] at this
    exact this
  · rw [if_pos (by omega)] at kk
    have := kk σ2 N2 L2 tab2 cl2 kids2 own2 ho
    rw [retM_0 (by omega)] at this ⊢
    refine x_if_ne_f i_M_chain_17 rfl ?_
    refine x_iconst i_M_chain_20 ?_
    refine x_zret i_M_chain_21 rfl (by omega) ?_
    exact this
end


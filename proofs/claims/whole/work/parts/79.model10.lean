/-! THE MODEL: items -/
def prtM (σ : AS) (n : Nat) (it : Item (PT n)) (p : Nat) : Prop := p < 260 ∧ AI σ 13 33 p = (mKind it.1.1 : Int) ∧ (it.1.1 ≤ 1 → AI σ 13 34 p = it.2.1.1 ∧ AI σ 13 35 p = it.2.1.2) ∧ (it.1.1 ≤ 6 → AI σ 13 36 p = (it.1.2.2 : Int) ∧ it.1.2.2 < 32) ∧ (it.1.1 = 12 → AI σ 13 34 p = (it.1.2.2 : Int) ∧ it.1.2.2 < 8 ∧ dnM σ it.1.2.2) ∧
  ((it.1.1 = 5 ∨ it.1.1 = 6 ∨ (8 ≤ it.1.1 ∧ it.1.1 ≤ 11)) → ∃ a : Nat, AI σ 13 34 p = (a : Int) ∧ altM σ (dnM σ) n it.2.2.1 a) ∧ (it.1.1 = 10 → ∃ b : Nat, AI σ 13 35 p = (b : Int) ∧ altM σ (dnM σ) n it.2.2.2 b) ∧ it.1.1 ≤ 12
theorem itmM.prt {σ : AS} {n : Nat} {it : Item (PT n)} {i : Nat} (h : itmM σ n it i) : ∃ p, AI σ 13 30 i = ((p : Nat) : Int) ∧ prtM σ n it p := by
  obtain ⟨a1, a2, a3, a4, p, a5, a6, a7, a8, a9, a10, a11, a12⟩ := h
  exact ⟨p, a6, a5, a7, a8, a9, a10, a11, a12, a3⟩
theorem prtM.run {σ σ' : AS} (hx : mpX σ σ') {n : Nat} {it : Item (PT n)} {p : Nat} (h : prtM σ n it p) : prtM σ' n it p := by
  obtain ⟨a5, a7, a8, a9, a10, a11, a12, a13⟩ := h
  refine ⟨a5, by rw [hx.lo (by decide)]; exact a7, fun w => by rw [hx.lo (by decide), hx.lo (by decide)]; exact a8 w, fun w => by rw [hx.lo (by decide)]; exact a9 w, fun w => by rw [hx.lo (by decide), dnM.run hx]; exact a10 w, fun w => ?_, fun w => ?_, a13⟩
  · obtain ⟨a, b1, b2⟩ := a11 w
    exact ⟨a, by rw [hx.lo (by decide)]; exact b1, altM.run hx b2⟩
  · obtain ⟨a, b1, b2⟩ := a12 w
    exact ⟨a, by rw [hx.lo (by decide)]; exact b1, altM.run hx b2⟩
def PtM (e : EM) (d dep n : Nat) (f : Item (PT n) → Nat → ES → RR) : Prop := ∀ (it : Item (PT n)) (pn : Nat) (Q : AQ) (σ : AS) (st : ES) (F N L : Nat) (tab : Nat → TT) (cl : Nat → Prop) (kids : Nat → List Nat) (own : Nat → Nat) (p : Nat), RunM σ e st F N L tab cl kids own → prtM σ n it pn → p ≤ e.1.2 → F ≤ dep → FI σ 1145 0 = (dep : Int) → AI σ 13 48 F ≤ (p : Int) → N ≤ 4 * st.1.1 + dep + 1 → L ≤ 3 * st.1.1 → PostM e Q 3 3 σ st.1.1 F N L tab cl kids p (f it p st) → wp d m_M_part_ [vr 11 0, vi (pn : Nat), vi (p : Nat)] σ Q
theorem OutM.weak {e : EM} {c1 c2 c1' c2' : Nat} {σ σ' : AS} {s0 F N L N' L' : Nat} {tab tab' : Nat → TT} {cl cl' : Nat → Prop} {kids kids' : Nat → List Nat} {own' : Nat → Nat} {p : Nat} {r : RR} (h : OutM e c1 c2 σ s0 F N L tab cl kids p r σ' N' L' tab' cl' kids' own') (h1 : c1' ≤ c1) (h2 : c2' ≤ c2) : OutM e c1' c2' σ s0 F N L tab cl kids p r σ' N' L' tab' cl' kids' own' := by
  obtain ⟨a1, a2, a3, a4, a5, a6, a7, a8, a9⟩ := h
  exact ⟨a1, a2, a3, a4, a5, a6, a7, fun w => by
    obtain ⟨c1, c2, c3, c4, c5, c6⟩ := a8 w
    exact ⟨c1, c2, c3, by omega, by omega, c6⟩, a9⟩
section
variable {d : Nat} {Q : AQ} {e : EM} {σ : AS} {st : ES} {F N L : Nat} {tab : Nat → TT} {cl : Nat → Prop} {kids : Nat → List Nat} {own : Nat → Nat}
theorem c_M_itemAt {dep n : Nat} (hdep : dep ≤ 70) {f : Item (PT n) → Nat → ES → RR} (hf : PtM e (d + 2) dep n f) {it : Item (PT n)} {i : Nat} {p : Nat} (h : RunM σ e st F N L tab cl kids own) (hi : itmM σ n it i) (hp : p ≤ e.1.2) (hF : F ≤ dep) (hde : FI σ 1145 0 = (dep : Int)) (hat : AI σ 13 48 F ≤ (p : Int)) (hN : N ≤ 4 * st.1.1 + dep) (hL : L ≤ 3 * st.1.1) (kk : PostM e Q 2 3 σ st.1.1 F N L tab cl kids p (itemE (f it) it.1.2.1 p st)) : wp (d + 3) m_M_itemAt [vr 11 0, vi (i : Nat), vi (p : Nat)] σ Q := by
  obtain ⟨⟨⟨hmr, -⟩, hcn, -⟩, a2, a3, a4, a5⟩ := id h
  obtain ⟨hm, hl, -⟩ := id hmr
  have hst : st.1.1 ≤ 1000 := hcn.2.2.2.1
  obtain ⟨pn, j6, hpr⟩ := itmM.prt hi
  have j1 := hi.1
  have j2 := hi.2.1
  have j4 := hi.2.2.2.1
  refine x_in (ls := [some _, some _, some _, none, none, none, none, none, none, none]) rfl rfl ?_
  refine x_aload_n i_M_itemAt_0 rfl ?_
  refine x_getR (c2 := 13) i_M_itemAt_1 rfl rfl (hm _ _ rfl) ?_
  refine x_iload_n i_M_itemAt_4 rfl ?_
  refine x_iaload i_M_itemAt_5 rfl (lt_len hl rfl j1) ?_
  rw [j6]
  refine x_istore_n (ls' := [_, _, _, _, _, _, _, _, _, _]) i_M_itemAt_6 rfl rfl ?_
  refine x_aload_n i_M_itemAt_7 rfl ?_
  refine x_getR (c2 := 13) i_M_itemAt_8 rfl rfl (hm _ _ rfl) ?_
  refine x_iload_n i_M_itemAt_11 rfl ?_
  refine x_iaload i_M_itemAt_12 rfl (lt_len hl rfl j1) ?_
  rw [j2]
  refine x_istore (ls' := [_, _, _, _, _, _, _, _, _, _]) i_M_itemAt_13 rfl rfl ?_
  refine x_iload i_M_itemAt_15 rfl ?_
  refine x_if_ne i_M_itemAt_17 (fun g1 => ?_) (fun g1 => ?_)
  · refine x_iload i_M_itemAt_27 rfl ?_
    refine x_bipush i_M_itemAt_29 ?_
    refine x_icmp_ne i_M_itemAt_31 (fun g2 => ?_) (fun g2 => ?_)
    · unfold itemE at kk
      rw [if_neg (by omega), if_neg (by omega)] at kk
      have hNc : ¬ cl N := fun w => by have := a4.2.2.1 N w; omega
      have loop : ∀ (fu : Nat) (σ1 : AS) (st1 : ES) (N1 L1 : Nat) (tab1 : Nat → TT) (cl1 : Nat → Prop) (kids1 : Nat → List Nat) (own1 : Nat → Nat) (T : List Nat) (p1 j : Nat) (cut first : Bool), fu + j = 1001 → RunM σ1 e st1 F N1 L1 tab1 cl1 kids1 own1 → mpX σ σ1 → p ≤ p1 → p1 ≤ e.1.2 → (∀ a j, 48 ≤ a → a ≤ 51 → j < F → AI σ1 13 a j = AI σ 13 a j) → AI σ1 13 48 F = AI σ 13 48 F → FI σ1 1145 0 = FI σ 1145 0 → N < N1 → (∀ i, i < N → tab1 i = tab i ∧ (cl i → cl1 i) ∧ (cl1 i → cl i) ∧ kids1 i = kids i ∧ AI σ1 13 52 i = AI σ 13 52 i ∧ AI σ1 13 53 i = AI σ 13 53 i) → st.1.1 + j ≤ st1.1.1 → N1 + 3 * j + 4 * st.1.1 ≤ N + 1 + 4 * st1.1.1 → L1 + 2 * j + 3 * st.1.1 ≤ L + 3 * st1.1.1 → T.length ≤ j → (∀ i, i ∈ T → cl1 i) → ¬ cl1 N → kids1 N = T → AI σ1 13 52 N = 1 → AI σ1 13 53 N = 0 → PostM e Q 2 3 σ st.1.1 F N L tab cl kids p (repE (f it) (decide (it.1.2.1 = 43)) fu p1 cut (T.map tab1) first st1) → Ex (wp (d + 2)) m_M_itemAt Q 101 [some (vr 11 0), some (vi (i : Nat)), some (vi (p : Nat)), some (vi (pn : Nat)), some (vi (it.1.2.1 : Nat)), some (vi (N : Nat)), some (vi (p1 : Nat)), some (vi (bI cut)), some (vi (bI first)), none] [] σ1 := by
        intro fu
        induction fu with
        | zero =>
          intro σ1 st1 N1 L1 tab1 cl1 kids1 own1 T p1 j cut first hfu h1 x1 hpp hp1 y1 y2 y3 hN1 ht hst1 b1 b2 b3 hT hNc1 hk1 hk2 hk3 kk
          exfalso
          have := h1.1.2.1.2.2.2.1
          omega
        | succ fu ih =>
          intro σ1 st1 N1 L1 tab1 cl1 kids1 own1 T p1 j cut first hfu h1 x1 hpp hp1 y1 y2 y3 hN1 ht hst1 b1 b2 b3 hT hNc1 hk1 hk2 hk3 kk
          have hcut := bI_01 cut
          have hs1 : st1.1.1 ≤ 1000 := h1.1.2.1.2.2.2.1
          refine x_aload_n i_M_itemAt_101 rfl ?_
          refine x_iload_n i_M_itemAt_102 rfl ?_
          refine x_iload i_M_itemAt_103 rfl ?_
          refine x_cv2 i_M_itemAt_105 rfl rfl rfl ?_
          refine hf it pn _ σ1 st1 F N1 L1 tab1 cl1 kids1 own1 p1 h1 (hpr.run x1) hp1 hF (by rw [y3]; exact hde) (by rw [y2]; omega) (by omega) (by omega) ?_
          intro σ2 N2 L2 tab2 cl2 kids2 own2 ho
          generalize hr : f it p1 st1 = r at ho
          rw [repE_s (part := f it) (r := r) hr] at kk
          obtain ⟨o1, o2, o3, o4, o5, o6, o7, o8, o9, o10⟩ := id ho
          have hm2 : mFld σ2 := o2.1.1.1
          have hl2 : mLns σ2 := o2.1.1.2.1
          have z1 : ∀ a j, 48 ≤ a → a ≤ 51 → j < F → AI σ2 13 a j = AI σ 13 a j := fun a j w1 w2 w3 => by rw [o3 a j w1 w2 w3, y1 a j w1 w2 w3]
          have z2 : AI σ2 13 48 F = AI σ 13 48 F := o4.trans y2
          have z3 : FI σ2 1145 0 = FI σ 1145 0 := o5.trans y3
          have x2 : mpX σ σ2 := x1.tr o1
          refine x_istore (ls' := [_, _, _, _, _, _, _, _, _, _]) i_M_itemAt_108 rfl rfl ?_
          refine x_aload_n i_M_itemAt_110 rfl ?_
          refine x_getI i_M_itemAt_111 rfl rfl ?_
          by_cases he : r.1 < -5
          · rw [if_pos he] at kk
            have := kk σ2 N2 L2 tab2 cl2 kids2 own2 ⟨x2, o2, z1, z2, z3, by omega, o7, fun w => absurd he (by omega), fun w => absurd he (by omega), o10⟩
            rw [retM_0 (by omega)] at this
            rw [o7 he]
            refine x_if_eq_f i_M_itemAt_114 (by omega) ?_
            refine x_iconst i_M_itemAt_117 ?_
            refine x_zret i_M_itemAt_118 rfl (by omega) ?_
            exact this
          · rw [if_neg he] at kk
            obtain ⟨u1, u2, u3, u4, u5, u6⟩ := o8 (by omega)
            have hs2 : r.2.2.2.1.1 ≤ 1000 := o2.2.1.2.2.2.1
            have ext : ∀ i, i < N → tab2 i = tab i ∧ (cl i → cl2 i) ∧ (cl2 i → cl i) ∧ kids2 i = kids i ∧ AI σ2 13 52 i = AI σ 13 52 i ∧ AI σ2 13 53 i = AI σ 13 53 i := fun i hi => by
              obtain ⟨q1, q2, q3, q4, q5, q6⟩ := u3 i (by omega)
              obtain ⟨t1, t2, t3, t4, t5, t6⟩ := ht i hi
              exact ⟨by rw [q1, t1], fun w => q2 (t2 w), fun w => t3 (q3 w), by rw [q4, t4], by rw [q5, t5], by rw [q6, t6]⟩
            have cl12 : ∀ j, cl1 j → cl2 j ∧ tab2 j = tab1 j := fun j hj => ⟨(u3 j (h1.2.2.2.1.2.2.1 j hj)).2.1 hj, (u3 j (h1.2.2.2.1.2.2.1 j hj)).1⟩
            obtain ⟨k1, k2, k3, k4, k5, k6⟩ := u3 N hN1
            have hT2 : ∀ i, i ∈ T → cl2 i := fun i hi => (cl12 i (hT i hi)).1
            have eT : T.map tab2 = T.map tab1 := mapT_cl hT (fun j hj => (cl12 j hj).2)
            have hNc2 : ¬ cl2 N := fun w => hNc1 (k3 w)
            rw [u1.2.1]
            refine x_if_eq_t i_M_itemAt_114 rfl ?_
            refine x_iload i_M_itemAt_119 rfl ?_
            by_cases h0 : 0 ≤ r.1
            · rw [if_neg (by omega)] at kk
              have e1 : ((r.1.toNat : Nat) : Int) = r.1 := by omega
              obtain ⟨t1, t2, t3, ot, t4, t5, t6⟩ := o9 h0
              clear o9 o8
              rw [retM_1 h0]
              refine x_if_ne_t i_M_itemAt_121 (by decide) ?_
              have hm := hm2
              refine x_aload_n i_M_itemAt_178 rfl ?_
              refine x_getI i_M_itemAt_179 rfl rfl ?_
              rw [t3]
              refine x_iload i_M_itemAt_182 rfl ?_
              refine x_icmp_ne i_M_itemAt_184 (fun g7 => ?_) (fun g7 => ?_)
              · rw [if_neg g7] at kk
                have next : ∀ (σ3 : AS) (L3 : Nat) (kids3 : Nat → List Nat) (own3 : Nat → Nat) (T3 : List Nat), RunM σ3 e r.2.2.2 F N2 L3 tab2 cl2 kids3 own3 → fX ndF ndA σ2 σ3 → (∀ i, i < N → kids3 i = kids2 i) → AI σ3 13 52 = AI σ2 13 52 → AI σ3 13 53 = AI σ2 13 53 → L3 ≤ L2 + 1 → T3.length ≤ j + 1 → (∀ i, i ∈ T3 → cl2 i) → kids3 N = T3 → T3.map tab2 = T.map tab1 ++ r.2.1.toList → Ex (wp (d + 2)) m_M_itemAt Q 101 [some (vr 11 0), some (vi (i : Nat)), some (vi (p : Nat)), some (vi (pn : Nat)), some (vi (it.1.2.1 : Nat)), some (vi (N : Nat)), some (vi r.1), some (vi (bI (cut || r.2.2.1))), some (vi 0), some (vi 1)] [] σ3 := by
                  intro σ3 L3 kids3 own3 T3 w1 w2 w3 w4 w5 w6 w7 w8 w9 w10
                  have ai : ∀ a j, a < 52 → AI σ3 13 a j = AI σ2 13 a j := fun a j h => w2.2.2.1 _ _ _ (fun q => by have := q.2.1; omega)
                  have f5 : FI σ3 1145 0 = FI σ2 1145 0 := w2.1 _ _ (fun q => by rcases q.1 with w | w <;> omega)
                  rw [← w10] at kk
                  have := ih σ3 r.2.2.2 N2 L3 tab2 cl2 kids3 own3 T3 r.1.toNat (j + 1) (cut || r.2.2.1) false (by omega) w1 (x2.tr (ndX_mp w2)) (by omega) (by omega) (fun a j q1 q2 q3 => by rw [ai a j (by omega)]; exact z1 a j q1 q2 q3) (by rw [ai _ _ (by decide)]; exact z2) (by rw [f5]; exact z3) (by omega) (fun i hi => by rw [w4, w5, w3 i hi]; exact ext i hi) (by omega) (by omega) (by omega) w7 w8 hNc2 w9 (by rw [w4, k5]; exact hk2) (by rw [w5, k6]; exact hk3) kk
                  refine Ex.weak (ls := [_, _, _, _, _, _, _, _, _, none]) ⟨Or.inr rfl, Or.inr rfl, Or.inr rfl, Or.inr rfl, Or.inr rfl, Or.inr rfl, Or.inr rfl, Or.inr rfl, Or.inr rfl, Or.inl rfl, trivial⟩ ?_
                  rw [e1] at this
                  exact this
                refine x_aload_n i_M_itemAt_195 rfl ?_
                refine x_getI i_M_itemAt_196 rfl rfl ?_
                rw [t3]
                refine x_istore (ls' := [_, _, _, _, _, _, _, _, _, _]) i_M_itemAt_199 rfl rfl ?_
                refine x_iload i_M_itemAt_201 rfl ?_
                refine x_aload_n i_M_itemAt_203 rfl ?_
                refine x_getI i_M_itemAt_204 rfl rfl ?_
                rw [u6]
                refine x_ior i_M_itemAt_207 ?_
                rw [iOr_bI]
                refine x_istore (ls' := [_, _, _, _, _, _, _, _, _, _]) i_M_itemAt_208 rfl rfl ?_
                refine x_iconst i_M_itemAt_210 ?_
                refine x_istore (ls' := [_, _, _, _, _, _, _, _, _, _]) i_M_itemAt_211 rfl rfl ?_
                refine x_aload_n i_M_itemAt_213 rfl ?_
                refine x_getI i_M_itemAt_214 rfl rfl ?_
                rw [t4]
                cases hot : ot with
                | none =>
                  refine x_iconst i_M_itemAt_217 ?_
                  refine x_icmp_eq_t i_M_itemAt_218 rfl ?_
                  refine x_goto i_M_itemAt_231 ?_
                  refine next σ2 L2 kids2 own2 T u1 (fX.rf _ _ _) (fun _ _ => rfl) rfl rfl (by omega) (by omega) hT2 (by rw [k4]; exact hk1) ?_
                  rw [eT, ← t6, hot]
                  simp
                | some x =>
                  have hx2 : cl2 x := t5 x hot
                  refine x_iconst i_M_itemAt_217 ?_
                  refine x_icmp_eq_f i_M_itemAt_218 (by simp only [oI]; omega) ?_
                  refine x_aload_n i_M_itemAt_221 rfl ?_
                  refine x_iload i_M_itemAt_222 rfl ?_
                  refine x_aload_n i_M_itemAt_224 rfl ?_
                  refine x_getI i_M_itemAt_225 rfl rfl ?_
                  rw [t4, hot]
                  refine x_cv2 i_M_itemAt_228 rfl rfl rfl ?_
                  refine c_M_adds o2.1.1 u1.2.2.2.1 (by omega) (by omega) (t := N) (c := x) (by omega) hNc2 hx2 (by rw [k4, hk1]; omega) (fun c hc => by rw [k4, hk1] at hc; exact ((u1.2.2.2.1.2.2.2 c (u1.2.2.2.1.2.2.1 c (hT2 c hc))).2.2.2 (hT2 c hc)).2) (fun σ3 own3 c1 c2 c3 c4 => ?_)
                  refine x_goto i_M_itemAt_231 ?_
                  refine next σ3 (L2 + 1) _ own3 (T ++ [x]) (u1.nodes c1 c2 (fun _ h => ⟨h, rfl⟩)) c1 (fun i hi => upK_ne (by omega)) c3 c4 (by omega) (by simp; omega) (fun c hc => ?_) (by rw [upK_eq, k4, hk1]) ?_
                  · rcases List.mem_append.mp hc with q | q
                    · exact hT2 c q
                    · rw [List.mem_singleton.mp q]; exact hx2
                  · rw [List.map_append, eT, ← t6, hot]
                    rfl
              · rw [if_pos g7] at kk
                refine x_aload_n i_M_itemAt_187 rfl ?_
                refine x_bipush i_M_itemAt_188 ?_
                refine x_putI i_M_itemAt_190 rfl rfl ?_
                refine x_iconst i_M_itemAt_193 ?_
                have x3 : mpX σ2 (sFI σ2 1142 0 (-15)) := fX_sFI ⟨by decide, by decide, rfl⟩
                have := kk _ N2 L2 tab2 cl2 kids2 own2 ⟨x2.tr x3, o2.over, z1, z2, z3, by show st.1.1 ≤ r.2.2.2.1.1; omega, fun _ => by simp [FI_sFI], fun w => absurd w (by show ¬ ((-5 : Int) ≤ -15); decide), fun w => absurd w (by show ¬ ((0 : Int) ≤ -15); decide), Or.inl (by show (-15 : Int) < -9; decide)⟩
                refine x_zret i_M_itemAt_194 rfl (by omega) ?_
                exact this
            · have h5 : r.1 = -5 := by clear o9; omega
              rw [if_pos h5] at kk
              clear o9 o8
              rw [retM_0 (by omega)]
              refine x_if_ne_f i_M_itemAt_121 rfl ?_
              have hm := hm2
              refine x_aload_n i_M_itemAt_124 rfl ?_
              refine x_getI i_M_itemAt_125 rfl rfl ?_
              rw [u6]
              have back : FI σ2 1152 0 = bI r.2.2.1 → ∀ q : RR, q.1 = -5 → q.2.2.1 = r.2.2.1 → q.2.2.2 = r.2.2.2 → PostM e Q 2 3 σ st.1.1 F N L tab cl kids p q → Ex (wp (d + 2)) m_M_itemAt Q 143 [some (vr 11 0), some (vi (i : Nat)), some (vi (p : Nat)), some (vi (pn : Nat)), some (vi (it.1.2.1 : Nat)), some (vi (N : Nat)), some (vi (p1 : Nat)), some (vi (bI cut)), some (vi (bI first)), some (vi 0)] [] σ2 := by
                intro _ q q1 q2 q3 q4
                have := q4 σ2 N2 L2 tab2 cl2 kids2 own2 ⟨x2, by rw [q3]; exact o2, z1, z2, z3, by rw [q3]; omega, fun w => by omega, fun _ => ⟨by rw [q3]; exact u1, by omega, ext, by rw [q3]; omega, by rw [q3]; omega, by rw [q2]; exact u6⟩, fun w => by omega, Or.inr (Or.inl q1)⟩
                rw [retM_0 (by omega)] at this
                refine x_iconst i_M_itemAt_143 ?_
                refine x_zret i_M_itemAt_144 rfl (by omega) ?_
                exact this
              refine x_if_ne i_M_itemAt_128 (fun g7 => ?_) (fun g7 => ?_)
              · rw [if_pos (bI_t g7)] at kk
                exact back u6 r h5 rfl rfl kk
              · have hsh := bI_f g7
                rw [if_neg (by rw [hsh]; decide)] at kk
                have bough : ¬ (decide (it.1.2.1 = 43) = true ∧ first = true) → Ex (wp (d + 2)) m_M_itemAt Q 145 [some (vr 11 0), some (vi (i : Nat)), some (vi (p : Nat)), some (vi (pn : Nat)), some (vi (it.1.2.1 : Nat)), some (vi (N : Nat)), some (vi (p1 : Nat)), some (vi (bI cut)), some (vi (bI first)), some (vi 0)] [] σ2 := by
                  intro hn
                  rw [if_neg hn, ← eT] at kk
                  have hsz : AI σ2 13 54 N = (sizeT (boughT (T.map tab2)) : Nat) := by rw [← hk1, ← k4]; exact (u1.2.2.2.1.2.2.2 N (by omega)).2.1
                  refine x_aload_n i_M_itemAt_145 rfl ?_
                  refine x_iload i_M_itemAt_146 rfl ?_
                  refine x_cv1 i_M_itemAt_148 rfl rfl rfl ?_
                  refine c_M_whole o2.1.1 (t := N) (by omega) (fun σ3 g8 g9 => ?_)
                  by_cases hbig : 2000 < sizeT (boughT (T.map tab2))
                  · rw [if_pos hbig] at kk
                    have g9 := g9 (by omega)
                    refine x_pop i_M_itemAt_151 ?_
                    refine x_aload_n i_M_itemAt_152 rfl ?_
                    refine x_getI i_M_itemAt_153 rfl rfl ?_
                    refine x_if_ne_t i_M_itemAt_156 (by rw [g9]; simp [FI_sFI]) ?_
                    refine x_iconst i_M_itemAt_176 ?_
                    have x3 : mpX σ2 σ3 := by rw [g9]; exact fX_sFI ⟨by decide, by decide, rfl⟩
                    have a2' : ∀ k a j, AI σ3 k a j = AI σ2 k a j := by intro k a j; rw [g9]; rfl
                    have r0 : RunM0 σ3 e r.2.2.2 F := by rw [g9]; exact o2.over
                    have := kk σ3 N2 L2 tab2 cl2 kids2 own2 ⟨x2.tr x3, r0, fun a j q1 q2 q3 => by rw [a2']; exact z1 a j q1 q2 q3, by rw [a2']; exact z2, by rw [g9]; exact z3, by show st.1.1 ≤ r.2.2.2.1.1; omega, fun _ => by rw [g9]; simp [FI_sFI], fun w => absurd w (by show ¬ ((-5 : Int) ≤ -19); decide), fun w => absurd w (by show ¬ ((0 : Int) ≤ -19); decide), Or.inl (by show (-19 : Int) < -9; decide)⟩
                    refine x_zret i_M_itemAt_177 rfl (by omega) ?_
                    exact this
                  · rw [if_neg hbig] at kk
                    have g8 := g8 (by omega)
                    subst g8
                    have cN : ∀ c, c ∈ T → c ≠ N := fun c hc w => hNc2 (by rw [← w]; exact hT2 c hc)
                    have hmap : T.map (upT tab2 N (boughT (T.map tab2))) = T.map tab2 := List.map_congr_left (fun c hc => upT_ne (cN c hc))
                    have n5 := u1.2.2.2.1.close (i := N) (t := boughT (T.map tab2)) (by omega) hNc2 (Or.inr (Or.inl ⟨by rw [k5]; exact hk2, by rw [k6]; exact hk3, by rw [upT_eq, k4, hk1, hmap]⟩)) (by omega)
                    have h2 : RunM σ3 e r.2.2.2 F N2 L2 (upT tab2 N (boughT (T.map tab2))) (fun j => cl2 j ∨ j = N) kids2 own2 := u1.nodes (fX.rf _ _ _) n5 (fun i hi => ⟨Or.inl hi, upT_ne (fun w => hNc2 (by rw [← w]; exact hi))⟩)
                    refine x_pop i_M_itemAt_151 ?_
                    refine x_aload_n i_M_itemAt_152 rfl ?_
                    refine x_getI i_M_itemAt_153 rfl rfl ?_
                    rw [u1.2.1]
                    refine x_if_ne_f i_M_itemAt_156 rfl ?_
                    refine x_aload_n i_M_itemAt_159 rfl ?_
                    refine x_iload i_M_itemAt_160 rfl ?_
                    refine x_iload i_M_itemAt_162 rfl ?_
                    refine x_iload i_M_itemAt_164 rfl ?_
                    refine x_cv3 i_M_itemAt_166 rfl rfl rfl ?_
                    refine c_M_done hcut ?_
                    have y := psX3 σ3 (p1 : Nat) (N : Nat) (bI cut)
                    have := kk _ N2 L2 _ _ kids2 own2 ⟨x2.tr (psX_mp y), (h2.set y).1, fun a j q1 q2 q3 => by rw [psX_ai y]; exact z1 a j q1 q2 q3, by rw [psX_ai y]; exact z2, z3, by show st.1.1 ≤ r.2.2.2.1.1; omega, fun w => absurd w (by show ¬ ((p1 : Nat) : Int) < -5; omega), fun _ => ⟨h2.set y, by omega, fun i hi => by
                      obtain ⟨q1, q2, q3, q4, q5, q6⟩ := ext i hi
                      exact ⟨by rw [upT_ne (by omega)]; exact q1, fun w => Or.inl (q2 w), fun w => q3 (w.resolve_right (by omega)), q4, by rw [psX_ai y]; exact q5, by rw [psX_ai y]; exact q6⟩, by show N2 + 2 + 4 * st.1.1 ≤ N + 4 * r.2.2.2.1.1; omega, by show L2 + 3 + 3 * st.1.1 ≤ L + 3 * r.2.2.2.1.1; omega, by simp [FI_sFI]⟩, fun _ => ⟨by show (p : Int) ≤ (p1 : Int); omega, by show (p1 : Int) ≤ _; omega, by simp [FI_sFI], some N, by simp [FI_sFI, oI], fun i hi => by injection hi with hi; exact Or.inr hi.symm, by simp [upT_eq]⟩, Or.inr (Or.inr (by show 0 ≤ (p1 : Int); omega))⟩
                    rw [retM_1 (by show 0 ≤ (p1 : Int); omega)] at this
                    refine x_if_eq_f i_M_itemAt_169 (by decide) ?_
                    refine x_iconst i_M_itemAt_172 ?_
                    refine x_goto i_M_itemAt_173 ?_
                    refine x_zret i_M_itemAt_177 rfl (by omega) ?_
                    exact this
                refine x_iload i_M_itemAt_131 rfl ?_
                refine x_bipush i_M_itemAt_133 ?_
                refine x_icmp_ne i_M_itemAt_135 (fun g8 => ?_) (fun g8 => ?_)
                · exact bough (fun w => g8 (by have := of_decide_eq_true w.1; omega))
                · refine x_iload i_M_itemAt_138 rfl ?_
                  refine x_if_eq i_M_itemAt_140 (fun g9 => ?_) (fun g9 => ?_)
                  · exact bough (fun w => by rw [w.2] at g9; exact absurd g9 (by decide))
                  · rw [if_pos ⟨decide_eq_true (by omega), bI_t g9⟩] at kk
                    exact back u6 (-5, none, false, r.2.2.2) rfl hsh.symm rfl kk
      refine x_aload_n i_M_itemAt_84 rfl ?_
      refine x_iconst i_M_itemAt_85 ?_
      refine x_iconst i_M_itemAt_86 ?_
      refine x_cv2 i_M_itemAt_87 rfl rfl rfl ?_
      refine c_M_makes hmr a4 (by omega) (fun σ1 x1 n1 g4 g5 g6 => ?_)
      have ai : ∀ a j, a < 52 → AI σ1 13 a j = AI σ 13 a j := fun a j h => x1.2.2.1 _ _ _ (fun q => by have := q.2.1; omega)
      refine x_istore (ls' := [_, _, _, _, _, _, _, _, _, _]) i_M_itemAt_90 rfl rfl ?_
      refine x_iload_n i_M_itemAt_92 rfl ?_
      refine x_istore (ls' := [_, _, _, _, _, _, _, _, _, _]) i_M_itemAt_93 rfl rfl ?_
      refine x_iconst i_M_itemAt_95 ?_
      refine x_istore (ls' := [_, _, _, _, _, _, _, _, _, _]) i_M_itemAt_96 rfl rfl ?_
      refine x_iconst i_M_itemAt_98 ?_
      refine x_istore (ls' := [_, _, _, _, _, _, _, _, _, _]) i_M_itemAt_99 rfl rfl ?_
      exact loop 1001 σ1 st (N + 1) L tab cl _ own [] p 0 false true rfl (h.nodes x1 n1 (fun i hi => ⟨hi, rfl⟩)) (ndX_mp x1) (Nat.le_refl _) hp (fun a j _ h _ => ai a j (by omega)) (ai _ _ (by decide)) (x1.1 _ _ (fun q => by rcases q.1 with w | w <;> omega)) (by omega) (fun i hi => ⟨rfl, id, id, upK_ne (by omega), g6 _ _ (by omega), g6 _ _ (by omega)⟩) (by omega) (by omega) (by omega) (Nat.le_refl _) (fun i hi => by cases hi) hNc (upK_eq _ _ _) g4 g5 kk
    · have h63 : it.1.2.1 = 63 := by omega
      unfold itemE at kk
      rw [if_neg (by omega), if_pos h63] at kk
      simp only [] at kk
      refine x_aload_n i_M_itemAt_34 rfl ?_
      refine x_iload_n i_M_itemAt_35 rfl ?_
      refine x_iload_n i_M_itemAt_36 rfl ?_
      refine x_cv2 i_M_itemAt_37 rfl rfl rfl ?_
      refine hf it pn _ σ st F N L tab cl kids own p h hpr hp hF hde hat (by omega) hL ?_
      intro σ2 N2 L2 tab2 cl2 kids2 own2 ho
      generalize f it p st = r at ho kk
      have hw := ho.weak (c1' := 2) (c2' := 3) (by decide) (by decide)
      obtain ⟨o1, o2, o3, o4, o5, o6, o7, o8, o9, o10⟩ := id ho
      refine x_istore (ls' := [_, _, _, _, _, _, _, _, _, _]) i_M_itemAt_40 rfl rfl ?_
      refine x_aload_n i_M_itemAt_42 rfl ?_
      refine x_getI i_M_itemAt_43 rfl rfl ?_
      by_cases he : r.1 < -5
      · rw [if_neg (fun w => by omega)] at kk
        have := kk σ2 N2 L2 tab2 cl2 kids2 own2 hw
        rw [retM_0 (by omega)] at this
        rw [o7 he]
        refine x_if_eq_f i_M_itemAt_46 (by omega) ?_
        refine x_iconst i_M_itemAt_49 ?_
        refine x_zret i_M_itemAt_50 rfl (by omega) ?_
        exact this
      · obtain ⟨u1, u2, u3, u4, u5, u6⟩ := o8 (by omega)
        rw [u1.2.1]
        refine x_if_eq_t i_M_itemAt_46 rfl ?_
        refine x_iload i_M_itemAt_51 rfl ?_
        by_cases h0 : 0 ≤ r.1
        · rw [if_neg (fun w => by omega)] at kk
          have := kk σ2 N2 L2 tab2 cl2 kids2 own2 hw
          rw [retM_1 h0] at this ⊢
          refine x_if_ne_t i_M_itemAt_53 (by decide) ?_
          refine x_iconst i_M_itemAt_78 ?_
          refine x_goto i_M_itemAt_79 ?_
          refine x_zret i_M_itemAt_83 rfl (by omega) ?_
          exact this
        · have h5 : r.1 = -5 := by clear o9; omega
          clear o9 o8
          have hs2 : r.2.2.2.1.1 ≤ 1000 := o2.2.1.2.2.2.1
          rw [retM_0 (by omega)]
          refine x_if_ne_f i_M_itemAt_53 rfl ?_
          refine x_aload_n i_M_itemAt_56 rfl ?_
          refine x_getI i_M_itemAt_57 rfl rfl ?_
          rw [u6]
          cases hb : r.2.2.1 with
          | true =>
            rw [if_neg (fun w => by rw [hb] at w; cases w.2)] at kk
            have := kk σ2 N2 L2 tab2 cl2 kids2 own2 hw
            rw [retM_0 (by omega)] at this
            refine x_if_ne_t i_M_itemAt_60 (by decide) ?_
            refine x_iconst i_M_itemAt_82 ?_
            refine x_zret i_M_itemAt_83 rfl (by omega) ?_
            exact this
          | false =>
            rw [if_pos ⟨h5, hb⟩] at kk
            have hNc : ¬ cl2 N2 := fun w => by have := u1.2.2.2.1.2.2.1 N2 w; omega
            refine x_if_ne_f i_M_itemAt_60 rfl ?_
            refine x_aload_n i_M_itemAt_63 rfl ?_
            refine x_iload_n i_M_itemAt_64 rfl ?_
            refine x_aload_n i_M_itemAt_65 rfl ?_
            refine x_iconst i_M_itemAt_66 ?_
            refine x_iconst i_M_itemAt_67 ?_
            refine x_cv2 i_M_itemAt_68 rfl rfl rfl ?_
            refine c_M_makes o2.1.1 u1.2.2.2.1 (by omega) (fun σ3 x1 n1 g1 g2 g3 => ?_)
            have n2 := n1.close (i := N2) (t := boughT []) (by omega) hNc (Or.inr (Or.inl ⟨g1, g2, by rw [upT_eq, upK_eq]; rfl⟩)) (by show 1 ≤ 2000; decide)
            have h3 := u1.nodes x1 n2 (fun i hi => ⟨Or.inl hi, upT_ne (fun w => hNc (by rw [← w]; exact hi))⟩)
            have ai : ∀ a j, a < 52 → AI σ3 13 a j = AI σ2 13 a j := fun a j h => x1.2.2.1 _ _ _ (fun q => by have := q.2.1; omega)
            have f5 : FI σ3 1145 0 = FI σ2 1145 0 := x1.1 _ _ (fun q => by rcases q.1 with w | w <;> omega)
            refine x_iconst i_M_itemAt_71 ?_
            refine x_cv3 i_M_itemAt_72 rfl rfl rfl ?_
            refine c_M_done (Or.inl rfl) ?_
            have y := psX3 σ3 (p : Nat) (N2 : Nat) 0
            have := kk _ (N2 + 1) L2 _ _ _ own2 ⟨(o1.tr (ndX_mp x1)).tr (psX_mp y), (h3.set y).1, fun a j q1 q2 q3 => by rw [psX_ai y, ai a j (by omega)]; exact o3 a j q1 q2 q3, by rw [psX_ai y, ai _ _ (by decide)]; exact o4, f5.trans o5, o6, fun w => absurd w (by show ¬ ((p : Nat) : Int) < -5; omega), fun _ => ⟨h3.set y, by omega, fun i hi => by
              obtain ⟨q1, q2, q3, q4, q5, q6⟩ := u3 i hi
              exact ⟨by rw [upT_ne (by omega)]; exact q1, fun w => Or.inl (q2 w), fun w => q3 (w.resolve_right (by omega)), by rw [upK_ne (by omega)]; exact q4, by rw [psX_ai y, g3 _ _ (by omega)]; exact q5, by rw [psX_ai y, g3 _ _ (by omega)]; exact q6⟩, by show N2 + 1 + 2 + 4 * st.1.1 ≤ N + 4 * r.2.2.2.1.1; omega, by show L2 + 3 + 3 * st.1.1 ≤ L + 3 * r.2.2.2.1.1; omega, by simp [FI_sFI, bI]⟩, fun _ => ⟨Int.le_refl _, by show (p : Int) ≤ _; omega, by simp [FI_sFI], some N2, by simp [FI_sFI, oI], fun i hi => by injection hi with hi; exact Or.inr hi.symm, by simp [upT_eq]⟩, Or.inr (Or.inr (by show 0 ≤ (p : Int); omega))⟩
            rw [retM_1 (by show 0 ≤ (p : Int); omega)] at this
            refine x_if_eq_f i_M_itemAt_75 (by decide) ?_
            refine x_iconst i_M_itemAt_78 ?_
            refine x_goto i_M_itemAt_79 ?_
            refine x_zret i_M_itemAt_83 rfl (by omega) ?_
            exact this
  · have h00 : it.1.2.1 = 0 := by omega
    unfold itemE at kk
    rw [if_pos h00] at kk
    refine x_aload_n i_M_itemAt_20 rfl ?_
    refine x_iload_n i_M_itemAt_21 rfl ?_
    refine x_iload_n i_M_itemAt_22 rfl ?_
    refine x_cv2 i_M_itemAt_23 rfl rfl rfl ?_
    refine hf it pn _ σ st F N L tab cl kids own p h hpr hp hF hde hat (by omega) hL ?_
    intro σ2 N2 L2 tab2 cl2 kids2 own2 ho
    have := kk σ2 N2 L2 tab2 cl2 kids2 own2 (ho.weak (by decide) (by decide))
    refine x_zret i_M_itemAt_26 rfl (by unfold retM; split <;> omega) ?_
    exact this
end


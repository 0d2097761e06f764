/-! THE MODEL: sequences -/
theorem iOr_bI (a b : Bool) : iOr (bI a) (bI b) = bI (a || b) := by
  cases a <;> cases b <;> decide
def ItM (e : EM) (d dep n : Nat) (g : Item (PT n) → Nat → ES → RR) : Prop := ∀ (it : Item (PT n)) (i : Nat) (Q : AQ) (σ : AS) (st : ES) (F N L : Nat) (tab : Nat → TT) (cl : Nat → Prop) (kids : Nat → List Nat) (own : Nat → Nat) (p : Nat), RunM σ e st F N L tab cl kids own → itmM σ n it i → p ≤ e.1.2 → F ≤ dep → FI σ 1145 0 = (dep : Int) → AI σ 13 48 F ≤ (p : Int) → N ≤ 4 * st.1.1 + dep → L ≤ 3 * st.1.1 → PostM e Q 2 3 σ st.1.1 F N L tab cl kids p (g it p st) → wp d m_M_itemAt [vr 11 0, vi (i : Nat), vi (p : Nat)] σ Q
theorem RunM0.over {e : EM} {σ : AS} {st : ES} {F : Nat} {v : Int} (h : RunM0 σ e st F) : RunM0 (sFI σ 1142 0 v) e st F := by
  obtain ⟨b1, b2, b3, b4⟩ := h
  have x : mpX σ (sFI σ 1142 0 v) := fX_sFI ⟨by decide, by decide, rfl⟩
  exact ⟨b1.run x, b2.same (fun f h1 h2 h3 => by rw [FI_sFI, if_neg (by omega)]), b3, b4⟩
/-- what a SEQ holds: none, one, or a bough that grows -/
def bouM (σ : AS) (N0 N : Nat) (cl : Nat → Prop) (kids : Nat → List Nat) (T : List Nat) (b : Int) : Prop := (T.length ≤ 1 ∧ b = -1) ∨ (2 ≤ T.length ∧ ∃ B : Nat, b = (B : Int) ∧ N0 ≤ B ∧ B < N ∧ ¬ cl B ∧ kids B = T ∧ AI σ 13 52 B = 1 ∧ AI σ 13 53 B = 0)
def two (T : List Nat) : Nat := if 2 ≤ T.length then 1 else 0
def manyT (T : List Nat) : Nat := if 2 ≤ T.length then T.length else 0
theorem mapT_cl {cl : Nat → Prop} {tab tab' : Nat → TT} {T : List Nat} (hT : ∀ i ∈ T, cl i) (h : ∀ j, cl j → tab' j = tab j) : T.map tab' = T.map tab := List.map_congr_left (fun i hi => h i (hT i hi))
theorem mapO_cl {cl : Nat → Prop} {tab tab' : Nat → TT} {o : Option Nat} (hT : ∀ i, o = some i → cl i) (h : ∀ j, cl j → tab' j = tab j) : o.map tab' = o.map tab := by
  cases o with
  | none => rfl
  | some i => simp only [Option.map_some]; rw [h i (hT i rfl)]
section
variable {d : Nat} {Q : AQ} {e : EM} {σ : AS} {st : ES} {F N L : Nat} {tab : Nat → TT} {cl : Nat → Prop} {kids : Nat → List Nat} {own : Nat → Nat}
theorem c_M_seqAt {dep n : Nat} (hdep : dep ≤ 70) {g : Item (PT n) → Nat → ES → RR} (hg : ItM e (d + 2) dep n g) {s : List (Item (PT n))} {k : Nat} {p : Nat} (h : RunM σ e st F N L tab cl kids own) (hs : sqM σ n s k) (hp : p ≤ e.1.2) (hF : F ≤ dep) (hde : FI σ 1145 0 = (dep : Int)) (hat : AI σ 13 48 F ≤ (p : Int)) (hN : N ≤ 4 * st.1.1 + dep) (hL : L ≤ 3 * st.1.1) (kk : PostM e Q 2 2 σ st.1.1 F N L tab cl kids p (seqE g justI s p false [] none st)) : wp (d + 3) m_M_seqAt [vr 11 0, vi (k : Nat), vi (p : Nat)] σ Q := by
  have loop : ∀ (s : List (Item (PT n))) (v : Int) (σ1 : AS) (st1 : ES) (N1 L1 : Nat) (tab1 : Nat → TT) (cl1 : Nat → Prop) (kids1 : Nat → List Nat) (own1 : Nat → Nat) (T : List Nat) (oq : Option Nat) (cut : Bool) (p1 m : Nat) (b : Int), RunM σ1 e st1 F N1 L1 tab1 cl1 kids1 own1 → mpX σ σ1 → itsM σ1 n s v → p ≤ p1 → p1 ≤ e.1.2 → (∀ a j, 48 ≤ a → a ≤ 51 → j < F → AI σ1 13 a j = AI σ 13 a j) → AI σ1 13 48 F = AI σ 13 48 F → FI σ1 1145 0 = FI σ 1145 0 → N ≤ N1 → (∀ i, i < N → tab1 i = tab i ∧ (cl i → cl1 i) ∧ (cl1 i → cl i) ∧ kids1 i = kids i ∧ AI σ1 13 52 i = AI σ 13 52 i ∧ AI σ1 13 53 i = AI σ 13 53 i) → st.1.1 ≤ st1.1.1 → N1 + 2 * m + 4 * st.1.1 ≤ N + 4 * st1.1.1 + two T → L1 + 3 * m + 3 * st.1.1 ≤ L + 3 * st1.1.1 + manyT T → T.length ≤ m → (s = [] → 1 ≤ m) → (∀ i, i ∈ T → cl1 i) → (∀ i, oq = some i → cl1 i) → bouM σ1 N N1 cl1 kids1 T b → PostM e Q 2 2 σ st.1.1 F N L tab cl kids p (seqE g justI s p1 cut (T.map tab1) (oq.map tab1) st1) → Ex (wp (d + 2)) m_M_seqAt Q 22 [some (vr 11 0), some (vi (k : Nat)), some (vi (p : Nat)), some (vi (p1 : Nat)), some (vi (bI cut)), some (vi (oI oq)), some (vi b), some (vi (oI T.head?)), some (vi v), none, none] [] σ1 := by
    intro s
    induction s with
    | nil =>
      intro v σ1 st1 N1 L1 tab1 cl1 kids1 own1 T oq cut p1 m b h1 x1 hs hpp hp1 y1 y2 y3 hN1 ht hst b1 b2 b3 b4 hT hoq hb kk
      have hv : v = -1 := hs
      subst hv
      have b4 := b4 rfl
      simp only [seqE] at kk
      obtain ⟨⟨⟨hmr, -, -, -, -, hz, -, -⟩, hcn, -⟩, a2, a3, a4, a5⟩ := id h1
      obtain ⟨hm, hl, -⟩ := id hmr
      have hcut := bI_01 cut
      have hst1 : st1.1.1 ≤ 1000 := hcn.2.2.2.1
      -- the end
      have fin : ∀ (σ2 : AS) (o : Option Nat) (tab2 : Nat → TT) (cl2 : Nat → Prop) (x8 x10 x9 : Option AV), RunM σ2 e st1 F N1 L1 tab2 cl2 kids1 own1 → σ2 = σ1 → (∀ i, i < N → tab2 i = tab i ∧ (cl i → cl2 i) ∧ (cl2 i → cl i) ∧ kids1 i = kids i ∧ AI σ1 13 52 i = AI σ 13 52 i ∧ AI σ1 13 53 i = AI σ 13 53 i) → (∀ i, o = some i → cl2 i) → N1 + 2 + 4 * st.1.1 ≤ N + 4 * st1.1.1 → L1 + 2 + 3 * st.1.1 ≤ L + 3 * st1.1.1 → PostM e Q 2 2 σ st.1.1 F N L tab cl kids p ((p1 : Int), o.map tab2, cut, st1) → Ex (wp (d + 2)) m_M_seqAt Q 231 [some (vr 11 0), some (vi (k : Nat)), some (vi (p : Nat)), some (vi (p1 : Nat)), some (vi (bI cut)), some (vi (oI oq)), some (vi b), some (vi (oI T.head?)), x8, x9, x10] [vi (oI o)] σ2 := by
        intro σ2 o tab2 cl2 x8 x10 x9 z1 z2 z3 z4 z5 z6 z7
        subst z2
        refine x_istore (ls' := [_, _, _, _, _, _, _, _, _, _, _]) i_M_seqAt_231 rfl rfl ?_
        refine x_aload_n i_M_seqAt_233 rfl ?_
        refine x_getI i_M_seqAt_234 rfl rfl ?_
        rw [a2]
        refine x_if_ne_f i_M_seqAt_237 rfl ?_
        refine x_aload_n i_M_seqAt_240 rfl ?_
        refine x_iload_n i_M_seqAt_241 rfl ?_
        refine x_iload i_M_seqAt_242 rfl ?_
        refine x_iload i_M_seqAt_244 rfl ?_
        refine x_cv3 i_M_seqAt_246 rfl rfl rfl ?_
        refine c_M_done hcut ?_
        have z := psX3 σ2 (p1 : Nat) (oI o) (bI cut)
        have := z7 _ N1 L1 tab2 cl2 kids1 own1 ⟨x1.tr (psX_mp z), (z1.set z).1, fun a j w1 w2 w3 => by rw [psX_ai z]; exact y1 a j w1 w2 w3, by rw [psX_ai z]; exact y2, y3, hst, fun w => absurd w (by show ¬ ((p1 : Int) < -5); omega), fun _ => ⟨z1.set z, hN1, fun i hi => by rw [psX_ai z, psX_ai z]; exact z3 i hi, z5, z6, by simp [FI_sFI]⟩, fun _ => ⟨by show (p : Int) ≤ (p1 : Int); omega, by show (p1 : Int) ≤ _; omega, by simp [FI_sFI], o, by simp [FI_sFI], z4, rfl⟩, Or.inr (Or.inr (by show 0 ≤ (p1 : Int); omega))⟩
        rw [retM_1 (by show 0 ≤ (p1 : Int); omega)] at this
        refine x_if_eq_f i_M_seqAt_249 (by decide) ?_
        refine x_iconst i_M_seqAt_252 ?_
        refine x_goto i_M_seqAt_253 ?_
        refine x_zret i_M_seqAt_257 rfl (by omega) ?_
        exact this
      refine x_iload i_M_seqAt_22 rfl ?_
      refine x_iconst i_M_seqAt_24 ?_
      refine x_icmp_eq_t i_M_seqAt_25 rfl ?_
      refine x_iload i_M_seqAt_203 rfl ?_
      refine x_iconst i_M_seqAt_205 ?_
      rcases hb with ⟨w1, w2⟩ | ⟨w1, B, w2, w3, w4, w5, w6, w7, w8⟩
      · subst w2
        have e2 : two T = 0 := if_neg (by omega)
        have e3 : manyT T = 0 := if_neg (by omega)
        refine x_icmp_eq_t i_M_seqAt_206 rfl ?_
        refine x_iload i_M_seqAt_218 rfl ?_
        refine x_iconst i_M_seqAt_220 ?_
        match T, w1, kk, hT, fin with
        | [], _, kk, _, fin =>
          refine x_icmp_eq_t i_M_seqAt_221 rfl ?_
          refine x_iload i_M_seqAt_229 rfl ?_
          exact fin σ1 oq tab1 cl1 _ _ _ h1 rfl ht hoq (by omega) (by omega) kk
        | [x], _, kk, hT, fin =>
          refine x_icmp_eq_f i_M_seqAt_221 (by simp only [List.head?_cons, oI]; omega) ?_
          refine x_iload i_M_seqAt_224 rfl ?_
          refine x_goto i_M_seqAt_226 ?_
          exact fin σ1 (some x) tab1 cl1 _ _ _ h1 rfl ht (fun i hi => by injection hi with hi; subst hi; exact hT _ (by simp)) (by omega) (by omega) kk
      · subst w2
        have e2 : two T = 1 := if_pos w1
        have e3 : manyT T = T.length := if_pos w1
        obtain ⟨n1, n2, n3, n4⟩ := id a4
        obtain ⟨m1, m2, m3, m4⟩ := n4 B w4
        rw [w6] at m2
        rw [joinE_many (by rw [List.length_map]; exact w1)] at kk
        refine x_icmp_eq_f i_M_seqAt_206 (by omega) ?_
        refine x_aload_n i_M_seqAt_209 rfl ?_
        refine x_iload i_M_seqAt_210 rfl ?_
        refine x_cv1 i_M_seqAt_212 rfl rfl rfl ?_
        refine c_M_whole hmr (by omega) (fun σ2 g1 g2 => ?_)
        by_cases hbig : 2000 < sizeT (boughT (T.map tab1))
        · rw [if_pos hbig] at kk
          have g2 := g2 (by omega)
          refine x_goto i_M_seqAt_215 ?_
          refine x_istore (ls' := [_, _, _, _, _, _, _, _, _, _, _]) i_M_seqAt_231 rfl rfl ?_
          refine x_aload_n i_M_seqAt_233 rfl ?_
          refine x_getI i_M_seqAt_234 rfl rfl ?_
          refine x_if_ne_t i_M_seqAt_237 (by rw [g2]; simp [FI_sFI]) ?_
          refine x_iconst i_M_seqAt_256 ?_
          have x2 : fX mpF mpA σ1 σ2 := by rw [g2]; exact fX_sFI ⟨by decide, by decide, rfl⟩
          have a2' : ∀ k a j, AI σ2 k a j = AI σ1 k a j := by intro k a j; rw [g2]; rfl
          have r0 : RunM0 σ2 e st1 F := by rw [g2]; exact h1.1.over
          have := kk σ2 N1 L1 tab1 cl1 kids1 own1 ⟨x1.tr x2, r0, fun a j q1 q2 q3 => by rw [a2']; exact y1 a j q1 q2 q3, by rw [a2']; exact y2, by rw [g2]; exact y3, hst, fun _ => by rw [g2]; simp [FI_sFI], fun w => absurd w (by show ¬ ((-5 : Int) ≤ -19); decide), fun w => absurd w (by show ¬ ((0 : Int) ≤ -19); decide), Or.inl (by show (-19 : Int) < -9; decide)⟩
          refine x_zret i_M_seqAt_257 rfl (by omega) ?_
          exact this
        · rw [if_neg hbig] at kk
          have g1 := g1 (by omega)
          subst g1
          refine x_goto i_M_seqAt_215 ?_
          have cB : ∀ c, c ∈ T → c ≠ B := fun c hc w => w5 (by rw [← w]; exact hT c hc)
          have hmap : T.map (upT tab1 B (boughT (T.map tab1))) = T.map tab1 := List.map_congr_left (fun c hc => upT_ne (cB c hc))
          have n5 := a4.close (i := B) (t := boughT (T.map tab1)) w4 w5 (Or.inr (Or.inl ⟨w7, w8, by rw [upT_eq, w6, hmap]⟩)) (by omega)
          have h2 : RunM σ2 e st1 F N1 L1 (upT tab1 B (boughT (T.map tab1))) (fun j => cl1 j ∨ j = B) kids1 own1 := h1.nodes (fX.rf _ _ _) n5 (fun i hi => ⟨Or.inl hi, upT_ne (fun w => w5 (by rw [← w]; exact hi))⟩)
          exact fin σ2 (some B) _ _ _ _ _ h2 rfl (fun i hi => by
            obtain ⟨q1, q2, q3, q4, q5⟩ := ht i hi
            exact ⟨by rw [upT_ne (by omega)]; exact q1, fun w => Or.inl (q2 w), fun w => q3 (w.resolve_right (by omega)), q4, q5⟩) (fun i hi => by injection hi with hi; exact Or.inr hi.symm) (by omega) (by omega) (by rw [show (some B).map (upT tab1 B (boughT (T.map tab1))) = some (boughT (T.map tab1)) by simp [upT_eq]]; exact kk)
    | cons it s ih =>
      intro v σ1 st1 N1 L1 tab1 cl1 kids1 own1 T oq cut p1 m b h1 x1 hs hpp hp1 y1 y2 y3 hN1 ht hst b1 b2 b3 b4 hT hoq hb kk
      obtain ⟨i, rfl, s2, s3⟩ := hs
      have hcut := bI_01 cut
      have htwo : two T ≤ 1 := by unfold two; split <;> omega
      have hmany : manyT T ≤ m := by unfold manyT; split <;> omega
      have htm : two T ≤ m := by unfold two; split <;> omega
      have hst1 : st1.1.1 ≤ 1000 := h1.1.2.1.2.2.2.1
      have hi260 : i < 260 := s2.1
      simp only [seqE] at kk
      refine x_iload i_M_seqAt_22 rfl ?_
      refine x_iconst i_M_seqAt_24 ?_
      refine x_icmp_eq_f i_M_seqAt_25 (by omega) ?_
      refine x_aload_n i_M_seqAt_28 rfl ?_
      refine x_iload i_M_seqAt_29 rfl ?_
      refine x_iload_n i_M_seqAt_31 rfl ?_
      refine x_cv2 i_M_seqAt_32 rfl rfl rfl ?_
      refine hg it i _ σ1 st1 F N1 L1 tab1 cl1 kids1 own1 p1 h1 s2 hp1 hF (by rw [y3]; exact hde) (by rw [y2]; omega) (by omega) (by omega) ?_
      intro σ2 N2 L2 tab2 cl2 kids2 own2 ho
      generalize g it p1 st1 = r at ho kk
      obtain ⟨o1, o2, o3, o4, o5, o6, o7, o8, o9, o10⟩ := id ho
      have hm : mFld σ2 := o2.1.1.1
      have hl : mLns σ2 := o2.1.1.2.1
      have z1 : ∀ a j, 48 ≤ a → a ≤ 51 → j < F → AI σ2 13 a j = AI σ 13 a j := fun a j w1 w2 w3 => by rw [o3 a j w1 w2 w3, y1 a j w1 w2 w3]
      have z2 : AI σ2 13 48 F = AI σ 13 48 F := o4.trans y2
      have z3 : FI σ2 1145 0 = FI σ 1145 0 := o5.trans y3
      refine x_istore (ls' := [_, _, _, _, _, _, _, _, _, _, _]) i_M_seqAt_35 rfl rfl ?_
      refine x_aload_n i_M_seqAt_37 rfl ?_
      refine x_getI i_M_seqAt_38 rfl rfl ?_
      by_cases he : r.1 < -5
      · rw [if_pos (by omega)] at kk
        have := kk σ2 N2 L2 tab2 cl2 kids2 own2 ⟨x1.tr o1, o2, z1, z2, z3, by show st.1.1 ≤ r.2.2.2.1.1; omega, o7, fun w => absurd w (by show ¬ -5 ≤ r.1; omega), fun w => absurd w (by show ¬ 0 ≤ r.1; omega), o10⟩
        rw [retM_0 (by show r.1 < 0; omega)] at this
        rw [o7 he]
        refine x_if_eq_f i_M_seqAt_41 (by omega) ?_
        refine x_iconst i_M_seqAt_44 ?_
        refine x_zret i_M_seqAt_45 rfl (by omega) ?_
        exact this
      · obtain ⟨u1, u2, u3, u4, u5, u6⟩ := o8 (by omega)
        have ext : ∀ i, i < N → tab2 i = tab i ∧ (cl i → cl2 i) ∧ (cl2 i → cl i) ∧ kids2 i = kids i ∧ AI σ2 13 52 i = AI σ 13 52 i ∧ AI σ2 13 53 i = AI σ 13 53 i := fun i hi => by
          obtain ⟨q1, q2, q3, q4, q5, q6⟩ := u3 i (by omega)
          obtain ⟨t1, t2, t3, t4, t5, t6⟩ := ht i hi
          exact ⟨by rw [q1, t1], fun w => q2 (t2 w), fun w => t3 (q3 w), by rw [q4, t4], by rw [q5, t5], by rw [q6, t6]⟩
        have cl12 : ∀ j, cl1 j → cl2 j ∧ tab2 j = tab1 j := fun j hj => ⟨(u3 j (h1.2.2.2.1.2.2.1 j hj)).2.1 hj, (u3 j (h1.2.2.2.1.2.2.1 j hj)).1⟩
        rw [u1.2.1]
        refine x_if_eq_t i_M_seqAt_41 rfl ?_
        refine x_iload i_M_seqAt_46 rfl ?_
        by_cases h0 : 0 ≤ r.1
        · rw [if_neg (by omega)] at kk
          have e1 : ((r.1.toNat : Nat) : Int) = r.1 := by omega
          obtain ⟨t1, t2, t3, ot, t4, t5, t6⟩ := o9 h0
          clear o9 o8
          have s2' := itmM.run o1 s2
          obtain ⟨j1, j2, j3, j4, pn, j5, j6, j7, -⟩ := id s2'
          rw [retM_1 h0]
          refine x_if_ne_t i_M_seqAt_48 (by decide) ?_
          refine x_aload_n i_M_seqAt_73 rfl ?_
          refine x_getI i_M_seqAt_74 rfl rfl ?_
          rw [t3]
          refine x_istore_n (ls' := [_, _, _, _, _, _, _, _, _, _, _]) i_M_seqAt_77 rfl rfl ?_
          refine x_iload i_M_seqAt_78 rfl ?_
          refine x_aload_n i_M_seqAt_80 rfl ?_
          refine x_getI i_M_seqAt_81 rfl rfl ?_
          rw [u6]
          refine x_ior i_M_seqAt_84 ?_
          rw [iOr_bI]
          refine x_istore (ls' := [_, _, _, _, _, _, _, _, _, _, _]) i_M_seqAt_85 rfl rfl ?_
          refine x_aload_n i_M_seqAt_87 rfl ?_
          refine x_getI i_M_seqAt_88 rfl rfl ?_
          rw [t4]
          have next : ∀ (σ3 : AS) (N3 L3 : Nat) (kids3 : Nat → List Nat) (own3 : Nat → Nat) (T3 : List Nat) (oq3 : Option Nat) (b3 : Int), RunM σ3 e r.2.2.2 F N3 L3 tab2 cl2 kids3 own3 → fX ndF ndA σ2 σ3 → N2 ≤ N3 → (∀ i, i < N → kids3 i = kids2 i ∧ AI σ3 13 52 i = AI σ2 13 52 i ∧ AI σ3 13 53 i = AI σ2 13 53 i) → N3 + 2 * (m + 1) + 4 * st.1.1 ≤ N + 4 * r.2.2.2.1.1 + two T3 → L3 + 3 * (m + 1) + 3 * st.1.1 ≤ L + 3 * r.2.2.2.1.1 + manyT T3 → T3.length ≤ m + 1 → (∀ i, i ∈ T3 → cl2 i) → (∀ i, oq3 = some i → cl2 i) → bouM σ3 N N3 cl2 kids3 T3 b3 → PostM e Q 2 2 σ st.1.1 F N L tab cl kids p (seqE g justI s r.1.toNat (cut || r.2.2.1) (T3.map tab2) (oq3.map tab2) r.2.2.2) → Ex (wp (d + 2)) m_M_seqAt Q 191 [some (vr 11 0), some (vi (k : Nat)), some (vi (p : Nat)), some (vi r.1), some (vi (bI (cut || r.2.2.1))), some (vi (oI oq3)), some (vi b3), some (vi (oI T3.head?)), some (vi (i : Nat)), some (vi 1), some (vi (oI ot))] [] σ3 := by
            intro σ3 N3 L3 kids3 own3 T3 oq3 b3 w1 w2 w3 w4 w5 w6 w7 w8 w9 w10 w11
            have x3 : mpX σ1 σ3 := o1.tr (ndX_mp w2)
            have ai : ∀ a j, a < 52 → AI σ3 13 a j = AI σ2 13 a j := fun a j h => w2.2.2.1 _ _ _ (fun q => by have := q.2.1; omega)
            have f5 : FI σ3 1145 0 = FI σ2 1145 0 := w2.1 _ _ (fun q => by rcases q.1 with w | w <;> omega)
            have := ih (AI σ3 13 32 i) σ3 r.2.2.2 N3 L3 tab2 cl2 kids3 own3 T3 oq3 (cut || r.2.2.1) r.1.toNat (m + 1) b3 w1 (x1.tr x3) (by rw [x3.lo (by decide)]; exact itsM.run x3 s3) (by omega) (by omega) (fun a j q1 q2 q3 => by rw [ai a j (by omega)]; exact z1 a j q1 q2 q3) (by rw [ai _ _ (by decide)]; exact z2) (by rw [f5]; exact z3) (by omega) (fun i hi => by
              obtain ⟨q1, q2, q3, q4, q5, q6⟩ := ext i hi
              obtain ⟨t1, t2, t3⟩ := w4 i hi
              exact ⟨q1, q2, q3, by rw [t1]; exact q4, by rw [t2]; exact q5, by rw [t3]; exact q6⟩) (by omega) w5 w6 w7 (fun _ => by omega) w8 w9 w10 w11
            have hm : mFld σ3 := w1.1.1.1.1
            have hl : mLns σ3 := w1.1.1.1.2.1
            refine x_aload_n i_M_seqAt_191 rfl ?_
            refine x_getR (c2 := 13) i_M_seqAt_192 rfl rfl (hm _ _ rfl) ?_
            refine x_iload i_M_seqAt_195 rfl ?_
            refine x_iaload i_M_seqAt_197 rfl (lt_len hl rfl hi260) ?_
            refine x_istore (ls' := [_, _, _, _, _, _, _, _, _, _, _]) i_M_seqAt_198 rfl rfl ?_
            refine x_goto i_M_seqAt_200 ?_
            refine Ex.weak (ls := [_, _, _, _, _, _, _, _, _, none, none]) ⟨Or.inr rfl, Or.inr rfl, Or.inr rfl, Or.inr rfl, Or.inr rfl, Or.inr rfl, Or.inr rfl, Or.inr rfl, Or.inr rfl, Or.inl rfl, Or.inl rfl, trivial⟩ ?_
            rw [e1] at this
            exact this
          have hT2 : ∀ i, i ∈ T → cl2 i := fun i hi => (cl12 i (hT i hi)).1
          have hoq2 : ∀ i, oq = some i → cl2 i := fun i hi => (cl12 i (hoq i hi)).1
          have eT : T.map tab2 = T.map tab1 := mapT_cl hT (fun j hj => (cl12 j hj).2)
          have eq2 : oq.map tab2 = oq.map tab1 := mapO_cl hoq (fun j hj => (cl12 j hj).2)
          have hb2 : bouM σ2 N N2 cl2 kids2 T b := by
            rcases hb with w | ⟨q1, B, q2, q3, q4, q5, q6, q7, q8⟩
            · exact Or.inl w
            · obtain ⟨v1, v2, v3, v4, v5, v6⟩ := u3 B q4
              exact Or.inr ⟨q1, B, q2, q3, by omega, fun w => q5 (v3 w), by rw [v4]; exact q6, by rw [v5]; exact q7, by rw [v6]; exact q8⟩
          have hmr2 : modR σ2 := o2.1.1
          have hs2 : r.2.2.2.1.1 ≤ 1000 := o2.2.1.2.2.2.1
          have hN2 : N2 < 8000 := by omega
          have hL2 : L2 < 8000 := by omega
          have szs : ∀ j, cl2 j → sizeT (tab2 j) ≤ 2000 := fun j hj => ((u1.2.2.2.1.2.2.2 j (u1.2.2.2.1.2.2.1 j hj)).2.2.2 hj).2
          -- the bough gets one more
          have grow : ∀ (σ3 : AS) (N3 L3 : Nat) (kids3 : Nat → List Nat) (own3 : Nat → Nat) (T3 : List Nat) (B x : Nat), ot = some x → RunM σ3 e r.2.2.2 F N3 L3 tab2 cl2 kids3 own3 → fX ndF ndA σ2 σ3 → N2 ≤ N3 → N3 ≤ N2 + 1 → L3 ≤ L2 + 1 → (∀ i, i < N → kids3 i = kids2 i ∧ AI σ3 13 52 i = AI σ2 13 52 i ∧ AI σ3 13 53 i = AI σ2 13 53 i) → N3 + 2 * (m + 1) + 4 * st.1.1 ≤ N + 4 * r.2.2.2.1.1 + 1 → L3 + 3 * (m + 1) + 3 * st.1.1 ≤ L + 3 * r.2.2.2.1.1 + T.length → N ≤ B → B < N3 → ¬ cl2 B → kids3 B = T → AI σ3 13 52 B = 1 → AI σ3 13 53 B = 0 → 1 ≤ T.length → justI it = false → Ex (wp (d + 2)) m_M_seqAt Q 183 [some (vr 11 0), some (vi (k : Nat)), some (vi (p : Nat)), some (vi r.1), some (vi (bI (cut || r.2.2.1))), some (vi (oI oq)), some (vi (B : Nat)), some (vi (oI T.head?)), some (vi (i : Nat)), some (vi 1), some (vi (x : Nat))] [] σ3 := by
            intro σ3 N3 L3 kids3 own3 T3 B x hx w1 w2 w3 w4 w5 w6 w7 w8 w9 w10 w11 w12 w13 w14 w15 w16
            subst hx
            have hx2 : cl2 x := t5 x rfl
            refine x_aload_n i_M_seqAt_183 rfl ?_
            refine x_iload i_M_seqAt_184 rfl ?_
            refine x_iload i_M_seqAt_186 rfl ?_
            refine x_cv2 i_M_seqAt_188 rfl rfl rfl ?_
            refine c_M_adds w1.1.1.1 w1.2.2.2.1 (by omega) (by omega) w10 w11 hx2 (by rw [w12]; omega) (fun j hj => szs j (hT2 j (by rw [← w12]; exact hj))) (fun σ4 own4 a1 a2 a3 a4 => ?_)
            have e3 : (T ++ [x]).head? = T.head? := by
              cases T with
              | nil => simp at w15
              | cons a b => rfl
            have h2 : 2 ≤ (T ++ [x]).length := by simp; omega
            have := next σ4 N3 (L3 + 1) (upK kids3 B (kids3 B ++ [x])) own4 (T ++ [x]) oq (B : Nat) (w1.nodes a1 a2 (fun _ h => ⟨h, rfl⟩)) (w2.tr a1) w3 (fun i hi => by
              obtain ⟨q1, q2, q3⟩ := w6 i hi
              exact ⟨by rw [upK_ne (by omega)]; exact q1, by rw [a3]; exact q2, by rw [a4]; exact q3⟩) (by rw [two, if_pos h2]; exact w7) (by rw [manyT, if_pos h2]; simp; omega) (by simp; omega) (fun j hj => by
              rcases List.mem_append.mp hj with q | q
              · exact hT2 j q
              · rw [List.mem_singleton.mp q]; exact hx2) hoq2 (Or.inr ⟨h2, B, rfl, w9, w10, w11, by rw [upK_eq, w12], by rw [a3]; exact w13, by rw [a4]; exact w14⟩) (by
              rw [if_neg (by rw [w16]; decide)] at kk
              rw [List.map_append, eT, eq2]
              rw [← t6] at kk
              exact kk)
            rw [e3] at this
            exact this
          have hold : justI it = false → Ex (wp (d + 2)) m_M_seqAt Q 136 [some (vr 11 0), some (vi (k : Nat)), some (vi (p : Nat)), some (vi r.1), some (vi (bI (cut || r.2.2.1))), some (vi (oI oq)), some (vi b), some (vi (oI T.head?)), some (vi (i : Nat)), some (vi 1), some (vi (oI ot))] [] σ2 := by
            intro hj
            refine x_iload i_M_seqAt_136 rfl ?_
            refine x_iconst i_M_seqAt_138 ?_
            cases hot : ot with
            | none =>
              have kk2 : PostM e Q 2 2 σ st.1.1 F N L tab cl kids p (seqE g justI s r.1.toNat (cut || r.2.2.1) (T.map tab2) (oq.map tab2) r.2.2.2) := by
                rw [if_neg (by rw [hj]; decide), ← t6, hot] at kk
                rw [eT, eq2]
                simpa using kk
              have := next σ2 N2 L2 kids2 own2 T oq b u1 (fX.rf _ _ _) (Nat.le_refl _) (fun _ _ => ⟨rfl, rfl, rfl⟩) (by omega) (by omega) (by omega) hT2 hoq2 hb2 kk2
              rw [hot] at this
              refine x_icmp_eq_t i_M_seqAt_139 rfl ?_
              refine x_iload i_M_seqAt_155 rfl ?_
              refine x_iconst i_M_seqAt_157 ?_
              refine x_icmp_eq_t i_M_seqAt_158 rfl ?_
              exact this
            | some x =>
              have hx2 : cl2 x := t5 x hot
              have n1 : oI (some x) ≠ -1 := by simp only [oI]; omega
              refine x_icmp_eq_f i_M_seqAt_139 n1 ?_
              refine x_iload i_M_seqAt_142 rfl ?_
              refine x_iconst i_M_seqAt_144 ?_
              cases hTc : T with
              | nil =>
                have kk2 : PostM e Q 2 2 σ st.1.1 F N L tab cl kids p (seqE g justI s r.1.toNat (cut || r.2.2.1) ([x].map tab2) (oq.map tab2) r.2.2.2) := by
                  rw [if_neg (by rw [hj]; decide), ← t6, hot, hTc] at kk
                  rw [eq2]
                  exact kk
                have hb0 : b = -1 := by
                  rcases hb with w | w
                  · exact w.2
                  · rw [hTc] at w; have := w.1; simp at this
                have e5 : two T = 0 := by rw [hTc]; rfl
                have e6 : manyT T = 0 := by rw [hTc]; rfl
                have := next σ2 N2 L2 kids2 own2 [x] oq b u1 (fX.rf _ _ _) (Nat.le_refl _) (fun _ _ => ⟨rfl, rfl, rfl⟩) (by rw [show two [x] = 0 from rfl]; omega) (by rw [show manyT [x] = 0 from rfl]; omega) (by simp) (fun j hj => by rw [List.mem_singleton.mp hj]; exact hx2) hoq2 (Or.inl ⟨by simp, hb0⟩) kk2
                rw [hot] at this
                refine x_icmp_ne_f i_M_seqAt_145 rfl ?_
                refine x_iload i_M_seqAt_148 rfl ?_
                refine x_istore (ls' := [_, _, _, _, _, _, _, _, _, _, _]) i_M_seqAt_150 rfl rfl ?_
                refine x_goto i_M_seqAt_152 ?_
                exact this
              | cons y ys =>
                have n2 : oI (y :: ys).head? ≠ -1 := by simp only [List.head?_cons, oI]; omega
                refine x_icmp_ne_t i_M_seqAt_145 n2 ?_
                refine x_iload i_M_seqAt_155 rfl ?_
                refine x_iconst i_M_seqAt_157 ?_
                refine x_icmp_eq_f i_M_seqAt_158 n1 ?_
                refine x_iload i_M_seqAt_161 rfl ?_
                refine x_iconst i_M_seqAt_163 ?_
                rcases hb2 with ⟨q1, q2⟩ | ⟨q1, B, q2, q3, q4, q5, q6, q7, q8⟩
                · have hys : ys = [] := by rw [hTc] at q1; simpa using q1
                  subst hys
                  subst q2
                  have e5 : two T = 0 := by rw [hTc]; rfl
                  have e6 : manyT T = 0 := by rw [hTc]; rfl
                  have hNc : ¬ cl2 N2 := fun w => by have := u1.2.2.2.1.2.2.1 _ w; omega
                  have hy : cl2 y := hT2 y (by rw [hTc]; simp)
                  refine x_icmp_ne_f i_M_seqAt_164 rfl ?_
                  refine x_aload_n i_M_seqAt_167 rfl ?_
                  refine x_iconst i_M_seqAt_168 ?_
                  refine x_iconst i_M_seqAt_169 ?_
                  refine x_cv2 i_M_seqAt_170 rfl rfl rfl ?_
                  refine c_M_makes hmr2 u1.2.2.2.1 (by omega) (fun σ3 a1 a2 a3 a4 a5 => ?_)
                  have r3 := u1.nodes a1 a2 (fun _ h => ⟨h, rfl⟩)
                  refine x_istore (ls' := [_, _, _, _, _, _, _, _, _, _, _]) i_M_seqAt_173 rfl rfl ?_
                  refine x_aload_n i_M_seqAt_175 rfl ?_
                  refine x_iload i_M_seqAt_176 rfl ?_
                  refine x_iload i_M_seqAt_178 rfl ?_
                  refine x_cv2 i_M_seqAt_180 rfl rfl rfl ?_
                  refine c_M_adds r3.1.1.1 a2 (by omega) (by omega) (t := N2) (c := y) (by omega) hNc hy (by rw [upK_eq]; simp) (fun j hj => by rw [upK_eq] at hj; cases hj) (fun σ4 own4 c1 c2 c3 c4 => ?_)
                  have r4 := r3.nodes c1 c2 (fun _ h => ⟨h, rfl⟩)
                  have := grow σ4 (N2 + 1) (L2 + 1) _ own4 [] N2 x hot r4 (a1.tr c1) (by omega) (Nat.le_refl _) (Nat.le_refl _) (fun j hj => ⟨by rw [upK_ne (by omega), upK_ne (by omega)], by rw [c3]; exact a5 _ _ (by omega), by rw [c4]; exact a5 _ _ (by omega)⟩) (by omega) (by rw [hTc]; simp; omega) (by omega) (by omega) hNc (by rw [upK_eq, upK_eq, hTc]; rfl) (by rw [c3]; exact a3) (by rw [c4]; exact a4) (by rw [hTc]; simp) hj
                  rw [hTc] at this
                  exact this
                · subst q2
                  have e5 : two T = 1 := if_pos q1
                  have e6 : manyT T = T.length := if_pos q1
                  have := grow σ2 N2 L2 kids2 own2 [] B x hot u1 (fX.rf _ _ _) (Nat.le_refl _) (by omega) (by omega) (fun _ _ => ⟨rfl, rfl, rfl⟩) (by omega) (by omega) q3 q4 q5 q6 q7 q8 (by omega) hj
                  rw [hTc] at this
                  refine x_icmp_ne_t i_M_seqAt_164 (by omega) ?_
                  exact this
          refine x_istore (ls' := [_, _, _, _, _, _, _, _, _, _, _]) i_M_seqAt_91 rfl rfl ?_
          refine x_aload_n i_M_seqAt_93 rfl ?_
          refine x_getR (c2 := 13) i_M_seqAt_94 rfl rfl (hm _ _ rfl) ?_
          refine x_iload i_M_seqAt_97 rfl ?_
          refine x_iaload i_M_seqAt_99 rfl (lt_len hl rfl hi260) ?_
          rw [j2]
          refine x_if_ne i_M_seqAt_100 (fun g1 => ?_) (fun g1 => ?_)
          · exact hold (decide_eq_false (by omega))
          · refine x_aload_n i_M_seqAt_103 rfl ?_
            refine x_getR (c2 := 13) i_M_seqAt_104 rfl rfl (hm _ _ rfl) ?_
            refine x_aload_n i_M_seqAt_107 rfl ?_
            refine x_getR (c2 := 13) i_M_seqAt_108 rfl rfl (hm _ _ rfl) ?_
            refine x_iload i_M_seqAt_111 rfl ?_
            refine x_iaload i_M_seqAt_113 rfl (lt_len hl rfl hi260) ?_
            rw [j6]
            refine x_iaload i_M_seqAt_114 rfl (lt_len hl rfl j5) ?_
            rw [j7]
            refine x_if_ne i_M_seqAt_115 (fun g2 => ?_) (fun g2 => ?_)
            · exact hold (decide_eq_false (by intro q; rw [q.1] at g2; exact g2 rfl))
            · have hk0 : it.1.1 = 0 := by
                unfold mKind at g2
                split at g2
                · omega
                · split at g2 <;> omega
              have hj : justI it = true := decide_eq_true ⟨hk0, by omega⟩
              rw [if_pos hj] at kk
              refine x_iload i_M_seqAt_118 rfl ?_
              refine x_iconst i_M_seqAt_120 ?_
              refine x_icmp_ne i_M_seqAt_121 (fun g3 => ?_) (fun g3 => ?_)
              · have hq : oq ≠ none := fun q => g3 (oI_neg.mpr q)
                refine x_iload i_M_seqAt_129 rfl ?_
                refine x_istore (ls' := [_, _, _, _, _, _, _, _, _, _, _]) i_M_seqAt_131 rfl rfl ?_
                refine x_goto i_M_seqAt_133 ?_
                refine next σ2 N2 L2 kids2 own2 T oq b u1 (fX.rf _ _ _) (Nat.le_refl _) (fun _ _ => ⟨rfl, rfl, rfl⟩) (by omega) (by omega) (by omega) hT2 hoq2 hb2 ?_
                rw [eT, eq2]
                cases oq with
                | none => exact absurd rfl hq
                | some q => exact kk
              · have hq : oq = none := oI_neg.mp g3
                subst hq
                refine x_iload i_M_seqAt_124 rfl ?_
                refine x_goto i_M_seqAt_126 ?_
                refine x_istore (ls' := [_, _, _, _, _, _, _, _, _, _, _]) i_M_seqAt_131 rfl rfl ?_
                refine x_goto i_M_seqAt_133 ?_
                refine next σ2 N2 L2 kids2 own2 T ot b u1 (fX.rf _ _ _) (Nat.le_refl _) (fun _ _ => ⟨rfl, rfl, rfl⟩) (by omega) (by omega) (by omega) hT2 t5 hb2 ?_
                rw [eT, t6]
                exact kk
        · rw [if_pos (by omega)] at kk
          have h5 : r.1 = -5 := by clear o9; omega
          clear o9 o8
          rw [retM_0 (by omega)]
          refine x_if_ne_f i_M_seqAt_48 rfl ?_
          have fl : ∀ z : Bool, z = (cut || r.2.2.1) → Ex (wp (d + 2)) m_M_seqAt Q 69 [some (vr 11 0), some (vi (k : Nat)), some (vi (p : Nat)), some (vi (p1 : Nat)), some (vi (bI cut)), some (vi (oI oq)), some (vi b), some (vi (oI T.head?)), some (vi (i : Nat)), some (vi 0), none] [vi (bI z), vr 11 0] σ2 := by
            intro z hz
            have y := psX1 σ2 (bI z)
            refine x_cv1 i_M_seqAt_69 rfl rfl rfl ?_
            refine c_M_fails (bI_01 z) ?_
            have := kk _ N2 L2 tab2 cl2 kids2 own2 ⟨(x1.tr o1).tr (psX_mp y), (u1.set y).1, fun a j w1 w2 w3 => by rw [psX_ai y]; exact z1 a j w1 w2 w3, by rw [psX_ai y]; exact z2, z3, by show st.1.1 ≤ r.2.2.2.1.1; omega, fun w => absurd w he, fun _ => ⟨u1.set y, by omega, fun i hi => by rw [psX_ai y, psX_ai y]; exact ext i hi, by show N2 + 2 + 4 * st.1.1 ≤ N + 4 * r.2.2.2.1.1; omega, by show L2 + 2 + 3 * st.1.1 ≤ L + 3 * r.2.2.2.1.1; omega, by rw [hz]; simp [FI_sFI]⟩, fun w => absurd w h0, o10⟩
            rw [retM_0 (by show r.1 < 0; omega)] at this
            refine x_zret i_M_seqAt_72 rfl (by omega) ?_
            exact this
          refine x_aload_n i_M_seqAt_51 rfl ?_
          refine x_iload i_M_seqAt_52 rfl ?_
          refine x_if_ne i_M_seqAt_54 (fun g1 => ?_) (fun g1 => ?_)
          · refine x_iconst i_M_seqAt_64 ?_
            refine x_goto i_M_seqAt_65 ?_
            exact fl true (by rw [bI_t g1]; rfl)
          · refine x_aload_n i_M_seqAt_57 rfl ?_
            refine x_getI i_M_seqAt_58 rfl rfl ?_
            rw [u6]
            refine x_if_eq i_M_seqAt_61 (fun g2 => ?_) (fun g2 => ?_)
            · refine x_iconst i_M_seqAt_68 ?_
              exact fl false (by rw [bI_f g1, bI_f g2]; rfl)
            · refine x_iconst i_M_seqAt_64 ?_
              refine x_goto i_M_seqAt_65 ?_
              exact fl true (by rw [bI_t g2, Bool.or_true])
  obtain ⟨⟨⟨⟨hm, hl, -⟩, -⟩, -⟩, -⟩ := id h
  refine x_in (ls := [some _, some _, some _, none, none, none, none, none, none, none, none]) rfl rfl ?_
  refine x_iload_n i_M_seqAt_0 rfl ?_
  refine x_istore_n (ls' := [_, _, _, _, _, _, _, _, _, _, _]) i_M_seqAt_1 rfl rfl ?_
  refine x_iconst i_M_seqAt_2 ?_
  refine x_istore (ls' := [_, _, _, _, _, _, _, _, _, _, _]) i_M_seqAt_3 rfl rfl ?_
  refine x_iconst i_M_seqAt_5 ?_
  refine x_istore (ls' := [_, _, _, _, _, _, _, _, _, _, _]) i_M_seqAt_6 rfl rfl ?_
  refine x_iconst i_M_seqAt_8 ?_
  refine x_istore (ls' := [_, _, _, _, _, _, _, _, _, _, _]) i_M_seqAt_9 rfl rfl ?_
  refine x_iconst i_M_seqAt_11 ?_
  refine x_istore (ls' := [_, _, _, _, _, _, _, _, _, _, _]) i_M_seqAt_12 rfl rfl ?_
  refine x_aload_n i_M_seqAt_14 rfl ?_
  refine x_getR (c2 := 13) i_M_seqAt_15 rfl rfl (hm _ _ rfl) ?_
  refine x_iload_n i_M_seqAt_18 rfl ?_
  refine x_iaload i_M_seqAt_19 rfl (lt_len hl rfl hs.1) ?_
  refine x_istore (ls' := [_, _, _, _, _, _, _, _, _, _, _]) i_M_seqAt_20 rfl rfl ?_
  exact loop s _ σ st N L tab cl kids own [] none false p 0 (-1) h (fX.rf _ _ _) hs.2.2 (Nat.le_refl _) hp (fun _ _ _ _ _ => rfl) rfl rfl (Nat.le_refl _) (fun _ _ => ⟨rfl, id, id, rfl, rfl, rfl⟩) (Nat.le_refl _) (by omega) (by omega) (Nat.le_refl _) (fun q => absurd q hs.2.1) (fun i hi => by cases hi) (fun i hi => by cases hi) (Or.inl ⟨Nat.zero_le _, rfl⟩) kk
end


/-! THE MODEL's reading: ITEMS -/
def itM (σ : AS) (I : Nat) (p s : Int) : AS := sAI (sAI (sAI (sFI σ 1132 0 ((I : Int) + 1)) 13 30 I p) 13 31 I s) 13 32 I (-1)
theorem itM_rd {σ : AS} {I : Nat} {p s : Int} (hI : FI σ 1132 0 = (I : Int)) : rdM σ (itM σ I p s) ∧ FI (itM σ I p s) 1132 0 = ((I + 1 : Nat) : Int) ∧ (∀ f, f ≠ 1132 → FI (itM σ I p s) f 0 = FI σ f 0) ∧ (AI (itM σ I p s) 13 30 I = p ∧ AI (itM σ I p s) 13 31 I = s ∧ AI (itM σ I p s) 13 32 I = -1) ∧ fX (fun f a => f = 1132 ∧ a = 0) (fun k a => k = 13 ∧ 30 ≤ a ∧ a ≤ 32) σ (itM σ I p s) ∧ (∀ lA hA lS hS lI hP, nodJ lA hA lS hS lI I hP σ (itM σ I p s)) := by
  have x0 : fX (fun f a => f = 1132 ∧ a = 0) (fun k a => k = 13 ∧ 30 ≤ a ∧ a ≤ 32) σ (itM σ I p s) :=
    ((((fX_sFI ⟨rfl, rfl⟩ : fX (fun f a => f = 1132 ∧ a = 0) (fun k a => k = 13 ∧ 30 ≤ a ∧ a ≤ 32) _ _).tr (fX_sAI ⟨rfl, by decide, by decide⟩)).tr (fX_sAI ⟨rfl, by decide, by decide⟩)).tr (fX_sAI ⟨rfl, by decide, by decide⟩))
  have fP : FI (itM σ I p s) 1132 0 = ((I + 1 : Nat) : Int) := by unfold itM; show FI (sFI σ 1132 0 ((I : Int) + 1)) 1132 0 = _; rw [FI_sFI, if_pos ⟨rfl, rfl⟩]; omega
  have fi : ∀ f, f ≠ 1132 → FI (itM σ I p s) f 0 = FI σ f 0 := fun f w => x0.1 _ _ (fun q => w q.1)
  have ai0 : ∀ c j, (c < 30 ∨ 32 < c) → AI (itM σ I p s) 13 c j = AI σ 13 c j := fun c j w => x0.2.2.1 _ _ _ (fun v => by omega)
  have ai1 : ∀ c j, j < I → AI (itM σ I p s) 13 c j = AI σ 13 c j := by
    intro c j w
    have hj : j ≠ I := by omega
    unfold itM
    rw [AI_sAI, if_neg (fun v => hj v.2.2), AI_sAI, if_neg (fun v => hj v.2.2), AI_sAI, if_neg (fun v => hj v.2.2)]
    rfl
  have nj : ∀ lA hA lS hS lI hP, nodJ lA hA lS hS lI I hP σ (itM σ I p s) := fun lA hA lS hS lI hP => ⟨fun j _ _ => ai0 _ _ (by decide), fun j _ _ => ⟨ai0 _ _ (by decide), ai0 _ _ (by decide)⟩, fun j _ w => ⟨ai1 _ _ w, ai1 _ _ w, ai1 _ _ w⟩, fun j w => ⟨ai0 _ _ (by decide), ai0 _ _ (by decide), ai0 _ _ (by decide), ai0 _ _ (by decide)⟩⟩
  have c0 : ct σ 1132 = I := ctN hI
  refine ⟨⟨x0.mono (fun f x q => by rw [q.1, q.2]; exact ⟨by decide, by decide, rfl⟩) (fun k x q => ⟨q.1, Or.inl ⟨by omega, by omega⟩⟩), ⟨fi _ (by decide), fi _ (by decide)⟩, fun f w1 w2 => ?_, ?_⟩, fP, fi, ?_, x0, nj⟩
  · by_cases e : f = 1132
    · rw [e, ctN fP, c0]; omega
    · rw [ctE (fi f e)]
      exact Nat.le_refl _
  · rw [c0]
    have := nj 0 (ct σ 1130) 0 (ct σ 1131) 0 (ct σ 1133)
    exact ⟨this.1, this.2.1, fun j w => this.2.2.1 j (Nat.zero_le _) w, this.2.2.2⟩
  · unfold itM
    refine ⟨?_, ?_, ?_⟩ <;> simp [AI_sFI, AI_sAI]
theorem MdS.I {σ : AS} {t : TP} {st : RT} {opn e : Nat} (h : MdS σ t st opn e) : FI σ 1132 0 = (ct σ 1132 : Int) := h.2.2.2.2.2.2.2.2.2.1.1
theorem MdF.I {σ : AS} {t : TP} {p opn u : Nat} (h : MdF σ t p opn u) : FI σ 1132 0 = (ct σ 1132 : Int) := h.2.2.2.2.2.2.2.1.1
theorem MdS.it {σ : AS} {t : TP} {st : RT} {opn e : Nat} (h : MdS σ t st opn e) {p s : Int} (w : ct σ 1132 + 1 ≤ st.1) : MdS (itM σ (ct σ 1132) p s) t st opn e := by
  obtain ⟨r1, f1, fi, -, x0, -⟩ := itM_rd (p := p) (s := s) h.I
  obtain ⟨b1, b2, ⟨a0, b3, b31, b32⟩, b4, b5, ⟨b61, b62, b63⟩, ⟨⟨b71, b72⟩, b73⟩, ⟨q1, q11⟩, ⟨q2, q21⟩, ⟨q3, q31⟩, q4, q41⟩ := h
  have ai : ∀ c j, 37 ≤ c → AI (itM σ (ct σ 1132) p s) 13 c j = AI σ 13 c j := fun c j w => x0.2.2.1 _ _ _ (fun q => by omega)
  have cc : ∀ f, f ≠ 1132 → ct (itM σ (ct σ 1132) p s) f = ct σ f := fun f w => ctE (fi f w)
  refine ⟨b1.keep x0 (by decide) (by decide), b2, ⟨a0, by rw [fi _ (by decide)]; exact b3, b31, b32⟩, by rw [fi _ (by decide)]; exact b4, by rw [fi _ (by decide)]; exact b5, ⟨by rw [fi _ (by decide)]; exact b61, by rw [fi _ (by decide)]; exact b62, ?_⟩, ⟨⟨by rw [fi _ (by decide)]; exact b71, ?_⟩, b73⟩, ⟨?_, ?_⟩, ⟨?_, ?_⟩, ⟨?_, ?_⟩, ?_, ?_⟩
  · rw [fi _ (by decide)]
    intro w i z hz
    rw [ai _ _ (by decide), ai _ _ (by decide), ai _ _ (by decide), ai _ _ (by decide), ai _ _ (by decide)]
    exact b63 w i z hz
  · intro i z hz
    rw [ai _ _ (by decide), ai _ _ (by decide)]
    exact b72 i z hz
  · rw [cc _ (by decide), fi _ (by decide)]; exact q1
  · rw [cc _ (by decide)]; exact q11
  · rw [cc _ (by decide), fi _ (by decide)]; exact q2
  · rw [cc _ (by decide)]; exact q21
  · rw [ctN f1, f1]
  · rw [ctN f1]; exact w
  · rw [cc _ (by decide), fi _ (by decide)]; exact q4
  · rw [cc _ (by decide)]; exact q41
theorem MdF.it {σ : AS} {t : TP} {q opn u : Nat} (h : MdF σ t q opn u) {p s : Int} (w : ct σ 1132 + 1 ≤ t.1 + u) : MdF (itM σ (ct σ 1132) p s) t q opn u := by
  obtain ⟨r1, f1, fi, -, x0, -⟩ := itM_rd (p := p) (s := s) h.I
  obtain ⟨b1, b2, ⟨a0, b3, b31⟩, b4, b5, ⟨q1, q11⟩, ⟨q2, q21⟩, ⟨q3, q31⟩, q4, q41⟩ := h
  have cc : ∀ f, f ≠ 1132 → ct (itM σ (ct σ 1132) p s) f = ct σ f := fun f w => ctE (fi f w)
  refine ⟨b1.keep x0 (by decide) (by decide), b2, ⟨a0, by rw [fi _ (by decide)]; exact b3, b31⟩, by rw [fi _ (by decide)]; exact b4, by rw [fi _ (by decide)]; exact b5, ⟨?_, ?_⟩, ⟨?_, ?_⟩, ⟨?_, ?_⟩, ?_, ?_⟩
  · rw [cc _ (by decide), fi _ (by decide)]; exact q1
  · rw [cc _ (by decide)]; exact q11
  · rw [cc _ (by decide), fi _ (by decide)]; exact q2
  · rw [cc _ (by decide)]; exact q21
  · rw [ctN f1, f1]
  · rw [ctN f1]; exact w
  · rw [cc _ (by decide), fi _ (by decide)]; exact q4
  · rw [cc _ (by decide)]; exact q41
def itmQ (t : TP) (opn n : Nat) (R : PR (Item (PT n))) (σ σ' : AS) (i : Nat) : Prop := rdM σ σ' ∧ match R with
  | .inl q => MdF σ' t q opn (9 - opn) ∧ i < 260
  | .inr x => MdS σ' t x.2 opn 0 ∧ i + 1 = ct σ' 1132 ∧ AI σ' 13 32 i = -1 ∧ inB σ' (dnN x.2.2.2) (fun i => altB σ' (dnN x.2.2.2) n (ct σ 1130) (ct σ' 1130) (ct σ 1131) (ct σ' 1131) (ct σ 1132) i (ct σ' 1133)) (ct σ 1132) (ct σ' 1132) (ct σ' 1133) x.1 i
section
variable {d : Nat} {Q : AQ} {σ : AS} {t : TP} {st : RT} {opn n rule : Nat} {dA : PT n}
theorem M_itemEnd {σ3 : AS} {I p s : Nat} (hm : mFld σ3) (hl : mLns σ3) (hI : FI σ3 1132 0 = (I : Int)) (hI2 : I < 260) (kk : Q (some (vi (I : Nat))) (itM σ3 I (p : Int) (s : Int))) : Ex (wp (d + 6)) m_M_item Q 48 [some (vr 11 0), some (vi (p : Nat)), none, none] [vi (s : Nat)] σ3 := by
  refine x_istore_n (ls' := [_, _, _, _]) i_M_item_48 rfl rfl ?_
  refine x_aload_n i_M_item_49 rfl ?_
  refine x_getI i_M_item_50 rfl rfl ?_
  rw [hI]
  refine x_istore_n (ls' := [_, _, _, _]) i_M_item_53 rfl rfl ?_
  refine x_aload_n i_M_item_54 rfl ?_
  refine x_dup i_M_item_55 ?_
  refine x_getI i_M_item_56 rfl rfl ?_
  rw [hI]
  refine x_iconst i_M_item_59 ?_
  refine x_iadd i_M_item_60 (by omega) ?_
  refine x_putI i_M_item_61 rfl rfl ?_
  refine x_aload_n i_M_item_64 rfl ?_
  refine x_getR (c2 := 13) i_M_item_65 rfl rfl (hm _ _ rfl) ?_
  refine x_iload_n i_M_item_68 rfl ?_
  refine x_iload_n i_M_item_69 rfl ?_
  refine x_iastore i_M_item_70 (k := I) rfl (lt_len hl rfl hI2) ?_
  refine x_aload_n i_M_item_71 rfl ?_
  refine x_getR (c2 := 13) i_M_item_72 rfl rfl (hm _ _ rfl) ?_
  refine x_iload_n i_M_item_75 rfl ?_
  refine x_iload_n i_M_item_76 rfl ?_
  refine x_iastore i_M_item_77 (k := I) rfl (lt_len hl rfl hI2) ?_
  refine x_aload_n i_M_item_78 rfl ?_
  refine x_getR (c2 := 13) i_M_item_79 rfl rfl (hm _ _ rfl) ?_
  refine x_iload_n i_M_item_82 rfl ?_
  refine x_iconst i_M_item_83 ?_
  refine x_iastore i_M_item_84 (k := I) rfl (lt_len hl rfl hI2) ?_
  refine x_iload_n i_M_item_85 rfl ?_
  refine x_iret i_M_item_86 rfl ?_
  exact kk
theorem parP_no {alt : Option (RT → PR (PT n))} (h : ahP (chT t st.1) = false) : parP t rule dA alt st = .inl st.1 := by
  unfold ahP at h
  rw [Bool.or_eq_false_iff, Bool.or_eq_false_iff] at h
  obtain ⟨⟨h1, h2⟩, h3⟩ := h
  have h1 := of_decide_eq_false h1
  unfold parP
  rw [if_neg (by omega), if_neg (by omega), if_neg (by omega), if_neg (by rw [h2]; decide)]
  unfold worP
  rw [kdW_sm h3]
theorem itmP_l {alt : Option (RT → PR (PT n))} : ∀ q, parP t rule dA alt st = .inl q → itmP t rule dA alt st = .inl q := fun q h => by
  unfold itmP
  by_cases ha : ahP (chT t st.1) = true
  · rw [if_pos ha, h]
  · rw [if_neg ha]
    rw [parP_no (by simpa using ha)] at h
    exact h
theorem itmP_r {alt : Option (RT → PR (PT n))} : ∀ x, parP t rule dA alt st = .inr x → itmP t rule dA alt st = .inr (timP t x) := fun q h => by
  unfold itmP
  by_cases ha : ahP (chT t st.1) = true
  · rw [if_pos ha, h]
  · rw [parP_no (by simpa using ha)] at h
    cases h
theorem c_M_itemS {alt : Option (RT → PR (PT n))} (hA : altHM (d + 5) t rule opn n alt) (h : MdS σ t st opn 1) (hR : FI σ 1136 0 = 1 → FI σ 1137 0 = (rule : Int)) (kk : ∀ σ' i, itmQ t opn n (itmP t rule dA alt st) σ σ' i → Q (some (vi (i : Nat))) σ') : wp (d + 7) m_M_item [vr 11 0] σ Q := by
  have ho := hA.le
  refine x_in (ls := [some _, none, none, none]) rfl rfl ?_
  refine x_aload_n i_M_item_0 rfl ?_
  refine x_cv0 i_M_item_1 rfl rfl rfl ?_
  refine c_M_readPartS (dA := dA) hA h hR (fun σ2 p p2 => ?_)
  obtain ⟨r2, p2⟩ := p2
  have el := itmP_l (rule := rule) (dA := dA) (alt := alt) (t := t) (st := st)
  have er := itmP_r (rule := rule) (dA := dA) (alt := alt) (t := t) (st := st)
  revert p2 el er
  cases parP t rule dA alt st with
  | inl q =>
    intro p2 el _
    rw [el q rfl] at kk
    obtain ⟨h2, w2⟩ := p2
    have ff := h2.2.2.2.1
    have ht1 := h2.1.2.1.1
    refine x_istore_n (ls' := [_, _, _, _]) i_M_item_4 rfl rfl ?_
    refine x_aload_n i_M_item_5 rfl ?_
    refine x_bipush i_M_item_6 ?_
    refine x_cv1 i_M_item_8 rfl rfl rfl ?_
    refine c_M_takesF ff ?_
    refine x_if_eq_t i_M_item_11 rfl ?_
    refine x_aload_n i_M_item_19 rfl ?_
    refine x_bipush i_M_item_20 ?_
    refine x_cv1 i_M_item_22 rfl rfl rfl ?_
    refine c_M_takesF ff ?_
    refine x_if_eq_t i_M_item_25 rfl ?_
    refine x_aload_n i_M_item_33 rfl ?_
    refine x_bipush i_M_item_34 ?_
    refine x_cv1 i_M_item_36 rfl rfl rfl ?_
    refine c_M_takesF ff ?_
    refine x_if_eq_t i_M_item_39 rfl ?_
    refine x_iconst i_M_item_47 ?_
    obtain ⟨r3, -⟩ := itM_rd (p := (p : Int)) (s := (0 : Nat)) h2.I
    exact M_itemEnd (s := 0) h2.1.1.1 h2.1.1.2.1 h2.I (by omega) (kk _ _ ⟨r2.tr r3, h2.it w2, by omega⟩)
  | inr x =>
    intro p2 _ er
    rw [er x rfl] at kk
    obtain ⟨h2, ⟨w1, w2⟩, ⟨w3, w4⟩, w5⟩ := p2
    have ht1 := h2.1.2.1.1
    unfold timP at kk
    have fin : ∀ (σ3 : AS) (s : Nat) (y : Item (PT n) × RT), atX σ2 σ3 → MdS σ3 t y.2 opn 0 → x.2.1 ≤ y.2.1 → y.2.2 = x.2.2 → (y.1.1.1 = x.1.1.1 ∧ y.1.1.2.1 = s ∧ y.1.1.2.2 = x.1.1.2.2 ∧ y.1.2 = x.1.2) → (s = 0 ∨ s = 63 ∨ s = 42 ∨ s = 43) → (∀ σ' i, itmQ t opn n (.inr y) σ σ' i → Q (some (vi (i : Nat))) σ') → Ex (wp (d + 6)) m_M_item Q 48 [some (vr 11 0), some (vi (p : Nat)), none, none] [vi (s : Nat)] σ3 := by
      intro σ3 s y x3 h3 ge en ey hs kk
      have c2 : ct σ3 1132 = ct σ2 1132 := atX_ct x3 (by decide)
      have hle := h2.2.1.1
      have hle3 := h3.2.1.1
      obtain ⟨r4, f4, fi4, ⟨v1, v2, v3⟩, x4, nj⟩ := itM_rd (p := (p : Int)) (s := (s : Int)) h3.I
      have h4 := h3.it (p := (p : Int)) (s := (s : Int)) (by omega)
      refine M_itemEnd h3.1.1.1 h3.1.1.2.1 h3.I (by omega) (kk _ _ ⟨(r2.tr x3.rd).tr r4, h4, by rw [ctN f4], v3, ?_⟩)
      have r24 : rdM σ2 (itM σ3 (ct σ3 1132) (p : Int) (s : Int)) := x3.rd.tr r4
      generalize hσ : itM σ3 (ct σ3 1132) (p : Int) (s : Int) = σ4 at *
      have c14 : ct σ4 1132 = ct σ2 1132 + 1 := by rw [ctN f4, c2]
      have j4 := r24.J (lA := 0) (lS := 0) (lI := 0) (Nat.le_refl _) (Nat.le_refl _) (Nat.le_refl _) (Nat.le_refl _)
      have m2 := r2.2.2.1 1132 (by decide) (by decide)
      refine ⟨⟨by omega, by omega⟩, by rw [v2, ey.2.1], ⟨by rw [ey.1]; exact w3, by rw [ey.2.1]; exact hs⟩, p, Nat.lt_of_lt_of_le w1 (r24.2.2.1 _ (by decide) (by decide)), v1, ?_⟩
      rw [en]
      refine w5.keep ⟨ey.1, ey.2.2.1, ey.2.2.2⟩ (j4.2.2.2 p w1) (fun _ w => w) (fun z b hz => ?_)
      exact hz.keepJ (fun _ w => w) n _ _ _ _ _ _ _ _ _ _ _ _ _ _ _ _ (r24.J (Nat.le_refl _) (Nat.le_refl _) (Nat.le_refl _) (Nat.le_refl _)) (Nat.le_refl _) (r24.2.2.1 _ (by decide) (by decide)) (Nat.le_refl _) (r24.2.2.1 _ (by decide) (by decide)) (Nat.le_refl _) (by omega) (r24.2.2.1 _ (by decide) (by decide))
    have hge := sk_ge t (x.2.1 + 1)
    have fin3 : ∀ (σ3 : AS) (s : Nat), atX σ2 σ3 → MdS σ3 t (sk t (x.2.1 + 1), x.2.2) opn 0 → (s = 0 ∨ s = 63 ∨ s = 42 ∨ s = 43) → (∀ σ' i, itmQ t opn n (.inr (tmI x.1 s, (sk t (x.2.1 + 1), x.2.2))) σ σ' i → Q (some (vi (i : Nat))) σ') → Ex (wp (d + 6)) m_M_item Q 48 [some (vr 11 0), some (vi (p : Nat)), none, none] [vi (s : Nat)] σ3 :=
      fun σ3 s x3 h3 hs kk => fin σ3 s (tmI x.1 s, (sk t (x.2.1 + 1), x.2.2)) x3 h3 (by show x.2.1 ≤ sk t (x.2.1 + 1); omega) rfl ⟨rfl, rfl, rfl, rfl⟩ hs kk
    refine x_istore_n (ls' := [_, _, _, _]) i_M_item_4 rfl rfl ?_
    refine x_aload_n i_M_item_5 rfl ?_
    refine x_bipush i_M_item_6 ?_
    refine x_cv1 i_M_item_8 rfl rfl rfl ?_
    refine c_M_takesS h2 (by decide) (fun w σ3 x3 h3 => ?_) (fun w σ3 x3 h3 f3 => ?_)
    · rw [if_pos w] at kk
      refine x_if_eq_f i_M_item_11 (by decide) ?_
      refine x_bipush i_M_item_14 ?_
      refine x_goto i_M_item_16 ?_
      exact fin3 σ3 42 x3 h3 (by decide) kk
    · rw [if_neg w] at kk
      refine x_if_eq_t i_M_item_11 rfl ?_
      refine x_aload_n i_M_item_19 rfl ?_
      refine x_bipush i_M_item_20 ?_
      refine x_cv1 i_M_item_22 rfl rfl rfl ?_
      refine c_M_takesS h3 (by decide) (fun w σ4 x4 h4 => ?_) (fun w σ4 x4 h4 f4 => ?_)
      · rw [if_pos w] at kk
        refine x_if_eq_f i_M_item_25 (by decide) ?_
        refine x_bipush i_M_item_28 ?_
        refine x_goto i_M_item_30 ?_
        exact fin3 σ4 43 (x3.tr x4) h4 (by decide) kk
      · rw [if_neg w] at kk
        refine x_if_eq_t i_M_item_25 rfl ?_
        refine x_aload_n i_M_item_33 rfl ?_
        refine x_bipush i_M_item_34 ?_
        refine x_cv1 i_M_item_36 rfl rfl rfl ?_
        refine c_M_takesS h4 (by decide) (fun w σ5 x5 h5 => ?_) (fun w σ5 x5 h5 f5 => ?_)
        · rw [if_pos w] at kk
          refine x_if_eq_f i_M_item_39 (by decide) ?_
          refine x_bipush i_M_item_42 ?_
          refine x_goto i_M_item_44 ?_
          exact fin3 σ5 63 ((x3.tr x4).tr x5) h5 (by decide) kk
        · rw [if_neg w] at kk
          refine x_if_eq_t i_M_item_39 rfl ?_
          refine x_iconst i_M_item_47 ?_
          exact fin σ5 0 x ((x3.tr x4).tr x5) h5 (Nat.le_refl _) rfl ⟨rfl, w4, rfl, rfl⟩ (Or.inl rfl) kk
end


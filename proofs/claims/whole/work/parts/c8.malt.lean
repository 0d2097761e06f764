/-! THE MODEL's reading: ALTs -/
theorem sqB.keepJ {σ σ' : AS} {dn dn' : Nat → Prop} (hd : ∀ r, dn r → dn' r) {n a hA lS hS lI hI hP hA' lS' hS' lI' hI' hP' : Nat} {s : List (Item (PT n))} {k : Nat} (h : sqB σ dn n a hA lS hS lI hI hP s k) (hj : nodJ (a + 1) hA (k + 1) hS lI hI hP σ σ') (e : AI σ' 13 28 k = AI σ 13 28 k) (w2 : hA ≤ hA') (w3 : lS' ≤ k ∧ k < hS') (w4 : hS ≤ hS') (w5 : lI' ≤ lI) (w6 : hI ≤ hI') (w7 : hP ≤ hP') : sqB σ' dn' n a hA' lS' hS' lI' hI' hP' s k := by
  obtain ⟨⟨-, k3⟩, k4⟩ := h
  refine ⟨⟨w3, k3⟩, ?_⟩
  rw [e]
  refine chnA.keepB (fun it i hi => ?_) _ _ k4
  have bi := hi.1
  have ei := hj.2.2.1 i bi.1 bi.2
  refine ⟨hi.keep hd ⟨by omega, by omega⟩ w7 ⟨ei.1, ei.2.1⟩ hj.2.2.2 (fun y b hb => ?_), ei.2.2⟩
  exact altB.keepJ hd n _ _ _ _ _ _ _ _ _ _ _ _ _ _ _ _ (hj.sub (Nat.le_refl _) (Nat.le_refl _) (Nat.le_refl _) (Nat.le_refl _) (Nat.le_refl _) (by omega) (Nat.le_refl _)) (Nat.le_refl _) w2 (Nat.le_refl _) w4 w5 (Nat.le_refl _) w7 hb
theorem seqQ.sq {t : TP} {opn n : Nat} {x : List (Item (PT n)) × RT} {σ σ' : AS} {s a : Nat} (h : seqQ t opn n (.inr x) σ σ' s) (ha : a + 1 ≤ ct σ 1130) : sqB σ' (dnN x.2.2.2) n a (ct σ' 1130) (ct σ 1131) (ct σ' 1131) (ct σ 1132) (ct σ' 1132) (ct σ' 1133) x.1 s := by
  obtain ⟨-, -, h1, -, h3, h4⟩ := h
  refine ⟨⟨h1, h3⟩, ?_⟩
  refine chnA.keepB (fun it i hi => ⟨?_, rfl⟩) _ _ h4
  exact hi.keepJ (fun _ w => w) (nodJ.rf _ _ _ _ _ _ _ _) ⟨rfl, rfl⟩ ha (Nat.le_refl _) (Nat.le_refl _) (Nat.le_refl _) (Nat.le_refl _) hi.1.2 (Nat.le_refl _)
theorem MdS.A {σ : AS} {t : TP} {st : RT} {opn e : Nat} (h : MdS σ t st opn e) : FI σ 1130 0 = (ct σ 1130 : Int) := h.2.2.2.2.2.2.2.1.1
theorem MdS.al {σ : AS} {t : TP} {st : RT} {opn : Nat} (h : MdS σ t st opn 0) : MdS (sFI σ 1130 0 ((ct σ 1130 : Int) + 1)) t st opn 1 ∧ rdM σ (sFI σ 1130 0 ((ct σ 1130 : Int) + 1)) ∧ FI (sFI σ 1130 0 ((ct σ 1130 : Int) + 1)) 1130 0 = ((ct σ 1130 + 1 : Nat) : Int) ∧ (∀ f, f ≠ 1130 → FI (sFI σ 1130 0 ((ct σ 1130 : Int) + 1)) f 0 = FI σ f 0) := by
  have x0 : fX (fun f a => f = 1130 ∧ a = 0) (fun _ _ => False) σ (sFI σ 1130 0 ((ct σ 1130 : Int) + 1)) := fX_sFI ⟨rfl, rfl⟩
  have hS := h.A
  have f1 : FI (sFI σ 1130 0 ((ct σ 1130 : Int) + 1)) 1130 0 = ((ct σ 1130 + 1 : Nat) : Int) := by rw [FI_sFI, if_pos ⟨rfl, rfl⟩]; omega
  have fi : ∀ f, f ≠ 1130 → FI (sFI σ 1130 0 ((ct σ 1130 : Int) + 1)) f 0 = FI σ f 0 := fun f w => x0.1 _ _ (fun q => w q.1)
  have r1 : rdM σ (sFI σ 1130 0 ((ct σ 1130 : Int) + 1)) := ⟨x0.mono (fun f x q => by rw [q.1, q.2]; exact ⟨by decide, by decide, rfl⟩) (fun k x q => q.elim), ⟨fi _ (by decide), fi _ (by decide)⟩, fun f w1 w2 => by
    by_cases e : f = 1130
    · rw [e, ctN f1]; omega
    · rw [ctE (fi f e)]; exact Nat.le_refl _, ⟨fun j _ _ => rfl, fun j _ _ => ⟨rfl, rfl⟩, fun j _ => ⟨rfl, rfl, rfl⟩, fun j _ => ⟨rfl, rfl, rfl, rfl⟩⟩⟩
  refine ⟨?_, r1, f1, fi⟩
  obtain ⟨b1, b2, ⟨a0, b3, b31, b32⟩, b4, b5, ⟨b61, b62, b63⟩, ⟨⟨b71, b72⟩, b73⟩, ⟨q1, q11⟩, ⟨q2, q21⟩, ⟨q3, q31⟩, q4, q41⟩ := h
  have cc : ∀ f, f ≠ 1130 → ct (sFI σ 1130 0 ((ct σ 1130 : Int) + 1)) f = ct σ f := fun f w => ctE (fi f w)
  refine ⟨b1.keep x0 (by decide) (fun q => q), b2, ⟨a0, by rw [fi _ (by decide)]; exact b3, b31, b32⟩, by rw [fi _ (by decide)]; exact b4, by rw [fi _ (by decide)]; exact b5, ⟨by rw [fi _ (by decide)]; exact b61, by rw [fi _ (by decide)]; exact b62, by rw [fi _ (by decide)]; exact b63⟩, ⟨⟨by rw [fi _ (by decide)]; exact b71, b72⟩, b73⟩, ⟨?_, ?_⟩, ⟨?_, ?_⟩, ⟨?_, ?_⟩, ?_, ?_⟩
  · rw [ctN f1, f1]
  · rw [ctN f1]; omega
  · rw [cc _ (by decide), fi _ (by decide)]; exact q2
  · rw [cc _ (by decide)]; omega
  · rw [cc _ (by decide), fi _ (by decide)]; exact q3
  · rw [cc _ (by decide)]; exact q31
  · rw [cc _ (by decide), fi _ (by decide)]; exact q4
  · rw [cc _ (by decide)]; exact q41
section
variable {d : Nat} {Q : AQ} {σ : AS} {t : TP} {st : RT} {opn n rule : Nat} {dA : PT n}
theorem M_altEnd {s z p u : Nat} {σ1 : AS} (h : MdF σ1 t p opn u) (kk : Q (some (vi (s : Nat))) σ1) : Ex (wp (d + 8)) m_M_alt Q 36 [some (vr 11 0), some (vi (s : Nat)), some (vi (z : Nat)), none] [] σ1 := by
  refine x_aload_n i_M_alt_36 rfl ?_
  refine x_bipush i_M_alt_37 ?_
  refine x_cv1 i_M_alt_39 rfl rfl rfl ?_
  refine c_M_takesF h.2.2.2.1 ?_
  refine x_if_eq_t i_M_alt_42 rfl ?_
  refine x_iload_n i_M_alt_62 rfl ?_
  refine x_iret i_M_alt_63 rfl ?_
  exact kk
theorem M_altLoop {alt : Option (RT → PR (PT n))} (hA : altHM (d + 5) t rule opn n alt) (hR : FI σ 1136 0 = 1 → FI σ 1137 0 = (rule : Int)) {a : Nat} (hs : ct σ 1130 = a) : ∀ (f : Nat) (acc : List (List (Item (PT n)))) (y : List (Item (PT n))) (st1 : RT) (σ1 : AS) (z : Nat), 241 ≤ f + st1.1 → rdM σ σ1 → MdS σ1 t st1 opn 0 → a < ct σ1 1130 → AI σ1 13 29 z = -1 → sqB σ1 (dnN st1.2.2) n a (ct σ1 1130) (ct σ 1131) (ct σ1 1131) (ct σ 1132) (ct σ1 1132) (ct σ1 1133) y z → chnB (AI σ1 13 29) (sqB σ1 (dnN st1.2.2) n a (ct σ1 1130) (ct σ 1131) z (ct σ 1132) (ct σ1 1132) (ct σ1 1133)) acc (AI σ1 13 27 a) z → (∀ σ', altQ t st opn (n + 1) (altLP t rule dA alt f (acc ++ [y]) st1) σ σ' a → Q (some (vi (a : Nat))) σ') → Ex (wp (d + 8)) m_M_alt Q 36 [some (vr 11 0), some (vi (a : Nat)), some (vi (z : Nat)), none] [] σ1 := by
  have fin : ∀ (acc : List (List (Item (PT n)))) (y : List (Item (PT n))) (st1 : RT) (σ1 σ2 : AS) (z : Nat), rdM σ σ1 → atX σ1 σ2 → MdS σ2 t st1 opn 0 → a < ct σ1 1130 → AI σ1 13 29 z = -1 → sqB σ1 (dnN st1.2.2) n a (ct σ1 1130) (ct σ 1131) (ct σ1 1131) (ct σ 1132) (ct σ1 1132) (ct σ1 1133) y z → chnB (AI σ1 13 29) (sqB σ1 (dnN st1.2.2) n a (ct σ1 1130) (ct σ 1131) z (ct σ 1132) (ct σ1 1132) (ct σ1 1133)) acc (AI σ1 13 27 a) z → altQ t st opn (n + 1) (.inr (acc ++ [y], st1)) σ σ2 a := by
    intro acc y st1 σ1 σ2 z hr hx h ha1 e29 hy hc
    have ai : ∀ a j, AI σ2 13 a j = AI σ1 13 a j := fun a j => hx.2.2.1 _ _ _ (fun q => q)
    have hj := fun lA hA lS hS lI hI hP => nodJ.all (σ := σ1) (σ' := σ2) (fun a j _ _ => ai a j) lA hA lS hS lI hI hP
    refine ⟨hr.tr hx.rd, h, ⟨⟨by omega, by rw [atX_ct hx (by decide)]; exact ha1⟩, (by simp : acc ++ [y] ≠ [])⟩, ?_⟩
    rw [ai, atX_ct hx (by decide), atX_ct hx (by decide), atX_ct hx (by decide), atX_ct hx (by decide)]
    have hc2 := hc.keep (nx' := AI σ1 13 29) (R' := sqB σ1 (dnN st1.2.2) n a (ct σ1 1130) (ct σ 1131) (ct σ1 1131) (ct σ 1132) (ct σ1 1132) (ct σ1 1133)) (fun x c w => ⟨w.keepJ (fun _ v => v) (nodJ.rf _ _ _ _ _ _ _ _) rfl (Nat.le_refl _) ⟨w.1.1.1, Nat.lt_trans w.1.1.2 hy.1.1.2⟩ (Nat.le_of_lt hy.1.1.2) (Nat.le_refl _) (Nat.le_refl _) (Nat.le_refl _), rfl⟩)
    exact chnA.keepB (fun x c w => ⟨w.keepJ (fun _ v => v) (hj _ _ _ _ _ _ _) (ai _ _) (Nat.le_refl _) w.1.1 (Nat.le_refl _) (Nat.le_refl _) (Nat.le_refl _) (Nat.le_refl _), ai _ _⟩) _ _ (hc2.A e29 hy)
  intro f
  induction f with
  | zero =>
    intro acc y st1 σ1 z hf hr h
    have := h.2.1.1
    have := h.1.2.1.1
    omega
  | succ f ih =>
    intro acc y st1 σ1 z hf hr h ha1 e29 hy hc kk
    simp only [altLP] at kk
    have ht := h.1.2.1
    have ht1 := ht.1
    refine x_aload_n i_M_alt_36 rfl ?_
    refine x_bipush i_M_alt_37 ?_
    refine x_cv1 i_M_alt_39 rfl rfl rfl ?_
    refine c_M_takesS h (by decide) (fun w σ2 x2 h2 => ?_) (fun w σ2 x2 h2 f2 => ?_)
    · simp only [if_pos w] at kk
      have av := adv_seq (dA := dA) (rule := rule) ht h2.2.1 hA.adv
      have r02 : rdM σ σ2 := hr.tr x2.rd
      have cs := MdS_cts h
      have hge := sk_ge t (st1.1 + 1)
      have c0 := atX_ct x2 (f := 1130) (by decide)
      have c1 := atX_ct x2 (f := 1131) (by decide)
      have c2 := atX_ct x2 (f := 1132) (by decide)
      have c3 := atX_ct x2 (f := 1133) (by decide)
      have h2 : MdS σ2 t (sk t (st1.1 + 1), st1.2) opn 0 := h2
      refine x_if_eq_f i_M_alt_42 (by decide) ?_
      refine x_aload_n i_M_alt_45 rfl ?_
      refine x_cv0 i_M_alt_46 rfl rfl rfl ?_
      refine c_M_seqS (dA := dA) hA h2.re0 (by rw [c1]; show ct σ1 1131 ≤ sk t (st1.1 + 1); omega) (by rw [r02.2.1.1, r02.2.1.2]; exact hR) (fun σ3 b p3 => ?_)
      have r3 := p3.1
      have zlt : z < ct σ1 1131 := hy.1.1.2
      have zge : ct σ 1131 ≤ z := hy.1.1.1
      have hle := h.2.1.1
      have r4 : rdM σ (sAI σ3 13 29 z (b : Nat)) := (r02.tr r3).arr (by decide) (by decide) (fun q => absurd q (by decide)) (fun _ => zge) (fun q => absurd q (by decide))
      have r13 : rdM σ1 σ3 := x2.rd.tr r3
      have hm3 : mFld σ3 ∧ mLns σ3 := by
        have p3 := p3.2
        revert p3
        generalize seqP t rule dA alt (sk t (st1.1 + 1), st1.2) = R
        cases R with
        | inl q => intro p3; exact ⟨p3.1.1.1, p3.1.1.2.1⟩
        | inr x => intro p3; exact ⟨p3.1.1.1.1, p3.1.1.1.2.1⟩
      obtain ⟨hm, hl⟩ := hm3
      refine x_istore_n (ls' := [_, _, _, _]) i_M_alt_49 rfl rfl ?_
      refine x_aload_n i_M_alt_50 rfl ?_
      refine x_getR (c2 := 13) i_M_alt_51 rfl rfl (hm _ _ rfl) ?_
      refine x_iload_n i_M_alt_54 rfl ?_
      refine x_iload_n i_M_alt_55 rfl ?_
      refine x_iastore i_M_alt_56 (k := z) rfl (lt_len hl rfl (by omega)) ?_
      revert p3 av kk
      generalize seqP t rule dA alt (sk t (st1.1 + 1), st1.2) = R
      cases R with
      | inl q =>
        intro kk av p3
        have p3 : MdF σ3 t q opn (9 - opn) := p3.2
        have h4 : MdF (sAI σ3 13 29 z (b : Nat)) t q opn (9 - opn) := p3.arr (by decide) (by decide)
        generalize sAI σ3 13 29 z (b : Nat) = σ4 at r4 h4
        refine x_iload_n i_M_alt_57 rfl ?_
        refine x_istore_n (ls' := [_, _, _, _]) i_M_alt_58 rfl rfl ?_
        refine x_goto i_M_alt_59 ?_
        refine Ex.weak (ls := [_, _, _, none]) ⟨Or.inr rfl, Or.inr rfl, Or.inr rfl, Or.inl rfl, trivial⟩ ?_
        exact M_altEnd h4 (kk σ4 ⟨r4, h4⟩)
      | inr x =>
        intro kk av p3
        have av : advI t rule (sk t (st1.1 + 1), st1.2) x.2 := av
        have hq := p3.sq (a := a) (by rw [c0]; exact ha1)
        obtain ⟨-, p31, p32, p33, -⟩ := p3
        have h4 : MdS (sAI σ3 13 29 z (b : Nat)) t x.2 opn 0 := p31.arr (by decide) (by decide)
        have dn : ∀ r, dnN st1.2.2 r → dnN x.2.2.2 r := fun r w => dnN_ext av.2.2.2.2.2.1 r w
        have lt := av.1
        have lt' : st1.1 + 1 ≤ x.2.1 := by have : sk t (st1.1 + 1) < x.2.1 := lt; omega
        have zb : z < b := by have := p32.1; omega
        have e4 : ∀ a i, ¬ (a = 29 ∧ i = z) → AI (sAI σ3 13 29 z (b : Nat)) 13 a i = AI σ3 13 a i := fun a i w => by rw [AI_sAI, if_neg (fun q => w q.2)]
        have e4z : AI (sAI σ3 13 29 z (b : Nat)) 13 29 z = (b : Int) := by rw [AI_sAI, if_pos ⟨rfl, rfl, rfl⟩]
        have c4 : ∀ f, ct (sAI σ3 13 29 z (b : Nat)) f = ct σ3 f := fun _ => rfl
        have j34 : ∀ lA hA lS hS lI hI hP, (z < lS ∨ hS ≤ z) → nodJ lA hA lS hS lI hI hP σ3 (sAI σ3 13 29 z (b : Nat)) := fun lA hA lS hS lI hI hP w => nodJ.arr (by decide) ⟨fun q => absurd q (by decide), fun _ => w, fun q => absurd q (by decide)⟩
        generalize sAI σ3 13 29 z (b : Nat) = σ4 at r4 h4 e4 e4z c4 j34
        have m0 := r13.2.2.1 1130 (by decide) (by decide)
        have m1 := r13.2.2.1 1131 (by decide) (by decide)
        have m2 := r13.2.2.1 1132 (by decide) (by decide)
        have m3 := r13.2.2.1 1133 (by decide) (by decide)
        have m01 := hr.2.2.1 1131 (by decide) (by decide)
        have m02 := hr.2.2.1 1132 (by decide) (by decide)
        have j13 : ∀ lA lS hS lI, hS ≤ ct σ1 1131 → nodJ lA (ct σ1 1130) lS hS lI (ct σ1 1132) (ct σ1 1133) σ1 σ3 := fun lA lS hS lI w => r13.J (Nat.le_refl _) w (Nat.le_refl _) (Nat.le_refl _)
        have a27 : AI σ4 13 27 a = AI σ1 13 27 a := by rw [e4 27 a (by omega)]; exact r13.2.2.2.1 a (Nat.zero_le _) ha1
        have sq1 : ∀ k, k < ct σ1 1131 → AI σ3 13 28 k = AI σ1 13 28 k ∧ AI σ3 13 29 k = AI σ1 13 29 k := fun k w => r13.2.2.2.2.1 k (Nat.zero_le _) w
        have hc4 : chnB (AI σ4 13 29) (sqB σ4 (dnN x.2.2.2) n a (ct σ4 1130) (ct σ 1131) b (ct σ 1132) (ct σ4 1132) (ct σ4 1133)) acc (AI σ4 13 27 a) z := by
          rw [a27]
          refine hc.keep (fun u c w => ?_)
          have cz := w.1.1.2
          have cg := w.1.1.1
          have := sq1 c (by omega)
          refine ⟨w.keepJ dn ((j13 _ _ _ _ (Nat.le_of_lt zlt)).tr (j34 _ _ _ _ _ _ _ (Or.inr (Nat.le_refl _)))) (by rw [e4 _ _ (by omega)]; exact this.1) (by rw [c4]; exact m0) ⟨cg, by omega⟩ (Nat.le_of_lt zb) (Nat.le_refl _) (by rw [c4]; exact m2) (by rw [c4]; exact m3), by rw [e4 _ _ (by omega)]; exact this.2⟩
        have hz4 : sqB σ4 (dnN x.2.2.2) n a (ct σ4 1130) (ct σ 1131) b (ct σ 1132) (ct σ4 1132) (ct σ4 1133) y z :=
          hy.keepJ dn ((j13 _ _ _ _ (Nat.le_refl _)).tr (j34 _ _ _ _ _ _ _ (Or.inl (Nat.lt_succ_self _)))) (by rw [e4 _ _ (by omega)]; exact (sq1 z zlt).1) (by rw [c4]; exact m0) ⟨zge, zb⟩ (by have := p32.1; omega) (Nat.le_refl _) (by rw [c4]; exact m2) (by rw [c4]; exact m3)
        have hb4 : sqB σ4 (dnN x.2.2.2) n a (ct σ4 1130) (ct σ 1131) (ct σ4 1131) (ct σ 1132) (ct σ4 1132) (ct σ4 1133) x.1 b :=
          hq.keepJ (fun _ w => w) (j34 _ _ _ _ _ _ _ (Or.inl (by omega))) (e4 _ _ (by omega)) (by rw [c4]; exact Nat.le_refl _) ⟨by have := p32.1; omega, by rw [c4]; exact p32.2⟩ (by rw [c4]; exact Nat.le_refl _) (by omega) (by rw [c4]; exact Nat.le_refl _) (by rw [c4]; exact Nat.le_refl _)
        refine x_iload_n i_M_alt_57 rfl ?_
        refine x_istore_n (ls' := [_, _, _, _]) i_M_alt_58 rfl rfl ?_
        refine x_goto i_M_alt_59 ?_
        refine Ex.weak (ls := [_, _, _, none]) ⟨Or.inr rfl, Or.inr rfl, Or.inr rfl, Or.inl rfl, trivial⟩ ?_
        exact ih (acc ++ [y]) x.1 x.2 σ4 b (by omega) r4 h4 (by rw [c4]; omega) (by rw [e4 _ _ (by omega)]; exact p33) hb4 (hc4.snoc e4z hz4) kk
    · simp only [if_neg w] at kk
      refine x_if_eq_t i_M_alt_42 rfl ?_
      refine x_iload_n i_M_alt_62 rfl ?_
      refine x_iret i_M_alt_63 rfl ?_
      exact kk σ2 (fin acc y st1 σ1 σ2 z hr x2 h2 ha1 e29 hy hc)
theorem c_M_altS {alt : Option (RT → PR (PT n))} (hA : altHM (d + 5) t rule opn n alt) (h : MdS σ t st opn 0) (hR : FI σ 1136 0 = 1 → FI σ 1137 0 = (rule : Int)) (kk : ∀ σ' a, altQ t st opn (n + 1) (altP t rule dA alt st) σ σ' a → Q (some (vi (a : Nat))) σ') : wp (d + 9) m_M_alt [vr 11 0] σ Q := by
  have ht := h.1.2.1
  have ht1 := ht.1
  have hle := h.2.1.1
  obtain ⟨h1, r1, f1, fi⟩ := h.al
  have hS := h.A
  have cs := MdS_cts h
  unfold altP at kk
  have av := adv_seq (dA := dA) (rule := rule) ht h.2.1 hA.adv
  refine x_in (ls := [some _, none, none, none]) rfl rfl ?_
  refine x_aload_n i_M_alt_0 rfl ?_
  refine x_getI i_M_alt_1 rfl rfl ?_
  rw [h.2.2.2.1]
  refine x_if_lt_t i_M_alt_4 (by decide) ?_
  refine x_aload_n i_M_alt_9 rfl ?_
  refine x_getI i_M_alt_10 rfl rfl ?_
  rw [hS]
  refine x_istore_n (ls' := [_, _, _, _]) i_M_alt_13 rfl rfl ?_
  refine x_aload_n i_M_alt_14 rfl ?_
  refine x_dup i_M_alt_15 ?_
  refine x_getI i_M_alt_16 rfl rfl ?_
  rw [hS]
  refine x_iconst i_M_alt_19 ?_
  refine x_iadd i_M_alt_20 (by omega) ?_
  refine x_putI i_M_alt_21 rfl rfl ?_
  generalize sFI σ 1130 0 ((ct σ 1130 : Int) + 1) = σ1 at *
  have c0 : ct σ1 1130 = ct σ 1130 + 1 := ctN f1
  have c1 : ct σ1 1131 = ct σ 1131 := ctE (fi _ (by decide))
  have c2 : ct σ1 1132 = ct σ 1132 := ctE (fi _ (by decide))
  refine x_aload_n i_M_alt_24 rfl ?_
  refine x_cv0 i_M_alt_25 rfl rfl rfl ?_
  refine c_M_seqS (dA := dA) hA h1 (by rw [c1]; omega) (by rw [r1.2.1.1, r1.2.1.2]; exact hR) (fun σ2 b p2 => ?_)
  have r2 := p2.1
  have hm2 : mFld σ2 ∧ mLns σ2 := by
    have p3 := p2.2
    revert p3
    generalize seqP t rule dA alt st = R
    cases R with
    | inl q => intro p3; exact ⟨p3.1.1.1, p3.1.1.2.1⟩
    | inr x => intro p3; exact ⟨p3.1.1.1.1, p3.1.1.1.2.1⟩
  obtain ⟨hm, hl⟩ := hm2
  have r3 : rdM σ (sAI σ2 13 27 (ct σ 1130) (b : Nat)) := (r1.tr r2).arr (by decide) (by decide) (fun _ => Nat.le_refl _) (fun q => absurd q (by decide)) (fun q => absurd q (by decide))
  refine x_istore_n (ls' := [_, _, _, _]) i_M_alt_28 rfl rfl ?_
  refine x_aload_n i_M_alt_29 rfl ?_
  refine x_getR (c2 := 13) i_M_alt_30 rfl rfl (hm _ _ rfl) ?_
  refine x_iload_n i_M_alt_33 rfl ?_
  refine x_iload_n i_M_alt_34 rfl ?_
  refine x_iastore i_M_alt_35 (k := ct σ 1130) rfl (lt_len hl rfl (by omega)) ?_
  revert p2 av kk
  generalize seqP t rule dA alt st = R
  cases R with
  | inl q =>
    intro kk av p2
    have p2 : MdF σ2 t q opn (9 - opn) := p2.2
    have h3 : MdF (sAI σ2 13 27 (ct σ 1130) (b : Nat)) t q opn (9 - opn) := p2.arr (by decide) (by decide)
    exact M_altEnd h3 (kk _ _ ⟨r3, h3⟩)
  | inr x =>
    intro kk av p2
    have av : advI t rule st x.2 := av
    have hq := p2.sq (a := ct σ 1130) (by rw [c0]; exact Nat.le_refl _)
    obtain ⟨-, p21, p22, p23, -⟩ := p2
    have h3 : MdS (sAI σ2 13 27 (ct σ 1130) (b : Nat)) t x.2 opn 0 := p21.arr (by decide) (by decide)
    have e3 : ∀ a i, a ≠ 27 → AI (sAI σ2 13 27 (ct σ 1130) (b : Nat)) 13 a i = AI σ2 13 a i := fun a i w => by rw [AI_sAI, if_neg (fun q => w q.2.1)]
    have e3z : AI (sAI σ2 13 27 (ct σ 1130) (b : Nat)) 13 27 (ct σ 1130) = (b : Int) := by rw [AI_sAI, if_pos ⟨rfl, rfl, rfl⟩]
    have c4 : ∀ f, ct (sAI σ2 13 27 (ct σ 1130) (b : Nat)) f = ct σ2 f := fun _ => rfl
    have j34 : ∀ hA lS hS lI hI hP, nodJ (ct σ 1130 + 1) hA lS hS lI hI hP σ2 (sAI σ2 13 27 (ct σ 1130) (b : Nat)) := fun hA lS hS lI hI hP => nodJ.arr (by decide) ⟨fun _ => Or.inl (Nat.lt_succ_self _), fun q => absurd q (by decide), fun q => absurd q (by decide)⟩
    have m0 := r2.2.2.1 1130 (by decide) (by decide)
    generalize sAI σ2 13 27 (ct σ 1130) (b : Nat) = σ3 at *
    rw [c2, c1] at hq
    rw [c1] at p22
    have lt := av.1
    refine M_altLoop (dA := dA) (rule := rule) hA hR rfl 240 [] x.1 x.2 σ3 b (by omega) r3 h3 (by rw [c4]; omega) (by rw [e3 _ _ (by decide)]; exact p23) ?_ e3z (fun σ' hp => kk σ' _ hp)
    exact hq.keepJ (fun _ w => w) (j34 _ _ _ _ _ _) (e3 _ _ (by decide)) (by rw [c4]; exact Nat.le_refl _) ⟨p22.1, by rw [c4]; exact p22.2⟩ (by rw [c4]; exact Nat.le_refl _) (Nat.le_refl _) (by rw [c4]; exact Nat.le_refl _) (by rw [c4]; exact Nat.le_refl _)
end
theorem c_M_altAll {t : TP} (ht : tpOK t) {rule : Nat} : ∀ (k opn e : Nat), opn + k = 8 → 4 * k + 9 ≤ e → ∀ (σ : AS) (st : RT) (Q : AQ), MdS σ t st opn 0 → (FI σ 1136 0 = 1 → FI σ 1137 0 = (rule : Int)) → (∀ σ' a, altQ t st opn (k + 1) (altD t rule k st) σ σ' a → Q (some (vi (a : Nat))) σ') → wp e m_M_alt [vr 11 0] σ Q
  | 0, opn, e, ho, he, σ, st, Q, h, hR, kk => by
    obtain ⟨d, rfl⟩ : ∃ d, e = d + 9 := ⟨e - 9, by omega⟩
    exact c_M_altS (dA := dfP 0) (alt := none) (show opn = 8 by omega) h hR kk
  | k + 1, opn, e, ho, he, σ, st, Q, h, hR, kk => by
    obtain ⟨d, rfl⟩ : ∃ d, e = d + 9 := ⟨e - 9, by omega⟩
    refine c_M_altS (dA := dfP (k + 1)) (alt := some (altD t rule k)) ⟨by omega, fun st' w => adv_D ht k st' w, fun e' he' σ' st' Q' h' hR' kk' => ?_⟩ h hR kk
    exact c_M_altAll ht k (opn + 1) e' (by omega) (by omega) σ' st' Q' h' hR' kk'


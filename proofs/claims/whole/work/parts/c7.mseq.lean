/-! THE MODEL's reading: SEQS -/
def nodF (c j : Nat) (lA hA lS hS lI hI : Nat) : Prop := (c = 27 → j < lA ∨ hA ≤ j) ∧ ((c = 28 ∨ c = 29) → j < lS ∨ hS ≤ j) ∧ (30 ≤ c → j < lI ∨ hI ≤ j)
theorem nodJ.arr {σ : AS} {c j lA hA lS hS lI hI hP : Nat} {v : Int} (h : c ≤ 32) (w : nodF c j lA hA lS hS lI hI) : nodJ lA hA lS hS lI hI hP σ (sAI σ 13 c j v) := by
  obtain ⟨w1, w2, w3⟩ := w
  refine ⟨fun i q1 q2 => ?_, fun i q1 q2 => ⟨?_, ?_⟩, fun i q1 q2 => ⟨?_, ?_, ?_⟩, fun i q => ⟨?_, ?_, ?_, ?_⟩⟩
  all_goals (rw [AI_sAI, if_neg (fun v => by
    obtain ⟨-, v1, v2⟩ := v
    first
      | omega
      | (have := w1 v1.symm; omega)
      | (have := w2 (by omega); omega)
      | (have := w3 (by omega); omega))])
theorem rdM.arr {σ σ2 : AS} {c j : Nat} {v : Int} (h : rdM σ σ2) (w0 : 27 ≤ c) (w : c ≤ 32) (w1 : c = 27 → ct σ 1130 ≤ j) (w2 : (c = 28 ∨ c = 29) → ct σ 1131 ≤ j) (w3 : 30 ≤ c → ct σ 1132 ≤ j) : rdM σ (sAI σ2 13 c j v) := by
  obtain ⟨h1, h2, h3, h4⟩ := h
  have hj := (h4.J 0).tr (nodJ.arr (σ := σ2) (c := c) (j := j) (v := v) w ⟨fun q => Or.inr (w1 q), fun q => Or.inr (w2 q), fun q => Or.inr (w3 q)⟩)
  exact ⟨h1.tr (fX_sAI ⟨rfl, Or.inl ⟨w0, by omega⟩⟩), h2, h3, hj.1, hj.2.1, fun i q => hj.2.2.1 i (Nat.zero_le _) q, hj.2.2.2⟩
theorem MdS.arr {σ : AS} {t : TP} {st : RT} {opn e c j : Nat} {v : Int} (h : MdS σ t st opn e) (w0 : 27 ≤ c) (w : c ≤ 32) : MdS (sAI σ 13 c j v) t st opn e := by
  have x0 : fX (fun _ _ => False) (fun k a => k = 13 ∧ a = c) σ (sAI σ 13 c j v) := fX_sAI ⟨rfl, rfl⟩
  obtain ⟨b1, b2, b3, b4, b5, ⟨b61, b62, b63⟩, ⟨⟨b71, b72⟩, b73⟩, q⟩ := h
  have ai : ∀ a i, 37 ≤ a → AI (sAI σ 13 c j v) 13 a i = AI σ 13 a i := fun a i w => x0.2.2.1 _ _ _ (fun q => by omega)
  refine ⟨b1.keep x0 (fun q => q) (fun q => by omega), b2, b3, b4, b5, ⟨b61, b62, fun w i z hz => ?_⟩, ⟨⟨b71, fun i z hz => ?_⟩, b73⟩, q⟩
  · rw [ai _ _ (by decide), ai _ _ (by decide), ai _ _ (by decide), ai _ _ (by decide), ai _ _ (by decide)]
    exact b63 w i z hz
  · rw [ai _ _ (by decide), ai _ _ (by decide)]
    exact b72 i z hz
theorem MdF.arr {σ : AS} {t : TP} {p opn u c j : Nat} {v : Int} (h : MdF σ t p opn u) (w0 : 27 ≤ c) (w : c ≤ 32) : MdF (sAI σ 13 c j v) t p opn u := by
  have x0 : fX (fun _ _ => False) (fun k a => k = 13 ∧ a = c) σ (sAI σ 13 c j v) := fX_sAI ⟨rfl, rfl⟩
  obtain ⟨b1, b⟩ := h
  exact ⟨b1.keep x0 (fun q => q) (fun q => by omega), b⟩
theorem MdS.re0 {σ : AS} {t : TP} {st : RT} {opn : Nat} (h : MdS σ t st opn 0) : MdS σ t st opn 1 := h.re (Nat.zero_le _)
def itB (σ : AS) (dn : Nat → Prop) (n lA hA lS hS lI hI hP : Nat) (it : Item (PT n)) (i : Nat) : Prop := inB σ dn (fun i => altB σ dn n lA hA lS hS lI i hP) lI hI hP it i
theorem itB.keepJ {σ σ' : AS} {dn dn' : Nat → Prop} (hd : ∀ r, dn r → dn' r) {n lA hA lS hS lI hI hP lA' hA' lS' hS' lI' hI' hP' : Nat} {it : Item (PT n)} {i : Nat} (h : itB σ dn n lA hA lS hS lI hI hP it i) (hj : nodJ lA hA lS hS lI i hP σ σ') (e : AI σ' 13 30 i = AI σ 13 30 i ∧ AI σ' 13 31 i = AI σ 13 31 i) (w1 : lA' ≤ lA) (w2 : hA ≤ hA') (w3 : lS' ≤ lS) (w4 : hS ≤ hS') (w5 : lI' ≤ lI) (w6 : i < hI') (w7 : hP ≤ hP') : itB σ' dn' n lA' hA' lS' hS' lI' hI' hP' it i :=
  inB.keep h hd ⟨Nat.le_trans w5 h.1.1, w6⟩ w7 e hj.2.2.2 (fun x a hx => hx.keepJ hd n _ _ _ _ _ _ _ _ _ _ _ _ _ _ _ _ hj w1 w2 w3 w4 w5 (Nat.le_refl _) w7)
def newSq (σ : AS) (S : Nat) : AS := sAI (sFI σ 1131 0 ((S : Int) + 1)) 13 29 S (-1)
theorem MdS.S {σ : AS} {t : TP} {st : RT} {opn e : Nat} (h : MdS σ t st opn e) : FI σ 1131 0 = (ct σ 1131 : Int) := h.2.2.2.2.2.2.2.2.1.1
theorem MdS.sq {σ : AS} {t : TP} {st : RT} {opn : Nat} (h : MdS σ t st opn 1) (w : ct σ 1131 ≤ st.1) : MdS (newSq σ (ct σ 1131)) t st opn 1 ∧ rdM σ (newSq σ (ct σ 1131)) ∧ FI (newSq σ (ct σ 1131)) 1131 0 = ((ct σ 1131 + 1 : Nat) : Int) ∧ AI (newSq σ (ct σ 1131)) 13 29 (ct σ 1131) = -1 ∧ (∀ f, f ≠ 1131 → FI (newSq σ (ct σ 1131)) f 0 = FI σ f 0) := by
  have x0 : fX (fun f a => f = 1131 ∧ a = 0) (fun _ _ => False) σ (sFI σ 1131 0 ((ct σ 1131 : Int) + 1)) := fX_sFI ⟨rfl, rfl⟩
  have hS := h.S
  have f1 : FI (sFI σ 1131 0 ((ct σ 1131 : Int) + 1)) 1131 0 = ((ct σ 1131 + 1 : Nat) : Int) := by rw [FI_sFI, if_pos ⟨rfl, rfl⟩]; omega
  have fi : ∀ f, f ≠ 1131 → FI (sFI σ 1131 0 ((ct σ 1131 : Int) + 1)) f 0 = FI σ f 0 := fun f w => x0.1 _ _ (fun q => w q.1)
  have ai : ∀ a j, AI (sFI σ 1131 0 ((ct σ 1131 : Int) + 1)) 13 a j = AI σ 13 a j := fun _ _ => rfl
  have v29 : AI (sAI (sFI σ 1131 0 ((ct σ 1131 : Int) + 1)) 13 29 (ct σ 1131) (-1)) 13 29 (ct σ 1131) = -1 := by simp [AI_sAI]
  have r1 : rdM σ (sFI σ 1131 0 ((ct σ 1131 : Int) + 1)) := ⟨x0.mono (fun f x q => by rw [q.1, q.2]; exact ⟨by decide, by decide, rfl⟩) (fun k x q => q.elim), ⟨fi _ (by decide), fi _ (by decide)⟩, fun f w1 w2 => by
    by_cases e : f = 1131
    · rw [e, ctN f1]; omega
    · rw [ctE (fi f e)]; exact Nat.le_refl _, ⟨fun j _ _ => rfl, fun j _ _ => ⟨rfl, rfl⟩, fun j _ => ⟨rfl, rfl, rfl⟩, fun j _ => ⟨rfl, rfl, rfl, rfl⟩⟩⟩
  have h1 : MdS (sFI σ 1131 0 ((ct σ 1131 : Int) + 1)) t st opn 1 := by
    obtain ⟨b1, b2, ⟨a0, b3, b31, b32⟩, b4, b5, ⟨b61, b62, b63⟩, ⟨⟨b71, b72⟩, b73⟩, ⟨q1, q11⟩, ⟨q2, q21⟩, ⟨q3, q31⟩, q4, q41⟩ := h
    have cc : ∀ f, f ≠ 1131 → ct (sFI σ 1131 0 ((ct σ 1131 : Int) + 1)) f = ct σ f := fun f w => ctE (fi f w)
    refine ⟨b1.keep x0 (by decide) (fun q => q), b2, ⟨a0, by rw [fi _ (by decide)]; exact b3, b31, b32⟩, by rw [fi _ (by decide)]; exact b4, by rw [fi _ (by decide)]; exact b5, ⟨by rw [fi _ (by decide)]; exact b61, by rw [fi _ (by decide)]; exact b62, by rw [fi _ (by decide)]; exact b63⟩, ⟨⟨by rw [fi _ (by decide)]; exact b71, b72⟩, b73⟩, ⟨?_, ?_⟩, ⟨?_, ?_⟩, ⟨?_, ?_⟩, ?_, ?_⟩
    · rw [cc _ (by decide), fi _ (by decide)]; exact q1
    · rw [cc _ (by decide)]; exact q11
    · rw [ctN f1, f1]
    · rw [ctN f1]; omega
    · rw [cc _ (by decide), fi _ (by decide)]; exact q3
    · rw [cc _ (by decide)]; exact q31
    · rw [cc _ (by decide), fi _ (by decide)]; exact q4
    · rw [cc _ (by decide)]; exact q41
  exact ⟨h1.arr (by decide) (by decide), r1.arr (by decide) (by decide) (fun q => absurd q (by decide)) (fun _ => Nat.le_refl _) (fun q => absurd q (by decide)), f1, v29, fi⟩
theorem altHM.adv {d : Nat} {t : TP} {rule opn n : Nat} {alt : Option (RT → PR (PT n))} (h : altHM d t rule opn n alt) : ∀ f, alt = some f → ∀ st, okT t st → adv t rule st (f st) := by
  intro f hf
  subst hf
  exact h.2.1
def seqQ (t : TP) (opn n : Nat) (R : PR (List (Item (PT n)))) (σ σ' : AS) (s : Nat) : Prop := rdM σ σ' ∧ match R with
  | .inl q => MdF σ' t q opn (9 - opn)
  | .inr x => MdS σ' t x.2 opn 0 ∧ (ct σ 1131 ≤ s ∧ s < ct σ' 1131) ∧ AI σ' 13 29 s = -1 ∧ x.1 ≠ [] ∧ chnA (AI σ' 13 32) (itB σ' (dnN x.2.2.2) n (ct σ 1130) (ct σ' 1130) (s + 1) (ct σ' 1131) (ct σ 1132) (ct σ' 1132) (ct σ' 1133)) x.1 (AI σ' 13 28 s)
section
variable {d : Nat} {Q : AQ} {σ : AS} {t : TP} {st : RT} {opn n rule : Nat} {dA : PT n}
theorem M_seqEnd {s z p u : Nat} {σ1 : AS} (h : MdF σ1 t p opn u) (kk : Q (some (vi (s : Nat))) σ1) : Ex (wp (d + 7)) m_M_seq Q 34 [some (vr 11 0), some (vi (s : Nat)), some (vi (z : Nat)), none] [] σ1 := by
  refine x_aload_n i_M_seq_34 rfl ?_
  refine x_cv0 i_M_seq_35 rfl rfl rfl ?_
  refine c_M_beginsF h.2.2.2.1 ?_
  refine x_if_eq_t i_M_seq_38 rfl ?_
  refine x_iload_n i_M_seq_58 rfl ?_
  refine x_iret i_M_seq_59 rfl ?_
  exact kk
theorem M_seqLoop {alt : Option (RT → PR (PT n))} (hA : altHM (d + 5) t rule opn n alt) (hR : FI σ 1136 0 = 1 → FI σ 1137 0 = (rule : Int)) {s : Nat} (hs : ct σ 1131 = s) : ∀ (f : Nat) (acc : List (Item (PT n))) (y : Item (PT n)) (st1 : RT) (σ1 : AS) (z : Nat), 241 ≤ f + st1.1 → rdM σ σ1 → MdS σ1 t st1 opn 0 → s < ct σ1 1131 → AI σ1 13 29 s = -1 → AI σ1 13 32 z = -1 → itB σ1 (dnN st1.2.2) n (ct σ 1130) (ct σ1 1130) (s + 1) (ct σ1 1131) (ct σ 1132) (ct σ1 1132) (ct σ1 1133) y z → chnB (AI σ1 13 32) (itB σ1 (dnN st1.2.2) n (ct σ 1130) (ct σ1 1130) (s + 1) (ct σ1 1131) (ct σ 1132) z (ct σ1 1133)) acc (AI σ1 13 28 s) z → (∀ σ', seqQ t opn n (seqLP t rule dA alt f (acc ++ [y]) st1) σ σ' s → Q (some (vi (s : Nat))) σ') → Ex (wp (d + 7)) m_M_seq Q 34 [some (vr 11 0), some (vi (s : Nat)), some (vi (z : Nat)), none] [] σ1 := by
  have fin : ∀ (acc : List (Item (PT n))) (y : Item (PT n)) (st1 : RT) (σ1 σ2 : AS) (z : Nat), rdM σ σ1 → atX σ1 σ2 → MdS σ2 t st1 opn 0 → s < ct σ1 1131 → AI σ1 13 29 s = -1 → AI σ1 13 32 z = -1 → itB σ1 (dnN st1.2.2) n (ct σ 1130) (ct σ1 1130) (s + 1) (ct σ1 1131) (ct σ 1132) (ct σ1 1132) (ct σ1 1133) y z → chnB (AI σ1 13 32) (itB σ1 (dnN st1.2.2) n (ct σ 1130) (ct σ1 1130) (s + 1) (ct σ1 1131) (ct σ 1132) z (ct σ1 1133)) acc (AI σ1 13 28 s) z → seqQ t opn n (.inr (acc ++ [y], st1)) σ σ2 s := by
    intro acc y st1 σ1 σ2 z hr hx h hs1 e29 e32 hy hc
    have ai : ∀ a j, AI σ2 13 a j = AI σ1 13 a j := fun a j => hx.2.2.1 _ _ _ (fun q => q)
    have hj := fun lA hA lS hS lI hI hP => nodJ.all (σ := σ1) (σ' := σ2) (fun a j _ _ => ai a j) lA hA lS hS lI hI hP
    refine ⟨hr.tr hx.rd, h, ⟨by omega, by rw [atX_ct hx (by decide)]; exact hs1⟩, by rw [ai]; exact e29, by simp, ?_⟩
    rw [ai, atX_ct hx (by decide), atX_ct hx (by decide), atX_ct hx (by decide), atX_ct hx (by decide)]
    have hc2 := hc.keep (nx' := AI σ1 13 32) (R' := itB σ1 (dnN st1.2.2) n (ct σ 1130) (ct σ1 1130) (s + 1) (ct σ1 1131) (ct σ 1132) (ct σ1 1132) (ct σ1 1133)) (fun x c w => ⟨w.keepJ (fun _ v => v) (nodJ.rf _ _ _ _ _ _ _ _) ⟨rfl, rfl⟩ (Nat.le_refl _) (Nat.le_refl _) (Nat.le_refl _) (Nat.le_refl _) (Nat.le_refl _) (Nat.lt_trans w.1.2 hy.1.2) (Nat.le_refl _), rfl⟩)
    exact chnA.keepB (fun x c w => ⟨w.keepJ (fun _ v => v) (hj _ _ _ _ _ _ _) ⟨ai _ _, ai _ _⟩ (Nat.le_refl _) (Nat.le_refl _) (Nat.le_refl _) (Nat.le_refl _) (Nat.le_refl _) w.1.2 (Nat.le_refl _), ai _ _⟩) _ _ (hc2.A e32 hy)
  intro f
  induction f with
  | zero =>
    intro acc y st1 σ1 z hf hr h
    have := h.2.1.1
    have := h.1.2.1.1
    omega
  | succ f ih =>
    intro acc y st1 σ1 z hf hr h hs1 e29 e32 hy hc kk
    simp only [seqLP] at kk
    have ht := h.1.2.1
    have ht1 := ht.1
    refine x_aload_n i_M_seq_34 rfl ?_
    refine x_cv0 i_M_seq_35 rfl rfl rfl ?_
    refine c_M_beginsS h (fun σ2 x2 h2 f2 => ?_)
    cases hn2 : ahP (chT t st1.1) with
    | false =>
      rw [hn2] at kk
      simp only [if_neg (show ¬ (false = true) by decide)] at kk
      refine x_if_eq_t i_M_seq_38 rfl ?_
      refine x_iload_n i_M_seq_58 rfl ?_
      refine x_iret i_M_seq_59 rfl ?_
      exact kk σ2 (fin acc y st1 σ1 σ2 z hr x2 h2 hs1 e29 e32 hy hc)
    | true =>
      rw [hn2] at kk
      simp only [if_true] at kk
      have av := adv_itm (dA := dA) (rule := rule) ht h2.2.1 hA.adv
      have r02 : rdM σ σ2 := hr.tr x2.rd
      refine x_if_eq_f i_M_seq_38 (by decide) ?_
      refine x_aload_n i_M_seq_41 rfl ?_
      refine x_cv0 i_M_seq_42 rfl rfl rfl ?_
      refine c_M_itemS (dA := dA) hA h2.re0 (by rw [r02.2.1.1, r02.2.1.2]; exact hR) (fun σ3 b p3 => ?_)
      obtain ⟨r3, p3⟩ := p3
      have c0 := atX_ct x2 (f := 1130) (by decide)
      have c1 := atX_ct x2 (f := 1131) (by decide)
      have c2 := atX_ct x2 (f := 1132) (by decide)
      have c3 := atX_ct x2 (f := 1133) (by decide)
      have zlt : z < ct σ1 1132 := hy.1.2
      have zge : ct σ 1132 ≤ z := hy.1.1
      have cs := MdS_cts h
      have hle := h.2.1.1
      have r4 : rdM σ (sAI σ3 13 32 z (b : Nat)) := (r02.tr r3).arr (by decide) (by decide) (fun q => absurd q (by decide)) (fun q => absurd q (by decide)) (fun _ => zge)
      have r13 : rdM σ1 σ3 := x2.rd.tr r3
      have hm3 : mFld σ3 ∧ mLns σ3 := by
        revert p3
        generalize itmP t rule dA alt st1 = R
        cases R with
        | inl q => intro p3; exact ⟨p3.1.1.1.1, p3.1.1.1.2.1⟩
        | inr x => intro p3; exact ⟨p3.1.1.1.1, p3.1.1.1.2.1⟩
      obtain ⟨hm, hl⟩ := hm3
      refine x_istore_n (ls' := [_, _, _, _]) i_M_seq_45 rfl rfl ?_
      refine x_aload_n i_M_seq_46 rfl ?_
      refine x_getR (c2 := 13) i_M_seq_47 rfl rfl (hm _ _ rfl) ?_
      refine x_iload_n i_M_seq_50 rfl ?_
      refine x_iload_n i_M_seq_51 rfl ?_
      refine x_iastore i_M_seq_52 (k := z) rfl (lt_len hl rfl (by omega)) ?_
      revert p3 av kk
      generalize itmP t rule dA alt st1 = R
      cases R with
      | inl q =>
        intro kk av p3
        have h4 : MdF (sAI σ3 13 32 z (b : Nat)) t q opn (9 - opn) := p3.1.arr (by decide) (by decide)
        generalize sAI σ3 13 32 z (b : Nat) = σ4 at r4 h4
        refine x_iload_n i_M_seq_53 rfl ?_
        refine x_istore_n (ls' := [_, _, _, _]) i_M_seq_54 rfl rfl ?_
        refine x_goto i_M_seq_55 ?_
        refine Ex.weak (ls := [_, _, _, none]) ⟨Or.inr rfl, Or.inr rfl, Or.inr rfl, Or.inl rfl, trivial⟩ ?_
        exact M_seqEnd h4 (kk σ4 ⟨r4, h4⟩)
      | inr x =>
        intro kk av p3
        have av : advI t rule st1 x.2 := av
        obtain ⟨p31, p32, p33, p34⟩ := p3
        have p34 : itB σ3 (dnN x.2.2.2) n (ct σ2 1130) (ct σ3 1130) (ct σ2 1131) (ct σ3 1131) (ct σ2 1132) (ct σ3 1132) (ct σ3 1133) x.1 b := p34
        have h4 : MdS (sAI σ3 13 32 z (b : Nat)) t x.2 opn 0 := p31.arr (by decide) (by decide)
        have dn : ∀ r, dnN st1.2.2 r → dnN x.2.2.2 r := fun r w => dnN_ext av.2.2.2.2.2.1 r w
        have lt := av.1
        have zb : z < b := by have := p34.1.1; omega
        have e4 : ∀ a i, ¬ (a = 32 ∧ i = z) → AI (sAI σ3 13 32 z (b : Nat)) 13 a i = AI σ3 13 a i := fun a i w => by rw [AI_sAI, if_neg (fun q => w q.2)]
        have e4z : AI (sAI σ3 13 32 z (b : Nat)) 13 32 z = (b : Int) := by rw [AI_sAI, if_pos ⟨rfl, rfl, rfl⟩]
        have c4 : ∀ f, ct (sAI σ3 13 32 z (b : Nat)) f = ct σ3 f := fun _ => rfl
        have j34 : ∀ lA hA lS hS lI hI hP, (z < lI ∨ hI ≤ z) → nodJ lA hA lS hS lI hI hP σ3 (sAI σ3 13 32 z (b : Nat)) := fun lA hA lS hS lI hI hP w => nodJ.arr (by decide) ⟨fun q => absurd q (by decide), fun q => absurd q (by decide), fun _ => w⟩
        generalize sAI σ3 13 32 z (b : Nat) = σ4 at r4 h4 e4 e4z c4 j34
        have m0 := r13.2.2.1 1130 (by decide) (by decide)
        have m1 := r13.2.2.1 1131 (by decide) (by decide)
        have m3 := r13.2.2.1 1133 (by decide) (by decide)
        have m00 := hr.2.2.1 1130 (by decide) (by decide)
        have m02 := hr.2.2.1 1132 (by decide) (by decide)
        have j14 : ∀ lA lS lI, nodJ lA (ct σ1 1130) lS (ct σ1 1131) lI z (ct σ1 1133) σ1 σ4 := fun lA lS lI => (r13.J (Nat.le_refl _) (Nat.le_refl _) (Nat.le_of_lt zlt) (Nat.le_refl _)).tr (j34 _ _ _ _ _ _ _ (Or.inr (Nat.le_refl _)))
        have a28 : AI σ4 13 28 s = AI σ1 13 28 s := by rw [e4 28 s (by omega)]; exact (r13.2.2.2.2.1 s (Nat.zero_le _) hs1).1
        have a29 : AI σ4 13 29 s = AI σ1 13 29 s := by rw [e4 29 s (by omega)]; exact (r13.2.2.2.2.1 s (Nat.zero_le _) hs1).2
        have it1 : ∀ i, i < ct σ1 1132 → AI σ3 13 30 i = AI σ1 13 30 i ∧ AI σ3 13 31 i = AI σ1 13 31 i ∧ AI σ3 13 32 i = AI σ1 13 32 i := fun i w => r13.2.2.2.2.2.1 i w
        have hc4 : chnB (AI σ4 13 32) (itB σ4 (dnN x.2.2.2) n (ct σ 1130) (ct σ4 1130) (s + 1) (ct σ4 1131) (ct σ 1132) b (ct σ4 1133)) acc (AI σ4 13 28 s) z := by
          rw [a28]
          refine hc.keep (fun u c w => ?_)
          have cz := w.1.2
          have := it1 c (by omega)
          refine ⟨w.keepJ dn ((j14 _ _ _).sub (Nat.le_refl _) (Nat.le_refl _) (Nat.le_refl _) (Nat.le_refl _) (Nat.le_refl _) (Nat.le_of_lt cz) (Nat.le_refl _)) ⟨by rw [e4 _ _ (by omega)]; exact this.1, by rw [e4 _ _ (by omega)]; exact this.2.1⟩ (Nat.le_refl _) (by rw [c4]; exact m0) (Nat.le_refl _) (by rw [c4]; exact m1) (Nat.le_refl _) (by omega) (by rw [c4]; exact m3), by rw [e4 _ _ (by omega)]; exact this.2.2⟩
        have hz4 : itB σ4 (dnN x.2.2.2) n (ct σ 1130) (ct σ4 1130) (s + 1) (ct σ4 1131) (ct σ 1132) b (ct σ4 1133) y z :=
          hy.keepJ dn (j14 _ _ _) ⟨by rw [e4 _ _ (by omega)]; exact (it1 z zlt).1, by rw [e4 _ _ (by omega)]; exact (it1 z zlt).2.1⟩ (Nat.le_refl _) (by rw [c4]; exact m0) (Nat.le_refl _) (by rw [c4]; exact m1) (Nat.le_refl _) zb (by rw [c4]; exact m3)
        have hb4 : itB σ4 (dnN x.2.2.2) n (ct σ 1130) (ct σ4 1130) (s + 1) (ct σ4 1131) (ct σ 1132) (ct σ4 1132) (ct σ4 1133) x.1 b :=
          p34.keepJ (fun _ w => w) (j34 _ _ _ _ _ _ _ (Or.inl (by omega))) ⟨e4 _ _ (by omega), e4 _ _ (by omega)⟩ (by omega) (by rw [c4]; exact Nat.le_refl _) (by omega) (by rw [c4]; exact Nat.le_refl _) (by omega) (by rw [c4]; exact p34.1.2) (by rw [c4]; exact Nat.le_refl _)
        refine x_iload_n i_M_seq_53 rfl ?_
        refine x_istore_n (ls' := [_, _, _, _]) i_M_seq_54 rfl rfl ?_
        refine x_goto i_M_seq_55 ?_
        refine Ex.weak (ls := [_, _, _, none]) ⟨Or.inr rfl, Or.inr rfl, Or.inr rfl, Or.inl rfl, trivial⟩ ?_
        exact ih (acc ++ [y]) x.1 x.2 σ4 b (by omega) r4 h4 (by rw [c4]; omega) (by rw [a29]; exact e29) (by rw [e4 _ _ (by omega)]; exact p33) hb4 (hc4.snoc e4z hz4) kk
theorem c_M_seqS {alt : Option (RT → PR (PT n))} (hA : altHM (d + 5) t rule opn n alt) (h : MdS σ t st opn 1) (hs : ct σ 1131 ≤ st.1) (hR : FI σ 1136 0 = 1 → FI σ 1137 0 = (rule : Int)) (kk : ∀ σ' s, seqQ t opn n (seqP t rule dA alt st) σ σ' s → Q (some (vi (s : Nat))) σ') : wp (d + 8) m_M_seq [vr 11 0] σ Q := by
  have ht := h.1.2.1
  have ht1 := ht.1
  have hle := h.2.1.1
  obtain ⟨h1, r1, f1, e29, fi⟩ := h.sq hs
  have hS := h.S
  have hmr := h.1.1
  obtain ⟨hm, hl, -⟩ := id hmr
  unfold seqP at kk
  have av := adv_itm (dA := dA) (rule := rule) ht h.2.1 hA.adv
  refine x_in (ls := [some _, none, none, none]) rfl rfl ?_
  refine x_aload_n i_M_seq_0 rfl ?_
  refine x_getI i_M_seq_1 rfl rfl ?_
  rw [hS]
  refine x_istore_n (ls' := [_, _, _, _]) i_M_seq_4 rfl rfl ?_
  refine x_aload_n i_M_seq_5 rfl ?_
  refine x_dup i_M_seq_6 ?_
  refine x_getI i_M_seq_7 rfl rfl ?_
  rw [hS]
  refine x_iconst i_M_seq_10 ?_
  refine x_iadd i_M_seq_11 (by omega) ?_
  refine x_putI i_M_seq_12 rfl rfl ?_
  refine x_aload_n i_M_seq_15 rfl ?_
  refine x_getR (c2 := 13) i_M_seq_16 rfl rfl (hm _ _ rfl) ?_
  refine x_iload_n i_M_seq_19 rfl ?_
  refine x_iconst i_M_seq_20 ?_
  refine x_iastore i_M_seq_21 (k := ct σ 1131) rfl (lt_len hl rfl (by omega)) ?_
  show Ex (wp (d + 7)) m_M_seq Q 22 _ _ (newSq σ (ct σ 1131))
  generalize hσ : newSq σ (ct σ 1131) = σ1 at *
  have c0 : ct σ1 1130 = ct σ 1130 := ctE (fi _ (by decide))
  have c1 : ct σ1 1131 = ct σ 1131 + 1 := ctN f1
  have c2 : ct σ1 1132 = ct σ 1132 := ctE (fi _ (by decide))
  clear hm hl
  refine x_aload_n i_M_seq_22 rfl ?_
  refine x_cv0 i_M_seq_23 rfl rfl rfl ?_
  refine c_M_itemS (dA := dA) hA h1 (by rw [r1.2.1.1, r1.2.1.2]; exact hR) (fun σ2 b p2 => ?_)
  obtain ⟨r2, p2⟩ := p2
  have hm2 : mFld σ2 ∧ mLns σ2 := by
    revert p2
    generalize itmP t rule dA alt st = R
    cases R with
    | inl q => intro p3; exact ⟨p3.1.1.1.1, p3.1.1.1.2.1⟩
    | inr x => intro p3; exact ⟨p3.1.1.1.1, p3.1.1.1.2.1⟩
  obtain ⟨hm, hl⟩ := hm2
  have r3 : rdM σ (sAI σ2 13 28 (ct σ 1131) (b : Nat)) := (r1.tr r2).arr (by decide) (by decide) (fun q => absurd q (by decide)) (fun _ => Nat.le_refl _) (fun q => absurd q (by decide))
  refine x_istore_n (ls' := [_, _, _, _]) i_M_seq_26 rfl rfl ?_
  refine x_aload_n i_M_seq_27 rfl ?_
  refine x_getR (c2 := 13) i_M_seq_28 rfl rfl (hm _ _ rfl) ?_
  refine x_iload_n i_M_seq_31 rfl ?_
  refine x_iload_n i_M_seq_32 rfl ?_
  refine x_iastore i_M_seq_33 (k := ct σ 1131) rfl (lt_len hl rfl (by omega)) ?_
  revert p2 av kk
  generalize itmP t rule dA alt st = R
  cases R with
  | inl q =>
    intro kk av p2
    have h3 : MdF (sAI σ2 13 28 (ct σ 1131) (b : Nat)) t q opn (9 - opn) := p2.1.arr (by decide) (by decide)
    exact M_seqEnd h3 (kk _ _ ⟨r3, h3⟩)
  | inr x =>
    intro kk av p2
    have av : advI t rule st x.2 := av
    obtain ⟨p31, p32, p33, p34⟩ := p2
    have p34 : itB σ2 (dnN x.2.2.2) n (ct σ1 1130) (ct σ2 1130) (ct σ1 1131) (ct σ2 1131) (ct σ1 1132) (ct σ2 1132) (ct σ2 1133) x.1 b := p34
    have h3 : MdS (sAI σ2 13 28 (ct σ 1131) (b : Nat)) t x.2 opn 0 := p31.arr (by decide) (by decide)
    have e3 : ∀ a i, a ≠ 28 → AI (sAI σ2 13 28 (ct σ 1131) (b : Nat)) 13 a i = AI σ2 13 a i := fun a i w => by rw [AI_sAI, if_neg (fun q => w q.2.1)]
    have e3z : AI (sAI σ2 13 28 (ct σ 1131) (b : Nat)) 13 28 (ct σ 1131) = (b : Int) := by rw [AI_sAI, if_pos ⟨rfl, rfl, rfl⟩]
    have c4 : ∀ f, ct (sAI σ2 13 28 (ct σ 1131) (b : Nat)) f = ct σ2 f := fun _ => rfl
    have j34 : ∀ lA hA hS lI hI hP, nodJ lA hA (ct σ 1131 + 1) hS lI hI hP σ2 (sAI σ2 13 28 (ct σ 1131) (b : Nat)) := fun lA hA hS lI hI hP => nodJ.arr (by decide) ⟨fun q => absurd q (by decide), fun _ => Or.inl (Nat.lt_succ_self _), fun q => absurd q (by decide)⟩
    have s29 : AI σ2 13 29 (ct σ 1131) = -1 := by rw [(r2.2.2.2.2.1 (ct σ 1131) (Nat.zero_le _) (by omega)).2]; exact e29
    have m1 := r2.2.2.1 1131 (by decide) (by decide)
    generalize sAI σ2 13 28 (ct σ 1131) (b : Nat) = σ3 at *
    rw [c0, c2, c1] at p34
    have lt := av.1
    refine M_seqLoop (dA := dA) (rule := rule) hA hR rfl 240 [] x.1 x.2 σ3 b (by omega) r3 h3 (by rw [c4]; omega) (by rw [e3 _ _ (by decide)]; exact s29) (by rw [e3 _ _ (by decide)]; exact p33) ?_ e3z (fun σ' hp => kk σ' _ hp)
    exact p34.keepJ (fun _ w => w) (j34 _ _ _ _ _ _) ⟨e3 _ _ (by decide), e3 _ _ (by decide)⟩ (Nat.le_refl _) (by rw [c4]; exact Nat.le_refl _) (Nat.le_refl _) (by rw [c4]; exact Nat.le_refl _) (Nat.le_refl _) (by rw [c4]; exact p34.1.2) (by rw [c4]; exact Nat.le_refl _)
end


/-! THE MODEL's reading: PARTS -/
theorem bodP_mk {t : TP} {A : Type} {dA : A} {alt : Option (RT → PR A)} {kind num : Nat} {st : RT} {x : Item A × RT} (h : bodP t dA alt kind num st = .inr x) : x.1.1 = (kind, 0, num) ∧ x.1.2.1 = (-1, -1) := by
  unfold bodP at h
  repeat' split at h
  all_goals first | (cases h; done) | (injection h with h; subst h; exact ⟨rfl, rfl⟩)
theorem chaP_mk {t : TP} {A : Type} {alt : Option (RT → PR A)} {st : RT} {x : Item A × RT} (h : chaP t alt st = .inr x) : x.1.1 = (10, 0, 0) ∧ x.1.2.1 = (-1, -1) := by
  unfold chaP at h
  repeat' split at h
  all_goals first | (cases h; done) | (injection h with h; subst h; exact ⟨rfl, rfl⟩)
theorem ctE {σ σ' : AS} {f : Nat} (h : FI σ' f 0 = FI σ f 0) : ct σ' f = ct σ f := by unfold ct; rw [h]
theorem ctN {σ : AS} {f : Nat} {v : Nat} (h : FI σ f 0 = (v : Int)) : ct σ f = v := by unfold ct; rw [h]; rfl
theorem MdS.P {σ : AS} {t : TP} {st : RT} {opn e : Nat} (h : MdS σ t st opn e) : FI σ 1133 0 = (ct σ 1133 : Int) := h.2.2.2.2.2.2.2.2.2.2.1
theorem MdF.P {σ : AS} {t : TP} {p opn u : Nat} (h : MdF σ t p opn u) : FI σ 1133 0 = (ct σ 1133 : Int) ∧ ct σ 1132 ≤ t.1 + u ∧ ct σ 1133 ≤ t.1 + u := ⟨h.2.2.2.2.2.2.2.2.1, h.2.2.2.2.2.2.2.1.2, h.2.2.2.2.2.2.2.2.2⟩
theorem MdS.pt {σ : AS} {t : TP} {st : RT} {opn e : Nat} (h : MdS σ t st opn e) {k x y a : Int} (w1 : ct σ 1130 ≤ st.1) (w2 : ct σ 1131 ≤ st.1) (w3 : ct σ 1133 + 1 ≤ st.1) : MdS (ptM σ (ct σ 1133) k x y a) t st opn 0 := by
  obtain ⟨r1, c1, f1, fi, -, x0, -⟩ := ptM_rd (k := k) (x := x) (y := y) (a := a) h.P
  obtain ⟨b1, b2, ⟨a0, b3, b31, b32⟩, b4, b5, ⟨b61, b62, b63⟩, ⟨⟨b71, b72⟩, b73⟩, ⟨q1, q11⟩, ⟨q2, q21⟩, ⟨q3, q31⟩, q4⟩ := h
  have ai : ∀ c j, 37 ≤ c → AI (ptM σ (ct σ 1133) k x y a) 13 c j = AI σ 13 c j := fun c j w => x0.2.2.1 _ _ _ (fun q => by omega)
  have cc : ∀ f, f ≠ 1133 → ct (ptM σ (ct σ 1133) k x y a) f = ct σ f := fun f w => ctE (fi f w)
  refine ⟨b1.keep x0 (by decide) (by decide), b2, ⟨a0, by rw [fi _ (by decide)]; exact b3, b31, b32⟩, by rw [fi _ (by decide)]; exact b4, by rw [fi _ (by decide)]; exact b5, ⟨by rw [fi _ (by decide)]; exact b61, by rw [fi _ (by decide)]; exact b62, ?_⟩, ⟨⟨by rw [fi _ (by decide)]; exact b71, ?_⟩, b73⟩, ⟨?_, ?_⟩, ⟨?_, ?_⟩, ⟨?_, ?_⟩, ?_, ?_⟩
  · rw [fi _ (by decide)]
    intro w i z hz
    rw [ai _ _ (by decide), ai _ _ (by decide), ai _ _ (by decide), ai _ _ (by decide), ai _ _ (by decide)]
    exact b63 w i z hz
  · intro i z hz
    rw [ai _ _ (by decide), ai _ _ (by decide)]
    exact b72 i z hz
  · rw [cc _ (by decide), fi _ (by decide)]; exact q1
  · rw [cc _ (by decide)]; exact w1
  · rw [cc _ (by decide), fi _ (by decide)]; exact q2
  · rw [cc _ (by decide)]; exact w2
  · rw [cc _ (by decide), fi _ (by decide)]; exact q3
  · rw [cc _ (by decide)]; exact q31
  · rw [c1, f1]
  · rw [c1]; exact w3
theorem MdF.pt {σ : AS} {t : TP} {p opn u u' : Nat} (h : MdF σ t p opn u) {k x y a : Int} (w : u + 1 ≤ u') : MdF (ptM σ (ct σ 1133) k x y a) t p opn u' := by
  obtain ⟨r1, c1, f1, fi, -, x0, -⟩ := ptM_rd (k := k) (x := x) (y := y) (a := a) h.P.1
  obtain ⟨b1, b2, ⟨a0, b3, b31⟩, b4, b5, ⟨q1, q11⟩, ⟨q2, q21⟩, ⟨q3, q31⟩, q4, q41⟩ := h
  have cc : ∀ f, f ≠ 1133 → ct (ptM σ (ct σ 1133) k x y a) f = ct σ f := fun f w => ctE (fi f w)
  refine ⟨b1.keep x0 (by decide) (by decide), b2, ⟨a0, by rw [fi _ (by decide)]; exact b3, b31⟩, by rw [fi _ (by decide)]; exact b4, by rw [fi _ (by decide)]; exact b5, ⟨?_, ?_⟩, ⟨?_, ?_⟩, ⟨?_, ?_⟩, ?_, ?_⟩
  · rw [cc _ (by decide), fi _ (by decide)]; exact q1
  · rw [cc _ (by decide)]; exact q11
  · rw [cc _ (by decide), fi _ (by decide)]; exact q2
  · rw [cc _ (by decide)]; exact q21
  · rw [cc _ (by decide), fi _ (by decide)]; exact q3
  · rw [cc _ (by decide)]; omega
  · rw [c1, f1]
  · rw [c1]; omega
theorem prt_bad {t : TP} {st : RT} {opn n q u p : Nat} {σ σ' : AS} (h : MdF σ' t q opn u) (r : rdM σ σ') (hu : u + 1 ≤ 9 - opn) : prtQ t st opn n (.inl q) σ σ' p := ⟨r, h.up (by omega), by have := h.P.2.1; omega⟩
theorem prt_bad2 {t : TP} {st : RT} {opn n q u p : Nat} {σ σ' : AS} (h : MdF σ' t q opn u) (r : rdM σ σ') (hu : u + 1 ≤ 9 - opn) {k x y a : Int} : prtQ t st opn n (.inl q) σ (ptM σ' (ct σ' 1133) k x y a) p := by
  obtain ⟨r1, c1, f1, fi, -, x0, -⟩ := ptM_rd (k := k) (x := x) (y := y) (a := a) h.P.1
  have := h.P.2.1
  exact ⟨r.tr r1, h.pt hu, by rw [ctE (fi 1132 (by decide))]; omega⟩
theorem prt_fin {t : TP} {st st3 : RT} {opn n e : Nat} {it : Item (PT n)} {σ σ3 : AS} {k x y a : Int} (h3 : MdS σ3 t st3 opn e) (r3 : rdM σ σ3) (cA : ct σ3 1130 ≤ st3.1) (cS : ct σ3 1131 ≤ st3.1) (cI : ct σ3 1132 + 1 ≤ st3.1) (cP : ct σ3 1133 + 1 ≤ st3.1) (hk : it.1.1 ≤ 12 ∧ it.1.2.1 = 0) (e1 : k = (mKind it.1.1 : Int)) (e2 : it.1.1 ≤ 1 → x = it.2.1.1 ∧ y = it.2.1.2) (e3 : it.1.1 ≤ 6 → a = (it.1.2.2 : Int) ∧ it.1.2.2 < 32) (e4 : it.1.1 = 12 → x = (it.1.2.2 : Int) ∧ it.1.2.2 < 8 ∧ dnN st3.2.2 it.1.2.2) (e5 : (it.1.1 = 5 ∨ it.1.1 = 6 ∨ (8 ≤ it.1.1 ∧ it.1.1 ≤ 11)) → ∃ c : Nat, x = (c : Int) ∧ altB σ3 (dnN st3.2.2) n (ct σ 1130) (ct σ3 1130) (ct σ 1131) (ct σ3 1131) (ct σ 1132) (ct σ3 1132) (ct σ3 1133) it.2.2.1 c) (e6 : it.1.1 = 10 → ∃ c : Nat, y = (c : Int) ∧ altB σ3 (dnN st3.2.2) n (ct σ 1130) (ct σ3 1130) (ct σ 1131) (ct σ3 1131) (ct σ 1132) (ct σ3 1132) (ct σ3 1133) it.2.2.2 c) : prtQ t st opn n (.inr (it, st3)) σ (ptM σ3 (ct σ3 1133) k x y a) (ct σ3 1133) := by
  obtain ⟨r1, c1, f1, fi, ⟨v1, v2, v3, v4⟩, x0, -⟩ := ptM_rd (k := k) (x := x) (y := y) (a := a) h3.P
  have cc : ct (ptM σ3 (ct σ3 1133) k x y a) 1132 = ct σ3 1132 := ctE (fi _ (by decide))
  refine ⟨r3.tr r1, h3.pt cA cS cP, ⟨by rw [c1]; omega, by rw [cc]; exact cI⟩, hk, ?_, ?_, ?_, ?_, ?_, ?_⟩
  · rw [v1, e1]
  · rw [v2, v3]; exact e2
  · rw [v4]; exact e3
  · rw [v2]; exact e4
  · intro w
    obtain ⟨c, q1, q2⟩ := e5 w
    exact ⟨c, by rw [v2, q1], q2.keepM (fun _ w => w) r1⟩
  · intro w
    obtain ⟨c, q1, q2⟩ := e6 w
    exact ⟨c, by rw [v3, q1], q2.keepM (fun _ w => w) r1⟩
theorem prtQ.pre {t : TP} {st : RT} {opn n p : Nat} {R : PR (Item (PT n))} {σ σ1 σ' : AS} (h : prtQ t st opn n R σ1 σ' p) (hx : atX σ σ1) : prtQ t st opn n R σ σ' p := by
  obtain ⟨h1, h2⟩ := h
  rw [atX_ct hx (by decide), atX_ct hx (by decide), atX_ct hx (by decide)] at h2
  exact ⟨hx.rd.tr h1, h2⟩
theorem prt_leaf {t : TP} {st st3 : RT} {opn n e : Nat} {it : Item (PT n)} {σ σ3 : AS} {k x y a : Int} (h : MdS σ t st opn 1) (h3 : MdS σ3 t st3 opn e) (r3 : rdM σ σ3) (hc : ∀ f, 1130 ≤ f → f ≤ 1133 → FI σ3 f 0 = FI σ f 0) (hlt : st.1 < st3.1) (hk : it.1.1 ≤ 4 ∨ it.1.1 = 7 ∨ it.1.1 = 12) (hk2 : it.1.2.1 = 0) (e1 : k = (mKind it.1.1 : Int)) (e2 : it.1.1 ≤ 1 → x = it.2.1.1 ∧ y = it.2.1.2) (e3 : it.1.1 ≤ 6 → a = (it.1.2.2 : Int) ∧ it.1.2.2 < 32) (e4 : it.1.1 = 12 → x = (it.1.2.2 : Int) ∧ it.1.2.2 < 8 ∧ dnN st3.2.2 it.1.2.2) : prtQ t st opn n (.inr (it, st3)) σ (ptM σ3 (ct σ3 1133) k x y a) (ct σ3 1133) := by
  have cs := MdS_cts h
  have cc : ∀ f, 1130 ≤ f → f ≤ 1133 → ct σ3 f = ct σ f := fun f w1 w2 => ctE (hc f w1 w2)
  have c0 := cc 1130 (by decide) (by decide)
  have c1 := cc 1131 (by decide) (by decide)
  have c2 := cc 1132 (by decide) (by decide)
  have c3 := cc 1133 (by decide) (by decide)
  exact prt_fin h3 r3 (by omega) (by omega) (by omega) (by omega) ⟨by omega, hk2⟩ e1 e2 e3 e4 (fun w => by omega) (fun w => by omega)
theorem MdS.inc {σ : AS} {t : TP} {st : RT} {opn e : Nat} (h : MdS σ t st opn e) (hlt : st.1 < t.1) : atX σ (sFI σ 1125 0 ((st.1 : Int) + 1)) ∧ MdS (sFI σ 1125 0 ((st.1 : Int) + 1)) t (sk t (st.1 + 1), st.2) opn e ∧ FI (sFI σ 1125 0 ((st.1 : Int) + 1)) 1125 0 = ((st.1 + 1 : Nat) : Int) := by
  have x1 : atX σ (sFI σ 1125 0 ((st.1 : Int) + 1)) := atX_sFI (by decide) (by decide)
  have f1 : FI (sFI σ 1125 0 ((st.1 : Int) + 1)) 1125 0 = ((st.1 + 1 : Nat) : Int) := by rw [FI_sFI, if_pos ⟨rfl, rfl⟩]; omega
  have := sk_ge t (st.1 + 1)
  exact ⟨x1, h.at_ x1 (by omega) ⟨st.1 + 1, f1, hlt, rfl⟩ (by rw [FI_sFI, if_neg (by omega)]; exact h.2.2.2.1) (by rw [FI_sFI, if_neg (by omega)]; exact h.2.2.2.2.1) (by omega), f1⟩
section
variable {d : Nat} {Q : AQ} {σ : AS} {t : TP} {st : RT} {opn n rule : Nat} {dA : PT n}
theorem M_rpQuote (h : MdS σ t st opn 1) (ho : opn ≤ 8) (hR : FI σ 1136 0 = 1 → FI σ 1137 0 = (rule : Int)) (f1 : FI σ 1125 0 = (st.1 : Int)) (g : chT t st.1 = 39) (kk : ∀ σ' p, prtQ t st opn n (quoP t rule dA st) σ σ' p → Q (some (vi (p : Nat))) σ') : Ex (wp (d + 5)) m_M_readPart Q 29 [some (vr 11 0), some (vi (st.1 : Nat)), none, none, none, none, none] [] σ := by
  obtain ⟨b1, b2, b3, b4, b5, b6, -⟩ := id h
  have ht1 := b1.2.1.1
  have hlt : st.1 < t.1 := chT_lt (by omega)
  have l32 := b2.2.2
  have bad : ∀ (σ3 : AS) (q : Nat), MdF σ3 t q opn 0 → rdM σ σ3 → quoP t rule dA st = .inl q → Ex (wp (d + 5)) m_M_readPart Q 67 [some (vr 11 0), some (vi (st.1 : Nat)), none, none, none, none, none] [] σ3 := by
    intro σ3 q h3 r3 e
    rw [e] at kk
    have hf := h3.2.2.2.1
    refine x_aload_n i_M_readPart_67 rfl ?_
    refine x_getI i_M_readPart_68 rfl rfl ?_
    rw [hf]
    refine x_if_lt_f i_M_readPart_71 (by omega) ?_
    refine x_iconst i_M_readPart_74 ?_
    refine x_goto i_M_readPart_75 ?_
    refine x_iret i_M_readPart_93 rfl ?_
    exact kk σ3 0 (prt_bad h3 r3 (by omega))
  have bad2 : ∀ (σ3 : AS) (q : Nat) z, MdF σ3 t q opn 0 → rdM σ σ3 → quoP t rule dA st = .inl q → Ex (wp (d + 5)) m_M_readPart Q 60 [some (vr 11 0), some (vi (st.1 : Nat)), none, none, none, none, none] [vi z] σ3 := by
    intro σ3 q z h3 r3 e
    refine x_istore_n (ls' := [_, _, _, _, _, _, _]) i_M_readPart_60 rfl rfl ?_
    refine x_aload_n i_M_readPart_61 rfl ?_
    refine x_bipush i_M_readPart_62 ?_
    refine x_cv1 i_M_readPart_64 rfl rfl rfl ?_
    refine c_M_innerSignF h3.2.2.2.1 ?_
    refine Ex.weak (ls := [_, _, none, _, _, _, _]) ⟨Or.inr rfl, Or.inr rfl, Or.inl rfl, Or.inr rfl, Or.inr rfl, Or.inr rfl, Or.inr rfl, trivial⟩ ?_
    exact bad σ3 q h3 r3 e
  refine x_aload_n i_M_readPart_29 rfl ?_
  refine x_getI i_M_readPart_30 rfl rfl ?_
  rw [b6.1]
  refine x_bipush i_M_readPart_33 ?_
  refine x_icmp_ne i_M_readPart_35 (fun gl => ?_) (fun gl => ?_)
  · have lt : st.2.1.length < 32 := by omega
    obtain ⟨x1, h1, f2⟩ := h.inc hlt
    refine x_aload_n i_M_readPart_43 rfl ?_
    refine x_dup i_M_readPart_44 ?_
    refine x_getI i_M_readPart_45 rfl rfl ?_
    rw [f1]
    refine x_iconst i_M_readPart_48 ?_
    refine x_iadd i_M_readPart_49 (by omega) ?_
    refine x_putI i_M_readPart_50 rfl rfl ?_
    generalize sFI σ 1125 0 ((st.1 : Int) + 1) = σ1 at x1 h1 f2
    unfold quoP at kk bad bad2
    rw [if_neg (by omega)] at kk bad bad2
    refine x_aload_n i_M_readPart_53 rfl ?_
    refine x_iconst i_M_readPart_54 ?_
    refine x_bipush i_M_readPart_55 ?_
    refine x_cv2 i_M_readPart_57 rfl rfl rfl ?_
    refine c_M_innerS (u := 0) h1 (by decide) f2 (by omega) rfl (fun w1 w2 w3 σ2 x2 h2 f3 => ?_) (fun w σ2 x2 h2 f3 => ?_)
    · have v1 : ¬ (chT t (st.1 + 1) = -1 ∨ chT t (st.1 + 1) = 39) := by omega
      rw [if_neg v1] at kk bad
      refine x_istore_n (ls' := [_, _, _, _, _, _, _]) i_M_readPart_60 rfl rfl ?_
      refine x_aload_n i_M_readPart_61 rfl ?_
      refine x_bipush i_M_readPart_62 ?_
      refine x_cv1 i_M_readPart_64 rfl rfl rfl ?_
      refine c_M_innerSignS (u := 0) h2 (by decide) f3 (by omega) rfl (by decide) (fun w σ3 x3 h3 => ?_) (fun w σ3 x3 h3 => ?_)
      · rw [if_pos w] at kk
        have x13 : atX σ σ3 := (x1.tr x2).tr x3
        have hm3 := h3.1.1
        refine x_aload_n i_M_readPart_67 rfl ?_
        refine x_getI i_M_readPart_68 rfl rfl ?_
        rw [h3.2.2.2.1]
        refine x_if_lt_t i_M_readPart_71 (by decide) ?_
        refine x_aload_n i_M_readPart_78 rfl ?_
        refine x_iconst i_M_readPart_79 ?_
        refine x_iload_n i_M_readPart_80 rfl ?_
        refine x_iload_n i_M_readPart_81 rfl ?_
        refine x_aload_n i_M_readPart_82 rfl ?_
        refine x_iload_n i_M_readPart_83 rfl ?_
        refine x_iconst i_M_readPart_84 ?_
        refine x_iload_n i_M_readPart_85 rfl ?_
        refine x_iload_n i_M_readPart_86 rfl ?_
        refine x_cv4 i_M_readPart_87 rfl rfl rfl ?_
        refine c_M_atomS (rule := rule) (ty := 0) h3 lt rfl (by rw [x13.rd.2.1.1, x13.rd.2.1.2]; exact hR) (fun σ4 r4 h4 f4 c4 n4 => ?_)
        have hm4 := h4.1.1
        have cs := MdS_cts h4
        have s1 := sk_ge t (st.1 + 1 + 1 + 1)
        refine x_cv4 i_M_readPart_90 rfl rfl rfl ?_
        refine c_M_mkPart hm4.1 hm4.2.1 h4.P (by have := cs.2.2.2; have := h4.2.1.1; omega) ?_
        refine x_iret i_M_readPart_93 rfl ?_
        exact kk _ _ (prt_leaf h h4 (x13.rd.tr r4) (fun f w1 w2 => by rw [c4 f w1 w2]; exact x13.1 f 0 (fun q => by have := q.2.1; omega)) (by show st.1 < sk t (st.1 + 1 + 1 + 1); omega) (Or.inl (Nat.zero_le _)) rfl rfl (fun _ => ⟨rfl, rfl⟩) (fun _ => ⟨rfl, lt⟩) (fun w => absurd w (by show ¬ (0 : Nat) = 12; decide)))
      · rw [if_neg w] at bad
        refine Ex.weak (ls := [_, _, none, _, _, _, _]) ⟨Or.inr rfl, Or.inr rfl, Or.inl rfl, Or.inr rfl, Or.inr rfl, Or.inr rfl, Or.inr rfl, trivial⟩ ?_
        exact bad σ3 _ h3 (show atX σ σ3 from (x1.tr x2).tr x3).rd rfl
    · have v1 : chT t (st.1 + 1) = -1 ∨ chT t (st.1 + 1) = 39 := by
        have := chT_in b1.2.1 (st.1 + 1)
        rcases w with w | w | w
        · exact Or.inl (if_neg (by omega))
        · omega
        · exact Or.inr w
      rw [if_pos v1] at bad2
      exact bad2 σ2 _ _ h2 (show atX σ σ2 from x1.tr x2).rd rfl
  · have full : 32 ≤ st.2.1.length := by omega
    unfold quoP at bad2
    rw [if_pos full] at bad2
    refine x_aload_n i_M_readPart_38 rfl ?_
    refine x_iload_n i_M_readPart_39 rfl ?_
    refine x_cv1 i_M_readPart_40 rfl rfl rfl ?_
    refine c_M_wrongS (u := 0) h (by decide) b2.1 (fun σ2 x2 h2 f2 => ?_)
    refine x_aload_n i_M_readPart_43 rfl ?_
    refine x_dup i_M_readPart_44 ?_
    refine x_getI i_M_readPart_45 rfl rfl ?_
    rw [f2, f1]
    refine x_iconst i_M_readPart_48 ?_
    refine x_iadd i_M_readPart_49 (by omega) ?_
    refine x_putI i_M_readPart_50 rfl rfl ?_
    have x3 : atX σ2 (sFI σ2 1125 0 ((st.1 : Int) + 1)) := atX_sFI (by decide) (by decide)
    have h3 : MdF (sFI σ2 1125 0 ((st.1 : Int) + 1)) t st.1 opn 0 := h2.at_ x3 ⟨st.1 + 1, by rw [FI_sFI, if_pos ⟨rfl, rfl⟩]; omega, hlt⟩ (by rw [FI_sFI, if_neg (by omega)]; exact h2.2.2.2.1) (by rw [FI_sFI, if_neg (by omega)]; exact h2.2.2.2.2.1) (Nat.le_refl _)
    generalize sFI σ2 1125 0 ((st.1 : Int) + 1) = σ3 at x3 h3
    refine x_aload_n i_M_readPart_53 rfl ?_
    refine x_iconst i_M_readPart_54 ?_
    refine x_bipush i_M_readPart_55 ?_
    refine x_cv2 i_M_readPart_57 rfl rfl rfl ?_
    refine c_M_innerF h3.2.2.2.1 ?_
    exact bad2 σ3 _ _ h3 (show atX σ σ3 from x2.tr x3).rd rfl
end


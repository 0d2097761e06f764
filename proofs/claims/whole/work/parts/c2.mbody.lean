/-! THE MODEL's reading: what stands between ( and ) -/
theorem MdF.up {σ : AS} {t : TP} {p opn u u' : Nat} (h : MdF σ t p opn u) (w : u ≤ u') : MdF σ t p opn u' := ⟨h.1, h.2.1, h.2.2.1, h.2.2.2.1, h.2.2.2.2.1, h.2.2.2.2.2.mono (Nat.le_refl _) (Nat.le_refl _) (by omega) (by omega)⟩
theorem altB.keepM {σ σ' : AS} {dn dn' : Nat → Prop} (hd : ∀ r, dn r → dn' r) {n lA lS lI : Nat} {x : PT n} {a : Nat} (hx : rdM σ σ') (h : altB σ dn n lA (ct σ 1130) lS (ct σ 1131) lI (ct σ 1132) (ct σ 1133) x a) : altB σ' dn' n lA (ct σ' 1130) lS (ct σ' 1131) lI (ct σ' 1132) (ct σ' 1133) x a :=
  h.keepJ hd n _ _ _ _ _ _ _ _ _ _ _ _ _ _ _ _ (hx.J (Nat.le_refl _) (Nat.le_refl _) (Nat.le_refl _) (Nat.le_refl _)) (Nat.le_refl _) (hx.2.2.1 _ (by decide) (by decide)) (Nat.le_refl _) (hx.2.2.1 _ (by decide) (by decide)) (Nat.le_refl _) (hx.2.2.1 _ (by decide) (by decide)) (hx.2.2.1 _ (by decide) (by decide))
theorem altB.lo {σ : AS} {dn : Nat → Prop} {n lA hA lS hS lI hI hP lA' lS' lI' : Nat} {x : PT n} {a : Nat} (h : altB σ dn n lA hA lS hS lI hI hP x a) (w1 : lA' ≤ lA) (w2 : lS' ≤ lS) (w3 : lI' ≤ lI) : altB σ dn n lA' hA lS' hS lI' hI hP x a :=
  h.keepJ (fun _ w => w) n _ _ _ _ _ _ _ _ _ _ _ _ _ _ _ _ (nodJ.rf _ _ _ _ _ _ _ _) w1 (Nat.le_refl _) w2 (Nat.le_refl _) w3 (Nat.le_refl _) (Nat.le_refl _)
def obQ (t : TP) (st : RT) (opn : Nat) (σ σ' : AS) : Prop := atX σ σ' ∧ ((opn < 8 ∧ chT t st.1 = 40 ∧ MdS σ' t (sk t (st.1 + 1), st.2) (opn + 1) 0) ∨ ((opn = 8 ∨ chT t st.1 ≠ 40) ∧ MdF σ' t st.1 (opn + 1) 0))
def abQ (t : TP) (st : RT) (opn n : Nat) (alt : Option (RT → PR (PT n))) (σ σ' : AS) (a : Nat) : Prop := rdM σ σ' ∧ ((∃ f x, alt = some f ∧ chT t st.1 = 40 ∧ f (sk t (st.1 + 1), st.2) = .inr x ∧ MdS σ' t x.2 (opn + 1) 0 ∧ altB σ' (dnN x.2.2.2) n (ct σ 1130) (ct σ' 1130) (ct σ 1131) (ct σ' 1131) (ct σ 1132) (ct σ' 1132) (ct σ' 1133) x.1 a) ∨ (∃ q, MdF σ' t q (opn + 1) (8 - opn) ∧ (∀ dA kind num, bodP t dA alt kind num st = .inl q) ∧ chaP t alt st = .inl q))
def clQ (t : TP) (st : RT) (opn n : Nat) (R : PR (Item (PT n))) (a b : Nat) (σ σ' : AS) : Prop := rdM σ σ' ∧ match R with
  | .inl q => MdF σ' t q opn (8 - opn)
  | .inr x => MdS σ' t x.2 opn 0 ∧ (ct σ' 1132 + 1 ≤ x.2.1 ∧ ct σ' 1133 + 1 ≤ x.2.1) ∧ altB σ' (dnN x.2.2.2) n (ct σ 1130) (ct σ' 1130) (ct σ 1131) (ct σ' 1131) (ct σ 1132) (ct σ' 1132) (ct σ' 1133) x.1.2.2.1 a ∧ (x.1.1.1 = 10 → altB σ' (dnN x.2.2.2) n (ct σ 1130) (ct σ' 1130) (ct σ 1131) (ct σ' 1131) (ct σ 1132) (ct σ' 1132) (ct σ' 1133) x.1.2.2.2 b)
section
variable {d : Nat} {Q : AQ} {σ σ1 : AS} {t : TP} {st : RT} {opn : Nat}
theorem c_M_opens2 (h : MdS σ t st opn 1) (ho : opn ≤ 8) (kk : ∀ σ', obQ t st opn σ σ' → Q none σ') : wp (d + 3) m_M_opens [vr 11 0] σ Q :=
  c_M_opensS (u := 0) h (Nat.le_refl _) ho (fun w1 w2 σ' x h' => kk σ' ⟨x, Or.inl ⟨w1, w2, h'⟩⟩) (fun w σ' x h' => kk σ' ⟨x, Or.inr ⟨w, h'⟩⟩)
theorem c_M_altF {p : Nat} (hf : FI σ 1126 0 = (p : Int)) (kk : Q (some (vi 0)) σ) : wp (d + 1) m_M_alt [vr 11 0] σ Q := by
  refine x_in (ls := [some _, none, none, none]) rfl rfl ?_
  refine x_aload_n i_M_alt_0 rfl ?_
  refine x_getI i_M_alt_1 rfl rfl ?_
  rw [hf]
  refine x_if_lt_f i_M_alt_4 (by omega) ?_
  refine x_iconst i_M_alt_7 ?_
  refine x_iret i_M_alt_8 rfl ?_
  exact kk
theorem c_M_alt2 {n rule : Nat} {alt : Option (RT → PR (PT n))} (hA : altHM (d + 5) t rule opn n alt) (hR : FI σ 1136 0 = 1 → FI σ 1137 0 = (rule : Int)) (h : obQ t st opn σ σ1) (kk : ∀ σ' a, abQ t st opn n alt σ σ' a → Q (some (vi (a : Nat))) σ') : wp (d + 5) m_M_alt [vr 11 0] σ1 Q := by
  obtain ⟨x1, h⟩ := h
  have r1 := x1.rd
  rcases h with ⟨o8, c40, h1⟩ | ⟨w, h1⟩
  · cases alt with
    | none => have : opn = 8 := hA; omega
    | some f =>
      refine hA.2.2 (d + 5) (Nat.le_refl _) σ1 _ Q h1 (by rw [r1.2.1.1, r1.2.1.2]; exact hR) (fun σ2 a p => ?_)
      have p1 := p.1
      have p2 := p.2
      clear p
      revert p2
      cases hf : f (sk t (st.1 + 1), st.2) with
      | inl q =>
        intro p2
        have p2 : MdF σ2 t q (opn + 1) (9 - (opn + 1)) := p2
        refine kk σ2 a ⟨r1.tr p1, Or.inr ⟨q, p2.up (by omega), fun dA kind num => ?_, ?_⟩⟩
        · simp only [bodP, c40, if_true, hf]
        · simp only [chaP, c40, if_true, hf]
      | inr x =>
        intro p2
        have p21 := p2.1
        have p22 := p2.2
        rw [atX_ct x1 (by decide), atX_ct x1 (by decide), atX_ct x1 (by decide)] at p22
        exact kk σ2 a ⟨r1.tr p1, Or.inl ⟨f, x, rfl, c40, hf, p21, p22⟩⟩
  · refine c_M_altF h1.2.2.2.1 (kk σ1 0 ⟨r1, Or.inr ⟨st.1, h1.up (Nat.zero_le _), fun dA kind num => ?_, ?_⟩⟩)
    · cases alt with
      | none => rfl
      | some f =>
        have c : chT t st.1 ≠ 40 := by rcases w with w | w; exact absurd hA.1 (by omega); exact w
        simp only [bodP, if_neg c]
    · cases alt with
      | none => rfl
      | some f =>
        have c : chT t st.1 ≠ 40 := by rcases w with w | w; exact absurd hA.1 (by omega); exact w
        simp only [chaP, if_neg c]
theorem MdS_cts {σ : AS} {t : TP} {st : RT} {opn e : Nat} (h : MdS σ t st opn e) : ct σ 1130 ≤ st.1 + e ∧ ct σ 1131 ≤ st.1 + e ∧ ct σ 1132 ≤ st.1 ∧ ct σ 1133 ≤ st.1 := ⟨h.2.2.2.2.2.2.2.1.2, h.2.2.2.2.2.2.2.2.1.2, h.2.2.2.2.2.2.2.2.2.1.2, h.2.2.2.2.2.2.2.2.2.2.2⟩
theorem c_M_closes2 {n : Nat} {alt : Option (RT → PR (PT n))} {a : Nat} (dA : PT n) (kind num : Nat) (hk : kind ≠ 10) (ho : opn ≤ 8) (h : abQ t st opn n alt σ σ1 a) (kk : ∀ σ', clQ t st opn n (bodP t dA alt kind num st) a 0 σ σ' → Q none σ') : wp (d + 5) m_M_closes [vr 11 0] σ1 Q := by
  obtain ⟨r1, h⟩ := h
  rcases h with ⟨f, x, e1, c40, e2, h1, h2⟩ | ⟨q, h1, e1, -⟩
  · subst e1
    have cs := MdS_cts h1
    have hge := sk_ge t (x.2.1 + 1)
    refine c_M_closesS (u := 8 - opn) h1 (by decide) ho (fun w σ2 x2 h3 => ?_) (fun w σ2 x2 h3 => ?_)
    · refine kk σ2 ⟨r1.tr x2.rd, ?_⟩
      simp only [bodP, c40, if_true, e2, w]
      exact ⟨h3, ⟨by rw [atX_ct x2 (by decide)]; omega, by rw [atX_ct x2 (by decide)]; omega⟩, h2.keepM (fun _ w => w) x2.rd, fun w => absurd w hk⟩
    · refine kk σ2 ⟨r1.tr x2.rd, ?_⟩
      simp only [bodP, c40, if_true, e2, if_neg w]
      exact h3
  · refine c_M_closesF h1 ho (fun σ2 x2 h3 => kk σ2 ⟨r1.tr x2.rd, ?_⟩)
    rw [e1]
    exact h3
def nbQ (t : TP) (st : RT) (opn n : Nat) (alt : Option (RT → PR (PT n))) (σ σ' : AS) (a : Nat) : Prop := rdM σ σ' ∧ ((∃ f x, alt = some f ∧ chT t st.1 = 40 ∧ f (sk t (st.1 + 1), st.2) = .inr x ∧ chT t x.2.1 = 44 ∧ okT t x.2 ∧ MdS σ' t (sk t (x.2.1 + 1), x.2.2) (opn + 1) 0 ∧ altB σ' (dnN x.2.2.2) n (ct σ 1130) (ct σ' 1130) (ct σ 1131) (ct σ' 1131) (ct σ 1132) (ct σ' 1132) (ct σ' 1133) x.1 a) ∨ (∃ q, MdF σ' t q (opn + 1) (8 - opn) ∧ chaP t alt st = .inl q))
def acQ (t : TP) (st : RT) (opn n : Nat) (alt : Option (RT → PR (PT n))) (σ σ' : AS) (a b : Nat) : Prop := rdM σ σ' ∧ ((∃ f x y, alt = some f ∧ chT t st.1 = 40 ∧ f (sk t (st.1 + 1), st.2) = .inr x ∧ chT t x.2.1 = 44 ∧ f (sk t (x.2.1 + 1), x.2.2) = .inr y ∧ MdS σ' t y.2 (opn + 1) 0 ∧ altB σ' (dnN y.2.2.2) n (ct σ 1130) (ct σ' 1130) (ct σ 1131) (ct σ' 1131) (ct σ 1132) (ct σ' 1132) (ct σ' 1133) x.1 a ∧ altB σ' (dnN y.2.2.2) n (ct σ 1130) (ct σ' 1130) (ct σ 1131) (ct σ' 1131) (ct σ 1132) (ct σ' 1132) (ct σ' 1133) y.1 b) ∨ (∃ q, MdF σ' t q (opn + 1) (8 - opn) ∧ chaP t alt st = .inl q))
theorem c_M_need2 {n : Nat} {alt : Option (RT → PR (PT n))} {a : Nat} (h : abQ t st opn n alt σ σ1 a) (kk : ∀ σ', nbQ t st opn n alt σ σ' a → Q none σ') : wp (d + 4) m_M_need [vr 11 0, vi 44] σ1 Q := by
  obtain ⟨r1, h⟩ := h
  rcases h with ⟨f, x, e1, c40, e2, h1, h2⟩ | ⟨q, h1, -, e1⟩
  · refine c_M_needS (u := 8 - opn) h1 (by decide) (by decide) (fun w σ2 x2 h3 => ?_) (fun w σ2 x2 h3 => ?_)
    · exact kk σ2 ⟨r1.tr x2.rd, Or.inl ⟨f, x, e1, c40, e2, w, h1.2.1, h3, h2.keepM (fun _ w => w) x2.rd⟩⟩
    · refine kk σ2 ⟨r1.tr x2.rd, Or.inr ⟨x.2.1, h3, ?_⟩⟩
      subst e1
      simp only [chaP, c40, if_true, e2, if_neg w]
  · exact c_M_needF h1.2.2.2.1 (kk σ1 ⟨r1, Or.inr ⟨q, h1, e1⟩⟩)
theorem c_M_alt3 {n rule : Nat} {alt : Option (RT → PR (PT n))} {a : Nat} (hA : altHM (d + 5) t rule opn n alt) (hR : FI σ 1136 0 = 1 → FI σ 1137 0 = (rule : Int)) (h : nbQ t st opn n alt σ σ1 a) (kk : ∀ σ' b, acQ t st opn n alt σ σ' a b → Q (some (vi (b : Nat))) σ') : wp (d + 5) m_M_alt [vr 11 0] σ1 Q := by
  obtain ⟨r1, h⟩ := h
  rcases h with ⟨f, x, e1, c40, e2, c44, ok, h1, h2⟩ | ⟨q, h1, e1⟩
  · subst e1
    have hadv := hA.2.1 (sk t (x.2.1 + 1), x.2.2) (advW.tok (rule := rule) ok c44 (by decide)).2.ok
    refine hA.2.2 (d + 5) (Nat.le_refl _) σ1 _ Q h1 (by rw [r1.2.1.1, r1.2.1.2]; exact hR) (fun σ2 b p => ?_)
    have p1 := p.1
    have p2 := p.2
    clear p
    revert p2 hadv
    cases hf : f (sk t (x.2.1 + 1), x.2.2) with
    | inl q =>
      intro hadv p2
      have p2 : MdF σ2 t q (opn + 1) (9 - (opn + 1)) := p2
      refine kk σ2 b ⟨r1.tr p1, Or.inr ⟨q, p2.up (by omega), ?_⟩⟩
      simp only [chaP, c40, if_true, e2, c44, hf]
    | inr y =>
      intro hadv p2
      have hadv : advI t rule (sk t (x.2.1 + 1), x.2.2) y.2 := hadv
      have p21 := p2.1
      have p22 := p2.2
      refine kk σ2 b ⟨r1.tr p1, Or.inl ⟨f, x, y, rfl, c40, e2, c44, hf, p21, h2.keepM (fun r w => dnN_ext hadv.2.2.2.2.2.1 r w) p1, ?_⟩⟩
      exact p22.lo (r1.2.2.1 _ (by decide) (by decide)) (r1.2.2.1 _ (by decide) (by decide)) (r1.2.2.1 _ (by decide) (by decide))
  · exact c_M_altF h1.2.2.2.1 (kk σ1 0 ⟨r1, Or.inr ⟨q, h1, e1⟩⟩)
theorem c_M_closes3 {n : Nat} {alt : Option (RT → PR (PT n))} {a b : Nat} (ho : opn ≤ 8) (h : acQ t st opn n alt σ σ1 a b) (kk : ∀ σ', clQ t st opn n (chaP t alt st) a b σ σ' → Q none σ') : wp (d + 5) m_M_closes [vr 11 0] σ1 Q := by
  obtain ⟨r1, h⟩ := h
  rcases h with ⟨f, x, y, e1, c40, e2, c44, e3, h1, h2, h3⟩ | ⟨q, h1, e1⟩
  · subst e1
    have cs := MdS_cts h1
    have hge := sk_ge t (y.2.1 + 1)
    refine c_M_closesS (u := 8 - opn) h1 (by decide) ho (fun w σ2 x2 h4 => ?_) (fun w σ2 x2 h4 => ?_)
    · refine kk σ2 ⟨r1.tr x2.rd, ?_⟩
      simp only [chaP, c40, if_true, e2, c44, e3, w]
      exact ⟨h4, ⟨by rw [atX_ct x2 (by decide)]; omega, by rw [atX_ct x2 (by decide)]; omega⟩, h2.keepM (fun _ w => w) x2.rd, fun _ => h3.keepM (fun _ w => w) x2.rd⟩
    · refine kk σ2 ⟨r1.tr x2.rd, ?_⟩
      simp only [chaP, c40, if_true, e2, c44, e3, if_neg w]
      exact h4
  · refine c_M_closesF h1 ho (fun σ2 x2 h3 => kk σ2 ⟨r1.tr x2.rd, ?_⟩)
    rw [e1]
    exact h3
end


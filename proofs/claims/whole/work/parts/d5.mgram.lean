/-! A FAULT is in the text -/
theorem rulP_flt {t : TP} (ht : tpOK t) {R : Nat → Option (PT 9)} {st : RT} (h : okT t st) {p : Nat} (hp : rulP t R st = .inl p) : p ≤ t.1 := by
  unfold rulP at hp
  split at hp
  · rename_i w
    have hn := isNm_in w.1
    have tk := advW.tok (rule := (chT t st.1 - 65).toNat) h (c := chT t st.1) rfl (by omega)
    simp only [] at hp
    split at hp
    · rename_i w2
      have tk2 := advW.tok (rule := (chT t st.1 - 65).toNat) tk.2.ok (c := 61) w2 (by decide)
      have av := adv_D ht (rule := (chT t st.1 - 65).toNat) 8 _ tk2.2.ok
      simp only [] at av
      revert hp av
      generalize altD t _ 8 _ = RR
      cases RR with
      | inl q =>
        intro hp av
        injection hp with hp
        subst hp
        exact av.2
      | inr y =>
        intro hp av
        have av : advI t _ _ y.2 := av
        simp only [] at hp
        split at hp
        · cases hp
        · injection hp with hp
          subst hp
          exact av.2.2.1
    · injection hp with hp
      rw [← hp]
      exact tk.2.2.1
  · injection hp with hp
    rw [← hp]
    exact h.1
theorem rulLP_flt {t : TP} (ht : tpOK t) : ∀ (f : Nat) (R : Nat → Option (PT 9)) (st : RT), okT t st → ∀ p, rulLP t f R st = .inl p → p ≤ t.1
  | 0, R, st, h, p, hp => by cases hp
  | f + 1, R, st, h, p, hp => by
    simp only [rulLP] at hp
    split at hp
    · cases hr : rulP t R st with
      | inl q =>
        rw [hr] at hp
        injection hp with hp
        subst hp
        exact rulP_flt ht h hr
      | inr y =>
        rw [hr] at hp
        exact rulLP_flt ht f y.1 y.2 (rulP_names ht h hr).2.1 p hp
    · cases hp
theorem readE_flt {t : TP} (ht : tpOK t) {p : Nat} (hp : readE t = .inl p) : p ≤ t.1 := by
  unfold readE rulsP at hp
  have ok0 : okT t (sk t 0, [], []) := ⟨sk_le (Nat.zero_le _), sk_sk _ _, by show 0 ≤ 32; decide⟩
  cases hr : rulP t (fun _ => none) (sk t 0, [], []) with
  | inl q =>
    rw [hr] at hp
    injection hp with hp
    subst hp
    exact rulP_flt ht ok0 hr
  | inr y =>
    rw [hr] at hp
    simp only [] at hp
    have n1 := rulP_names ht ok0 hr
    cases hl : rulLP t 8 y.1 y.2 with
    | inl q =>
      rw [hl] at hp
      injection hp with hp
      subst hp
      exact rulLP_flt ht 8 _ _ n1.2.1 _ hl
    | inr x =>
      rw [hl] at hp
      simp only [] at hp
      have n2 := rulLP_names ht 8 y.1 y.2 n1.2.1 x hl
      obtain ⟨e, e1, e2, e3⟩ := n1.2.2.tr n2.2.2 (Nat.le_of_lt n1.1) n2.1
      cases hu : x.2.2.2.find? (fun z => (x.1 z.2).isSome == false) with
      | none => rw [hu] at hp; cases hp
      | some z =>
        rw [hu] at hp
        injection hp with hp
        subst hp
        have hz := List.mem_of_find?_eq_some hu
        rw [e1] at hz
        have h1 := e3 z (by simpa using hz)
        have h2 := n2.2.1.1
        omega
/-! THE MODEL's grammar() -/
theorem grmM.back {σ σ' : AS} {G : GG} (h : grmM σ G) (h1 : ∀ a j, j < 260 → 27 ≤ a → a ≤ 36 → AI σ' 13 a j = AI σ 13 a j) (h2 : ∀ a j, a = 26 ∨ (37 ≤ a ∧ a ≤ 42) → AI σ' 13 a j = AI σ 13 a j) (hB : ∀ j, AI σ' 14 0 j = AI σ 14 0 j) (e1 : FI σ' 1105 0 = FI σ 1105 0) (e2 : FI σ' 1106 0 = FI σ 1106 0) : grmM σ' G := by
  obtain ⟨a1, a2, a3, a4, a5, a6, a7, a8⟩ := h
  have ed : dnM σ' = dnM σ := by funext r; unfold dnM; rw [h2 _ _ (Or.inl rfl)]
  refine ⟨fun r hr q => ?_, fun r hr => by rw [h2 _ _ (Or.inl rfl)]; exact a2 r hr, by rw [e1]; exact a3, by rw [e2]; exact a4, a5, fun i a hi => ?_, fun r hr => by rw [hB]; exact a7 r hr, fun r hr => by rw [h2 _ _ (Or.inr (by decide))]; exact a8 r hr⟩
  · rw [h2 _ _ (Or.inl rfl)] at q ⊢
    obtain ⟨a, b1, b2⟩ := a1 r hr q
    exact ⟨a, b1, altM.keep2 h1 (fun r w => by rw [ed]; exact w) 9 _ _ b2⟩
  · rw [h2 _ _ (Or.inr (by decide)), h2 _ _ (Or.inr (by decide)), h2 _ _ (Or.inr (by decide)), h2 _ _ (Or.inr (by decide)), h2 _ _ (Or.inr (by decide))]
    exact a6 i a hi
theorem grmM.new {σ : AS} {R : Nat → Option (PT 9)} {l : List AT} (h1 : ralM σ (fun k => k < 8 ∧ (R k).isSome = true) R) (h2 : ∀ (i : Nat) a, l[i]? = some a → AI σ 13 41 i = (a.1 : Int) ∧ AI σ 13 37 i = (a.2.1 : Int) ∧ AI σ 13 38 i = (a.2.2.1 : Int) ∧ AI σ 13 39 i = a.2.2.2.1 ∧ AI σ 13 40 i = a.2.2.2.2) (c1 : FI σ 1105 0 = (cnR R : Int)) (c2 : FI σ 1106 0 = (l.length : Int)) (c3 : l.length ≤ 32) (hN : notM σ (nulG R)) (hS : ∀ r, r < 8 → iAnd (iShr (AI σ 13 42 r) (r : Nat)) 1 = bI (slfG R r)) : grmM σ (R, l, nulG R, slfG R) := by
  have rn : ∀ r, r < 8 → (AI σ 13 26 r ≠ -1 ↔ (R r).isSome = true) := by
    intro r hr
    have := h1 r hr
    revert this
    cases R r with
    | none => intro w; exact ⟨fun q => absurd w q, fun q => by cases q⟩
    | some alt => rintro ⟨a, w, -⟩; exact ⟨fun _ => rfl, fun _ => by rw [w]; omega⟩
  refine ⟨fun r hr q => ?_, rn, c1, c2, c3, h2, hN, hS⟩
  have hs := (rn r hr).mp q
  have hr1 := h1 r hr
  cases hR : R r with
  | none => rw [hR] at hs; cases hs
  | some alt =>
    rw [hR] at hr1
    obtain ⟨a, w1, w2⟩ := hr1
    refine ⟨a, w1, ?_⟩
    have e : rulG (R, l, nulG R, slfG R) r = alt := by
      show (R r).getD _ = alt
      rw [hR]; rfl
    rw [e]
    exact altM.keep (fun _ _ _ _ => rfl) (fun k hk => (rn k hk.1).mpr hk.2) 9 alt a w2
theorem ralM.keep {σ σ' : AS} {dn : Nat → Prop} {R : Nat → Option (PT 9)} (h : ralM σ dn R) (hx : ∀ a j, 26 ≤ a → a ≤ 36 → AI σ' 13 a j = AI σ 13 a j) : ralM σ' dn R := by
  intro r hr
  have := h r hr
  revert this
  cases R r with
  | none => intro w; show AI σ' 13 26 r = -1; rw [hx _ _ (by decide) (by decide)]; exact w
  | some alt =>
    rintro ⟨a, h1, h2⟩
    exact ⟨a, by rw [hx _ _ (by decide) (by decide)]; exact h1, altM.keep (fun a j w1 w2 => hx _ _ (by omega) (by omega)) (fun _ w => w) 9 _ _ h2⟩
section
variable {d : Nat} {Q : AQ} {σ : AS} {S : SS}
theorem M_gramInit (hmr : modR σ) (kk : ∀ σ1, fX (fun _ _ => False) (fun k a => k = 13 ∧ a = 26) σ σ1 → (∀ r, r < 8 → AI σ1 13 26 r = -1) → Ex (wp d) m_M_grammar Q 56 [some (vr 11 0), some (vi ((8 : Nat) : Int))] [] σ1) : ∀ (m n : Nat) (σ1 : AS), n + m = 8 → fX (fun _ _ => False) (fun k a => k = 13 ∧ a = 26) σ σ1 → (∀ r, r < n → AI σ1 13 26 r = -1) → Ex (wp d) m_M_grammar Q 37 [some (vr 11 0), some (vi (n : Nat))] [] σ1 := by
  intro m
  induction m with
  | zero =>
    intro n σ1 hn hx h0
    have e : n = 8 := by omega
    subst e
    refine x_iload_n i_M_grammar_37 rfl ?_
    refine x_bipush i_M_grammar_38 ?_
    refine x_icmp_ge_t i_M_grammar_40 (by omega) ?_
    exact kk σ1 hx h0
  | succ m ih =>
    intro n σ1 hn hx h0
    have hn8 : n < 8 := by omega
    obtain ⟨hm, hl, -⟩ := hmr.keep hx
    refine x_iload_n i_M_grammar_37 rfl ?_
    refine x_bipush i_M_grammar_38 ?_
    refine x_icmp_ge_f i_M_grammar_40 (by omega) ?_
    refine x_aload_n i_M_grammar_43 rfl ?_
    refine x_getR (c2 := 13) i_M_grammar_44 rfl rfl (hm _ _ rfl) ?_
    refine x_iload_n i_M_grammar_47 rfl ?_
    refine x_iconst i_M_grammar_48 ?_
    refine x_iastore i_M_grammar_49 (k := n) rfl (lt_len hl rfl hn8) ?_
    refine x_iinc (ls' := [_, _]) i_M_grammar_50 rfl (by omega) rfl ?_
    refine x_goto i_M_grammar_53 ?_
    refine ih (n + 1) _ (by omega) (hx.tr (fX_sAI ⟨rfl, rfl⟩)) (fun r hr => ?_)
    rw [AI_sAI]
    by_cases w : r = n
    · rw [if_pos ⟨rfl, rfl, w⟩]
    · rw [if_neg (fun q => w q.2.2)]; exact h0 r (by omega)
theorem c_M_grammar (h : moS σ S) (kk : ∀ σ', moX σ σ' → moS σ' (doGrammar S).2 → Q (some (vi (doGrammar S).1)) σ') : wp (d + 43) m_M_grammar [vr 11 0] σ Q := by
  obtain ⟨hmr, hbes, ht1, ht2, htp, hti, hg, hsp, hsp2, hla⟩ := id h
  have hz1 : S.1.1.1 ≤ 240 := ht1.1
  have hB : rmB σ S.1.1 := ⟨hmr, ht1, htp⟩
  have ht0 : tpOK (0, S.1.1.2) := ⟨Nat.zero_le _, fun i hi => absurd hi (Nat.not_lt_zero _)⟩
  unfold doGrammar at kk
  refine x_in (ls := [some _, none]) rfl rfl ?_
  refine x_aload_n i_M_grammar_0 rfl ?_
  refine x_iconst i_M_grammar_1 ?_
  refine x_cv1 i_M_grammar_2 rfl rfl rfl ?_
  refine c_M_copies (b := true) (S := 27) (D := 64) (Or.inl ⟨rfl, rfl, rfl⟩) hmr hbes (fun σ1 p1 => ?_)
  have b1 : rmB σ1 S.1.1 := hB.keep p1.1 (fun q => q) (fun q => absurd q.2.1 (by decide))
  have be1 := besM.cop p1 hbes
  refine x_aload_n i_M_grammar_5 rfl ?_
  refine x_iconst i_M_grammar_6 ?_
  refine x_cv1 i_M_grammar_7 rfl rfl rfl ?_
  refine c_M_reads (b := false) b1 (fun q => by cases q) (fun σ2 p2 => ?_)
  obtain ⟨l2, p2⟩ := p2
  have hm2 : modR σ2 := b1.1.keep l2
  have be2 : besM σ2 := be1.keep (by rw [l2.2.1]) l2.2.2.2.1 l2.2.2.2.2.1
  have y2 : moX σ σ2 := (p1.1.mo (fun f a q => q.elim) (fun k a q => Or.inl ⟨q.1, by omega, by omega⟩)).tr (l2.mo (fun f a q => by have := q.1; omega) (fun k a q => Or.inl ⟨q.1, by rcases q.2 with w | w | ⟨-, w⟩ <;> omega, by rcases q.2 with w | w | ⟨-, w⟩ <;> omega⟩))
  have fi2 : ∀ f, f < 1125 ∨ 1137 < f → FI σ2 f 0 = FI σ f 0 := fun f w => (l2.1 _ _ (fun q => by have := q.1; have := q.2.1; omega)).trans (p1.1.1 _ _ (fun q => q))
  have ai2 : ∀ a j, a < 27 ∨ (37 ≤ a ∧ a ≤ 42) ∨ (45 ≤ a ∧ a ≤ 63) → AI σ2 13 a j = AI σ 13 a j := fun a j w => (l2.2.2.1 _ _ _ (fun q => by rcases q.2 with v | v | ⟨v, -⟩; omega; omega; cases v)).trans (p1.1.2.2.1 _ _ _ (fun q => by have := q.2.1; omega))
  have bi2 : ∀ j, AI σ2 14 0 j = AI σ 14 0 j := fun j => (l2.2.2.1 _ _ _ (fun q => absurd q.1 (by decide))).trans (p1.1.2.2.1 _ _ _ (fun q => absurd q.1 (by decide)))
  revert p2 kk
  cases hre : readE S.1.1 with
  | inl p =>
    intro kk p2
    have p2 : FI σ2 1126 0 = (p : Int) := p2
    have hp := readE_flt ht1 hre
    refine x_aload_n i_M_grammar_10 rfl ?_
    refine x_getI i_M_grammar_11 rfl rfl ?_
    rw [p2]
    refine x_if_lt_f i_M_grammar_14 (by omega) ?_
    refine x_aload_n i_M_grammar_17 rfl ?_
    refine x_iconst i_M_grammar_18 ?_
    refine x_cv1 i_M_grammar_19 rfl rfl rfl ?_
    refine c_M_copies (b := false) (S := 64) (D := 27) (Or.inr ⟨rfl, rfl, rfl⟩) hm2 be2 (fun σ3 p3 => ?_)
    have fi3 : ∀ f, FI σ3 f 0 = FI σ2 f 0 := fun f => p3.1.1 _ _ (fun q => q)
    have hm3 : modR σ3 := modR.cop p3 hm2
    have be3 := besM.cop p3 be2
    have x4 : fX (fun f a => f = 1103 ∧ a = 0) (fun _ _ => False) σ3 (sFI σ3 1103 0 0) := fX_sFI ⟨rfl, rfl⟩
    have g4 : FI (sFI σ3 1103 0 0) 1103 0 = 0 := by rw [FI_sFI, if_pos ⟨rfl, rfl⟩]
    refine x_aload_n i_M_grammar_22 rfl ?_
    refine x_iconst i_M_grammar_23 ?_
    refine x_putI i_M_grammar_24 rfl rfl ?_
    generalize sFI σ3 1103 0 0 = σ4 at x4 g4
    have ai4 : ∀ k a j, AI σ4 k a j = AI σ3 k a j := fun k a j => x4.2.2.1 _ _ _ (fun q => q)
    have fi4 : ∀ f, f ≠ 1103 → FI σ4 f 0 = FI σ3 f 0 := fun f w => x4.1 _ _ (fun q => w q.1)
    have fiA : ∀ f, f ≠ 1103 → (f < 1125 ∨ 1137 < f) → FI σ4 f 0 = FI σ f 0 := fun f w1 w2 => ((fi4 f w1).trans (fi3 f)).trans (fi2 f w2)
    have aiA : ∀ a j, a < 27 ∨ (37 ≤ a ∧ a ≤ 42) ∨ (45 ≤ a ∧ a ≤ 63) → AI σ4 13 a j = AI σ 13 a j := fun a j w => ((ai4 _ _ _).trans (p3.1.2.2.1 _ _ _ (fun q => by have := q.2.1; have := q.2.2; omega))).trans (ai2 a j w)
    have biA : ∀ j, AI σ4 14 0 j = AI σ 14 0 j := fun j => ((ai4 _ _ _).trans (p3.1.2.2.1 _ _ _ (fun q => absurd q.1 (by decide)))).trans (bi2 j)
    have y4 : moX σ σ4 := (y2.tr (p3.1.mo (fun f a q => q.elim) (fun k a q => Or.inl ⟨q.1, by omega, by omega⟩))).tr (x4.mo (fun f a q => by omega) (fun k a q => q.elim))
    have back : ∀ a j, j < 260 → 27 ≤ a → a ≤ 36 → AI σ4 13 a j = AI σ 13 a j := by
      intro a j hj w1 w2
      obtain ⟨i, rfl⟩ : ∃ i, a = 27 + i := ⟨a - 27, by omega⟩
      rw [ai4, p3.2 i j (by omega) hj (Or.inl (by omega)), l2.2.2.1 _ _ _ (fun q => by rcases q.2 with v | v | ⟨v, -⟩; omega; omega; cases v), p1.2 i j (by omega) hj (Or.inl (by omega))]
    refine x_bipush i_M_grammar_27 ?_
    refine x_aload_n i_M_grammar_29 rfl ?_
    refine x_getI i_M_grammar_30 rfl rfl ?_
    rw [fi4 _ (by decide), fi3, p2]
    refine x_isub i_M_grammar_33 (by omega) ?_
    refine x_iret i_M_grammar_34 rfl ?_
    refine kk σ4 y4 ⟨hm3.keep x4, be3.keep (by rw [x4.2.1]) x4.2.2.2.1 x4.2.2.2.2.1, ht0, ht2, ⟨g4, fun i hi => absurd hi (Nat.not_lt_zero _)⟩, hti.keep (fiA _ (by decide) (by decide)) (fun j => aiA _ _ (by decide)), hg.back back (fun a j w => aiA _ _ (by omega)) biA (fiA _ (by decide) (by decide)) (fiA _ (by decide) (by decide)), by rw [fiA _ (by decide) (by decide)]; exact hsp, hsp2, lasM_keep hla (fun f w1 w2 => fiA _ (by omega) (by omega)) (fun a j w1 w2 => aiA _ _ (by omega))⟩
  | inr x =>
    intro kk p2
    obtain ⟨p21, -, -, -⟩ := p2
    refine x_aload_n i_M_grammar_10 rfl ?_
    refine x_getI i_M_grammar_11 rfl rfl ?_
    rw [p21]
    refine x_if_lt_t i_M_grammar_14 (by decide) ?_
    refine x_iconst i_M_grammar_35 ?_
    refine x_istore_n (ls' := [_, _]) i_M_grammar_36 rfl rfl ?_
    refine M_gramInit hm2 (fun σ3 x3 h3 => ?_) 8 0 σ2 rfl (fX.rf _ _ _) (fun r hr => absurd hr (Nat.not_lt_zero _))
    have b3 : rmB σ3 S.1.1 := ⟨hm2.keep x3, ht1, htp.keep ((x3.1 _ _ (fun q => q)).trans (fi2 _ (by decide))) (fun j => (x3.2.2.1 _ _ _ (fun q => absurd q.2 (by decide))).trans (ai2 _ _ (by decide)))⟩
    refine x_aload_n i_M_grammar_56 rfl ?_
    refine x_iconst i_M_grammar_57 ?_
    refine x_cv1 i_M_grammar_58 rfl rfl rfl ?_
    refine c_M_reads (b := true) b3 (fun _ => h3) (fun σ4 p4 => ?_)
    obtain ⟨l4, p4⟩ := p4
    rw [hre] at p4
    obtain ⟨q1, q2, ⟨q3, q4⟩, q5⟩ := p4
    obtain ⟨q51, q52⟩ := q5 rfl
    have ral4 : ralM σ4 (fun k => k < 8 ∧ (x.1 k).isSome = true) x.1 := q51
    have hm4 : modR σ4 := b3.1.keep l4
    have be4 : besM σ4 := (be2.keep (by rw [x3.2.1]) x3.2.2.2.1 x3.2.2.2.2.1).keep (by rw [l4.2.1]) l4.2.2.2.1 l4.2.2.2.2.1
    refine x_aload_n i_M_grammar_61 rfl ?_
    refine x_iconst i_M_grammar_62 ?_
    refine x_putI i_M_grammar_63 rfl rfl ?_
    refine x_aload_n i_M_grammar_66 rfl ?_
    refine x_aload_n i_M_grammar_67 rfl ?_
    refine x_getI i_M_grammar_68 rfl rfl ?_
    rw [show FI (sFI σ4 1103 0 0) 1128 0 = (cnR x.1 : Int) from by rw [FI_sFI, if_neg (by decide)]; exact q2]
    refine x_putI i_M_grammar_71 rfl rfl ?_
    refine x_aload_n i_M_grammar_74 rfl ?_
    refine x_aload_n i_M_grammar_75 rfl ?_
    refine x_getI i_M_grammar_76 rfl rfl ?_
    rw [show FI (sFI (sFI σ4 1103 0 0) 1105 0 (cnR x.1 : Int)) 1129 0 = (x.2.length : Int) from by rw [FI_sFI, if_neg (by decide), FI_sFI, if_neg (by decide)]; exact q3]
    refine x_putI i_M_grammar_79 rfl rfl ?_
    refine x_aload_n i_M_grammar_82 rfl ?_
    refine x_iconst i_M_grammar_83 ?_
    refine x_putZ i_M_grammar_84 rfl rfl (by omega) ?_
    generalize hσ5 : sFI (sFI (sFI (sFI σ4 1103 0 0) 1105 0 (cnR x.1 : Int)) 1106 0 (x.2.length : Int)) 1169 0 0 = σ5
    have x5 : fX (fun f a => (f = 1103 ∨ f = 1105 ∨ f = 1106 ∨ f = 1169) ∧ a = 0) (fun _ _ => False) σ4 σ5 := by rw [← hσ5]; exact (((fX_sFI ⟨by decide, rfl⟩).tr (fX_sFI ⟨by decide, rfl⟩)).tr (fX_sFI ⟨by decide, rfl⟩)).tr (fX_sFI ⟨by decide, rfl⟩)
    have g1 : FI σ5 1103 0 = 0 := by rw [← hσ5]; simp [FI_sFI]
    have g2 : FI σ5 1105 0 = (cnR x.1 : Int) := by rw [← hσ5]; simp [FI_sFI]
    have g3 : FI σ5 1106 0 = (x.2.length : Int) := by rw [← hσ5]; simp [FI_sFI]
    have g4 : FI σ5 1169 0 = 0 := by rw [← hσ5]; simp [FI_sFI]
    clear hσ5
    have ai5 : ∀ k a j, AI σ5 k a j = AI σ4 k a j := fun k a j => x5.2.2.1 _ _ _ (fun q => q)
    have ral5 := ral4.keep (fun a j _ _ => ai5 13 a j)
    refine x_aload_n i_M_grammar_87 rfl ?_
    refine x_cv0 i_M_grammar_88 rfl rfl rfl ?_
    refine c_M_may (hm4.keep x5) ral5 (fun σ6 x6 n6 s6 => ?_)
    have fi6 : ∀ f, FI σ6 f 0 = FI σ5 f 0 := fun f => x6.1 _ _ (fun q => q)
    have fiA : ∀ f, f < 1125 ∨ 1137 < f → f ≠ 1103 → f ≠ 1105 → f ≠ 1106 → f ≠ 1169 → FI σ6 f 0 = FI σ f 0 := fun f w w1 w2 w3 w4 => (((fi6 f).trans (x5.1 _ _ (fun q => by rcases q.1 with v | v | v | v <;> omega))).trans (l4.1 _ _ (fun q => by have := q.1; have := q.2.1; omega))).trans ((x3.1 _ _ (fun q => q)).trans (fi2 f w))
    have aiB : ∀ a j, a ≠ 42 → AI σ6 13 a j = AI σ4 13 a j := fun a j w => (x6.ai w).trans (ai5 _ _ _)
    have a24 : ∀ j, AI σ6 13 24 j = AI σ 13 24 j := fun j => ((aiB _ _ (by decide)).trans (l4.2.2.1 _ _ _ (fun q => by rcases q.2 with v | v | ⟨-, v⟩ <;> omega))).trans ((x3.2.2.1 _ _ _ (fun q => absurd q.2 (by decide))).trans (ai2 _ _ (by decide)))
    have y6 : moX σ σ6 := (((y2.tr (x3.mo (fun f a q => q.elim) (fun k a q => Or.inl ⟨q.1, by omega, by omega⟩))).tr (l4.mo (fun f a q => by have := q.1; omega) (fun k a q => Or.inl ⟨q.1, by rcases q.2 with w | w | ⟨-, w⟩ <;> omega, by rcases q.2 with w | w | ⟨-, w⟩ <;> omega⟩))).tr (x5.mo (fun f a q => by rcases q.1 with v | v | v | v <;> omega) (fun k a q => q.elim))).tr (x6.mo (fun f a q => q.elim) (fun k a q => by unfold mnA at q; omega))
    refine x_aload_n i_M_grammar_91 rfl ?_
    refine x_getI i_M_grammar_92 rfl rfl ?_
    rw [fi6, g2]
    refine x_iret i_M_grammar_95 rfl ?_
    refine kk σ6 y6 ⟨(hm4.keep x5).keep x6, (be4.keep (by rw [x5.2.1]) x5.2.2.2.1 x5.2.2.2.2.1).keep (by rw [x6.2.1]) x6.2.2.2.1 x6.2.2.2.2.1, ht0, ht2, ⟨(fi6 _).trans g1, fun i hi => absurd hi (Nat.not_lt_zero _)⟩, hti.keep (fiA _ (by decide) (by decide) (by decide) (by decide) (by decide)) a24, grmM.new (ral5.mn x6) (fun i a hi => by rw [aiB _ _ (by decide), aiB _ _ (by decide), aiB _ _ (by decide), aiB _ _ (by decide), aiB _ _ (by decide)]; exact q52 i a hi) ((fi6 _).trans g2) ((fi6 _).trans g3) q4 n6 s6, by rw [fiA _ (by decide) (by decide) (by decide) (by decide) (by decide)]; exact hsp, hsp2, (fi6 _).trans g4⟩
end


/-! THE CLASS's Reader: ALTS -/
section
variable {d : Nat} {Q : AQ} {σ : AS} {C : Nat → Nat} {t : TP} {st : RT} {opn : Nat}
theorem Rd_altEnd {s0 la i p : Nat} {σ1 : AS} (h : RdF σ1 C t p opn) (kk : Q (some (vr 8 s0)) σ1) : Ex (wp (d + 11)) m_Reader_readAlt Q 9 [some (vr 5 (C 0)), some (vr 8 s0), some (vr 8 la), some (vi (i : Nat)), none] [] σ1 := by
  have out : Ex (wp (d + 11)) m_Reader_readAlt Q 46 [some (vr 5 (C 0)), some (vr 8 s0), some (vr 8 la), some (vi (i : Nat)), none] [] σ1 := by
    refine x_aload_n i_Reader_readAlt_46 rfl ?_
    refine x_aret (c := 8) i_Reader_readAlt_47 rfl ?_
    exact kk
  refine x_iload_n i_Reader_readAlt_9 rfl ?_
  refine x_sipush i_Reader_readAlt_10 ?_
  refine x_icmp_ge i_Reader_readAlt_13 (fun g1 => ?_) (fun g1 => ?_)
  · exact out
  · refine x_aload_n i_Reader_readAlt_16 rfl ?_
    refine x_bipush i_Reader_readAlt_17 ?_
    refine x_cv1 i_Reader_readAlt_19 rfl rfl rfl ?_
    refine c_Rd_takesF h.2.2.2.2.1 ?_
    refine x_if_eq_t i_Reader_readAlt_22 rfl ?_
    exact out
theorem Rd_altLoop {k rule s0 : Nat} {alt : Option (RT → PR (PT k))} {dA : PT k} (hA : altHyp (d + 6) C t rule opn k alt) (hadv : ∀ f, alt = some f → ∀ st, okT t st → adv t rule st (f st)) (ht : tpOK t) (hs : CN σ 8 ≤ s0) : ∀ (f i : Nat) (acc : List (List (Item (PT k)))) (y : List (Item (PT k))) (st1 : RT) (σ1 : AS) (z : Nat), i + f = 240 → st.1 ≤ st1.1 → rdX C σ σ1 → RdS σ1 C t st1 opn → FR σ1 801 z = none → inA σ1 k st1.2.2 (CN σ 4) (CN σ 8) (CN σ1 4) (CN σ1 8) y z → chnT (FR σ1 801) (inA σ1 k st1.2.2 (CN σ 4) (CN σ 8) (CN σ1 4) z) acc (some s0) z → nC σ1 ≤ nC σ + 4 * (st1.1 - st.1) → (∀ σ', altPost C t st opn (k + 1) (altLP t rule dA alt f (acc ++ [y]) st1) σ σ' s0 → Q (some (vr 8 s0)) σ') → Ex (wp (d + 11)) m_Reader_readAlt Q 9 [some (vr 5 (C 0)), some (vr 8 s0), some (vr 8 z), some (vi (i : Nat)), none] [] σ1 := by
  have fin : ∀ (acc : List (List (Item (PT k)))) (y : List (Item (PT k))) (st1 : RT) (σ1 : AS) (z : Nat), rdX C σ σ1 → RdS σ1 C t st1 opn → FR σ1 801 z = none → inA σ1 k st1.2.2 (CN σ 4) (CN σ 8) (CN σ1 4) (CN σ1 8) y z → chnT (FR σ1 801) (inA σ1 k st1.2.2 (CN σ 4) (CN σ 8) (CN σ1 4) z) acc (some s0) z → nC σ1 ≤ nC σ + 4 * (st1.1 - st.1) → altPost C t st opn (k + 1) (.inr (acc ++ [y], st1)) σ σ1 s0 := by
    intro acc y st1 σ1 z hr h ez hy hc hn
    refine ⟨hr, hs, h, ⟨fun w => List.cons_ne_nil _ _ (List.append_eq_nil_iff.mp w).2, ?_⟩, hn⟩
    exact (hc.keep (fun x c w => ⟨w.keep (fun r w => w) rfl (psoI.rf _ _ _ _ _) (Nat.le_refl _) (Nat.le_of_lt hy.1.1.2), rfl⟩)).R ez hy
  intro f
  induction f with
  | zero =>
    intro i acc y st1 σ1 z hi hst hr h ez hy hc hn kk
    refine x_iload_n i_Reader_readAlt_9 rfl ?_
    refine x_sipush i_Reader_readAlt_10 ?_
    refine x_icmp_ge_t i_Reader_readAlt_13 (by omega) ?_
    refine x_aload_n i_Reader_readAlt_46 rfl ?_
    refine x_aret (c := 8) i_Reader_readAlt_47 rfl ?_
    exact kk σ1 (fin acc y st1 σ1 z hr h ez hy hc hn)
  | succ f ih =>
    intro i acc y st1 σ1 z hi hst hr h ez hy hc hn kk
    simp only [altLP] at kk
    have st1le := h.2.1.1
    refine x_iload_n i_Reader_readAlt_9 rfl ?_
    refine x_sipush i_Reader_readAlt_10 ?_
    refine x_icmp_ge_f i_Reader_readAlt_13 (by omega) ?_
    refine x_aload_n i_Reader_readAlt_16 rfl ?_
    refine x_bipush i_Reader_readAlt_17 ?_
    refine x_cv1 i_Reader_readAlt_19 rfl rfl rfl ?_
    refine c_Rd_takes h (by decide) (fun w σ2 x2 h2 => ?_) (fun w σ2 x2 h2 f2 => ?_)
    · rw [if_pos w] at kk
      have c2 : CN σ2 = CN σ1 := x2.2.2.2.2.2.1
      have n2 : nC σ2 = nC σ1 := x2.2.2.2.2.2.2.1
      have r2 : FR σ2 = FR σ1 := x2.2.1
      have hge := sk_ge t (st1.1 + 1)
      have tk := advW.tok (rule := rule) h.2.1 w (by decide)
      have av := adv_seq (dA := dA) (rule := rule) ht tk.2.ok hadv
      refine x_if_eq_f i_Reader_readAlt_22 (by decide) ?_
      refine x_aload_n i_Reader_readAlt_25 rfl ?_
      refine x_cv0 i_Reader_readAlt_26 rfl rfl rfl ?_
      refine c_Rd_readSeq (dA := dA) hA hadv ht h2 (fun σ3 s p3 => ?_)
      obtain ⟨r3, s3, p3⟩ := p3
      have z2 : z < CN σ2 8 := by rw [c2]; exact hy.1.1.2
      have zs : z < s := by omega
      have z0 : CN σ 8 ≤ z := hy.1.1.1
      refine x_astore (ls' := [_, _, _, _, _]) i_Reader_readAlt_29 rfl rfl ?_
      refine x_aload_n i_Reader_readAlt_31 rfl ?_
      refine x_aload i_Reader_readAlt_32 rfl ?_
      refine x_putO (c2 := 8) i_Reader_readAlt_34 rfl rfl ?_
      have x4 : obX 8 z σ3 (sFR σ3 801 z (some s)) := (obX.rf _ _ _).sFR rfl
      have r4 := ((hr.tr x2.rd).tr r3).ob x4 z0
      have e4 : ∀ g x, ¬ (g = 801 ∧ x = z) → FR (sFR σ3 801 z (some s)) g x = FR σ3 g x := fun g x w => by rw [FR_sFR, if_neg w]
      have e4z : FR (sFR σ3 801 z (some s)) 801 z = some s := by rw [FR_sFR, if_pos ⟨rfl, rfl⟩]
      have c4 : CN (sFR σ3 801 z (some s)) = CN σ3 := rfl
      have n4 : nC (sFR σ3 801 z (some s)) = nC σ3 := rfl
      have fi4 : FI (sFR σ3 801 z (some s)) = FI σ3 := rfl
      revert p3 av kk
      generalize seqP t rule dA alt (sk t (st1.1 + 1), st1.2) = R
      cases R with
      | inl p =>
        intro kk av p3
        have h4 := p3.1.ob x4 (Or.inr (Or.inr rfl))
        have p3n : nC σ3 ≤ nC σ2 + 4 * (t.1 + 1 - sk t (st1.1 + 1)) + 4 * k + 5 := p3.2
        have tk1 : sk t (st1.1 + 1) ≤ t.1 := tk.2.ok.1
        generalize sFR σ3 801 z (some s) = σ4 at r4 h4 n4
        refine x_aload i_Reader_readAlt_37 rfl ?_
        refine x_astore_n (ls' := [_, _, _, _, _]) i_Reader_readAlt_39 rfl rfl ?_
        refine x_iinc (ls' := [_, _, _, _, _]) i_Reader_readAlt_40 rfl (by omega) rfl ?_
        refine x_goto i_Reader_readAlt_43 ?_
        refine Ex.weak (ls := [_, _, _, _, none]) ⟨Or.inr rfl, Or.inr rfl, Or.inr rfl, Or.inr rfl, Or.inl rfl, trivial⟩ ?_
        exact Rd_altEnd (i := i + 1) h4 (kk σ4 ⟨r4, hs, h4, by rw [n4]; omega⟩)
      | inr x =>
        intro kk av p3
        have av : advI t rule (sk t (st1.1 + 1), st1.2) x.2 := av
        have lt : sk t (st1.1 + 1) < x.2.1 := av.1
        obtain ⟨p31, p32, p33, p34, p35, p36⟩ := p3
        have p36 : nC σ3 ≤ nC σ2 + 4 * (x.2.1 - sk t (st1.1 + 1)) := p36
        have h4 := RdS_A.mpr (RdA.ob (RdS_A.mp p31) x4 (Or.inr rfl))
        have dn : ∀ r, dnN st1.2.2 r → dnN x.2.2.2 r := fun r w => dnN_ext av.2.2.2.2.2.1 r w
        generalize sFR σ3 801 z (some s) = σ4 at x4 r4 h4 n4 e4 e4z c4 fi4
        have m4 : CN σ2 4 ≤ CN σ4 4 := by rw [c4]; exact r3.2.2.2.2.2.1 4
        have b4 : CN σ 4 ≤ CN σ1 4 := hr.2.2.2.2.2.1 4
        -- what is not z's next is as it was
        have i34 : ∀ l4 h4 l8 h8, (z < l8 ∨ h8 ≤ z) → psoI l4 h4 l8 h8 σ3 σ4 := fun l4 h4 l8 h8 w => ⟨fun f a w1 w2 w3 w4 => ⟨by rw [fi4], e4 f a (fun q => by omega)⟩, fun f a w1 w2 w3 w4 => e4 f a (fun q => by omega), fun f a _ _ => by rw [fi4], by rw [c4]; exact Nat.le_refl _⟩
        have x13 : psoX σ1 σ3 := (x2.rd.tr r3).pso
        have i14 : ∀ l4 h4 l8 h8, (z < l8 ∨ h8 ≤ z) → h4 ≤ CN σ1 4 → h8 ≤ CN σ1 8 → psoI l4 h4 l8 h8 σ1 σ4 := fun l4 h4 l8 h8 w w4 w8 => (x13.I w4 w8).tr (i34 _ _ _ _ w)
        have f14 : ∀ f c, 800 ≤ f → f < 900 → ¬ (f = 801 ∧ c = z) → c < CN σ1 8 → FR σ4 f c = FR σ1 f c := fun f c w1 w2 w3 w4 => by
          rw [e4 f c w3]
          exact (x13.1 f c (Or.inr (Or.inr ⟨w1, w2⟩)) (by rw [show f / 100 = 8 by omega]; exact w4)).2
        have z1 : z < CN σ1 8 := hy.1.1.2
        have m14 : CN σ1 4 ≤ CN σ4 4 := by rw [← c2]; exact m4
        have hc4 : chnT (FR σ4 801) (inA σ4 k x.2.2.2 (CN σ 4) (CN σ 8) (CN σ4 4) s) acc (some s0) z := by
          refine hc.keep (fun u c w => ⟨w.keep dn (f14 800 c (by decide) (by decide) (by omega) (by have := w.1.1.2; omega)) (i14 _ _ _ _ (Or.inr (Nat.le_refl _)) (Nat.le_refl _) (by omega)) m14 (by omega), ?_⟩)
          have := w.1.1.2
          exact f14 801 c (by decide) (by decide) (by omega) (by omega)
        have hz4 : inA σ4 k x.2.2.2 (CN σ 4) (CN σ 8) (CN σ4 4) s y z := hy.keep dn (f14 800 z (by decide) (by decide) (by omega) z1) (i14 _ _ _ _ (Or.inl (by omega)) (Nat.le_refl _) (Nat.le_refl _)) m14 (by rw [← c2]; exact s3) |> fun w => ⟨⟨⟨w.1.1.1, zs⟩, w.1.2⟩, w.2⟩
        have hs4 : inA σ4 k x.2.2.2 (CN σ 4) (CN σ 8) (CN σ4 4) (CN σ4 8) x.1 s := by
          have w : inA σ3 k x.2.2.2 (CN σ 4) (CN σ 8) (CN σ3 4) (CN σ3 8) x.1 s := ⟨⟨⟨by omega, p32⟩, p34⟩, p35.mono rfl (fun it b w => w.lo (by rw [c2]; exact b4)) _ _⟩
          exact w.keep (fun r w => w) (e4 800 s (by omega)) (i34 _ _ _ _ (Or.inl (by omega))) (by rw [c4]; exact Nat.le_refl _) (by rw [c4]; exact Nat.le_refl _)
        refine x_aload i_Reader_readAlt_37 rfl ?_
        refine x_astore_n (ls' := [_, _, _, _, _]) i_Reader_readAlt_39 rfl rfl ?_
        refine x_iinc (ls' := [_, _, _, _, _]) i_Reader_readAlt_40 rfl (by omega) rfl ?_
        refine x_goto i_Reader_readAlt_43 ?_
        refine Ex.weak (ls := [_, _, _, _, none]) ⟨Or.inr rfl, Or.inr rfl, Or.inr rfl, Or.inr rfl, Or.inl rfl, trivial⟩ ?_
        exact ih (i + 1) (acc ++ [y]) x.1 x.2 σ4 s (by omega) (by omega) r4 h4 (by rw [e4 801 s (fun q => by omega)]; exact p33) hs4 (hc4.snoc e4z hz4) (by rw [n4]; omega) kk
    · rw [if_neg w] at kk
      have c2 : CN σ2 = CN σ1 := x2.2.2.2.2.2.1
      have n2 : nC σ2 = nC σ1 := x2.2.2.2.2.2.2.1
      have r2 : FR σ2 = FR σ1 := x2.2.1
      have i12 : ∀ l4 l8 h8, h8 ≤ CN σ1 8 → psoI l4 (CN σ1 4) l8 h8 σ1 σ2 := fun l4 l8 h8 w => x2.rd.pso.I (Nat.le_refl _) w
      have z1 : z < CN σ1 8 := hy.1.1.2
      refine x_if_eq_t i_Reader_readAlt_22 rfl ?_
      refine x_aload_n i_Reader_readAlt_46 rfl ?_
      refine x_aret (c := 8) i_Reader_readAlt_47 rfl ?_
      exact kk σ2 (fin acc y st1 σ2 z (hr.tr x2.rd) h2 (by rw [r2]; exact ez) (hy.keep (fun r w => w) (by rw [r2]) (i12 _ _ _ (Nat.le_refl _)) (by rw [c2]; exact Nat.le_refl _) (by rw [c2]; exact Nat.le_refl _)) (hc.keep (fun u c w => ⟨w.keep (fun r w => w) (by rw [r2]) (i12 _ _ _ (by omega)) (by rw [c2]; exact Nat.le_refl _) (Nat.le_refl _), by rw [r2]⟩)) (by rw [n2]; exact hn))
theorem c_Rd_readAlt {k rule : Nat} {alt : Option (RT → PR (PT k))} {dA : PT k} (hA : altHyp (d + 6) C t rule opn k alt) (hadv : ∀ f, alt = some f → ∀ st, okT t st → adv t rule st (f st)) (ht : tpOK t) (h : RdS σ C t st opn)
    (kk : ∀ σ' s, altPost C t st opn (k + 1) (altP t rule dA alt st) σ σ' s → Q (some (vr 8 s)) σ') : wp (d + 12) m_Reader_readAlt [vr 5 (C 0)] σ Q := by
  refine x_in (ls := [some _, none, none, none, none]) rfl rfl ?_
  refine x_aload_n i_Reader_readAlt_0 rfl ?_
  refine x_cv0 i_Reader_readAlt_1 rfl rfl rfl ?_
  refine c_Rd_readSeq (dA := dA) hA hadv ht h (fun σ1 s p1 => ?_)
  obtain ⟨r1, s1, p1⟩ := p1
  have av := adv_seq (dA := dA) (rule := rule) ht h.2.1 hadv
  unfold altP at kk
  revert p1 av kk
  generalize seqP t rule dA alt st = R
  cases R with
  | inl p =>
    intro kk p1 av
    refine x_astore_n (ls' := [_, _, _, _, _]) i_Reader_readAlt_4 rfl rfl ?_
    refine x_aload_n i_Reader_readAlt_5 rfl ?_
    refine x_astore_n (ls' := [_, _, _, _, _]) i_Reader_readAlt_6 rfl rfl ?_
    refine x_iconst i_Reader_readAlt_7 ?_
    refine x_istore_n (ls' := [_, _, _, _, _]) i_Reader_readAlt_8 rfl rfl ?_
    exact Rd_altEnd (i := 0) p1.1 (kk σ1 s ⟨r1, s1, p1.1, by have := p1.2; omega⟩)
  | inr x =>
    intro kk p1 av
    obtain ⟨p31, p32, p33, p34, p35, p36⟩ := p1
    have av : advI t rule st x.2 := av
    have lt := av.1
    refine x_astore_n (ls' := [_, _, _, _, _]) i_Reader_readAlt_4 rfl rfl ?_
    refine x_aload_n i_Reader_readAlt_5 rfl ?_
    refine x_astore_n (ls' := [_, _, _, _, _]) i_Reader_readAlt_6 rfl rfl ?_
    refine x_iconst i_Reader_readAlt_7 ?_
    refine x_istore_n (ls' := [_, _, _, _, _]) i_Reader_readAlt_8 rfl rfl ?_
    exact Rd_altLoop (dA := dA) (rule := rule) hA hadv ht s1 240 0 [] x.1 x.2 σ1 s rfl (by omega) r1 p31 p33 ⟨⟨⟨s1, p32⟩, p34⟩, p35⟩ rfl p36 (fun σ' hp => kk σ' s hp)
/-- every ALT -/
theorem c_Rd_altAll (C : Nat → Nat) (t : TP) (rule : Nat) (ht : tpOK t) : ∀ (k opn : Nat), k + opn = 8 → ∀ (e : Nat), 6 * k + 20 ≤ e → ∀ (σ : AS) (st : RT) (Q : AQ), RdS σ C t st opn → (∀ σ' s, altPost C t st opn (k + 1) (altD t rule k st) σ σ' s → Q (some (vr 8 s)) σ') → wp e m_Reader_readAlt [vr 5 (C 0)] σ Q := by
  intro k
  induction k with
  | zero =>
    intro opn ho e he σ st Q h kk
    have hA : altHyp (e - 12 + 6) C t rule opn 0 none := ⟨by omega, by omega⟩
    have := c_Rd_readAlt (d := e - 12) (Q := Q) (dA := dfP 0) hA (fun f w => by cases w) ht h kk
    rw [show e - 12 + 12 = e by omega] at this
    exact this
  | succ k ih =>
    intro opn ho e he σ st Q h kk
    have hA : altHyp (e - 12 + 6) C t rule opn (k + 1) (some (altD t rule k)) := ⟨by omega, by omega, fun st h => adv_D ht k st h, fun e' he' => ih (opn + 1) (by omega) e' (by omega)⟩
    have := c_Rd_readAlt (d := e - 12) (Q := Q) (dA := dfP (k + 1)) hA (fun f w st h => by injection w with w; subst w; exact adv_D ht k st h) ht h kk
    rw [show e - 12 + 12 = e by omega] at this
    exact this
end


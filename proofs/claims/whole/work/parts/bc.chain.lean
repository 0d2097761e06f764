/-! THE CLASS's Reader: chain ( ALT , ALT ) -/
section
variable {d : Nat} {Q : AQ} {σ : AS} {C : Nat → Nat} {t : TP} {st : RT} {opn : Nat}
theorem c_Rd_readChain {k rule b : Nat} {alt : Option (RT → PR (PT k))} {σ0 : AS} (hA : altHyp (d + 6) C t rule opn k alt) (h : RdS σ C t st opn) (hr0 : rdX C σ0 σ) (hb0 : CN σ0 4 ≤ b) (hb : b < CN σ 4) (hp : ownP σ b 10 0)
    (kk : ∀ σ', bodPost C t st opn k (chaP t alt st) σ0 σ σ' b → Q none σ') : wp (d + 7) m_Reader_readChain [vr 5 (C 0), vr 4 b] σ Q := by
  have ho := h.2.1
  refine x_in (ls := [some _, some _]) rfl rfl ?_
  refine x_aload_n i_Reader_readChain_0 rfl ?_
  refine x_cv0 i_Reader_readChain_1 rfl rfl rfl ?_
  refine c_Rd_opens h hA.1 (fun w1 w2 σ1 x1 h1 => ?_) (fun w σ1 x1 h1 => ?_)
  · refine x_if_eq_f i_Reader_readChain_4 (by decide) ?_
    cases alt with
    | none => exact absurd hA.2 (by omega)
    | some f =>
      obtain ⟨hA1, hA2, hA3, hA4⟩ := hA
      have tk := advW.tok (rule := rule) ho w2 (by decide)
      have hadv := hA3 (sk t (st.1 + 1), st.2) tk.2.ok
      have c1 : CN σ1 = CN σ := x1.2.2.2.2.2.1
      have n1 : nC σ1 = nC σ := x1.2.2.2.2.2.2.1
      have hge := sk_ge t (st.1 + 1)
      have l8 : CN σ0 8 ≤ CN σ1 8 := by rw [c1]; exact hr0.2.2.2.2.2.1 8
      simp only [chaP, w2, if_true] at kk
      refine x_aload_n i_Reader_readChain_7 rfl ?_
      refine x_aload_n i_Reader_readChain_8 rfl ?_
      refine x_cv0 i_Reader_readChain_9 rfl rfl rfl ?_
      refine hA4 _ (Nat.le_refl _) _ _ _ h1 (fun σ2 s p2 => ?_)
      obtain ⟨r2, s2, p2⟩ := p2
      have r02 : rdX C σ0 σ2 := (hr0.tr x1.rd).tr r2
      have b2 : b < CN σ2 4 := Nat.lt_of_lt_of_le (by rw [c1]; exact hb) (r2.2.2.2.2.2.1 4)
      have o2 : ownP σ2 b 10 0 := (hp.rd x1.rd hb).rd r2 (by rw [c1]; exact hb)
      refine x_putO (c2 := 8) i_Reader_readChain_12 rfl rfl ?_
      have x3 : obX 4 b σ2 (sFR σ2 404 b (some s)) := (obX.rf _ _ _).sFR rfl
      have r03 := r02.ob x3 hb0
      have o3 : ownP (sFR σ2 404 b (some s)) b 10 0 := o2.sFR (by decide) (Or.inl rfl)
      have f3 : FR (sFR σ2 404 b (some s)) 404 b = some s := by rw [FR_sFR, if_pos ⟨rfl, rfl⟩]
      have i3 : psoI (CN σ1 4) (CN σ2 4) (CN σ1 8) (CN σ2 8) σ2 (sFR σ2 404 b (some s)) := psoI_sFR (psoI.rf _ _ _ _ _) (Or.inl rfl) (by rw [c1]; exact hb)
      have c3 : CN (sFR σ2 404 b (some s)) = CN σ2 := rfl
      have n3 : nC (sFR σ2 404 b (some s)) = nC σ2 := rfl
      -- behind a fault
      have rest : ∀ p σ3, rdX C σ0 σ3 → RdF σ3 C t p (opn + 1) → b < CN σ3 4 → nC σ3 + 1 ≤ nC σ + 4 * (t.1 + 1 - st.1) + 4 * k + 2 → (∀ σ', bodPost C t st opn k (.inl p) σ0 σ σ' b → Q none σ') → Ex (wp (d + 6)) m_Reader_readChain Q 21 [some (vr 5 (C 0)), some (vr 4 b)] [] σ3 := by
        intro p σ3 r3 h3 b3 n3 kk
        refine x_aload_n i_Reader_readChain_21 rfl ?_
        refine x_aload_n i_Reader_readChain_22 rfl ?_
        refine x_cv0 i_Reader_readChain_23 rfl rfl rfl ?_
        refine c_Rd_altF h3 (fun σ4 s4 r4 _ h4 n4 => ?_)
        refine x_putO (c2 := 8) i_Reader_readChain_26 rfl rfl ?_
        have x5 : obX 4 b σ4 (sFR σ4 405 b (some s4)) := (obX.rf _ _ _).sFR rfl
        have h5 := h4.ob x5 (Or.inr (Or.inl rfl))
        have r5 := (r3.tr r4).ob x5 hb0
        have n5 : nC (sFR σ4 405 b (some s4)) = nC σ4 := rfl
        generalize sFR σ4 405 b (some s4) = σ5 at h5 r5 n5
        refine c_Rd_closesFC h5 (by omega) (fun σ6 x6 h6 => ?_)
        exact kk σ6 ⟨r5.tr x6.rd, h6, by rw [x6.2.2.2.2.2.2.1, n5, n4]; omega⟩
      generalize hR : f (sk t (st.1 + 1), st.2) = R at p2 hadv kk
      cases R with
      | inl p =>
        obtain ⟨p21, p22⟩ := p2
        have h3 := p21.ob x3 (Or.inr (Or.inl rfl))
        have p22 : nC σ2 ≤ nC σ1 + 4 * (t.1 + 1 - sk t (st.1 + 1)) + 4 * k + 1 := p22
        have hlt := chT_lt (t := t) (a := st.1) (by rw [w2]; decide)
        generalize sFR σ2 404 b (some s) = σ3 at r03 h3 n3 c3
        refine x_aload_n i_Reader_readChain_15 rfl ?_
        refine x_bipush i_Reader_readChain_16 ?_
        refine x_cv1 i_Reader_readChain_18 rfl rfl rfl ?_
        refine c_Rd_mustF h3.2.2.2.2.1 ?_
        exact rest p σ3 r03 h3 (by rw [c3]; exact b2) (by rw [n3]; omega) kk
      | inr x =>
        obtain ⟨p21, p22, p23⟩ := p2
        have hadv : advI t rule (sk t (st.1 + 1), st.2) x.2 := hadv
        have hge2 : sk t (st.1 + 1) < x.2.1 := hadv.1
        have hle2 := hadv.2.2.1
        have p23 : nC σ2 ≤ nC σ1 + 4 * (x.2.1 - sk t (st.1 + 1)) := p23
        have h3 := RdS_A.mpr (RdA.ob (RdS_A.mp p21) x3 (Or.inl rfl))
        generalize sFR σ2 404 b (some s) = σ3 at r03 h3 n3 o3 f3 i3 c3
        simp only [] at kk
        refine x_aload_n i_Reader_readChain_15 rfl ?_
        refine x_bipush i_Reader_readChain_16 ?_
        refine x_cv1 i_Reader_readChain_18 rfl rfl rfl ?_
        refine c_Rd_must h3 (by decide) (fun w σ4 x4 h4 => ?_) (fun w σ4 x4 h4 => ?_)
        · simp only [w, if_true] at kk
          have tk4 := advW.tok (rule := rule) hadv.2.ok w (by decide)
          have hadv2 := hA3 (sk t (x.2.1 + 1), x.2.2) tk4.2.ok
          have hge3 := sk_ge t (x.2.1 + 1)
          have c4 : CN σ4 = CN σ2 := by rw [x4.2.2.2.2.2.1, c3]
          have n4 : nC σ4 = nC σ2 := by rw [x4.2.2.2.2.2.2.1, n3]
          have o4 : ownP σ4 b 10 0 := o3.rd x4.rd (by rw [c3]; exact b2)
          have f4 : FR σ4 404 b = some s := by rw [x4.2.1, f3]
          have i4 : psoI (CN σ1 4) (CN σ2 4) (CN σ1 8) (CN σ2 8) σ2 σ4 := i3.tr (x4.rd.pso.I (by rw [c3]; exact Nat.le_refl _) (by rw [c3]; exact Nat.le_refl _))
          refine x_aload_n i_Reader_readChain_21 rfl ?_
          refine x_aload_n i_Reader_readChain_22 rfl ?_
          refine x_cv0 i_Reader_readChain_23 rfl rfl rfl ?_
          refine hA4 _ (Nat.le_refl _) _ _ _ h4 (fun σ5 s5 p5 => ?_)
          obtain ⟨r5, s5', p5⟩ := p5
          have b5 : b < CN σ5 4 := Nat.lt_of_lt_of_le (by rw [c4]; exact b2) (r5.2.2.2.2.2.1 4)
          have r05 : rdX C σ0 σ5 := (r03.tr x4.rd).tr r5
          have o5 : ownP σ5 b 10 0 := o4.rd r5 (by rw [c4]; exact b2)
          have f5 : FR σ5 404 b = some s := by rw [r5.2.1 404 b (by rw [c4]; exact b2)]; exact f4
          have i5 : psoI (CN σ1 4) (CN σ2 4) (CN σ1 8) (CN σ2 8) σ2 σ5 := i4.tr (r5.pso.I (by rw [c4]; exact Nat.le_refl _) (by rw [c4]; exact Nat.le_refl _))
          refine x_putO (c2 := 8) i_Reader_readChain_26 rfl rfl ?_
          have x6 : obX 4 b σ5 (sFR σ5 405 b (some s5)) := (obX.rf _ _ _).sFR rfl
          have r06 := r05.ob x6 hb0
          have o6 : ownP (sFR σ5 405 b (some s5)) b 10 0 := o5.sFR (by decide) (Or.inr rfl)
          have f6 : FR (sFR σ5 405 b (some s5)) 404 b = some s := by rw [FR_sFR, if_neg (by omega)]; exact f5
          have g6 : FR (sFR σ5 405 b (some s5)) 405 b = some s5 := by rw [FR_sFR, if_pos ⟨rfl, rfl⟩]
          have i6 : psoI (CN σ1 4) (CN σ2 4) (CN σ1 8) (CN σ2 8) σ2 (sFR σ5 405 b (some s5)) := psoI_sFR i5 (Or.inr rfl) (by rw [c1]; exact hb)
          have j6 : psoI (CN σ4 4) (CN σ5 4) (CN σ4 8) (CN σ5 8) σ5 (sFR σ5 405 b (some s5)) := psoI_sFR (psoI.rf _ _ _ _ _) (Or.inr rfl) (by rw [c4]; exact b2)
          have c6 : CN (sFR σ5 405 b (some s5)) = CN σ5 := rfl
          have n6 : nC (sFR σ5 405 b (some s5)) = nC σ5 := rfl
          generalize hR2 : f (sk t (x.2.1 + 1), x.2.2) = R2 at p5 hadv2 kk
          cases R2 with
          | inl p =>
            obtain ⟨p51, p52⟩ := p5
            have h6 := p51.ob x6 (Or.inr (Or.inl rfl))
            have p52 : nC σ5 ≤ nC σ4 + 4 * (t.1 + 1 - sk t (x.2.1 + 1)) + 4 * k + 1 := p52
            generalize sFR σ5 405 b (some s5) = σ6 at r06 h6 n6
            refine c_Rd_closesFC h6 (by omega) (fun σ7 x7 h7 => ?_)
            exact kk σ7 ⟨r06.tr x7.rd, h7, by rw [x7.2.2.2.2.2.2.1, n6]; omega⟩
          | inr y =>
            obtain ⟨p51, p52, p53⟩ := p5
            have hadv2 : advI t rule (sk t (x.2.1 + 1), x.2.2) y.2 := hadv2
            have hge4 : sk t (x.2.1 + 1) < y.2.1 := hadv2.1
            have p53 : nC σ5 ≤ nC σ4 + 4 * (y.2.1 - sk t (x.2.1 + 1)) := p53
            have h6 := RdS_A.mpr (RdA.ob (RdS_A.mp p51) x6 (Or.inl rfl))
            generalize sFR σ5 405 b (some s5) = σ6 at r06 h6 n6 o6 f6 g6 i6 j6 c6
            simp only [] at kk
            refine c_Rd_closesC h6 (by omega) (fun w σ7 x7 h7 => ?_) (fun w σ7 x7 h7 => ?_)
            · rw [if_pos w] at kk
              have hge5 := sk_ge t (y.2.1 + 1)
              have c7 : CN σ7 = CN σ5 := by rw [x7.2.2.2.2.2.1, c6]
              have o7 : ownP σ7 b 10 0 := o6.rd x7.rd (by rw [c6]; exact b5)
              have l84 : CN σ1 8 ≤ CN σ4 8 := by rw [c4]; exact r2.2.2.2.2.2.1 8
              have m4 : CN σ2 4 ≤ CN σ5 4 := by rw [← c4]; exact r5.2.2.2.2.2.1 4
              have m8 : CN σ2 8 ≤ CN σ5 8 := by rw [← c4]; exact r5.2.2.2.2.2.1 8
              have i7 : psoI (CN σ1 4) (CN σ2 4) (CN σ1 8) (CN σ2 8) σ2 σ7 := i6.tr (x7.rd.pso.I (by rw [c6]; exact m4) (by rw [c6]; exact m8))
              have j7 : psoI (CN σ4 4) (CN σ5 4) (CN σ4 8) (CN σ5 8) σ5 σ7 := j6.tr (x7.rd.pso.I (by rw [c6]; exact Nat.le_refl _) (by rw [c6]; exact Nat.le_refl _))
              have dnx : ∀ r, dnN x.2.2.2 r → dnN y.2.2.2 r := fun r w => dnN_ext hadv2.2.2.2.2.2.1 r w
              exact kk σ7 ⟨r06.tr x7.rd, h7, o7.itm (by rw [c7]; exact b5) (fun _ => by rw [x7.2.1, f6, c7]; exact (altG.keepI dnx k _ _ _ _ _ _ x.1 (some s) i7 m4 m8 p22).lo k _ _ _ _ _ _ _ _ (by rw [c1]; omega) l8) (fun _ => by rw [x7.2.1, g6, c7]; exact (altG.keepI (fun r w => w) k _ _ _ _ _ _ y.1 (some s5) j7 (Nat.le_refl _) (Nat.le_refl _) p52).lo k _ _ _ _ _ _ _ _ (by rw [c4]; omega) (Nat.le_trans l8 l84)), by rw [x7.2.2.2.2.2.2.1, n6]; show nC σ5 + 4 ≤ nC σ + 4 * (sk t (y.2.1 + 1) - st.1); omega⟩
            · rw [if_neg w] at kk
              have hle := hadv2.2.2.1
              exact kk σ7 ⟨r06.tr x7.rd, h7, by rw [x7.2.2.2.2.2.2.1, n6]; omega⟩
        · rw [if_neg w] at kk
          exact rest _ σ4 (r03.tr x4.rd) h4 (by rw [x4.2.2.2.2.2.1, c3]; exact b2) (by rw [x4.2.2.2.2.2.2.1, n3]; omega) kk
  · refine x_if_eq_t i_Reader_readChain_4 rfl ?_
    have hR : chaP t alt st = .inl st.1 := by
      unfold chaP
      cases alt with
      | none => rfl
      | some f =>
        have hA2 : opn < 8 := hA.2.1
        simp only []
        rw [if_neg]
        rcases w with w | w
        · omega
        · exact w
    rw [hR] at kk
    refine x_vret i_Reader_readChain_45 rfl ?_
    exact kk σ1 ⟨hr0.tr x1.rd, h1, by rw [x1.2.2.2.2.2.2.1]; omega⟩
end


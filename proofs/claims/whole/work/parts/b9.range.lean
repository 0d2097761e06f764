/-! THE CLASS's Reader: [ ], names -/
section
variable {d : Nat} {Q : AQ} {σ : AS} {C : Nat → Nat} {t : TP} {st : RT} {opn : Nat}
theorem c_Rd_readRange {k rule : Nat} {dA : PT k} (h : RdS σ C t st opn) (ha : FI σ 503 (C 0) = (st.1 : Int)) (hc : chT t st.1 = 91) (kk : ∀ σ' b, parPost C t st opn k (ranP t rule dA st) σ σ' b → Q (some (vr 4 b)) σ') : wp (d + 4) m_Reader_readRange [vr 5 (C 0)] σ Q := by
  obtain ⟨b1, b2, b3, b4, b5, -⟩ := id h
  have ht := b1.2.2.2.2.2.2.2.1
  have ht1 := ht.1
  have hlt := chT_lt (t := t) (a := st.1) (by rw [hc]; decide)
  have hlow := chT_in ht (st.1 + 1)
  refine x_in (ls := [some _, none, none, none]) rfl rfl ?_
  refine x_aload_n i_Reader_readRange_0 rfl ?_
  refine x_iconst i_Reader_readRange_1 ?_
  refine x_cv1 i_Reader_readRange_2 rfl rfl rfl ?_
  refine c_Rd_newPart (kind := 1) (rule := rule) (q := litT st.2.1) (RdS_A.mp h) ha (by decide) (fun w => absurd w (by decide)) (fun _ hl σ1 x1 h1 f1 e1 e2 e3 e4 p1 e5 e6 e7 e8 e9 => ?_) (fun _ hl σ1 x1 h1 f1 e1 e2 e3 e4 => ?_)
  · -- there is room for the atom
    have hR0 : ¬ 32 ≤ st.2.1.length := by omega
    unfold ranP at kk
    rw [if_neg hR0] at kk
    refine x_astore_n (ls' := [_, _, _, _]) i_Reader_readRange_5 rfl rfl ?_
    refine x_aload_n i_Reader_readRange_6 rfl ?_
    refine x_dup i_Reader_readRange_7 ?_
    refine x_getI i_Reader_readRange_8 rfl rfl ?_
    rw [f1]
    refine x_iconst i_Reader_readRange_11 ?_
    refine x_iadd i_Reader_readRange_12 (by omega) ?_
    refine x_putI i_Reader_readRange_13 rfl rfl ?_
    have h2 := h1.at_ (a := st.1 + 1) (v := (st.1 : Int) + 1) (by omega) (by omega)
    have x2 : rdX C σ (sFI σ1 503 (C 0) ((st.1 : Int) + 1)) := x1.sFI (Or.inr (Or.inl ⟨by decide, by decide, rfl⟩))
    have f2 : FI (sFI σ1 503 (C 0) ((st.1 : Int) + 1)) 503 (C 0) = ((st.1 + 1 : Nat) : Int) := by rw [FI_sFI, if_pos ⟨rfl, rfl⟩]; omega
    have y2 : rsX (C 0) σ1 (sFI σ1 503 (C 0) ((st.1 : Int) + 1)) := rsX_sFI (by decide) (by decide)
    generalize sFI σ1 503 (C 0) ((st.1 : Int) + 1) = σ2 at h2 x2 f2 y2
    have k1 : nC σ2 = nC σ + 2 := by rw [y2.2.2.2.2.2.2.1, e1]
    obtain ⟨⟨-, -, -, -, ⟨q1, q2, -, -, -, -, q7⟩, -, -, -, hr⟩, -⟩ := id h2
    refine x_aload_n i_Reader_readRange_16 rfl ?_
    refine x_getR (c2 := 6) i_Reader_readRange_17 rfl rfl (by assumption) ?_
    refine x_aload_n i_Reader_readRange_20 rfl ?_
    refine x_getI i_Reader_readRange_21 rfl rfl ?_
    rw [f2]
    refine x_cv1 i_Reader_readRange_24 rfl rfl rfl ?_
    refine c_at hr ?_
    rw [rAt_ch]
    refine x_istore_n (ls' := [_, _, _, _]) i_Reader_readRange_27 rfl rfl ?_
    refine x_iload_n i_Reader_readRange_28 rfl ?_
    refine x_iconst i_Reader_readRange_29 ?_
    refine x_icmp_ne i_Reader_readRange_30 (fun g1 => ?_) (fun g1 => ?_)
    · rw [if_neg g1] at kk
      have hlt1 := chT_lt (t := t) (a := st.1 + 1) g1
      refine x_aload_n i_Reader_readRange_43 rfl ?_
      refine x_dup i_Reader_readRange_44 ?_
      refine x_getI i_Reader_readRange_45 rfl rfl ?_
      rw [f2]
      refine x_iconst i_Reader_readRange_48 ?_
      refine x_iadd i_Reader_readRange_49 (by omega) ?_
      refine x_putI i_Reader_readRange_50 rfl rfl ?_
      have h3 := h2.at_ (a := st.1 + 2) (v := ((st.1 + 1 : Nat) : Int) + 1) (by omega) (by omega)
      have x3 : rdX C σ (sFI σ2 503 (C 0) (((st.1 + 1 : Nat) : Int) + 1)) := x2.sFI (Or.inr (Or.inl ⟨by decide, by decide, rfl⟩))
      have f3 : FI (sFI σ2 503 (C 0) (((st.1 + 1 : Nat) : Int) + 1)) 503 (C 0) = ((st.1 + 2 : Nat) : Int) := by rw [FI_sFI, if_pos ⟨rfl, rfl⟩]; omega
      have y3 : rsX (C 0) σ2 (sFI σ2 503 (C 0) (((st.1 + 1 : Nat) : Int) + 1)) := rsX_sFI (by decide) (by decide)
      generalize sFI σ2 503 (C 0) (((st.1 + 1 : Nat) : Int) + 1) = σ3 at h3 x3 f3 y3
      have k3 : nC σ3 = nC σ + 2 := by rw [y3.2.2.2.2.2.2.1, k1]
      obtain ⟨⟨-, -, -, -, ⟨q1, q2, -, -, -, -, q7⟩, -, -, -, hr⟩, -⟩ := id h3
      refine x_aload_n i_Reader_readRange_53 rfl ?_
      refine x_getR (c2 := 6) i_Reader_readRange_54 rfl rfl (by assumption) ?_
      refine x_aload_n i_Reader_readRange_57 rfl ?_
      refine x_getI i_Reader_readRange_58 rfl rfl ?_
      rw [f3]
      refine x_cv1 i_Reader_readRange_61 rfl rfl rfl ?_
      refine c_at hr ?_
      rw [rAt_ch]
      refine x_istore_n (ls' := [_, _, _, _]) i_Reader_readRange_64 rfl rfl ?_
      refine x_iload_n i_Reader_readRange_65 rfl ?_
      refine x_iload_n i_Reader_readRange_66 rfl ?_
      refine x_icmp_ge i_Reader_readRange_67 (fun g2 => ?_) (fun g2 => ?_)
      · rw [if_neg (by omega)] at kk
        have hlt2 := chT_lt (t := t) (a := st.1 + 2) (fun w => by rw [w] at g2; have := hlow.2.2 g1; omega)
        refine x_aload_n i_Reader_readRange_80 rfl ?_
        refine x_dup i_Reader_readRange_81 ?_
        refine x_getI i_Reader_readRange_82 rfl rfl ?_
        rw [f3]
        refine x_iconst i_Reader_readRange_85 ?_
        refine x_iadd i_Reader_readRange_86 (by omega) ?_
        refine x_putI i_Reader_readRange_87 rfl rfl ?_
        have h4 := h3.at_ (a := st.1 + 3) (v := ((st.1 + 2 : Nat) : Int) + 1) (by omega) (by omega)
        have x4 : rdX C σ (sFI σ3 503 (C 0) (((st.1 + 2 : Nat) : Int) + 1)) := x3.sFI (Or.inr (Or.inl ⟨by decide, by decide, rfl⟩))
        have f4 : FI (sFI σ3 503 (C 0) (((st.1 + 2 : Nat) : Int) + 1)) 503 (C 0) = ((st.1 + 3 : Nat) : Int) := by rw [FI_sFI, if_pos ⟨rfl, rfl⟩]; omega
        have y4 : rsX (C 0) σ3 (sFI σ3 503 (C 0) (((st.1 + 2 : Nat) : Int) + 1)) := rsX_sFI (by decide) (by decide)
        generalize sFI σ3 503 (C 0) (((st.1 + 2 : Nat) : Int) + 1) = σ4 at h4 x4 f4 y4
        have y14 : rsX (C 0) σ1 σ4 := (y2.tr y3).tr y4
        have e402 : FR σ4 402 (CN σ 4) = some (CN σ 0) := by rw [y14.2.1]; exact p1.2.2.2.1
        refine x_aload_n i_Reader_readRange_90 rfl ?_
        refine x_aload_n i_Reader_readRange_91 rfl ?_
        refine x_bipush i_Reader_readRange_92 ?_
        refine x_iload_n i_Reader_readRange_94 rfl ?_
        refine x_iload_n i_Reader_readRange_95 rfl ?_
        refine x_cv4 i_Reader_readRange_96 rfl rfl rfl ?_
        refine c_Rd_closeA h4 f4 (by omega) e402 (c := 93) (by decide) (fun g3 hlt3 => ?_) (fun g3 σ5 σ6 x5 x6 h6 => ?_)
        · rw [if_pos g3] at kk
          have h5 := h4.at_ (a := st.1 + 4) (v := ((st.1 + 3 : Nat) : Int) + 1) (by omega) (by omega)
          have x5 : rdX C σ (sFI σ4 503 (C 0) (((st.1 + 3 : Nat) : Int) + 1)) := x4.sFI (Or.inr (Or.inl ⟨by decide, by decide, rfl⟩))
          have y5 : rsX (C 0) σ4 (sFI σ4 503 (C 0) (((st.1 + 3 : Nat) : Int) + 1)) := rsX_sFI (by decide) (by decide)
          generalize sFI σ4 503 (C 0) (((st.1 + 3 : Nat) : Int) + 1) = σ5 at h5 x5 y5
          have y15 : rsX (C 0) σ1 σ5 := y14.tr y5
          have h6 := h5.atm (l := st.2.1) (rule := rule) (p := st.1) (kind := 1) (x := -1) (y := -1) (tt := CN σ 0) (lo := chT t (st.1 + 1)) (hi := chT t (st.1 + 2)) rfl (by rw [y15.2.2.2.1]; exact e5) (fun i hi => by rw [y15.2.2.2.1]; exact e6 i hi)
          have x6 : obX 0 (CN σ 0) σ5 (sFI (sFI σ5 3 (CN σ 0) (chT t (st.1 + 1))) 4 (CN σ 0) (chT t (st.1 + 2))) := ((obX.rf 0 (CN σ 0) σ5).sFI rfl).sFI rfl
          have v3 : FI (sFI (sFI σ5 3 (CN σ 0) (chT t (st.1 + 1))) 4 (CN σ 0) (chT t (st.1 + 2))) 3 (CN σ 0) = chT t (st.1 + 1) := by simp [FI_sFI]
          have v4 : FI (sFI (sFI σ5 3 (CN σ 0) (chT t (st.1 + 1))) 4 (CN σ 0) (chT t (st.1 + 2))) 4 (CN σ 0) = chT t (st.1 + 2) := by simp [FI_sFI]
          have v2 : FI (sFI (sFI σ5 3 (CN σ 0) (chT t (st.1 + 1))) 4 (CN σ 0) (chT t (st.1 + 2))) 2 (CN σ 0) = (st.2.1.length : Int) := by rw [FI_sFI, if_neg (by omega), FI_sFI, if_neg (by omega), y15.1 _ _ (fun q => by have := q.1; omega)]; exact e7
          have r6 := x5.ob x6 (Nat.le_refl _)
          generalize sFI (sFI σ5 3 (CN σ 0) (chT t (st.1 + 1))) 4 (CN σ 0) (chT t (st.1 + 2)) = σ6 at h6 x6 v3 v4 v2 r6
          have hS : RdS σ6 C t (sk t (st.1 + 4), st.2.1 ++ [(rule, st.1, 1, chT t (st.1 + 1), chT t (st.1 + 2))], st.2.2) opn := by
            refine RdS_A.mpr ?_
            show RdA σ6 C t _ opn (litT (st.2.1 ++ [(rule, st.1, 1, chT t (st.1 + 1), chT t (st.1 + 2))]))
            rw [litT_snoc, if_neg (by show ¬ (1 : Nat) = 0; decide), List.append_nil]
            exact h6
          have p6 : newP σ6 (CN σ 4) 1 (some (CN σ 0)) := by
            obtain ⟨p1, p2, p3, p4, p5, p6, p7⟩ := p1
            have s : ∀ f, 400 ≤ f → f < 500 → FI σ6 f (CN σ 4) = FI σ1 f (CN σ 4) ∧ FR σ6 f (CN σ 4) = FR σ1 f (CN σ 4) := fun f w1 w2 => ⟨by rw [(x6.1 f _ (fun q => by omega)).1, y15.1 _ _ (fun q => by have := q.1; omega)], by rw [(x6.1 f _ (fun q => by omega)).2, y15.2.1]⟩
            exact ⟨by rw [(s _ (by decide) (by decide)).1]; exact p1, by rw [(s _ (by decide) (by decide)).1]; exact p2, by rw [(s _ (by decide) (by decide)).1]; exact p3, by rw [(s _ (by decide) (by decide)).2]; exact p4, by rw [(s _ (by decide) (by decide)).2]; exact p5, by rw [(s _ (by decide) (by decide)).2]; exact p6, by rw [(s _ (by decide) (by decide)).2]; exact p7⟩
          have cn6 : CN σ6 = CN σ1 := by rw [x6.2.2.2.2.1, y15.2.2.2.2.2.1]
          have nc6 : nC σ6 = nC σ + 2 := by rw [x6.2.2.2.2.2.1, y15.2.2.2.2.2.2.1, e1]
          have := sk_ge t (st.1 + 4)
          refine x_aload_n i_Reader_readRange_99 rfl ?_
          refine x_aret (c := 4) i_Reader_readRange_100 rfl ?_
          exact kk σ6 _ ⟨r6, Nat.le_refl _, hS, itmS_atom (by rw [cn6, e2]; omega) p6 (by decide) v2 v3 v4 (by omega) (by rw [cn6, e4]; omega), by rw [nc6]; show nC σ + 2 + 1 ≤ nC σ + 4 * (sk t (st.1 + 4) - st.1); omega⟩
        · rw [if_neg g3] at kk
          refine x_aload_n i_Reader_readRange_99 rfl ?_
          refine x_aret (c := 4) i_Reader_readRange_100 rfl ?_
          exact kk σ6 _ ⟨(x4.tr x5.rd).ob x6 (Nat.le_refl _), Nat.le_refl _, h6, by rw [x6.2.2.2.2.2.1, x5.2.2.2.2.2.2.1, y4.2.2.2.2.2.2.1, k3]; omega⟩
      · rw [if_pos (by omega)] at kk
        refine x_aload_n i_Reader_readRange_70 rfl ?_
        refine x_aload_n i_Reader_readRange_71 rfl ?_
        refine x_getI i_Reader_readRange_72 rfl rfl ?_
        rw [f3]
        refine x_cv1 i_Reader_readRange_75 rfl rfl rfl ?_
        refine c_Rd_failA h3 f3 (by omega) (by omega) (fun σ4 x4 h4 _ => ?_)
        refine x_aload_n i_Reader_readRange_78 rfl ?_
        refine x_aret (c := 4) i_Reader_readRange_79 rfl ?_
        exact kk σ4 _ ⟨x3.tr x4.rd, Nat.le_refl _, h4, by rw [x4.2.2.2.2.2.2.1, k3]; omega⟩
    · rw [if_pos (by omega)] at kk
      refine x_aload_n i_Reader_readRange_33 rfl ?_
      refine x_aload_n i_Reader_readRange_34 rfl ?_
      refine x_getI i_Reader_readRange_35 rfl rfl ?_
      rw [f2]
      refine x_cv1 i_Reader_readRange_38 rfl rfl rfl ?_
      refine c_Rd_failA h2 f2 (by omega) (by omega) (fun σ3 x3 h3 _ => ?_)
      refine x_aload_n i_Reader_readRange_41 rfl ?_
      refine x_aret (c := 4) i_Reader_readRange_42 rfl ?_
      exact kk σ3 _ ⟨x2.tr x3.rd, Nat.le_refl _, h3, by rw [x3.2.2.2.2.2.2.1, k1]; omega⟩
  · -- there is none
    have hR : ranP t rule dA st = .inl st.1 := by unfold ranP; rw [if_pos hl]
    rw [hR] at kk
    refine x_astore_n (ls' := [_, _, _, _]) i_Reader_readRange_5 rfl rfl ?_
    refine x_aload_n i_Reader_readRange_6 rfl ?_
    refine x_dup i_Reader_readRange_7 ?_
    refine x_getI i_Reader_readRange_8 rfl rfl ?_
    rw [f1]
    refine x_iconst i_Reader_readRange_11 ?_
    refine x_iadd i_Reader_readRange_12 (by omega) ?_
    refine x_putI i_Reader_readRange_13 rfl rfl ?_
    have h2 := h1.at_ (a := st.1 + 1) (v := (st.1 : Int) + 1) (by omega) (by omega)
    have x2 : rdX C σ (sFI σ1 503 (C 0) ((st.1 : Int) + 1)) := x1.sFI (Or.inr (Or.inl ⟨by decide, by decide, rfl⟩))
    have f2 : FI (sFI σ1 503 (C 0) ((st.1 : Int) + 1)) 503 (C 0) = ((st.1 + 1 : Nat) : Int) := by rw [FI_sFI, if_pos ⟨rfl, rfl⟩]; omega
    have k1 : nC (sFI σ1 503 (C 0) ((st.1 : Int) + 1)) = nC σ + 1 := e1
    have k2 : FR (sFI σ1 503 (C 0) ((st.1 : Int) + 1)) 402 (CN σ 4) = none := e4
    generalize sFI σ1 503 (C 0) ((st.1 : Int) + 1) = σ2 at h2 x2 f2 k1 k2
    obtain ⟨⟨-, -, -, -, ⟨q1, q2, -, -, -, -, q7⟩, -, -, -, hr⟩, -, -, c4, c5, -⟩ := id h2
    refine x_aload_n i_Reader_readRange_16 rfl ?_
    refine x_getR (c2 := 6) i_Reader_readRange_17 rfl rfl (by assumption) ?_
    refine x_aload_n i_Reader_readRange_20 rfl ?_
    refine x_getI i_Reader_readRange_21 rfl rfl ?_
    rw [f2]
    refine x_cv1 i_Reader_readRange_24 rfl rfl rfl ?_
    refine c_at hr ?_
    rw [rAt_ch]
    refine x_istore_n (ls' := [_, _, _, _]) i_Reader_readRange_27 rfl rfl ?_
    refine x_iload_n i_Reader_readRange_28 rfl ?_
    refine x_iconst i_Reader_readRange_29 ?_
    refine x_icmp_ne i_Reader_readRange_30 (fun g1 => ?_) (fun g1 => ?_)
    · have hlt1 := chT_lt (t := t) (a := st.1 + 1) g1
      refine x_aload_n i_Reader_readRange_43 rfl ?_
      refine x_dup i_Reader_readRange_44 ?_
      refine x_getI i_Reader_readRange_45 rfl rfl ?_
      rw [f2]
      refine x_iconst i_Reader_readRange_48 ?_
      refine x_iadd i_Reader_readRange_49 (by omega) ?_
      refine x_putI i_Reader_readRange_50 rfl rfl ?_
      have h3 := h2.at_ (a := st.1 + 2) (v := ((st.1 + 1 : Nat) : Int) + 1) (by omega) (by omega)
      have x3 : rdX C σ (sFI σ2 503 (C 0) (((st.1 + 1 : Nat) : Int) + 1)) := x2.sFI (Or.inr (Or.inl ⟨by decide, by decide, rfl⟩))
      have f3 : FI (sFI σ2 503 (C 0) (((st.1 + 1 : Nat) : Int) + 1)) 503 (C 0) = ((st.1 + 2 : Nat) : Int) := by rw [FI_sFI, if_pos ⟨rfl, rfl⟩]; omega
      have k3 : nC (sFI σ2 503 (C 0) (((st.1 + 1 : Nat) : Int) + 1)) = nC σ2 := rfl
      have k4 : FR (sFI σ2 503 (C 0) (((st.1 + 1 : Nat) : Int) + 1)) = FR σ2 := rfl
      generalize sFI σ2 503 (C 0) (((st.1 + 1 : Nat) : Int) + 1) = σ3 at h3 x3 f3 k3 k4
      obtain ⟨⟨-, -, -, -, ⟨q1, q2, -, -, -, -, q7⟩, -, -, -, hr⟩, -, -, c4, c5, -⟩ := id h3
      refine x_aload_n i_Reader_readRange_53 rfl ?_
      refine x_getR (c2 := 6) i_Reader_readRange_54 rfl rfl (by assumption) ?_
      refine x_aload_n i_Reader_readRange_57 rfl ?_
      refine x_getI i_Reader_readRange_58 rfl rfl ?_
      rw [f3]
      refine x_cv1 i_Reader_readRange_61 rfl rfl rfl ?_
      refine c_at hr ?_
      rw [rAt_ch]
      refine x_istore_n (ls' := [_, _, _, _]) i_Reader_readRange_64 rfl rfl ?_
      refine x_iload_n i_Reader_readRange_65 rfl ?_
      refine x_iload_n i_Reader_readRange_66 rfl ?_
      refine x_icmp_ge i_Reader_readRange_67 (fun g2 => ?_) (fun g2 => ?_)
      · have hlt2 := chT_lt (t := t) (a := st.1 + 2) (fun w => by rw [w] at g2; have := hlow.2.2 g1; omega)
        refine x_aload_n i_Reader_readRange_80 rfl ?_
        refine x_dup i_Reader_readRange_81 ?_
        refine x_getI i_Reader_readRange_82 rfl rfl ?_
        rw [f3]
        refine x_iconst i_Reader_readRange_85 ?_
        refine x_iadd i_Reader_readRange_86 (by omega) ?_
        refine x_putI i_Reader_readRange_87 rfl rfl ?_
        have h4 := h3.at_ (a := st.1 + 3) (v := ((st.1 + 2 : Nat) : Int) + 1) (by omega) (by omega)
        have x4 : rdX C σ (sFI σ3 503 (C 0) (((st.1 + 2 : Nat) : Int) + 1)) := x3.sFI (Or.inr (Or.inl ⟨by decide, by decide, rfl⟩))
        have f4 : FI (sFI σ3 503 (C 0) (((st.1 + 2 : Nat) : Int) + 1)) 503 (C 0) = ((st.1 + 3 : Nat) : Int) := by rw [FI_sFI, if_pos ⟨rfl, rfl⟩]; omega
        have k5 : nC (sFI σ3 503 (C 0) (((st.1 + 2 : Nat) : Int) + 1)) = nC σ3 := rfl
        have k6 : FR (sFI σ3 503 (C 0) (((st.1 + 2 : Nat) : Int) + 1)) = FR σ3 := rfl
        generalize sFI σ3 503 (C 0) (((st.1 + 2 : Nat) : Int) + 1) = σ4 at h4 x4 f4 k5 k6
        refine x_aload_n i_Reader_readRange_90 rfl ?_
        refine x_aload_n i_Reader_readRange_91 rfl ?_
        refine x_bipush i_Reader_readRange_92 ?_
        refine x_iload_n i_Reader_readRange_94 rfl ?_
        refine x_iload_n i_Reader_readRange_95 rfl ?_
        refine x_cv4 i_Reader_readRange_96 rfl rfl rfl ?_
        refine c_Rd_closeF h4 f4 (by omega) (by rw [k6, k4]; exact k2) (c := 93) (by decide) (fun σ5 x5 h5 => ?_)
        refine x_aload_n i_Reader_readRange_99 rfl ?_
        refine x_aret (c := 4) i_Reader_readRange_100 rfl ?_
        exact kk σ5 _ ⟨x4.tr x5.rd, Nat.le_refl _, h5, by rw [x5.2.2.2.2.2.2.1, k5, k3, k1]; omega⟩
      · refine x_aload_n i_Reader_readRange_70 rfl ?_
        refine x_aload_n i_Reader_readRange_71 rfl ?_
        refine x_getI i_Reader_readRange_72 rfl rfl ?_
        refine x_cv1 i_Reader_readRange_75 rfl rfl rfl ?_
        refine c_Rd_failF c5 ?_
        refine x_aload_n i_Reader_readRange_78 rfl ?_
        refine x_aret (c := 4) i_Reader_readRange_79 rfl ?_
        exact kk σ3 _ ⟨x3, Nat.le_refl _, h3, by rw [k3, k1]; omega⟩
    · refine x_aload_n i_Reader_readRange_33 rfl ?_
      refine x_aload_n i_Reader_readRange_34 rfl ?_
      refine x_getI i_Reader_readRange_35 rfl rfl ?_
      refine x_cv1 i_Reader_readRange_38 rfl rfl rfl ?_
      refine c_Rd_failF c5 ?_
      refine x_aload_n i_Reader_readRange_41 rfl ?_
      refine x_aret (c := 4) i_Reader_readRange_42 rfl ?_
      exact kk σ2 _ ⟨x2, Nat.le_refl _, h2, by rw [k1]; omega⟩
end


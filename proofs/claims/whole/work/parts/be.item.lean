/-! THE CLASS's Reader: PARTS, ITEMS -/
theorem itmS.keep {σ σ' : AS} {k : Nat} {names names' : List (Nat × Nat)} {b l8 : Nat} {it : Item (PT k)} (h : itmS σ k names b l8 it) (hx : psoX σ σ') (hn : ∀ r, dnN names r → dnN names' r) : itmS σ' k names' b l8 it := by
  obtain ⟨h1, h2, h3⟩ := h
  have fi : ∀ f, 400 ≤ f → f < 500 → FI σ' f b = FI σ f b ∧ FR σ' f b = FR σ f b := fun f w1 w2 => hx.1 f b (Or.inr (Or.inl ⟨w1, w2⟩)) (by rw [show f / 100 = 4 by omega]; exact h1)
  exact ⟨Nat.lt_of_lt_of_le h1 (hx.2 4 (by decide)), itemG.keep (fun f w1 w2 _ => fi f w1 w2) (fun f x w1 w2 => (hx.1 f x (Or.inl w1) (by rw [show f / 100 = 0 by omega]; exact w2)).1) (hx.2 0 (by decide)) hn (fun x o w => altG.keepI hn k _ _ _ _ _ _ x o (hx.I (Nat.le_refl _) (Nat.le_refl _)) (hx.2 4 (by decide)) (hx.2 8 (by decide)) w) it h2, by rw [(fi 406 (by decide) (by decide)).2]; exact h3⟩
theorem itmS.tm {σ : AS} {k : Nat} {names : List (Nat × Nat)} {b l8 v : Nat} {it : Item (PT k)} (h : itmS σ k names b l8 it) (hv : v = 63 ∨ v = 42 ∨ v = 43) : itmS (sFI σ 401 b (v : Nat)) k names b l8 (tmI it v) := by
  obtain ⟨h1, ⟨⟨c1, c2, c3, c4, c5, c6, c7, c8⟩, c9, c10⟩, h3⟩ := h
  have i1 : psoI (b + 1) (CN σ 4) l8 (CN σ 8) σ (sFI σ 401 b (v : Nat)) := ⟨fun f a w1 w2 w3 w4 => ⟨by rw [FI_sFI, if_neg (by omega)], rfl⟩, fun f a w1 w2 w3 w4 => rfl, fun f a w1 w2 => by rw [FI_sFI, if_neg (by omega)], Nat.le_refl _⟩
  have kp : ∀ (x : PT k) o, altG σ (dnN names) k (b + 1) (CN σ 4) l8 (CN σ 8) x o → altG (sFI σ 401 b (v : Nat)) (dnN names) k (b + 1) (CN σ 4) l8 (CN σ 8) x o := fun x o w => altG.keepI (fun r w => w) k _ _ _ _ _ _ x o i1 (Nat.le_refl _) (Nat.le_refl _) w
  refine ⟨h1, ⟨⟨by rw [FI_sFI, if_neg (by omega)]; exact c1, by rw [FI_sFI, if_pos ⟨rfl, rfl⟩]; rfl, c3, Or.inr hv, fun w => ?_, fun w => by rw [FI_sFI, if_neg (by omega)]; exact c6 w, fun w => kp _ _ (c7 w), fun w => kp _ _ (c8 w)⟩, c9, c10⟩, h3⟩
  obtain ⟨tt, a1, a2, a3, a4, a5⟩ := c5 w
  exact ⟨tt, a1, by rw [FI_sFI, if_neg (by omega)]; exact a2, by rw [FI_sFI, if_neg (by omega)]; exact a3, by rw [FI_sFI, if_neg (by omega)]; exact a4, a5⟩
section
variable {d : Nat} {Q : AQ} {σ : AS} {C : Nat → Nat} {t : TP} {st : RT} {opn : Nat}
theorem parPost.pre {k b : Nat} {R : PR (Item (PT k))} {σ1 σ' : AS} (h : parPost C t st opn k R σ1 σ' b) (hx : rsX (C 0) σ σ1) : parPost C t st opn k R σ σ' b := by
  obtain ⟨h1, h2, h3⟩ := h
  have c1 : CN σ1 = CN σ := hx.2.2.2.2.2.1
  have n1 : nC σ1 = nC σ := hx.2.2.2.2.2.2.1
  rw [c1] at h2
  rw [c1, n1] at h3
  exact ⟨hx.rd.tr h1, h2, h3⟩
theorem c_Rd_readPart {k rule : Nat} {alt : Option (RT → PR (PT k))} {dA : PT k} (hA : altHyp (d + 6) C t rule opn k alt) (h : RdS σ C t st opn)
    (kk : ∀ σ' b, parPost C t st opn k (parP t rule dA alt st) σ σ' b → Q (some (vr 4 b)) σ') : wp (d + 9) m_Reader_readPart [vr 5 (C 0)] σ Q := by
  refine x_in (ls := [some _, none, none]) rfl rfl ?_
  refine x_aload_n i_Reader_readPart_0 rfl ?_
  refine x_cv0 i_Reader_readPart_1 rfl rfl rfl ?_
  refine c_Rd_aheadS h (fun σ1 x1 h1 f1 => ?_)
  have kk : ∀ σ' b, parPost C t st opn k (parP t rule dA alt st) σ1 σ' b → Q (some (vr 4 b)) σ' := fun σ' b w => kk σ' b (w.pre x1)
  unfold parP at kk
  have ht := h1.1.2.2.2.2.2.2.2.1
  refine x_istore_n (ls' := [_, _, _]) i_Reader_readPart_4 rfl rfl ?_
  refine x_iload_n i_Reader_readPart_5 rfl ?_
  refine x_bipush i_Reader_readPart_6 ?_
  refine x_icmp_ne i_Reader_readPart_8 (fun g1 => ?_) (fun g1 => ?_)
  · rw [if_neg g1] at kk
    refine x_iload_n i_Reader_readPart_16 rfl ?_
    refine x_bipush i_Reader_readPart_17 ?_
    refine x_icmp_ne i_Reader_readPart_19 (fun g2 => ?_) (fun g2 => ?_)
    · rw [if_neg g2] at kk
      refine x_iload_n i_Reader_readPart_27 rfl ?_
      refine x_bipush i_Reader_readPart_28 ?_
      refine x_icmp_ne i_Reader_readPart_30 (fun g3 => ?_) (fun g3 => ?_)
      · rw [if_neg g3] at kk
        refine x_iload_n i_Reader_readPart_50 rfl ?_
        refine x_cs1 i_Reader_readPart_51 rfl rfl ?_
        refine c_Rd_isName ?_
        cases hn : isNm (chT t st.1) with
        | false =>
          rw [if_neg (by rw [hn]; decide)] at kk
          refine x_if_eq_t i_Reader_readPart_54 rfl ?_
          refine x_aload_n i_Reader_readPart_68 rfl ?_
          refine x_cv0 i_Reader_readPart_69 rfl rfl rfl ?_
          refine c_Rd_readWord (dA := dA) hA h1 f1 (fun σ2 b p2 => ?_)
          refine x_aret (c := 4) i_Reader_readPart_72 rfl ?_
          exact kk σ2 b p2
        | true =>
          rw [if_pos hn] at kk
          have hn2 := isNm_in hn
          refine x_if_eq_f i_Reader_readPart_54 (by decide) ?_
          refine x_aload_n i_Reader_readPart_57 rfl ?_
          refine x_iload_n i_Reader_readPart_58 rfl ?_
          refine x_bipush i_Reader_readPart_59 ?_
          refine x_isub i_Reader_readPart_61 (by omega) ?_
          have ec : chT t st.1 - 65 = (((chT t st.1 - 65).toNat : Nat) : Int) := by omega
          rw [ec]
          refine x_cv1 i_Reader_readPart_62 rfl rfl rfl ?_
          refine c_Rd_readName (k := k) (dA := dA) h1 f1 (chT_lt (by omega)) (by omega) (fun σ2 b p2 => ?_)
          refine x_goto i_Reader_readPart_65 ?_
          refine x_aret (c := 4) i_Reader_readPart_72 rfl ?_
          exact kk σ2 b p2
      · rw [if_pos (by omega)] at kk
        have h2 := (RdS_A.mp h1).newO (c := 4) (Or.inr (Or.inl rfl))
        have r2 := (rdX.rf C σ1).nO (c := 4) (Or.inr (Or.inl rfl))
        refine x_new i_Reader_readPart_33 ?_
        refine x_dup i_Reader_readPart_36 ?_
        refine x_bipush i_Reader_readPart_37 ?_
        refine x_ci1 i_Reader_readPart_39 rfl rfl rfl ?_
        refine c_P_init (kind := 11) (fun σ2 x2 p2 => ?_)
        have h3 := RdS_A.mpr (h2.ob x2 (Or.inl rfl))
        have r3 := r2.ob x2 (Nat.le_refl _)
        have c3 : CN σ2 = CN (nO σ1 4) := x2.2.2.2.2.1
        have n3 : nC σ2 = nC (nO σ1 4) := x2.2.2.2.2.2.1
        have c4 : CN σ2 4 = CN σ1 4 + 1 := by rw [c3, CN_nO, if_pos rfl]
        rw [nC_nO] at n3
        refine x_astore_n (ls' := [_, _, _]) i_Reader_readPart_42 rfl rfl ?_
        refine x_aload_n i_Reader_readPart_43 rfl ?_
        refine x_aload_n i_Reader_readPart_44 rfl ?_
        refine x_cv1 i_Reader_readPart_45 rfl rfl rfl ?_
        refine c_Rd_readBody (dA := dA) (num := 0) (hA.up (d' := d + 1 + 6) (by omega)) h3 r3 (Nat.le_refl _) (by rw [c4]; omega) (ownP.new p2 (by decide) (fun w => absurd w (by decide))) (by decide) (fun σ3 p3 => ?_)
        have fin : parPost C t st opn k (bodP t dA alt 11 0 st) σ1 σ3 (CN σ1 4) := by
          obtain ⟨v1, v2⟩ := p3
          refine ⟨v1, Nat.le_refl _, ?_⟩
          revert v2
          generalize bodP t dA alt 11 0 st = R
          cases R with
          | inl p => intro v2; exact ⟨v2.1, by have := v2.2; omega⟩
          | inr x => intro v2; exact ⟨v2.1, v2.2.1, by have := v2.2.2; show nC σ3 + 1 ≤ nC σ1 + 4 * (x.2.1 - st.1); omega⟩
        refine x_aload_n i_Reader_readPart_48 rfl ?_
        refine x_aret (c := 4) i_Reader_readPart_49 rfl ?_
        exact kk σ3 _ fin
    · rw [if_pos (by omega)] at kk
      refine x_aload_n i_Reader_readPart_22 rfl ?_
      refine x_cv0 i_Reader_readPart_23 rfl rfl rfl ?_
      refine c_Rd_readRange (k := k) (rule := rule) (dA := dA) h1 f1 (by omega) (fun σ2 b p2 => ?_)
      refine x_aret (c := 4) i_Reader_readPart_26 rfl ?_
      exact kk σ2 b p2
  · rw [if_pos (by omega)] at kk
    refine x_aload_n i_Reader_readPart_11 rfl ?_
    refine x_cv0 i_Reader_readPart_12 rfl rfl rfl ?_
    refine c_Rd_readQuoted (k := k) (rule := rule) (dA := dA) h1 f1 (by omega) (fun σ2 b p2 => ?_)
    refine x_aret (c := 4) i_Reader_readPart_15 rfl ?_
    exact kk σ2 b p2
theorem c_Rd_readItem {k rule : Nat} {alt : Option (RT → PR (PT k))} {dA : PT k} (hA : altHyp (d + 6) C t rule opn k alt) (h : RdS σ C t st opn)
    (k1 : ahP (chT t st.1) = true → ∀ σ' b, parPost C t st opn k (itmP t rule dA alt st) σ σ' b → Q (some (vr 4 b)) σ') (k2 : ahP (chT t st.1) = false → ∀ σ', rsX (C 0) σ σ' → RdF σ' C t st.1 opn → Q (some (vn 4)) σ') : wp (d + 10) m_Reader_readItem [vr 5 (C 0)] σ Q := by
  refine x_in (ls := [some _, none]) rfl rfl ?_
  refine x_aload_n i_Reader_readItem_0 rfl ?_
  refine x_cv0 i_Reader_readItem_1 rfl rfl rfl ?_
  refine c_Rd_partAhead h (fun σ1 x1 h1 f1 => ?_)
  cases hn : ahP (chT t st.1) with
  | false =>
    refine x_if_ne_f i_Reader_readItem_4 rfl ?_
    refine x_aload_n i_Reader_readItem_7 rfl ?_
    refine x_aload_n i_Reader_readItem_8 rfl ?_
    refine x_getI i_Reader_readItem_9 rfl rfl ?_
    rw [f1]
    refine x_cv1 i_Reader_readItem_12 rfl rfl rfl ?_
    refine c_Rd_failS h1 f1 h1.2.1.1 h1.2.1.1 (fun σ2 x2 h2 f2 => ?_)
    refine x_null i_Reader_readItem_15 ?_
    refine x_aretN (c := 4) i_Reader_readItem_16 rfl ?_
    exact k2 hn σ2 (x1.tr x2) h2
  | true =>
    have kk : ∀ σ' b, parPost C t st opn k (itmP t rule dA alt st) σ1 σ' b → Q (some (vr 4 b)) σ' := fun σ' b w => k1 hn σ' b (w.pre x1)
    simp only [itmP, hn, if_true] at kk
    refine x_if_ne_t i_Reader_readItem_4 (by decide) ?_
    refine x_aload_n i_Reader_readItem_17 rfl ?_
    refine x_cv0 i_Reader_readItem_18 rfl rfl rfl ?_
    refine c_Rd_readPart (dA := dA) hA h1 (fun σ2 b p2 => ?_)
    obtain ⟨r2, b2, p2⟩ := p2
    revert p2 kk
    cases parP t rule dA alt st with
    | inl p =>
      intro kk p2
      have ff := p2.1.2.2.2.2.1
      refine x_astore_n (ls' := [_, _]) i_Reader_readItem_21 rfl rfl ?_
      refine x_aload_n i_Reader_readItem_22 rfl ?_
      refine x_bipush i_Reader_readItem_23 ?_
      refine x_cv1 i_Reader_readItem_25 rfl rfl rfl ?_
      refine c_Rd_takesF ff ?_
      refine x_if_eq_t i_Reader_readItem_28 rfl ?_
      refine x_aload_n i_Reader_readItem_40 rfl ?_
      refine x_bipush i_Reader_readItem_41 ?_
      refine x_cv1 i_Reader_readItem_43 rfl rfl rfl ?_
      refine c_Rd_takesF ff ?_
      refine x_if_eq_t i_Reader_readItem_46 rfl ?_
      refine x_aload_n i_Reader_readItem_58 rfl ?_
      refine x_bipush i_Reader_readItem_59 ?_
      refine x_cv1 i_Reader_readItem_61 rfl rfl rfl ?_
      refine c_Rd_takesF ff ?_
      refine x_if_eq_t i_Reader_readItem_64 rfl ?_
      refine x_aload_n i_Reader_readItem_73 rfl ?_
      refine x_aret (c := 4) i_Reader_readItem_74 rfl ?_
      exact kk σ2 b ⟨r2, b2, p2⟩
    | inr x =>
      intro kk p2
      obtain ⟨h2, i2, n2⟩ := p2
      have n2 : nC σ2 + 1 ≤ nC σ1 + 4 * (x.2.1 - st.1) := n2
      have hge := sk_ge t (x.2.1 + 1)
      have kk : ∀ σ' b, parPost C t st opn k (.inr (timP t x)) σ1 σ' b → Q (some (vr 4 b)) σ' := kk
      unfold timP at kk
      have fin : ∀ σ3 (v : Nat), rsX (C 0) σ2 σ3 → RdS σ3 C t (sk t (x.2.1 + 1), x.2.2) opn → (v = 63 ∨ v = 42 ∨ v = 43) → (∀ σ' b, parPost C t st opn k (.inr (tmI x.1 v, (sk t (x.2.1 + 1), x.2.2))) σ1 σ' b → Q (some (vr 4 b)) σ') → Ex (wp (d + 9)) m_Reader_readItem Q 73 [some (vr 5 (C 0)), some (vr 4 b)] [] (sFI σ3 401 b (v : Nat)) := by
        intro σ3 v x3 h3 hv kk
        have x4 : obX 4 b σ3 (sFI σ3 401 b (v : Nat)) := (obX.rf _ _ _).sFI rfl
        have i4 := (i2.keep x3.rd.pso (fun r w => w)).tm hv
        have h4 := RdS_A.mpr (RdA.ob (RdS_A.mp h3) x4 (Or.inl rfl))
        have r4 := (r2.tr x3.rd).ob x4 b2
        have n4 : nC (sFI σ3 401 b (v : Nat)) = nC σ2 := x3.2.2.2.2.2.2.1
        refine x_aload_n i_Reader_readItem_73 rfl ?_
        refine x_aret (c := 4) i_Reader_readItem_74 rfl ?_
        exact kk _ b ⟨r4, b2, h4, i4, by rw [n4]; show nC σ2 + 1 ≤ nC σ1 + 4 * (sk t (x.2.1 + 1) - st.1); omega⟩
      refine x_astore_n (ls' := [_, _]) i_Reader_readItem_21 rfl rfl ?_
      refine x_aload_n i_Reader_readItem_22 rfl ?_
      refine x_bipush i_Reader_readItem_23 ?_
      refine x_cv1 i_Reader_readItem_25 rfl rfl rfl ?_
      refine c_Rd_takes h2 (by decide) (fun w σ3 x3 h3 => ?_) (fun w σ3 x3 h3 f3 => ?_)
      · rw [if_pos w] at kk
        refine x_if_eq_f i_Reader_readItem_28 (by decide) ?_
        refine x_aload_n i_Reader_readItem_31 rfl ?_
        refine x_bipush i_Reader_readItem_32 ?_
        refine x_putI i_Reader_readItem_34 rfl rfl ?_
        refine x_goto i_Reader_readItem_37 ?_
        exact fin σ3 42 x3 h3 (by decide) kk
      · rw [if_neg w] at kk
        refine x_if_eq_t i_Reader_readItem_28 rfl ?_
        refine x_aload_n i_Reader_readItem_40 rfl ?_
        refine x_bipush i_Reader_readItem_41 ?_
        refine x_cv1 i_Reader_readItem_43 rfl rfl rfl ?_
        refine c_Rd_takes h3 (by decide) (fun w σ4 x4 h4 => ?_) (fun w σ4 x4 h4 f4 => ?_)
        · rw [if_pos w] at kk
          refine x_if_eq_f i_Reader_readItem_46 (by decide) ?_
          refine x_aload_n i_Reader_readItem_49 rfl ?_
          refine x_bipush i_Reader_readItem_50 ?_
          refine x_putI i_Reader_readItem_52 rfl rfl ?_
          refine x_goto i_Reader_readItem_55 ?_
          exact fin σ4 43 (x3.tr x4) h4 (by decide) kk
        · rw [if_neg w] at kk
          refine x_if_eq_t i_Reader_readItem_46 rfl ?_
          refine x_aload_n i_Reader_readItem_58 rfl ?_
          refine x_bipush i_Reader_readItem_59 ?_
          refine x_cv1 i_Reader_readItem_61 rfl rfl rfl ?_
          refine c_Rd_takes h4 (by decide) (fun w σ5 x5 h5 => ?_) (fun w σ5 x5 h5 f5 => ?_)
          · rw [if_pos w] at kk
            refine x_if_eq_f i_Reader_readItem_64 (by decide) ?_
            refine x_aload_n i_Reader_readItem_67 rfl ?_
            refine x_bipush i_Reader_readItem_68 ?_
            refine x_putI i_Reader_readItem_70 rfl rfl ?_
            exact fin σ5 63 ((x3.tr x4).tr x5) h5 (by decide) kk
          · rw [if_neg w] at kk
            have x25 : rsX (C 0) σ2 σ5 := (x3.tr x4).tr x5
            refine x_if_eq_t i_Reader_readItem_64 rfl ?_
            refine x_aload_n i_Reader_readItem_73 rfl ?_
            refine x_aret (c := 4) i_Reader_readItem_74 rfl ?_
            exact kk σ5 b ⟨r2.tr x25.rd, b2, h5, i2.keep x25.rd.pso (fun r w => w), by rw [x25.2.2.2.2.2.2.1]; exact n2⟩
end


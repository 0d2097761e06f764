/-! THE CLASS's Reader: words -/
theorem ownP.new {σ : AS} {b kind num : Nat} {o : Option Nat} (h : newP σ b kind o) (h12 : kind < 12) (h6 : kind ≤ 6 → ∃ tt, o = some tt ∧ FI σ 2 tt = (num : Int) ∧ FI σ 3 tt = -1 ∧ FI σ 4 tt = -1 ∧ num < 32 ∧ tt < CN σ 0) : ownP σ b kind num := by
  obtain ⟨p1, p2, p3, p4, p5, p6, p7⟩ := h
  refine ⟨p1, p2, p7, by omega, by omega, fun w => ?_, fun _ => p5⟩
  obtain ⟨tt, e, a⟩ := h6 w
  exact ⟨tt, by rw [p4, e], a⟩
section
variable {d : Nat} {Q : AQ} {σ : AS} {C : Nat → Nat} {t : TP} {st : RT} {opn : Nat}
theorem c_Rd_readBodyF {p b : Nat} (h : RdF σ C t p opn) (ho : opn ≤ 8) (kk : ∀ σ', rsX (C 0) σ σ' → RdF σ' C t p opn → Q none σ') : wp (d + 6) m_Reader_readBody [vr 5 (C 0), vr 4 b] σ Q := by
  refine x_in (ls := [some _, some _]) rfl rfl ?_
  refine x_aload_n i_Reader_readBody_0 rfl ?_
  refine x_cv0 i_Reader_readBody_1 rfl rfl rfl ?_
  refine c_Rd_opensF h ho (fun σ1 x1 h1 => ?_)
  refine x_if_eq_t i_Reader_readBody_4 rfl ?_
  refine x_vret i_Reader_readBody_31 rfl ?_
  exact kk σ1 x1 h1
theorem c_Rd_readChainF {p b : Nat} (h : RdF σ C t p opn) (ho : opn ≤ 8) (kk : ∀ σ', rsX (C 0) σ σ' → RdF σ' C t p opn → Q none σ') : wp (d + 6) m_Reader_readChain [vr 5 (C 0), vr 4 b] σ Q := by
  refine x_in (ls := [some _, some _]) rfl rfl ?_
  refine x_aload_n i_Reader_readChain_0 rfl ?_
  refine x_cv0 i_Reader_readChain_1 rfl rfl rfl ?_
  refine c_Rd_opensF h ho (fun σ1 x1 h1 => ?_)
  refine x_if_eq_t i_Reader_readChain_4 rfl ?_
  refine x_vret i_Reader_readChain_45 rfl ?_
  exact kk σ1 x1 h1
theorem bod_par {k b : Nat} {R : PR (Item (PT k))} {σ1 σ' : AS} {st1 : RT} (h : bodPost C t st1 opn k R σ σ1 σ' b) (hb : CN σ 4 ≤ b) (hn : nC σ1 ≤ nC σ + 2) (hw : st.1 < st1.1) (hle : st1.1 ≤ t.1) : parPost C t st opn k R σ σ' b := by
  obtain ⟨h1, h2⟩ := h
  refine ⟨h1, hb, ?_⟩
  revert h2
  cases R with
  | inl p => intro h2; exact ⟨h2.1, by have := h2.2; omega⟩
  | inr x => intro h2; exact ⟨h2.1, h2.2.1, by have := h2.2.2; show nC σ' + 1 ≤ nC σ + 4 * (x.2.1 - st.1); omega⟩
theorem c_Rd_readWord {k rule : Nat} {alt : Option (RT → PR (PT k))} {dA : PT k} (hA : altHyp (d + 6) C t rule opn k alt) (h : RdS σ C t st opn) (ha : FI σ 503 (C 0) = (st.1 : Int))
    (kk : ∀ σ' b, parPost C t st opn k (worP t rule dA alt st) σ σ' b → Q (some (vr 4 b)) σ') : wp (d + 8) m_Reader_readWord [vr 5 (C 0)] σ Q := by
  obtain ⟨b1, b2, b3, b4, b5, -⟩ := id h
  obtain ⟨-, -, -, -, ⟨q1, -⟩, -, -, ht, hr⟩ := id b1
  have ht1 := ht.1
  have we1 := we_all t _ st.1 rfl
  have we2 := we1.2.1 b2.1
  have we3 := sk_ge t (we t st.1)
  have main : Ex (wp (d + 7)) m_Reader_readWord Q 36 [some (vr 5 (C 0)), some (vi (we t st.1 : Nat)), none, none] [] σ := by
    refine x_aload_n i_Reader_readWord_36 rfl ?_
    refine x_iload_n i_Reader_readWord_37 rfl ?_
    refine x_cv1 i_Reader_readWord_38 rfl rfl rfl ?_
    refine c_Rd_wordKind b1 ha we1.1 we2 ?_
    unfold worP at kk
    cases hk : kdW t st.1 (we t st.1) with
    | none =>
      rw [hk] at kk
      have hN : RdA (nO σ 4) C t st opn (litT st.2.1) := (RdS_A.mp h).newO (Or.inr (Or.inl rfl))
      refine x_istore_n (ls' := [_, _, _, _]) i_Reader_readWord_41 rfl rfl ?_
      refine x_iload_n i_Reader_readWord_42 rfl ?_
      refine x_iconst i_Reader_readWord_43 ?_
      refine x_icmp_ne_f i_Reader_readWord_44 rfl ?_
      refine x_aload_n i_Reader_readWord_47 rfl ?_
      refine x_aload_n i_Reader_readWord_48 rfl ?_
      refine x_getI i_Reader_readWord_49 rfl rfl ?_
      rw [ha]
      refine x_cv1 i_Reader_readWord_52 rfl rfl rfl ?_
      refine c_Rd_failS h ha b2.1 b2.1 (fun σ1 x1 h1 f1 => ?_)
      have h2 := h1.newO (c := 4) (Or.inr (Or.inl rfl))
      have r2 := x1.rd.nO (c := 4) (Or.inr (Or.inl rfl))
      have c1 : CN σ1 = CN σ := x1.2.2.2.2.2.1
      have n1 : nC σ1 = nC σ := x1.2.2.2.2.2.2.1
      refine x_new i_Reader_readWord_55 ?_
      refine x_dup i_Reader_readWord_58 ?_
      refine x_bipush i_Reader_readWord_59 ?_
      refine x_ci1 i_Reader_readWord_61 rfl rfl rfl ?_
      refine c_P_init (kind := 7) (fun σ2 x2 p2 => ?_)
      have n2 : nC σ2 = nC (nO σ1 4) := x2.2.2.2.2.2.1
      refine x_aret (c := 4) i_Reader_readWord_64 rfl ?_
      exact kk σ2 _ ⟨r2.ob x2 (by rw [c1]; exact Nat.le_refl _), by rw [c1]; exact Nat.le_refl _, h2.ob x2 (Or.inr (Or.inl rfl)), by rw [n2, nC_nO, n1]; omega⟩
    | some kd =>
      rw [hk] at kk
      obtain ⟨k1, k2, k3⟩ := kdW_lt hk
      simp only [] at kk
      -- after the part is there
      have good : ∀ (σ1 : AS) (st1 : RT) (num : Nat), rdX C σ σ1 → RdS σ1 C t st1 opn → st1.1 = sk t (we t st.1) → CN σ 4 < CN σ1 4 → nC σ1 ≤ nC σ + 2 → ownP σ1 (CN σ 4) kd num → (∀ σ' b, parPost C t st opn k (if kd = 10 then chaP t alt st1 else if kd = 5 ∨ kd = 6 ∨ kd = 8 ∨ kd = 9 then bodP t dA alt kd num st1 else .inr (mkI kd num (-1) (-1) dA dA, st1)) σ σ' b → Q (some (vr 4 b)) σ') → Ex (wp (d + 7)) m_Reader_readWord Q 76 [some (vr 5 (C 0)), some (vi (we t st.1 : Nat)), some (vi (kd : Nat)), some (vr 4 (CN σ 4))] [] σ1 := by
        intro σ1 st1 num r1 h1 e1 c1 n1 o1 kk
        have lt1 : st.1 < st1.1 := by omega
        have le1 : st1.1 ≤ t.1 := h1.2.1.1
        have body : (kd = 5 ∨ kd = 6 ∨ kd = 8 ∨ kd = 9) → Ex (wp (d + 7)) m_Reader_readWord Q 113 [some (vr 5 (C 0)), some (vi (we t st.1 : Nat)), some (vi (kd : Nat)), some (vr 4 (CN σ 4))] [] σ1 := by
          intro w
          rw [if_neg (by omega), if_pos w] at kk
          refine x_aload_n i_Reader_readWord_113 rfl ?_
          refine x_aload_n i_Reader_readWord_114 rfl ?_
          refine x_cv1 i_Reader_readWord_115 rfl rfl rfl ?_
          refine c_Rd_readBody (dA := dA) hA h1 r1 (Nat.le_refl _) c1 o1 (by omega) (fun σ2 p2 => ?_)
          refine x_aload_n i_Reader_readWord_118 rfl ?_
          refine x_aret (c := 4) i_Reader_readWord_119 rfl ?_
          exact kk σ2 _ (bod_par p2 (Nat.le_refl _) n1 lt1 le1)
        refine x_iload_n i_Reader_readWord_76 rfl ?_
        refine x_bipush i_Reader_readWord_77 ?_
        refine x_icmp_ne i_Reader_readWord_79 (fun g1 => ?_) (fun g1 => ?_)
        · refine x_iload_n i_Reader_readWord_90 rfl ?_
          refine x_bipush i_Reader_readWord_91 ?_
          refine x_icmp_eq i_Reader_readWord_93 (fun g2 => ?_) (fun g2 => ?_)
          · exact body (by omega)
          · refine x_iload_n i_Reader_readWord_96 rfl ?_
            refine x_iconst i_Reader_readWord_97 ?_
            refine x_icmp_eq i_Reader_readWord_98 (fun g3 => ?_) (fun g3 => ?_)
            · exact body (by omega)
            · refine x_iload_n i_Reader_readWord_101 rfl ?_
              refine x_bipush i_Reader_readWord_102 ?_
              refine x_icmp_eq i_Reader_readWord_104 (fun g4 => ?_) (fun g4 => ?_)
              · exact body (by omega)
              · refine x_iload_n i_Reader_readWord_107 rfl ?_
                refine x_bipush i_Reader_readWord_108 ?_
                refine x_icmp_ne i_Reader_readWord_110 (fun g5 => ?_) (fun g5 => ?_)
                · rw [if_neg (by omega), if_neg (by omega)] at kk
                  refine x_aload_n i_Reader_readWord_118 rfl ?_
                  refine x_aret (c := 4) i_Reader_readWord_119 rfl ?_
                  exact kk σ1 _ ⟨r1, Nat.le_refl _, h1, o1.itm c1 (fun w => by omega) (fun w => by omega), by show nC σ1 + 1 ≤ nC σ + 4 * (st1.1 - st.1); omega⟩
                · exact body (by omega)
        · rw [if_pos (by omega)] at kk
          have e10 : kd = 10 := by omega
          have o2 : ownP σ1 (CN σ 4) 10 0 := ⟨by rw [o1.1, e10], o1.2.1, o1.2.2.1, by decide, by decide, fun w => absurd w (by decide), fun w => absurd w (by decide)⟩
          refine x_aload_n i_Reader_readWord_82 rfl ?_
          refine x_aload_n i_Reader_readWord_83 rfl ?_
          refine x_cv1 i_Reader_readWord_84 rfl rfl rfl ?_
          refine c_Rd_readChain hA h1 r1 (Nat.le_refl _) c1 o2 (fun σ2 p2 => ?_)
          refine x_goto i_Reader_readWord_87 ?_
          refine x_aload_n i_Reader_readWord_118 rfl ?_
          refine x_aret (c := 4) i_Reader_readWord_119 rfl ?_
          exact kk σ2 _ (bod_par p2 (Nat.le_refl _) n1 lt1 le1)
      refine x_istore_n (ls' := [_, _, _, _]) i_Reader_readWord_41 rfl rfl ?_
      refine x_iload_n i_Reader_readWord_42 rfl ?_
      refine x_iconst i_Reader_readWord_43 ?_
      have ek : kdI (some kd) = ((kd : Nat) : Int) := rfl
      refine x_icmp_ne_t i_Reader_readWord_44 (by show ((kd : Nat) : Int) ≠ -1; omega) ?_
      refine x_aload_n i_Reader_readWord_65 rfl ?_
      refine x_iload_n i_Reader_readWord_66 rfl ?_
      refine x_cv1 i_Reader_readWord_67 rfl rfl rfl ?_
      refine c_Rd_newPart (kind := kd) (rule := rule) (q := litT st.2.1) (RdS_A.mp h) ha (by omega) (fun w σ1 x1 h1 f1 e1 e2 e3 p1 => ?_) (fun w hl σ1 x1 h1 f1 e1 e2 e3 e4 p1 e5 e6 e7 e8 e9 => ?_) (fun w hl σ1 x1 h1 f1 e1 e2 e3 e4 => ?_)
      · rw [if_neg (by omega)] at kk
        refine x_astore_n (ls' := [_, _, _, _]) i_Reader_readWord_70 rfl rfl ?_
        refine x_aload_n i_Reader_readWord_71 rfl ?_
        refine x_iload_n i_Reader_readWord_72 rfl ?_
        refine x_putI i_Reader_readWord_73 rfl rfl ?_
        have h2 := h1.at_ (a := we t st.1) (v := (we t st.1 : Nat)) rfl we2
        have x2 : rsX (C 0) σ1 (sFI σ1 503 (C 0) (we t st.1 : Nat)) := rsX_sFI (by decide) (by decide)
        generalize sFI σ1 503 (C 0) (we t st.1 : Nat) = σ2 at h2 x2
        have o1 : ownP σ1 (CN σ 4) kd 0 := ownP.new p1 (by omega) (fun q => by omega)
        refine good σ2 _ 0 (x1.tr x2.rd) (RdS_A.mpr h2) rfl (by rw [x2.2.2.2.2.2.1, e2]; omega) (by rw [x2.2.2.2.2.2.2.1, e1]; omega) (o1.rd x2.rd (by rw [e2]; omega)) (fun σ' b hp => kk σ' b ?_)
        by_cases w7 : kd = 7
        · rw [if_pos w7]
          rw [if_neg (by omega), if_neg (by omega)] at hp
          rw [w7] at hp
          exact hp
        · rw [if_neg w7]
          by_cases w10 : kd = 10
          · rw [if_pos w10] at hp ⊢
            exact hp
          · rw [if_neg w10] at hp ⊢
            rw [if_pos (by omega)] at hp
            exact hp
      · rw [if_pos w, if_neg (by omega)] at kk
        refine x_astore_n (ls' := [_, _, _, _]) i_Reader_readWord_70 rfl rfl ?_
        refine x_aload_n i_Reader_readWord_71 rfl ?_
        refine x_iload_n i_Reader_readWord_72 rfl ?_
        refine x_putI i_Reader_readWord_73 rfl rfl ?_
        have h2 := h1.at_ (a := we t st.1) (v := (we t st.1 : Nat)) rfl we2
        have x2 : rsX (C 0) σ1 (sFI σ1 503 (C 0) (we t st.1 : Nat)) := rsX_sFI (by decide) (by decide)
        generalize sFI σ1 503 (C 0) (we t st.1 : Nat) = σ2 at h2 x2
        have o1 : ownP σ1 (CN σ 4) kd st.2.1.length := ownP.new p1 (by omega) (fun q => ⟨_, rfl, e7, e8, e9, hl, by rw [e4]; omega⟩)
        have h3 : RdS σ2 C t (sk t (we t st.1), st.2.1 ++ [(rule, st.1, kd, -1, -1)], st.2.2) opn := by
          refine RdS_A.mpr ?_
          show RdA σ2 C t _ opn (litT (st.2.1 ++ [(rule, st.1, kd, -1, -1)]))
          rw [litT_snoc, if_neg (by show ¬ kd = 0; omega), List.append_nil]
          exact h2
        refine good σ2 _ st.2.1.length (x1.tr x2.rd) h3 rfl (by rw [x2.2.2.2.2.2.1, e2]; omega) (by rw [x2.2.2.2.2.2.2.1, e1]; omega) (o1.rd x2.rd (by rw [e2]; omega)) (fun σ' b hp => kk σ' b ?_)
        rw [if_neg (by omega)] at hp
        by_cases w7 : kd = 5 ∨ kd = 6
        · rw [if_pos w7]
          rw [if_pos (by omega)] at hp
          exact hp
        · rw [if_neg w7]
          rw [if_neg (by omega)] at hp
          exact hp
      · rw [if_pos w, if_pos hl] at kk
        refine x_astore_n (ls' := [_, _, _, _]) i_Reader_readWord_70 rfl rfl ?_
        refine x_aload_n i_Reader_readWord_71 rfl ?_
        refine x_iload_n i_Reader_readWord_72 rfl ?_
        refine x_putI i_Reader_readWord_73 rfl rfl ?_
        have h2 := h1.at_ (a := we t st.1) (v := (we t st.1 : Nat)) rfl we2
        have x2 : rsX (C 0) σ1 (sFI σ1 503 (C 0) (we t st.1 : Nat)) := rsX_sFI (by decide) (by decide)
        generalize sFI σ1 503 (C 0) (we t st.1 : Nat) = σ2 at h2 x2
        have n2 : nC σ2 = nC σ + 1 := by rw [x2.2.2.2.2.2.2.1, e1]
        have end_ : ∀ σ3, rsX (C 0) σ2 σ3 → RdF σ3 C t st.1 opn → Ex (wp (d + 7)) m_Reader_readWord Q 118 [some (vr 5 (C 0)), some (vi (we t st.1 : Nat)), some (vi (kd : Nat)), some (vr 4 (CN σ 4))] [] σ3 := by
          intro σ3 x3 h3
          refine x_aload_n i_Reader_readWord_118 rfl ?_
          refine x_aret (c := 4) i_Reader_readWord_119 rfl ?_
          exact kk σ3 _ ⟨(x1.tr x2.rd).tr x3.rd, Nat.le_refl _, h3, by rw [x3.2.2.2.2.2.2.1, n2]; omega⟩
        have body : Ex (wp (d + 7)) m_Reader_readWord Q 113 [some (vr 5 (C 0)), some (vi (we t st.1 : Nat)), some (vi (kd : Nat)), some (vr 4 (CN σ 4))] [] σ2 := by
          refine x_aload_n i_Reader_readWord_113 rfl ?_
          refine x_aload_n i_Reader_readWord_114 rfl ?_
          refine x_cv1 i_Reader_readWord_115 rfl rfl rfl ?_
          refine c_Rd_readBodyF h2 hA.1 (fun σ3 x3 h3 => ?_)
          exact end_ σ3 x3 h3
        refine x_iload_n i_Reader_readWord_76 rfl ?_
        refine x_bipush i_Reader_readWord_77 ?_
        refine x_icmp_ne_t i_Reader_readWord_79 (by omega) ?_
        refine x_iload_n i_Reader_readWord_90 rfl ?_
        refine x_bipush i_Reader_readWord_91 ?_
        refine x_icmp_eq_f i_Reader_readWord_93 (by omega) ?_
        refine x_iload_n i_Reader_readWord_96 rfl ?_
        refine x_iconst i_Reader_readWord_97 ?_
        refine x_icmp_eq i_Reader_readWord_98 (fun g3 => ?_) (fun g3 => ?_)
        · exact body
        · refine x_iload_n i_Reader_readWord_101 rfl ?_
          refine x_bipush i_Reader_readWord_102 ?_
          refine x_icmp_eq_f i_Reader_readWord_104 (by omega) ?_
          refine x_iload_n i_Reader_readWord_107 rfl ?_
          refine x_bipush i_Reader_readWord_108 ?_
          refine x_icmp_ne i_Reader_readWord_110 (fun g5 => ?_) (fun g5 => ?_)
          · exact end_ σ2 (tX.rf _ _ _) h2
          · exact body
  have loop : ∀ (k a : Nat), t.1 - a = k → a ≤ t.1 → we t a = we t st.1 → Ex (wp (d + 7)) m_Reader_readWord Q 5 [some (vr 5 (C 0)), some (vi (a : Nat)), none, none] [] σ := by
    intro k
    induction k with
    | zero =>
      intro a hk ha e
      rw [we_stop (by omega)] at e
      refine x_iload_n i_Reader_readWord_5 rfl ?_
      refine x_aload_n i_Reader_readWord_6 rfl ?_
      refine x_getR (c2 := 6) i_Reader_readWord_7 rfl rfl (by assumption) ?_
      refine x_cv0 i_Reader_readWord_10 rfl rfl rfl ?_
      refine c_Row_size hr ?_
      refine x_icmp_ge_t i_Reader_readWord_13 (by omega) ?_
      rw [e]
      exact main
    | succ k ih =>
      intro a hk ha e
      have hlt : a < t.1 := by omega
      refine x_iload_n i_Reader_readWord_5 rfl ?_
      refine x_aload_n i_Reader_readWord_6 rfl ?_
      refine x_getR (c2 := 6) i_Reader_readWord_7 rfl rfl (by assumption) ?_
      refine x_cv0 i_Reader_readWord_10 rfl rfl rfl ?_
      refine c_Row_size hr ?_
      refine x_icmp_ge_f i_Reader_readWord_13 (by omega) ?_
      refine x_aload_n i_Reader_readWord_16 rfl ?_
      refine x_getR (c2 := 6) i_Reader_readWord_17 rfl rfl (by assumption) ?_
      refine x_iload_n i_Reader_readWord_20 rfl ?_
      refine x_cv1 i_Reader_readWord_21 rfl rfl rfl ?_
      refine c_at_in hr (j := a) rfl hlt ?_
      refine x_cs1 i_Reader_readWord_24 rfl rfl ?_
      refine c_Rd_isSmall ?_
      cases hs : isSm (t.2 a) with
      | false =>
        refine x_if_eq_t i_Reader_readWord_27 rfl ?_
        rw [we_stop (fun w => by rw [w.2] at hs; cases hs)] at e
        rw [e]
        exact main
      | true =>
        refine x_if_eq_f i_Reader_readWord_27 (by decide) ?_
        refine x_iinc (ls' := [_, _, _, _]) i_Reader_readWord_30 rfl (by omega) rfl ?_
        refine x_goto i_Reader_readWord_33 ?_
        rw [we_step hlt hs] at e
        exact ih (a + 1) (by omega) (by omega) e
  refine x_in (ls := [some _, none, none, none]) rfl rfl ?_
  refine x_aload_n i_Reader_readWord_0 rfl ?_
  refine x_getI i_Reader_readWord_1 rfl rfl ?_
  rw [ha]
  refine x_istore_n (ls' := [_, _, _, _]) i_Reader_readWord_4 rfl rfl ?_
  exact loop _ st.1 rfl b2.1 rfl
end


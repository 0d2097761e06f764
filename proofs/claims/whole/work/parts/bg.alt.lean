/-! THE CLASS's Reader: SEQS, ALTS -/
theorem inS.lo {σ : AS} {k l4 l4' s H4 H8 : Nat} {names : List (Nat × Nat)} {it : Item (PT k)} {b : Nat} (h : inS σ k names l4 s H4 H8 it b) (w : l4' ≤ l4) : inS σ k names l4' s H4 H8 it b := ⟨⟨by have := h.1.1; omega, h.1.2⟩, h.2⟩
/-- a SEQ of an ALT -/
def inA (σ : AS) (k : Nat) (names : List (Nat × Nat)) (l4 l8 H4 H8 : Nat) (s : List (Item (PT k))) (a : Nat) : Prop := ((l8 ≤ a ∧ a < H8) ∧ s ≠ []) ∧ chnR (FR σ 406) (inS σ k names l4 a H4 H8) s (FR σ 800 a)
theorem inA.keep {σ σ' : AS} {k l4 l8 H4 H8 H4' H8' : Nat} {names names' : List (Nat × Nat)} {s : List (Item (PT k))} {a : Nat} (h : inA σ k names l4 l8 H4 H8 s a) (hn : ∀ r, dnN names r → dnN names' r) (e : FR σ' 800 a = FR σ 800 a) (hi : psoI l4 H4 (a + 1) H8 σ σ') (h4 : H4 ≤ H4') (h8 : H8 ≤ H8') : inA σ' k names' l4 l8 H4' H8' s a := by
  obtain ⟨⟨⟨h1, h2⟩, h3⟩, hc⟩ := h
  refine ⟨⟨⟨h1, by omega⟩, h3⟩, ?_⟩
  rw [e]
  refine chnR.keepB (fun it b w => ⟨?_, (hi.1 406 b (by decide) (by decide) w.1.1 w.1.2).2⟩) _ _ hc
  exact w.keep hn (fun f w1 w2 _ => hi.1 f b w1 w2 w.1.1 w.1.2) (hi.sub (by have := w.1.1; omega) (Nat.le_refl _) (Nat.le_refl _) (Nat.le_refl _)) h4 h8
section
variable {d : Nat} {Q : AQ} {σ : AS} {C : Nat → Nat} {t : TP} {st : RT} {opn : Nat}
theorem c_Rd_readSeq {k rule : Nat} {alt : Option (RT → PR (PT k))} {dA : PT k} (hA : altHyp (d + 6) C t rule opn k alt) (hadv : ∀ f, alt = some f → ∀ st, okT t st → adv t rule st (f st)) (ht : tpOK t) (h : RdS σ C t st opn)
    (kk : ∀ σ' s, seqPost C t st opn k (seqP t rule dA alt st) σ σ' s → Q (some (vr 8 s)) σ') : wp (d + 11) m_Reader_readSeq [vr 5 (C 0)] σ Q := by
  have hN := (RdS_A.mp h).newO (c := 8) (Or.inr (Or.inr rfl))
  have hrN := (rdX.rf C σ).nO (c := 8) (Or.inr (Or.inr rfl))
  have hle := h.2.1.1
  refine x_in (ls := [some _, none, none, none, none]) rfl rfl ?_
  refine x_new i_Reader_readSeq_0 ?_
  refine x_dup i_Reader_readSeq_3 ?_
  refine x_ci0 i_Reader_readSeq_4 rfl rfl rfl ?_
  refine c_S_init (fun σ1 x1 e0 e1 => ?_)
  have h1 := RdS_A.mpr (hN.ob x1 (Or.inr rfl))
  have r1 : rdX C σ σ1 := hrN.ob x1 (Nat.le_refl _)
  have c1 : CN σ1 8 = CN σ 8 + 1 := by rw [x1.2.2.2.2.1, CN_nO, if_pos rfl]
  have c14 : CN σ1 4 = CN σ 4 := by rw [x1.2.2.2.2.1, CN_nO, if_neg (by decide)]
  have n1 : nC σ1 = nC σ + 1 := by rw [x1.2.2.2.2.2.1, nC_nO]
  unfold seqP at kk
  refine x_astore_n (ls' := [_, _, _, _, _]) i_Reader_readSeq_7 rfl rfl ?_
  refine x_aload_n i_Reader_readSeq_8 rfl ?_
  refine x_aload_n i_Reader_readSeq_9 rfl ?_
  refine x_cv0 i_Reader_readSeq_10 rfl rfl rfl ?_
  refine c_Rd_readItem (dA := dA) hA h1 (fun _ σ2 b p2 => ?_) (fun w σ2 x2 h2 => ?_)
  · obtain ⟨r2, b2, p2⟩ := p2
    have s2 : FR σ2 801 (CN σ 8) = none := by rw [r2.2.1 801 _ (by show CN σ 8 < CN σ1 8; omega)]; exact e1
    have m2 : CN σ1 8 ≤ CN σ2 8 := r2.2.2.2.2.2.1 8
    refine x_putO (c2 := 4) i_Reader_readSeq_13 rfl rfl ?_
    have x3 : obX 8 (CN σ 8) σ2 (sFR σ2 800 (CN σ 8) (some b)) := (obX.rf _ _ _).sFR rfl
    have r3 := (r1.tr r2).ob x3 (Nat.le_refl _)
    have e3 : FR (sFR σ2 800 (CN σ 8) (some b)) 800 (CN σ 8) = some b := by rw [FR_sFR, if_pos ⟨rfl, rfl⟩]
    have f3 : ∀ g x, ¬ (g = 800 ∧ x = CN σ 8) → FR (sFR σ2 800 (CN σ 8) (some b)) g x = FR σ2 g x := fun g x w => by rw [FR_sFR, if_neg w]
    have g3 : FI (sFR σ2 800 (CN σ 8) (some b)) = FI σ2 := rfl
    have c3 : CN (sFR σ2 800 (CN σ 8) (some b)) = CN σ2 := rfl
    have n3 : nC (sFR σ2 800 (CN σ 8) (some b)) = nC σ2 := rfl
    revert p2 kk
    have av := adv_itm (dA := dA) (rule := rule) ht h1.2.1 hadv
    revert av
    generalize itmP t rule dA alt st = R
    cases R with
    | inl p =>
      intro _ kk p2
      have h3 := p2.1.ob x3 (Or.inr (Or.inr rfl))
      have p2n : nC σ2 ≤ nC σ1 + 4 * (t.1 + 1 - st.1) + 4 * k + 4 := p2.2
      generalize sFR σ2 800 (CN σ 8) (some b) = σ3 at r3 e3 h3 n3
      refine x_aload_n i_Reader_readSeq_16 rfl ?_
      refine x_getR (c2 := 4) i_Reader_readSeq_17 rfl rfl (by assumption) ?_
      refine x_astore_n (ls' := [_, _, _, _, _]) i_Reader_readSeq_20 rfl rfl ?_
      refine x_iconst i_Reader_readSeq_21 ?_
      refine x_istore_n (ls' := [_, _, _, _, _]) i_Reader_readSeq_22 rfl rfl ?_
      exact Rd_seqEnd (z := some b) (i := 0) h3 (kk σ3 _ ⟨r3, Nat.le_refl _, h3, by rw [n3]; omega⟩)
    | inr x =>
      intro av kk p2
      obtain ⟨p21, p22, p23⟩ := p2
      have av : advI t rule st x.2 := av
      have p23 : nC σ2 + 1 ≤ nC σ1 + 4 * (x.2.1 - st.1) := p23
      have h3 := RdS_A.mpr (RdA.ob (RdS_A.mp p21) x3 (Or.inr rfl))
      generalize sFR σ2 800 (CN σ 8) (some b) = σ3 at x3 r3 e3 h3 n3 f3 g3 c3
      have i3 : psoI (b + 1) (CN σ2 4) (CN σ1 8) (CN σ2 8) σ2 σ3 := ⟨fun f a w1 w2 w3 w4 => ⟨by rw [g3], f3 f a (fun q => by omega)⟩, fun f a w1 w2 w3 w4 => f3 f a (fun q => by omega), fun f a _ _ => by rw [g3], by rw [c3]; exact Nat.le_refl _⟩
      have hb : itmS σ3 k x.2.2.2 b (CN σ 8 + 1) x.1 := by
        obtain ⟨a1, a2, a3⟩ := p22
        refine ⟨by rw [c3]; exact a1, itemG.keep (fun f w1 w2 _ => ⟨by rw [g3], f3 f b (fun q => by omega)⟩) i3.2.2.1 i3.2.2.2 (fun r w => w) (fun x o w => ?_) x.1 a2, by rw [f3 406 b (fun q => by omega)]; exact a3⟩
        rw [c3, ← c1]
        exact altG.keepI (fun r w => w) k _ _ _ _ _ _ x o i3 (Nat.le_refl _) (Nat.le_refl _) w
      have lt := av.1
      refine x_aload_n i_Reader_readSeq_16 rfl ?_
      refine x_getR (c2 := 4) i_Reader_readSeq_17 rfl rfl (by assumption) ?_
      refine x_astore_n (ls' := [_, _, _, _, _]) i_Reader_readSeq_20 rfl rfl ?_
      refine x_iconst i_Reader_readSeq_21 ?_
      refine x_istore_n (ls' := [_, _, _, _, _]) i_Reader_readSeq_22 rfl rfl ?_
      exact Rd_seqLoop (dA := dA) (rule := rule) hA hadv ht (Nat.le_refl _) 240 0 [] x.1 x.2 σ3 b rfl (by omega) r3 h3 (by rw [c3]; omega) (by rw [f3 801 _ (fun q => by omega)]; exact s2) (by omega) hb e3 (by rw [n3]; omega) (fun σ' hp => kk σ' _ hp)
  · refine x_putO (c2 := 4) i_Reader_readSeq_13 rfl rfl ?_
    have x3 : obX 8 (CN σ 8) σ2 (sFR σ2 800 (CN σ 8) none) := (obX.rf _ _ _).sFR rfl
    have h3 := h2.ob x3 (Or.inr (Or.inr rfl))
    have r3 := (r1.tr x2.rd).ob x3 (Nat.le_refl _)
    have e3 : FR (sFR σ2 800 (CN σ 8) none) 800 (CN σ 8) = none := by rw [FR_sFR, if_pos ⟨rfl, rfl⟩]
    have n3 : nC (sFR σ2 800 (CN σ 8) none) = nC σ2 := rfl
    have n2 : nC σ2 = nC σ1 := x2.2.2.2.2.2.2.1
    generalize sFR σ2 800 (CN σ 8) none = σ3 at h3 r3 e3 n3
    refine x_aload_n i_Reader_readSeq_16 rfl ?_
    refine x_getO (c2 := 4) i_Reader_readSeq_17 rfl rfl ?_
    rw [e3]
    refine x_astore_n (ls' := [_, _, _, _, _]) i_Reader_readSeq_20 rfl rfl ?_
    refine x_iconst i_Reader_readSeq_21 ?_
    refine x_istore_n (ls' := [_, _, _, _, _]) i_Reader_readSeq_22 rfl rfl ?_
    have : itmP t rule dA alt st = .inl st.1 := by unfold itmP; rw [w]; rfl
    rw [this] at kk
    exact Rd_seqEnd (z := none) (i := 0) h3 (kk σ3 _ ⟨r3, Nat.le_refl _, h3, by rw [n3]; omega⟩)
end


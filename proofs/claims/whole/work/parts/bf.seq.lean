/-! THE CLASS's Reader: SEQS -/
/-- a chain whose last points to z -/
def chnT {A : Type} (nx : Nat → Option Nat) (R : A → Nat → Prop) : List A → Option Nat → Nat → Prop
  | [], o, z => o = some z
  | x :: l, o, z => ∃ a, o = some a ∧ R x a ∧ chnT nx R l (nx a) z
theorem chnT.keep {A : Type} {nx nx' : Nat → Option Nat} {R R' : A → Nat → Prop} {z : Nat} (hk : ∀ x c, R x c → R' x c ∧ nx' c = nx c) : ∀ {l : List A} {o : Option Nat}, chnT nx R l o z → chnT nx' R' l o z
  | [], _, h => h
  | x :: l, o, h => by
    obtain ⟨a, h1, h2, h3⟩ := h
    obtain ⟨k1, k2⟩ := hk _ _ h2
    exact ⟨a, h1, k1, by rw [k2]; exact chnT.keep hk h3⟩
theorem chnT.snoc {A : Type} {nx : Nat → Option Nat} {R : A → Nat → Prop} {z b : Nat} {y : A} (hz : nx z = some b) (hR : R y z) : ∀ {l : List A} {o : Option Nat}, chnT nx R l o z → chnT nx R (l ++ [y]) o b
  | [], o, h => ⟨z, h, hR, hz⟩
  | x :: l, o, h => by
    obtain ⟨a, h1, h2, h3⟩ := h
    exact ⟨a, h1, h2, chnT.snoc hz hR h3⟩
theorem chnT.R {A : Type} {nx : Nat → Option Nat} {R : A → Nat → Prop} {z : Nat} {y : A} (hz : nx z = none) (hR : R y z) : ∀ {l : List A} {o : Option Nat}, chnT nx R l o z → chnR nx R (l ++ [y]) o
  | [], o, h => ⟨z, h, hR, hz⟩
  | x :: l, o, h => by
    obtain ⟨a, h1, h2, h3⟩ := h
    exact ⟨a, h1, h2, chnT.R hz hR h3⟩
/-- an ITEM in the sequence s -/
def inS (σ : AS) (k : Nat) (names : List (Nat × Nat)) (l4 s H4 H8 : Nat) (it : Item (PT k)) (b : Nat) : Prop := (l4 ≤ b ∧ b < H4) ∧ itemG σ (dnN names) (altG σ (dnN names) k (b + 1) H4 (s + 1) H8) it b
theorem inS.keep {σ σ' : AS} {k l4 s H4 H8 H4' H8' : Nat} {names names' : List (Nat × Nat)} {it : Item (PT k)} {b : Nat} (h : inS σ k names l4 s H4 H8 it b) (hn : ∀ r, dnN names r → dnN names' r) (fi : ∀ f, 400 ≤ f → f < 500 → f ≠ 406 → FI σ' f b = FI σ f b ∧ FR σ' f b = FR σ f b) (hi : psoI (b + 1) H4 (s + 1) H8 σ σ') (h4 : H4 ≤ H4') (h8 : H8 ≤ H8') : inS σ' k names' l4 s H4' H8' it b := by
  obtain ⟨⟨h1, h2⟩, h3⟩ := h
  exact ⟨⟨h1, by omega⟩, itemG.keep fi hi.2.2.1 hi.2.2.2 hn (fun x o w => altG.keepI hn k _ _ _ _ _ _ x o hi h4 h8 w) it h3⟩
theorem itmS.inS {σ : AS} {k b l8 l4 s : Nat} {names : List (Nat × Nat)} {it : Item (PT k)} (h : itmS σ k names b l8 it) (h1 : l4 ≤ b) (h2 : s + 1 ≤ l8) : inS σ k names l4 s (CN σ 4) (CN σ 8) it b :=
  ⟨⟨h1, h.1⟩, itemG.keep (fun _ _ _ _ => ⟨rfl, rfl⟩) (fun _ _ _ _ => rfl) (Nat.le_refl _) (fun _ w => w) (fun x o w => w.lo k _ _ _ _ _ _ _ _ (Nat.le_refl _) h2) it h.2.1⟩
def seqPost (C : Nat → Nat) (t : TP) (st : RT) (opn k : Nat) (R : PR (List (Item (PT k)))) (σ σ' : AS) (s : Nat) : Prop := rdX C σ σ' ∧ CN σ 8 ≤ s ∧ match R with
  | .inl p => RdF σ' C t p opn ∧ nC σ' ≤ nC σ + 4 * (t.1 + 1 - st.1) + 4 * k + 5
  | .inr x => RdS σ' C t x.2 opn ∧ s < CN σ' 8 ∧ FR σ' 801 s = none ∧ x.1 ≠ [] ∧ chnR (FR σ' 406) (inS σ' k x.2.2.2 (CN σ 4) s (CN σ' 4) (CN σ' 8)) x.1 (FR σ' 800 s) ∧ nC σ' ≤ nC σ + 4 * (x.2.1 - st.1)
section
variable {d : Nat} {Q : AQ} {σ : AS} {C : Nat → Nat} {t : TP} {st : RT} {opn : Nat}
theorem Rd_seqEnd {s i p : Nat} {z : Option Nat} {σ1 : AS} (h : RdF σ1 C t p opn) (kk : Q (some (vr 8 s)) σ1) : Ex (wp (d + 10)) m_Reader_readSeq Q 23 [some (vr 5 (C 0)), some (vr 8 s), some (vo 4 z), some (vi (i : Nat)), none] [] σ1 := by
  refine x_iload_n i_Reader_readSeq_23 rfl ?_
  refine x_sipush i_Reader_readSeq_24 ?_
  have out : Ex (wp (d + 10)) m_Reader_readSeq Q 62 [some (vr 5 (C 0)), some (vr 8 s), some (vo 4 z), some (vi (i : Nat)), none] [] σ1 := by
    refine x_aload_n i_Reader_readSeq_62 rfl ?_
    refine x_aret (c := 8) i_Reader_readSeq_63 rfl ?_
    exact kk
  refine x_icmp_ge i_Reader_readSeq_27 (fun g1 => ?_) (fun g1 => ?_)
  · exact out
  · cases z with
    | none =>
      refine x_aload_n i_Reader_readSeq_30 rfl ?_
      refine x_ifnull_t i_Reader_readSeq_31 rfl ?_
      exact out
    | some z =>
      refine x_aload_n i_Reader_readSeq_30 rfl ?_
      refine x_ifnull_f i_Reader_readSeq_31 (by intro w; cases w) ?_
      refine x_aload_n i_Reader_readSeq_34 rfl ?_
      refine x_cv0 i_Reader_readSeq_35 rfl rfl rfl ?_
      refine c_Rd_partAheadF h.2.2.2.2.1 ?_
      refine x_if_eq_t i_Reader_readSeq_38 rfl ?_
      exact out
theorem Rd_seqLoop {k rule s : Nat} {alt : Option (RT → PR (PT k))} {dA : PT k} (hA : altHyp (d + 6) C t rule opn k alt) (hadv : ∀ f, alt = some f → ∀ st, okT t st → adv t rule st (f st)) (ht : tpOK t) (hs : CN σ 8 ≤ s) : ∀ (f i : Nat) (acc : List (Item (PT k))) (y : Item (PT k)) (st1 : RT) (σ1 : AS) (z : Nat), i + f = 240 → st.1 ≤ st1.1 → rdX C σ σ1 → RdS σ1 C t st1 opn → s < CN σ1 8 → FR σ1 801 s = none → CN σ 4 ≤ z → itmS σ1 k st1.2.2 z (s + 1) y → chnT (FR σ1 406) (inS σ1 k st1.2.2 (CN σ 4) s z (CN σ1 8)) acc (FR σ1 800 s) z → nC σ1 ≤ nC σ + 4 * (st1.1 - st.1) → (∀ σ', seqPost C t st opn k (seqLP t rule dA alt f (acc ++ [y]) st1) σ σ' s → Q (some (vr 8 s)) σ') → Ex (wp (d + 10)) m_Reader_readSeq Q 23 [some (vr 5 (C 0)), some (vr 8 s), some (vr 4 z), some (vi (i : Nat)), none] [] σ1 := by
  have fin : ∀ (acc : List (Item (PT k))) (y : Item (PT k)) (st1 : RT) (σ1 : AS) (z : Nat), rdX C σ σ1 → RdS σ1 C t st1 opn → s < CN σ1 8 → FR σ1 801 s = none → CN σ 4 ≤ z → itmS σ1 k st1.2.2 z (s + 1) y → chnT (FR σ1 406) (inS σ1 k st1.2.2 (CN σ 4) s z (CN σ1 8)) acc (FR σ1 800 s) z → nC σ1 ≤ nC σ + 4 * (st1.1 - st.1) → seqPost C t st opn k (.inr (acc ++ [y], st1)) σ σ1 s := by
    intro acc y st1 σ1 z hr h hs1 e1 hz hy hc hn
    refine ⟨hr, hs, h, hs1, e1, by simp, ?_, hn⟩
    exact (hc.keep (fun x c w => ⟨w.keep (fun r w => w) (fun _ _ _ _ => ⟨rfl, rfl⟩) (psoI.rf _ _ _ _ _) (Nat.le_of_lt hy.1) (Nat.le_refl _), rfl⟩)).R hy.2.2 (hy.inS hz (Nat.le_refl _))
  intro f
  induction f with
  | zero =>
    intro i acc y st1 σ1 z hi hst hr h hs1 e1 hz hy hc hn kk
    refine x_iload_n i_Reader_readSeq_23 rfl ?_
    refine x_sipush i_Reader_readSeq_24 ?_
    refine x_icmp_ge_t i_Reader_readSeq_27 (by omega) ?_
    refine x_aload_n i_Reader_readSeq_62 rfl ?_
    refine x_aret (c := 8) i_Reader_readSeq_63 rfl ?_
    exact kk σ1 (fin acc y st1 σ1 z hr h hs1 e1 hz hy hc hn)
  | succ f ih =>
    intro i acc y st1 σ1 z hi hst hr h hs1 e1 hz hy hc hn kk
    refine x_iload_n i_Reader_readSeq_23 rfl ?_
    refine x_sipush i_Reader_readSeq_24 ?_
    refine x_icmp_ge_f i_Reader_readSeq_27 (by omega) ?_
    refine x_aload_n i_Reader_readSeq_30 rfl ?_
    refine x_ifnull_f i_Reader_readSeq_31 (by intro w; cases w) ?_
    refine x_aload_n i_Reader_readSeq_34 rfl ?_
    refine x_cv0 i_Reader_readSeq_35 rfl rfl rfl ?_
    refine c_Rd_partAhead h (fun σ2 x2 h2 f2 => ?_)
    have c2 : CN σ2 = CN σ1 := x2.2.2.2.2.2.1
    have n2 : nC σ2 = nC σ1 := x2.2.2.2.2.2.2.1
    have r2 : FR σ2 = FR σ1 := x2.2.1
    have hy2 := hy.keep x2.rd.pso (fun r w => w)
    have hc2 : chnT (FR σ2 406) (inS σ2 k st1.2.2 (CN σ 4) s z (CN σ2 8)) acc (FR σ2 800 s) z := by
      rw [r2, c2]
      exact hc.keep (fun x c w => ⟨w.keep (fun r w => w) (fun f w1 w2 _ => ⟨x2.1 _ _ (fun q => by have := q.1; omega), by rw [r2]⟩) (x2.rd.pso.I (Nat.le_of_lt hy.1) (Nat.le_refl _)) (Nat.le_refl _) (Nat.le_refl _), rfl⟩)
    simp only [seqLP] at kk
    cases hn2 : ahP (chT t st1.1) with
    | false =>
      rw [hn2] at kk
      simp only [if_neg (show ¬ (false = true) by decide)] at kk
      refine x_if_eq_t i_Reader_readSeq_38 rfl ?_
      refine x_aload_n i_Reader_readSeq_62 rfl ?_
      refine x_aret (c := 8) i_Reader_readSeq_63 rfl ?_
      exact kk σ2 (fin acc y st1 σ2 z (hr.tr x2.rd) h2 (by rw [c2]; exact hs1) (by rw [r2]; exact e1) hz hy2 hc2 (by rw [n2]; exact hn))
    | true =>
      rw [hn2] at kk
      simp only [if_true] at kk
      have av := adv_itm (dA := dA) (rule := rule) ht h2.2.1 hadv
      refine x_if_eq_f i_Reader_readSeq_38 (by decide) ?_
      refine x_aload_n i_Reader_readSeq_41 rfl ?_
      refine x_cv0 i_Reader_readSeq_42 rfl rfl rfl ?_
      refine c_Rd_readItem (dA := dA) hA h2 (fun _ σ3 b p3 => ?_) (fun w => by rw [hn2] at w; cases w)
      obtain ⟨r3, b3, p3⟩ := p3
      have z2 : z < CN σ2 4 := hy2.1
      have z3 : z < CN σ3 4 := Nat.lt_of_lt_of_le z2 (r3.2.2.2.2.2.1 4)
      have zb : z < b := by omega
      have s2 : s < CN σ2 8 := by rw [c2]; exact hs1
      refine x_astore (ls' := [_, _, _, _, _]) i_Reader_readSeq_45 rfl rfl ?_
      refine x_aload_n i_Reader_readSeq_47 rfl ?_
      refine x_aload i_Reader_readSeq_48 rfl ?_
      refine x_putO (c2 := 4) i_Reader_readSeq_50 rfl rfl ?_
      have x4 : obX 4 z σ3 (sFR σ3 406 z (some b)) := (obX.rf _ _ _).sFR rfl
      have r4 := ((hr.tr x2.rd).tr r3).ob x4 hz
      have e4 : ∀ g x, ¬ (g = 406 ∧ x = z) → FR (sFR σ3 406 z (some b)) g x = FR σ3 g x := fun g x w => by rw [FR_sFR, if_neg w]
      have e4z : FR (sFR σ3 406 z (some b)) 406 z = some b := by rw [FR_sFR, if_pos ⟨rfl, rfl⟩]
      have c4 : CN (sFR σ3 406 z (some b)) = CN σ3 := rfl
      have n4 : nC (sFR σ3 406 z (some b)) = nC σ3 := rfl
      have fi4 : FI (sFR σ3 406 z (some b)) = FI σ3 := rfl
      revert p3 av kk
      generalize itmP t rule dA alt st1 = R
      cases R with
      | inl p =>
        intro kk av p3
        have h4 := p3.1.ob x4 (Or.inr (Or.inl rfl))
        have p3n : nC σ3 ≤ nC σ2 + 4 * (t.1 + 1 - st1.1) + 4 * k + 4 := p3.2
        have hle := h2.2.1.1
        generalize sFR σ3 406 z (some b) = σ4 at r4 h4 n4
        refine x_aload i_Reader_readSeq_53 rfl ?_
        refine x_astore_n (ls' := [_, _, _, _, _]) i_Reader_readSeq_55 rfl rfl ?_
        refine x_iinc (ls' := [_, _, _, _, _]) i_Reader_readSeq_56 rfl (by omega) rfl ?_
        refine x_goto i_Reader_readSeq_59 ?_
        refine Ex.weak (ls := [_, _, _, _, none]) ⟨Or.inr rfl, Or.inr rfl, Or.inr rfl, Or.inr rfl, Or.inl rfl, trivial⟩ ?_
        exact Rd_seqEnd (z := some b) (i := i + 1) h4 (kk σ4 ⟨r4, hs, h4, by rw [n4]; omega⟩)
      | inr x =>
        intro kk av p3
        have av : advI t rule st1 x.2 := av
        obtain ⟨p31, p32, p33⟩ := p3
        have p33 : nC σ3 + 1 ≤ nC σ2 + 4 * (x.2.1 - st1.1) := p33
        have h4 := RdS_A.mpr (RdA.ob (RdS_A.mp p31) x4 (Or.inl rfl))
        have dn : ∀ r, dnN st1.2.2 r → dnN x.2.2.2 r := fun r w => dnN_ext av.2.2.2.2.2.1 r w
        have lt := av.1
        generalize sFR σ3 406 z (some b) = σ4 at x4 r4 h4 n4 e4 e4z c4 fi4
        have m8 : CN σ2 8 ≤ CN σ4 8 := by rw [c4]; exact r3.2.2.2.2.2.1 8
        -- what lies elsewhere than z is as it was
        have i34 : ∀ l4 h4 l8 h8, (z < l4 ∨ h4 ≤ z) → psoI l4 h4 l8 h8 σ3 σ4 := fun l4 h4 l8 h8 w => ⟨fun f a w1 w2 w3 w4 => ⟨by rw [fi4], e4 f a (fun q => by omega)⟩, fun f a w1 w2 w3 w4 => e4 f a (fun q => by omega), fun f a _ _ => by rw [fi4], by rw [c4]; exact Nat.le_refl _⟩
        have i24 : ∀ l4 h4 l8 h8, (z < l4 ∨ h4 ≤ z) → h4 ≤ CN σ2 4 → h8 ≤ CN σ2 8 → psoI l4 h4 l8 h8 σ2 σ4 := fun l4 h4 l8 h8 w w4 w8 => (r3.pso.I w4 w8).tr (i34 _ _ _ _ w)
        have f24 : ∀ f c, 400 ≤ f → f < 500 → f ≠ 406 → c < CN σ2 4 → FI σ4 f c = FI σ2 f c ∧ FR σ4 f c = FR σ2 f c := fun f c w1 w2 w3 w4 => by
          have := r3.pso.1 f c (Or.inr (Or.inl ⟨w1, w2⟩)) (by rw [show f / 100 = 4 by omega]; exact w4)
          exact ⟨by rw [fi4]; exact this.1, by rw [e4 f c (fun q => by omega)]; exact this.2⟩
        have s4 : ∀ f, 800 ≤ f → f < 900 → FR σ4 f s = FR σ2 f s := fun f w1 w2 => by
          rw [e4 f s (fun q => by omega)]
          exact r3.2.1 f s (by rw [show f / 100 = 8 by omega]; exact s2)
        have hc4 : chnT (FR σ4 406) (inS σ4 k x.2.2.2 (CN σ 4) s b (CN σ4 8)) acc (FR σ4 800 s) z := by
          rw [s4 800 (by decide) (by decide)]
          refine hc2.keep (fun u c w => ⟨w.keep dn (fun f w1 w2 w3 => f24 f c w1 w2 w3 (by have := w.1.2; omega)) (i24 _ _ _ _ (Or.inr (Nat.le_refl _)) (by omega) (Nat.le_refl _)) (by omega) m8, ?_⟩)
          have := w.1.2
          rw [e4 406 c (fun q => by omega)]
          exact r3.2.1 406 c (by show c < CN σ2 4; omega)
        have hz4 : inS σ4 k x.2.2.2 (CN σ 4) s b (CN σ4 8) y z := by
          have w := hy2.inS hz (s := s) (Nat.le_refl _)
          have w2 := w.keep dn (fun f w1 w2 w3 => f24 f z w1 w2 w3 z2) (i24 _ _ _ _ (Or.inl (by omega)) (Nat.le_refl _) (Nat.le_refl _)) b3 m8
          exact ⟨⟨w2.1.1, zb⟩, w2.2⟩
        have hb4 : itmS σ4 k x.2.2.2 b (s + 1) x.1 := by
          have w := p32.inS b3 (s := s) (by omega)
          have w2 := w.keep (fun r w => w) (fun f w1 w2 w3 => ⟨by rw [fi4], e4 f b (fun q => by omega)⟩) (i34 _ _ _ _ (Or.inl (by omega))) (H4' := CN σ4 4) (H8' := CN σ4 8) (by rw [c4]; exact Nat.le_refl _) (by rw [c4]; exact Nat.le_refl _)
          exact ⟨w2.1.2, w2.2, by rw [e4 406 b (fun q => by omega)]; exact p32.2.2⟩
        refine x_aload i_Reader_readSeq_53 rfl ?_
        refine x_astore_n (ls' := [_, _, _, _, _]) i_Reader_readSeq_55 rfl rfl ?_
        refine x_iinc (ls' := [_, _, _, _, _]) i_Reader_readSeq_56 rfl (by omega) rfl ?_
        refine x_goto i_Reader_readSeq_59 ?_
        refine Ex.weak (ls := [_, _, _, _, none]) ⟨Or.inr rfl, Or.inr rfl, Or.inr rfl, Or.inr rfl, Or.inl rfl, trivial⟩ ?_
        exact ih (i + 1) (acc ++ [y]) x.1 x.2 σ4 b (by omega) (by omega) r4 h4 (by omega) (by rw [s4 801 (by decide) (by decide), r2]; exact e1) (by omega) hb4 (hc4.snoc e4z hz4) (by rw [n4]; omega) kk
end


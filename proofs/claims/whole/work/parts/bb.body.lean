/-! THE CLASS's Reader: ( ALT ), ( ALT , ALT ) -/
def altPost (C : Nat → Nat) (t : TP) (st : RT) (opn k : Nat) (R : PR (PT k)) (σ σ' : AS) (s : Nat) : Prop := rdX C σ σ' ∧ CN σ 8 ≤ s ∧ match R with
  | .inl p => RdF σ' C t p opn ∧ nC σ' ≤ nC σ + 4 * (t.1 + 1 - st.1) + 4 * k + 1
  | .inr x => RdS σ' C t x.2 opn ∧ altG σ' (dnN x.2.2.2) k (CN σ 4) (CN σ' 4) (CN σ 8) (CN σ' 8) x.1 (some s) ∧ nC σ' ≤ nC σ + 4 * (x.2.1 - st.1)
/-- what is known of an ALT in brackets -/
def altHyp (d : Nat) (C : Nat → Nat) (t : TP) (rule opn k : Nat) (alt : Option (RT → PR (PT k))) : Prop := opn ≤ 8 ∧ match alt with
  | none => opn = 8
  | some f => opn < 8 ∧ (∀ st, okT t st → adv t rule st (f st)) ∧ ∀ (e : Nat), d ≤ e → ∀ (σ : AS) (st : RT) (Q : AQ), RdS σ C t st (opn + 1) → (∀ σ' s, altPost C t st (opn + 1) k (f st) σ σ' s → Q (some (vr 8 s)) σ') → wp e m_Reader_readAlt [vr 5 (C 0)] σ Q
theorem altHyp.up {d d' : Nat} {C : Nat → Nat} {t : TP} {rule opn k : Nat} {alt : Option (RT → PR (PT k))} (h : altHyp d C t rule opn k alt) (w : d ≤ d') : altHyp d' C t rule opn k alt := by
  revert h
  unfold altHyp
  cases alt with
  | none => exact id
  | some f => intro h; exact ⟨h.1, h.2.1, h.2.2.1, fun e he => h.2.2.2 e (Nat.le_trans w he)⟩
theorem dnN_ext {lo hi : Nat} {a b : List (Nat × Nat)} (h : exN lo hi a b) (r : Nat) (w : dnN a r) : dnN b r := by
  obtain ⟨e, h1, -⟩ := h
  obtain ⟨p, hp⟩ := w
  exact ⟨p, by rw [h1]; exact List.mem_append_left _ hp⟩
/-- the own data of part b -/
def ownP (σ : AS) (b kind num : Nat) : Prop := FI σ 400 b = (kind : Int) ∧ FI σ 401 b = 0 ∧ FR σ 406 b = none ∧ kind ≠ 12 ∧ kind ≤ 12 ∧ (kind ≤ 6 → ∃ tt, FR σ 402 b = some tt ∧ FI σ 2 tt = (num : Int) ∧ FI σ 3 tt = -1 ∧ FI σ 4 tt = -1 ∧ num < 32 ∧ tt < CN σ 0) ∧ ((kind ≤ 4 ∨ kind = 7) → FR σ 404 b = none)
theorem ownP.keep {σ σ' : AS} {b kind num : Nat} (h : ownP σ b kind num) (fi : ∀ f, 400 ≤ f → f < 500 → f ≠ 404 → f ≠ 405 → FI σ' f b = FI σ f b ∧ FR σ' f b = FR σ f b) (fa : ∀ f x, f < 100 → x < CN σ 0 → FI σ' f x = FI σ f x) (hc : CN σ 0 ≤ CN σ' 0) (h404 : (kind ≤ 4 ∨ kind = 7) → FR σ' 404 b = FR σ 404 b) : ownP σ' b kind num := by
  obtain ⟨h1, h2, h3, h4, h5, h6, h7⟩ := h
  refine ⟨by rw [(fi _ (by decide) (by decide) (by decide) (by decide)).1]; exact h1, by rw [(fi _ (by decide) (by decide) (by decide) (by decide)).1]; exact h2, by rw [(fi _ (by decide) (by decide) (by decide) (by decide)).2]; exact h3, h4, h5, fun w => ?_, fun w => by rw [h404 w]; exact h7 w⟩
  obtain ⟨tt, a1, a2, a3, a4, a5, a6⟩ := h6 w
  exact ⟨tt, by rw [(fi _ (by decide) (by decide) (by decide) (by decide)).2]; exact a1, by rw [fa _ _ (by decide) a6]; exact a2, by rw [fa _ _ (by decide) a6]; exact a3, by rw [fa _ _ (by decide) a6]; exact a4, a5, Nat.lt_of_lt_of_le a6 hc⟩
theorem ownP.rd {C : Nat → Nat} {σ σ' : AS} {b kind num : Nat} (h : ownP σ b kind num) (hx : rdX C σ σ') (hb : b < CN σ 4) : ownP σ' b kind num :=
  h.keep (fun f w1 w2 _ _ => hx.pso.1 f b (Or.inr (Or.inl ⟨w1, w2⟩)) (by rw [show f / 100 = 4 by omega]; exact hb)) (fun f x w1 w2 => (hx.pso.1 f x (Or.inl w1) (by rw [show f / 100 = 0 by omega]; exact w2)).1) (hx.pso.2 0 (by decide)) (fun _ => hx.2.1 404 b hb)
theorem ownP.sFR {σ : AS} {b kind num f a : Nat} {v : Option Nat} (h : ownP σ b kind num) (hk : ¬ (kind ≤ 4 ∨ kind = 7)) (w : f = 404 ∨ f = 405) : ownP (sFR σ f a v) b kind num :=
  h.keep (fun g _ _ w1 w2 => ⟨rfl, by rw [FR_sFR, if_neg (by omega)]⟩) (fun _ _ _ _ => rfl) (Nat.le_refl _) (fun w => absurd w hk)
theorem ownP.itm {σ : AS} {b kind num k l8 : Nat} {names : List (Nat × Nat)} {x y : PT k} (h : ownP σ b kind num) (hb : b < CN σ 4) (hx : (kind = 5 ∨ kind = 6 ∨ (8 ≤ kind ∧ kind ≤ 11)) → altG σ (dnN names) k (b + 1) (CN σ 4) l8 (CN σ 8) x (FR σ 404 b)) (hy : kind = 10 → altG σ (dnN names) k (b + 1) (CN σ 4) l8 (CN σ 8) y (FR σ 405 b)) : itmS σ k names b l8 (mkI kind num (-1) (-1) x y) := by
  obtain ⟨h1, h2, h3, h4, h5, h6, h7⟩ := h
  refine ⟨hb, ⟨⟨h1, h2, h5, Or.inl rfl, fun w => ?_, fun w => absurd w h4, hx, hy⟩, fun w t q => ?_, h7⟩, h3⟩
  · obtain ⟨tt, a1, a2, a3, a4, a5, a6⟩ := h6 w
    exact ⟨tt, a1, a2, a3, a4, a5⟩
  · obtain ⟨tt, a1, a2, a3, a4, a5, a6⟩ := h6 w
    rw [a1] at q
    injection q with q
    rw [← q]; exact a6
theorem psoI_sFR {σ σ' : AS} {l4 h4 l8 h8 f b : Nat} {v : Option Nat} (h : psoI l4 h4 l8 h8 σ σ') (w : f = 404 ∨ f = 405) (hb : b < l4) : psoI l4 h4 l8 h8 σ (sFR σ' f b v) :=
  ⟨fun g a w1 w2 w3 w4 => ⟨(h.1 g a w1 w2 w3 w4).1, by rw [FR_sFR, if_neg (by omega)]; exact (h.1 g a w1 w2 w3 w4).2⟩, fun g a w1 w2 w3 w4 => by rw [FR_sFR, if_neg (by omega)]; exact h.2.1 g a w1 w2 w3 w4, h.2.2.1, h.2.2.2⟩
theorem psoI.rf (l4 h4 l8 h8 : Nat) (σ : AS) : psoI l4 h4 l8 h8 σ σ := ⟨fun _ _ _ _ _ _ => ⟨rfl, rfl⟩, fun _ _ _ _ _ _ => rfl, fun _ _ _ _ => rfl, Nat.le_refl _⟩
theorem psoI.tr {l4 h4 l8 h8 : Nat} {a b c : AS} (h : psoI l4 h4 l8 h8 a b) (g : psoI l4 h4 l8 h8 b c) : psoI l4 h4 l8 h8 a c := ⟨fun f x w1 w2 w3 w4 => ⟨(g.1 f x w1 w2 w3 w4).1.trans (h.1 f x w1 w2 w3 w4).1, (g.1 f x w1 w2 w3 w4).2.trans (h.1 f x w1 w2 w3 w4).2⟩, fun f x w1 w2 w3 w4 => (g.2.1 f x w1 w2 w3 w4).trans (h.2.1 f x w1 w2 w3 w4), fun f x w1 w2 => (g.2.2.1 f x w1 (Nat.lt_of_lt_of_le w2 h.2.2.2)).trans (h.2.2.1 f x w1 w2), Nat.le_trans h.2.2.2 g.2.2.2⟩
section
variable {d : Nat} {Q : AQ} {σ : AS} {C : Nat → Nat} {t : TP} {st : RT} {opn : Nat}
def bodPost (C : Nat → Nat) (t : TP) (st : RT) (opn k : Nat) (R : PR (Item (PT k))) (σ0 σ σ' : AS) (b : Nat) : Prop := rdX C σ0 σ' ∧ match R with
  | .inl p => RdF σ' C t p opn ∧ nC σ' ≤ nC σ + 4 * (t.1 + 1 - st.1) + 4 * k + 2
  | .inr x => RdS σ' C t x.2 opn ∧ itmS σ' k x.2.2.2 b (CN σ0 8) x.1 ∧ nC σ' + 4 ≤ nC σ + 4 * (x.2.1 - st.1)
theorem c_Rd_readBody {k rule kind num b : Nat} {alt : Option (RT → PR (PT k))} {dA : PT k} {σ0 : AS} (hA : altHyp (d + 6) C t rule opn k alt) (h : RdS σ C t st opn) (hr0 : rdX C σ0 σ) (hb0 : CN σ0 4 ≤ b) (hb : b < CN σ 4) (hp : ownP σ b kind num) (hk : kind ≠ 10 ∧ 5 ≤ kind ∧ kind ≠ 7)
    (kk : ∀ σ', bodPost C t st opn k (bodP t dA alt kind num st) σ0 σ σ' b → Q none σ') : wp (d + 7) m_Reader_readBody [vr 5 (C 0), vr 4 b] σ Q := by
  have ho := h.2.1
  refine x_in (ls := [some _, some _]) rfl rfl ?_
  refine x_aload_n i_Reader_readBody_0 rfl ?_
  refine x_cv0 i_Reader_readBody_1 rfl rfl rfl ?_
  refine c_Rd_opens h hA.1 (fun w1 w2 σ1 x1 h1 => ?_) (fun w σ1 x1 h1 => ?_)
  · refine x_if_eq_f i_Reader_readBody_4 (by decide) ?_
    cases alt with
    | none => exact absurd hA.2 (by omega)
    | some f =>
      obtain ⟨hA1, hA2, hA3, hA4⟩ := hA
      have tk := advW.tok (rule := rule) ho w2 (by decide)
      have hadv := hA3 (sk t (st.1 + 1), st.2) tk.2.ok
      have c1 : CN σ1 = CN σ := x1.2.2.2.2.2.1
      have n1 : nC σ1 = nC σ := x1.2.2.2.2.2.2.1
      have hge := sk_ge t (st.1 + 1)
      simp only [bodP, w2, if_true] at kk
      refine x_aload_n i_Reader_readBody_7 rfl ?_
      refine x_aload_n i_Reader_readBody_8 rfl ?_
      refine x_cv0 i_Reader_readBody_9 rfl rfl rfl ?_
      refine hA4 _ (Nat.le_refl _) _ _ _ h1 (fun σ2 s p2 => ?_)
      obtain ⟨r2, s2, p2⟩ := p2
      have r02 : rdX C σ0 σ2 := (hr0.tr x1.rd).tr r2
      have b2 : b < CN σ2 4 := Nat.lt_of_lt_of_le (by rw [c1]; exact hb) (r2.2.2.2.2.2.1 4)
      have o2 : ownP σ2 b kind num := (hp.rd x1.rd hb).rd r2 (by rw [c1]; exact hb)
      refine x_putO (c2 := 8) i_Reader_readBody_12 rfl rfl ?_
      have x3 : obX 4 b σ2 (sFR σ2 404 b (some s)) := (obX.rf _ _ _).sFR rfl
      have r03 := r02.ob x3 hb0
      have o3 : ownP (sFR σ2 404 b (some s)) b kind num := o2.sFR (by omega) (Or.inl rfl)
      have f3 : FR (sFR σ2 404 b (some s)) 404 b = some s := by rw [FR_sFR, if_pos ⟨rfl, rfl⟩]
      have i3 : psoI (CN σ1 4) (CN σ2 4) (CN σ1 8) (CN σ2 8) σ2 (sFR σ2 404 b (some s)) := psoI_sFR (psoI.rf _ _ _ _ _) (Or.inl rfl) (by rw [c1]; exact hb)
      have c3 : CN (sFR σ2 404 b (some s)) = CN σ2 := rfl
      have n3 : nC (sFR σ2 404 b (some s)) = nC σ2 := rfl
      generalize hR : f (sk t (st.1 + 1), st.2) = R at p2 hadv kk
      cases R with
      | inl p =>
        obtain ⟨p21, p22⟩ := p2
        have h3 := p21.ob x3 (Or.inr (Or.inl rfl))
        generalize sFR σ2 404 b (some s) = σ3 at r03 h3 n3
        refine c_Rd_closesFB h3 (by omega) (fun σ4 x4 h4 => ?_)
        exact kk σ4 ⟨r03.tr x4.rd, h4, by rw [x4.2.2.2.2.2.2.1, n3]; have : nC σ2 ≤ nC σ1 + 4 * (t.1 + 1 - sk t (st.1 + 1)) + 4 * k + 1 := p22; omega⟩
      | inr x =>
        obtain ⟨p21, p22, p23⟩ := p2
        have hadv : advI t rule (sk t (st.1 + 1), st.2) x.2 := hadv
        have hge2 : sk t (st.1 + 1) < x.2.1 := hadv.1
        have p23 : nC σ2 ≤ nC σ1 + 4 * (x.2.1 - sk t (st.1 + 1)) := p23
        have h3 := RdA.ob (RdS_A.mp p21) x3 (Or.inl rfl)
        have h3 := RdS_A.mpr h3
        generalize sFR σ2 404 b (some s) = σ3 at r03 h3 n3 o3 f3 i3 c3
        simp only [] at kk
        refine c_Rd_closesB h3 (by omega) (fun w σ4 x4 h4 => ?_) (fun w σ4 x4 h4 => ?_)
        · rw [if_pos w] at kk
          have hge3 := sk_ge t (x.2.1 + 1)
          have c4 : CN σ4 = CN σ2 := by rw [x4.2.2.2.2.2.1, c3]
          have l8 : CN σ0 8 ≤ CN σ1 8 := by rw [c1]; exact hr0.2.2.2.2.2.1 8
          have o4 : ownP σ4 b kind num := o3.rd x4.rd (by rw [c3]; exact b2)
          have i4 : psoI (CN σ1 4) (CN σ2 4) (CN σ1 8) (CN σ2 8) σ2 σ4 := i3.tr (x4.rd.pso.I (by rw [c3]; exact Nat.le_refl _) (by rw [c3]; exact Nat.le_refl _))
          exact kk σ4 ⟨r03.tr x4.rd, h4, o4.itm (by rw [c4]; exact b2) (fun _ => by rw [x4.2.1, f3, c4]; exact (altG.keepI (fun r w => w) k _ _ _ _ _ _ x.1 (some s) i4 (Nat.le_refl _) (Nat.le_refl _) p22).lo k _ _ _ _ _ _ _ _ (by rw [c1]; omega) l8) (fun w => absurd w hk.1), by rw [x4.2.2.2.2.2.2.1, n3]; show nC σ2 + 4 ≤ nC σ + 4 * (sk t (x.2.1 + 1) - st.1); omega⟩
        · rw [if_neg w] at kk
          have hle := hadv.2.2.1
          exact kk σ4 ⟨r03.tr x4.rd, h4, by rw [x4.2.2.2.2.2.2.1, n3]; omega⟩
  · refine x_if_eq_t i_Reader_readBody_4 rfl ?_
    have hR : bodP t dA alt kind num st = .inl st.1 := by
      unfold bodP
      cases alt with
      | none => rfl
      | some f =>
        have hA2 : opn < 8 := hA.2.1
        simp only []
        rw [if_neg]
        rcases w with w | w
        · omega
        · exact w
    rw [hR] at kk
    refine x_vret i_Reader_readBody_31 rfl ?_
    exact kk σ1 ⟨hr0.tr x1.rd, h1, by rw [x1.2.2.2.2.2.2.1]; omega⟩
end


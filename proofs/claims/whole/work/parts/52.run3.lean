/-! A RUN OF THE CLASS: a STEP, what it answers -/
def openP (deep : Bool) {A : Type} (it : Item A) (p : Nat) (st : ES) : Prop := ¬ (1000 ≤ st.1.1 ∨ 40000 ≤ st.1.2.1) ∧ deep = false ∧ ((it.1.1 = 12 ∧ st.2.2 (it.1.2.2 * 241 + p) = none) ∨ it.1.1 = 5 ∨ it.1.1 = 6 ∨ (8 ≤ it.1.1 ∧ it.1.1 ≤ 11))
def stepE (st : ES) : ES := ((st.1.1 + 1, st.1.2.1 + 1, st.1.2.2), st.2)
section
variable {d : Nat} {Q : AQ} {σ : AS} {e : RE} {st : ES} {N K : Nat} {tab : Nat → TT} {H : List Nat}
theorem c_R_recalled (h : RS σ e st N K tab H) {s0 : Nat} (hs : st.1.1 = s0 + 1) (hr : st.1.2.2 ≤ s0) {k : Nat} (hk : k < 1928)
    (k0 : st.2.2 k = none → Q (some (vi (-7))) σ) (k1 : st.2.2 k = some none → Q (some (vi (-16))) σ)
    (k2 : ∀ q, st.2.2 k = some (some q) → PostR e Q (-5) 3 σ s0 N K tab H (q.1, q.2.1, q.2.2, ((st.1.1, st.1.2.1, st.1.2.2 + 1), st.2))) : wp (d + 3) m_Run_recalled [vr 7 0, vi (k : Nat)] σ Q := by
  obtain ⟨⟨⟨v1, v2, v3, v4⟩, -⟩, -, ⟨c1, c2, c3, c4, c5⟩, ⟨b1, b2, b3, b4, b5, b6⟩, a5, ma, mt, ms, m1, m2, m3, m4⟩ := id h
  have m := m4 k hk
  refine x_in (ls := [some _, some _, none]) rfl rfl ?_
  refine x_aload_n i_Run_recalled_0 rfl ?_
  refine x_getR (c2 := 6) i_Run_recalled_1 rfl rfl (by assumption) ?_
  refine x_iload_n i_Run_recalled_4 rfl ?_
  refine x_cv1 i_Run_recalled_5 rfl rfl rfl ?_
  refine c_at_in m1 rfl hk ?_
  cases hm : st.2.2 k with
  | none =>
    rw [hm] at m
    rw [show ma k = -8 from m]
    refine x_istore_n (ls' := [_, _, _]) i_Run_recalled_8 rfl rfl ?_
    refine x_iload_n i_Run_recalled_9 rfl ?_
    refine x_bipush i_Run_recalled_10 ?_
    refine x_icmp_ne_f i_Run_recalled_12 (by omega) ?_
    refine x_bipush i_Run_recalled_15 ?_
    refine x_iret i_Run_recalled_17 rfl ?_
    exact k0 hm
  | some o =>
    cases o with
    | none =>
      rw [hm] at m
      rw [show ma k = -9 from m]
      refine x_istore_n (ls' := [_, _, _]) i_Run_recalled_8 rfl rfl ?_
      refine x_iload_n i_Run_recalled_9 rfl ?_
      refine x_bipush i_Run_recalled_10 ?_
      refine x_icmp_ne_t i_Run_recalled_12 (by omega) ?_
      refine x_iload_n i_Run_recalled_18 rfl ?_
      refine x_bipush i_Run_recalled_19 ?_
      refine x_icmp_ne_f i_Run_recalled_21 (by omega) ?_
      refine x_bipush i_Run_recalled_24 ?_
      refine x_iret i_Run_recalled_26 rfl ?_
      exact k1 hm
    | some q =>
      rw [hm] at m
      obtain ⟨n1, n2, n3⟩ := m
      rw [n1]
      have n4 : q.1 = -5 ∨ 0 ≤ q.1 := by rcases n3 with w | w <;> omega
      refine x_istore_n (ls' := [_, _, _]) i_Run_recalled_8 rfl rfl ?_
      refine x_iload_n i_Run_recalled_9 rfl ?_
      refine x_bipush i_Run_recalled_10 ?_
      refine x_icmp_ne_t i_Run_recalled_12 (by omega) ?_
      refine x_iload_n i_Run_recalled_18 rfl ?_
      refine x_bipush i_Run_recalled_19 ?_
      refine x_icmp_ne_t i_Run_recalled_21 (by omega) ?_
      refine x_aload_n i_Run_recalled_27 rfl ?_
      refine x_dup i_Run_recalled_28 ?_
      refine x_getI i_Run_recalled_29 rfl rfl ?_
      refine x_iconst i_Run_recalled_32 ?_
      refine x_iadd i_Run_recalled_33 (by omega) ?_
      refine x_putI i_Run_recalled_34 rfl rfl ?_
      refine x_aload_n i_Run_recalled_37 rfl ?_
      refine x_aload_n i_Run_recalled_38 rfl ?_
      refine x_getR (c2 := 6) i_Run_recalled_39 rfl rfl (by assumption) ?_
      refine x_iload_n i_Run_recalled_42 rfl ?_
      rw [c3]
      generalize hσ1 : sFI σ 709 0 ((st.1.2.2 : Int) + 1) = σ1
      have x1 : rnX σ σ1 := by rw [← hσ1]; exact rnX_sFI (by omega) (by omega)
      have h1 : RS σ1 e ((st.1.1, st.1.2.1, st.1.2.2 + 1), st.2) N K tab H := h.upd x1 (by rw [← hσ1]; exact ⟨c1, c2, by show (st.1.2.2 : Int) + 1 = ((st.1.2.2 + 1 : Nat) : Int); omega, c4, c5⟩) ⟨b1, b2, by show st.1.2.2 + 1 ≤ st.1.1; omega, b4, b5, b6⟩ a5 rfl
      have w2 : rowF σ1 4 4 1928 1928 mt := x1.row m2 (fun q => by have := q.1; omega) (fun q => q)
      have w3 : rowF σ1 5 5 1928 1928 ms := x1.row m3 (fun q => by have := q.1; omega) (fun q => q)
      rw [← x1.2.1] at v2 v3
      refine x_cv1 i_Run_recalled_43 rfl rfl rfl ?_
      refine c_at_in w2 rfl hk ?_
      have y : tX (fun f a => (f = 706 ∨ f = 712) ∧ a = 0) noA σ1 (sFI σ1 706 0 (mt k)) := tX_sFI ⟨Or.inl rfl, rfl⟩
      have w3 := y.row w3 (fun q => by rcases q.1 with w | w <;> omega) (fun q => q)
      have v3 : FR (sFI σ1 706 0 (mt k)) 702 0 = some 5 := v3
      refine x_putI i_Run_recalled_46 rfl rfl ?_
      refine x_aload_n i_Run_recalled_49 rfl ?_
      refine x_aload_n i_Run_recalled_50 rfl ?_
      refine x_getR (c2 := 6) i_Run_recalled_51 rfl rfl (by assumption) ?_
      refine x_iload_n i_Run_recalled_54 rfl ?_
      refine x_cv1 i_Run_recalled_55 rfl rfl rfl ?_
      refine c_at_in w3 rfl hk ?_
      rw [n2]
      have fin : Ex (wp (d + 2)) m_Run_recalled Q 67 [some (vr 7 0), some (vi (k : Nat)), some (vi q.1)] [vi (bI q.2.2), vr 7 0] (sFI σ1 706 0 (mt k)) := by
        have hb := bI_01 q.2.2
        refine x_putZ i_Run_recalled_67 rfl rfl (by omega) ?_
        refine x_iload_n i_Run_recalled_70 rfl ?_
        have y2 := y.tr (tX_sFI (v := bI q.2.2) (f := 712) (a := 0) ⟨Or.inr rfl, rfl⟩)
        refine x_iret i_Run_recalled_71 rfl ?_
        refine k2 q hm _ N K tab H (OutR.one (h1.set y2) (x1.run.tr (y2.mono (fun f a q => Or.inl ⟨by rcases q.1 with w | w <;> omega, by rcases q.1 with w | w <;> omega, q.2⟩) (fun _ q => q.elim))) hs (fun _ => by simp [FI_sFI]) (fun w => ?_) (Or.inr n4))
        have w : 0 ≤ q.1 := w
        rcases n3 with n | ⟨n5, n6, o, n7, n8, n9⟩
        · omega
        · exact ⟨n6, o, by simp [FI_sFI, n7], n8, n9⟩
      cases hq : q.2.2 with
      | false =>
        rw [hq] at fin
        refine x_iconst i_Run_recalled_58 ?_
        refine x_icmp_ne_t i_Run_recalled_59 (by decide) ?_
        refine x_iconst i_Run_recalled_66 ?_
        exact fin
      | true =>
        rw [hq] at fin
        refine x_iconst i_Run_recalled_58 ?_
        refine x_icmp_ne_f i_Run_recalled_59 rfl ?_
        refine x_iconst i_Run_recalled_62 ?_
        refine x_goto i_Run_recalled_63 ?_
        exact fin
theorem c_R_stepped (h : RS σ e st N K tab H) {dn : Nat → Prop} {A : Type} {sub : A → Option Nat → Prop} {it : Item A} {a : Nat} (hi : itemR σ dn sub it a) {p dep : Nat} (hp : p ≤ eZ e) {alt : A → Nat → ES → RR} {ruled : Nat → Nat → ES → RR}
    (k1 : ¬ openP (decide (60 ≤ dep)) it p st → PostR e Q (-5) 3 σ st.1.1 N K tab H (partE e.2.1 (eZ e) alt ruled (decide (60 ≤ dep)) it p st))
    (k2 : openP (decide (60 ≤ dep)) it p st → ∀ σ', RS σ' e (stepE st) N K tab H → runX σ σ' → Q (some (vi (-7))) σ') : wp (d + 4) m_Run_stepped [vr 7 0, vr 4 a, vi (p : Nat), vi (dep : Nat)] σ Q := by
  obtain ⟨⟨-, -, -, -, -, -, -, z1, -⟩, -, ⟨c1, c2, c3, c4, c5⟩, ⟨b1, b2, b3, b4, b5, b6⟩, a5, -⟩ := id h
  have over : (1000 ≤ st.1.1 ∨ 40000 ≤ st.1.2.1) → Ex (wp (d + 3)) m_Run_stepped Q 19 [some (vr 7 0), some (vr 4 a), some (vi (p : Nat)), some (vi (dep : Nat))] [] σ := by
    intro ho
    have em : partE e.2.1 (eZ e) alt ruled (decide (60 ≤ dep)) it p st = (-17, none, false, st) := by unfold partE; rw [if_pos ho]
    have k1 := k1 (fun q => q.1 ho)
    rw [em] at k1
    refine x_bipush i_Run_stepped_19 ?_
    refine x_iret i_Run_stepped_21 rfl ?_
    exact k1 σ N K tab H (OutR.err h (tX.rf _ _ _) (Nat.le_refl _) (fun _ _ => rfl) ⟨[], by simp⟩ (Nat.le_refl _) (by show (-17 : Int) < -9; decide))
  refine x_in (ls := [some _, some _, some _, some _]) rfl rfl ?_
  refine x_aload_n i_Run_stepped_0 rfl ?_
  refine x_getI i_Run_stepped_1 rfl rfl ?_
  refine x_sipush i_Run_stepped_4 ?_
  rw [c1]
  refine x_icmp_ge i_Run_stepped_7 (fun h1 => ?_) (fun h1 => ?_)
  · exact over (Or.inl (by omega))
  · refine x_aload_n i_Run_stepped_10 rfl ?_
    refine x_getI i_Run_stepped_11 rfl rfl ?_
    refine x_ldcI i_Run_stepped_14 ?_
    rw [c2]
    refine x_icmp_lt i_Run_stepped_16 (fun h2 => ?_) (fun h2 => ?_)
    · have ho : ¬ (1000 ≤ st.1.1 ∨ 40000 ≤ st.1.2.1) := by omega
      refine x_aload_n i_Run_stepped_22 rfl ?_
      refine x_dup i_Run_stepped_23 ?_
      refine x_getI i_Run_stepped_24 rfl rfl ?_
      rw [c1]
      refine x_iconst i_Run_stepped_27 ?_
      refine x_iadd i_Run_stepped_28 (by omega) ?_
      refine x_putI i_Run_stepped_29 rfl rfl ?_
      refine x_aload_n i_Run_stepped_32 rfl ?_
      refine x_dup i_Run_stepped_33 ?_
      refine x_getI i_Run_stepped_34 rfl rfl ?_
      rw [show FI (sFI σ 707 0 ((st.1.1 : Int) + 1)) 708 0 = (st.1.2.1 : Int) from c2]
      refine x_iconst i_Run_stepped_37 ?_
      refine x_iadd i_Run_stepped_38 (by omega) ?_
      refine x_putI i_Run_stepped_39 rfl rfl ?_
      generalize hσ1 : sFI (sFI σ 707 0 ((st.1.1 : Int) + 1)) 708 0 ((st.1.2.1 : Int) + 1) = σ1
      have x1 : rnX σ σ1 := by rw [← hσ1]; exact (rnX_sFI (by omega) (by omega)).tr (rnX_sFI (by omega) (by omega))
      have h1 : RS σ1 e (stepE st) N K tab H := h.upd x1 (by rw [← hσ1]; exact ⟨by simp [FI_sFI, stepE], by simp [FI_sFI, stepE], c3, c4, c5⟩) ⟨by show st.1.1 + 1 ≤ 1000; omega, by show st.1.2.1 + 1 ≤ 40000; omega, by show st.1.2.2 ≤ st.1.1 + 1; omega, by show N ≤ 257 + 2 * (st.1.1 + 1); omega, by show K ≤ 3 * (st.1.1 + 1); omega, by show _ ≤ st.1.1 + 1; omega⟩ a5 rfl
      refine x_iload_n i_Run_stepped_42 rfl ?_
      refine x_bipush i_Run_stepped_43 ?_
      refine x_icmp_lt i_Run_stepped_45 (fun h3 => ?_) (fun h3 => ?_)
      · refine x_aload_n i_Run_stepped_51 rfl ?_
        refine x_iconst i_Run_stepped_52 ?_
        refine x_putI i_Run_stepped_53 rfl rfl ?_
        generalize hσ2 : sFI σ1 706 0 (-1) = σ2
        have x2 : tX (fun f a => (f = 706 ∨ f = 712) ∧ a = 0) noA σ1 σ2 := by rw [← hσ2]; exact tX_sFI ⟨Or.inl rfl, rfl⟩
        have f2 : FI σ2 706 0 = -1 := by rw [← hσ2]; simp [FI_sFI]
        have hi2 : ∀ {σ'}, rnX σ σ' → itemR σ' dn sub it a := by
          intro σ' hx
          have g : ∀ f a, f < 600 → FI σ' f a = FI σ f a := fun f a hf => hx.1 f a (fun q => by have := q.1; omega)
          obtain ⟨c1, c2, c3, c4, c5, c6, c7, c8⟩ := hi
          refine ⟨by rw [g _ _ (by decide)]; exact c1, by rw [g _ _ (by decide)]; exact c2, c3, c4, fun h => ?_, fun h => by rw [g _ _ (by decide)]; exact c6 h, fun h => by rw [hx.2.1]; exact c7 h, fun h => by rw [hx.2.1]; exact c8 h⟩
          obtain ⟨t, d1, d2, d3, d4, d5⟩ := c5 h
          exact ⟨t, by rw [hx.2.1]; exact d1, by rw [g _ _ (by decide)]; exact d2, by rw [g _ _ (by decide)]; exact d3, by rw [g _ _ (by decide)]; exact d4, d5⟩
        have rn2 : ∀ {σ' σ''}, tX (fun f a => (f = 706 ∨ f = 712) ∧ a = 0) noA σ' σ'' → rnX σ' σ'' := fun t => t.mono (fun f a q => ⟨by rcases q.1 with w | w <;> omega, by rcases q.1 with w | w <;> omega, q.2⟩) (fun _ q => q)
        have hdeep : decide (60 ≤ dep) = false := decide_eq_false (by omega)
        have fin : ∀ b : Bool, decide (it.1.1 = 7) = b → Ex (wp (d + 3)) m_Run_stepped Q 71 [some (vr 7 0), some (vr 4 a), some (vi (p : Nat)), some (vi (dep : Nat))] [vi (bI b), vr 7 0] σ2 := by
          intro b hb
          have hb1 := bI_01 b
          refine x_putZ i_Run_stepped_71 rfl rfl (by omega) ?_
          generalize hσ3 : sFI σ2 712 0 (bI b) = σ3
          have x3 : tX (fun f a => (f = 706 ∨ f = 712) ∧ a = 0) noA σ1 σ3 := by rw [← hσ3]; exact x2.tr (tX_sFI ⟨Or.inr rfl, rfl⟩)
          have f3 : FI σ3 706 0 = -1 := by rw [← hσ3]; simp [FI_sFI, f2]
          have f4 : FI σ3 712 0 = bI b := by rw [← hσ3]; simp [FI_sFI]
          have h3' : RS σ3 e (stepE st) N K tab H := h1.set x3
          have y3 : rnX σ σ3 := x1.tr (rn2 x3)
          have hi3 := hi2 y3
          obtain ⟨i1, i2, i3, i4, i5, i6, i7, i8⟩ := id hi3
          have open1 : openP (decide (60 ≤ dep)) it p st → Q (some (vi (-7))) σ3 := fun ho => k2 ho σ3 h3' y3.run
          have from1 : ∀ r, PostR e Q (-5) 3 σ st.1.1 N K tab H r → PostR e Q (-5) 3 σ3 st.1.1 N K tab H r := fun r hr σ' N' K' tab' H' ho => hr σ' N' K' tab' H' (ho.from y3.run (Nat.le_refl _) (fun _ _ => rfl) (Nat.le_refl _) (Nat.le_refl _) (Nat.le_refl _))
          have opens : ¬ openP (decide (60 ≤ dep)) it p st → ∀ r, partE e.2.1 (eZ e) alt ruled (decide (60 ≤ dep)) it p st = r → PostR e Q (-5) 3 σ3 st.1.1 N K tab H r := fun hn r hr => from1 r (by rw [← hr]; exact k1 hn)
          refine x_aload_n i_Run_stepped_74 rfl ?_
          refine x_getI i_Run_stepped_75 rfl rfl ?_
          refine x_bipush i_Run_stepped_78 ?_
          rw [i1]
          refine x_icmp_ne i_Run_stepped_80 (fun h5 => ?_) (fun h5 => ?_)
          · refine x_aload_n i_Run_stepped_98 rfl ?_
            refine x_getI i_Run_stepped_99 rfl rfl ?_
            refine x_bipush i_Run_stepped_102 ?_
            rw [i1]
            refine x_icmp_ne i_Run_stepped_104 (fun h6 => ?_) (fun h6 => ?_)
            · refine x_aload_n i_Run_stepped_109 rfl ?_
              refine x_getI i_Run_stepped_110 rfl rfl ?_
              refine x_iconst i_Run_stepped_113 ?_
              rw [i1]
              refine x_icmp_gt i_Run_stepped_114 (fun h7 => ?_) (fun h7 => ?_)
              · refine x_bipush i_Run_stepped_126 ?_
                refine x_iret i_Run_stepped_128 rfl ?_
                exact open1 ⟨ho, hdeep, by omega⟩
              · refine x_aload_n i_Run_stepped_117 rfl ?_
                refine x_aload_n i_Run_stepped_118 rfl ?_
                refine x_iload_n i_Run_stepped_119 rfl ?_
                refine x_cv2 i_Run_stepped_120 rfl rfl rfl ?_
                refine c_R_matched h3' rfl (by rw [f4, ← hb, decide_eq_false (by omega)]; rfl) f3 hi3 (by omega) hp ?_
                have em : partE e.2.1 (eZ e) alt ruled (decide (60 ≤ dep)) it p st = matchE e.2.1 (eZ e) it.1.1 it.1.2.2 it.2.1.1 it.2.1.2 p (stepE st) := by unfold partE; rw [if_neg ho, hdeep]; simp only [Bool.false_eq_true, if_false]; rw [if_neg (by omega), if_neg (by omega), if_pos (by omega)]; rfl
                have := opens (fun q => by obtain ⟨-, -, q⟩ := q; omega) _ em
                intro σ' N' K' tab' H' g
                refine x_goto i_Run_stepped_123 ?_
                refine x_iret i_Run_stepped_128 rfl ?_
                exact this σ' N' K' tab' H' g
            · have h8 : it.1.1 = 7 := by omega
              have em : partE e.2.1 (eZ e) alt ruled (decide (60 ≤ dep)) it p st = ((p : Int), none, true, stepE st) := by unfold partE; rw [if_neg ho, hdeep]; simp only [Bool.false_eq_true, if_false]; rw [if_neg (by omega), if_pos h8]; rfl
              refine x_iload_n i_Run_stepped_107 rfl ?_
              refine x_iret i_Run_stepped_108 rfl ?_
              exact opens (fun q => by obtain ⟨-, -, q⟩ := q; omega) _ em σ3 N K tab H (OutR.one h3' (tX.rf _ _ _) rfl (fun _ => by rw [f4, ← hb, decide_eq_true h8]) (fun _ => ⟨by show (p : Int) ≤ _; omega, none, f3, fun i hi => (by cases hi), rfl⟩) (Or.inr (Or.inr (by omega))))
          · have h8 : it.1.1 = 12 := by omega
            obtain ⟨j1, j2, j3⟩ := i6 h8
            have em : partE e.2.1 (eZ e) alt ruled (decide (60 ≤ dep)) it p st = (match (stepE st).2.2 (it.1.2.2 * 241 + p) with
                | none => ruled it.1.2.2 p (stepE st)
                | some none => (-16, none, false, (stepE st))
                | some (some (a, t, s)) => (a, t, s, (((stepE st).1.1, (stepE st).1.2.1, (stepE st).1.2.2 + 1), (stepE st).2))) := by
              unfold partE; rw [if_neg ho, hdeep]; simp only [Bool.false_eq_true, if_false]; rw [if_pos h8]; rfl
            have nop : st.2.2 (it.1.2.2 * 241 + p) ≠ none → ¬ openP (decide (60 ≤ dep)) it p st := by
              intro hne q
              obtain ⟨-, -, q⟩ := q
              rcases q with q | q
              · exact hne q.2
              · omega
            refine x_aload_n i_Run_stepped_83 rfl ?_
            refine x_aload_n i_Run_stepped_84 rfl ?_
            refine x_getI i_Run_stepped_85 rfl rfl ?_
            rw [j1]
            refine x_sipush i_Run_stepped_88 ?_
            refine x_imul i_Run_stepped_91 (by omega) ?_
            refine x_iload_n i_Run_stepped_92 rfl ?_
            refine x_iadd i_Run_stepped_93 (by omega) ?_
            rw [show ((it.1.2.2 : Nat) : Int) * 241 + (p : Int) = ((it.1.2.2 * 241 + p : Nat) : Int) by omega]
            refine x_cv1 i_Run_stepped_94 rfl rfl rfl ?_
            refine c_R_recalled h3' rfl b3 (by omega) (fun hq => ?_) (fun hq => ?_) (fun q hq => ?_)
            · refine x_iret i_Run_stepped_97 rfl ?_
              exact open1 ⟨ho, hdeep, Or.inl ⟨h8, hq⟩⟩
            · rw [hq] at em
              refine x_iret i_Run_stepped_97 rfl ?_
              exact opens (nop (by rw [show st.2.2 (it.1.2.2 * 241 + p) = some none from hq]; intro q; cases q)) _ em σ3 N K tab H (OutR.err h3' (tX.rf _ _ _) (Nat.le_refl _) (fun _ _ => rfl) ⟨[], by simp⟩ (Nat.le_succ _) (by show (-16 : Int) < -9; decide))
            · rw [hq] at em
              intro σ' N' K' tab' H' g
              refine x_iret i_Run_stepped_97 rfl ?_
              exact opens (nop (by rw [show st.2.2 (it.1.2.2 * 241 + p) = some (some _) from hq]; intro q; cases q)) _ em σ' N' K' tab' H' g
        refine x_aload_n i_Run_stepped_56 rfl ?_
        refine x_aload_n i_Run_stepped_57 rfl ?_
        refine x_getI i_Run_stepped_58 rfl rfl ?_
        refine x_bipush i_Run_stepped_61 ?_
        rw [show FI σ2 400 a = (it.1.1 : Int) from (hi2 (x1.tr (rn2 x2))).1]
        refine x_icmp_ne i_Run_stepped_63 (fun h6 => ?_) (fun h6 => ?_)
        · refine x_iconst i_Run_stepped_70 ?_
          exact fin false (decide_eq_false (by omega))
        · refine x_iconst i_Run_stepped_66 ?_
          refine x_goto i_Run_stepped_67 ?_
          exact fin true (decide_eq_true (by omega))
      · have em : partE e.2.1 (eZ e) alt ruled (decide (60 ≤ dep)) it p st = (-18, none, false, stepE st) := by unfold partE; rw [if_neg ho, decide_eq_true (by omega)]; rfl
        have k1 := k1 (fun q => by have := of_decide_eq_false q.2.1; omega)
        rw [em] at k1
        refine x_bipush i_Run_stepped_48 ?_
        refine x_iret i_Run_stepped_50 rfl ?_
        exact k1 σ1 N K tab H (OutR.err h1 x1.run (Nat.le_refl _) (fun _ _ => rfl) ⟨[], by simp⟩ (Nat.le_succ _) (by show (-18 : Int) < -9; decide))
    · exact over (Or.inr (by omega))
end


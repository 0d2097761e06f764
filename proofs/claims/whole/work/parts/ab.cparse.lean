/-! THE CLASS's parse -/
def rX (σ σ' : AS) : Prop := (∀ f a, ¬ runF f a → FI σ' f a = FI σ f a) ∧ (∀ f a, f ≠ 704 → f ≠ 705 → FR σ' f a = FR σ f a) ∧ (∀ k a j, ¬ (k = 13 ∧ runA a) → AI σ' k a j = AI σ k a j) ∧ AR σ' = AR σ ∧ LN σ' = LN σ ∧ CN σ' = CN σ ∧ nC σ' = nC σ ∧ nS σ' = nS σ
theorem rX.of {σ σ' : AS} {x y : Option Nat} (h : tX runF runA (sFR (sFR σ 704 0 x) 705 0 y) σ') : rX σ σ' := by
  obtain ⟨h1, h2, h3, h4, h5, h6, h7, h8⟩ := h
  exact ⟨fun f a w => h1 f a w, fun f a w1 w2 => by rw [h2, FR_sFR, if_neg (fun q => w2 q.1), FR_sFR, if_neg (fun q => w1 q.1)], fun k a j w => h3 k a j w, h4, h5, h6, h7, h8⟩
theorem rX.cl {σ σ' : AS} (h : rX σ σ') : clX σ σ' := by
  obtain ⟨h1, h2, h3, h4, h5, h6, h7, h8⟩ := h
  exact ⟨fun f a w => ⟨h1 f a (fun q => by rcases q with q | q <;> omega), h2 f a (by omega) (by omega)⟩, fun k a w => ⟨funext fun j => h3 k a j (fun q => by obtain ⟨q1, q2, q3⟩ := q; omega), by rw [h4], by rw [h5]⟩⟩
theorem rX.no {σ σ' : AS} (h : rX σ σ') : noN σ σ' := ⟨h.2.2.2.2.2.1, h.2.2.2.2.2.2.1, h.2.2.2.2.2.2.2⟩
theorem rX.row {σ σ' : AS} {r c cap n : Nat} {f : Nat → Int} (hx : rX σ σ') (h : rowF σ r c cap n f) (h1 : ¬ (3 ≤ r ∧ r ≤ 12)) (h2 : ¬ (3 ≤ c ∧ c ≤ 12)) : rowF σ' r c cap n f := by
  obtain ⟨a1, a2, a3, a4, a5, a6⟩ := h
  obtain ⟨b1, b2, b3, b4, b5, b6⟩ := hx
  have nr : ¬ runF 601 r := fun q => by
    rcases q with q | q
    · have := q.1; omega
    · exact h1 q.2
  exact ⟨by rw [b2 _ _ (by decide) (by decide)]; exact a1, by rw [b1 _ _ nr]; exact a2, by rw [b5]; exact a3, a4, a5, fun k hk => by rw [b3 _ _ _ (fun q => h2 q.2)]; exact a6 k hk⟩
theorem lastC.rx {σ σ' : AS} {o : Option RR} (h : lastC σ o) (hx : rX σ σ') : lastC σ' o := by
  obtain ⟨⟨p1, p2, p3, p4, p5⟩, ⟨n1, f1, a2⟩, ⟨n2, f2, a3⟩, ⟨n3, f3, a4⟩, ⟨L4, a5⟩, ⟨L5, a6⟩, a7⟩ := h
  have b1 : ∀ f, f < 600 → FI σ' f 0 = FI σ f 0 := fun f w => hx.1 f 0 (fun q => by rcases q with q | q <;> omega)
  have b2 := hx.2.1
  refine ⟨⟨by rw [b2 _ _ (by decide) (by decide)]; exact p1, by rw [b2 _ _ (by decide) (by decide)]; exact p2, by rw [b2 _ _ (by decide) (by decide)]; exact p3, by rw [b2 _ _ (by decide) (by decide)]; exact p4, by rw [b2 _ _ (by decide) (by decide)]; exact p5⟩, ⟨n1, f1, hx.row a2 (by decide) (by decide)⟩, ⟨n2, f2, hx.row a3 (by decide) (by decide)⟩, ⟨n3, f3, hx.row a4 (by decide) (by decide)⟩, ⟨L4, hx.row a5 (by decide) (by decide)⟩, ⟨L5, hx.row a6 (by decide) (by decide)⟩, ?_⟩
  cases o with
  | none => show FI σ' 200 0 = 0; rw [b1 _ (by decide)]; exact a7
  | some r =>
    obtain ⟨c0, c1, c2, c3, c4, c5, c6, c7, c8, c9, c10, c11⟩ := a7
    exact ⟨by rw [b1 _ (by decide)]; exact c0, by rw [b1 _ (by decide)]; exact c1, by rw [b1 _ (by decide)]; exact c2, by rw [b1 _ (by decide)]; exact c3, by rw [b1 _ (by decide)]; exact c4, by rw [b1 _ (by decide)]; exact c5, by rw [b1 _ (by decide)]; exact c6, c7, hx.row c8 (by decide) (by decide), hx.row c9 (by decide) (by decide), hx.row c10 (by decide) (by decide), by rw [b1 _ (by decide)]; exact c11.imp id (fun w => ⟨w.1, hx.row w.2 (by decide) (by decide)⟩)⟩
theorem clS.run {σ σ' : AS} {S : SS} {n : Nat} (h : clS σ S) (hx : rX σ σ') (hr : runI σ' n) : clS σ' (S.1, S.2.1, n, S.2.2.2) := by
  obtain ⟨t, b, g, bo, fa, ra, ca, rq, cq, htb, f0, f1, f2, f3, f4, f5, o1, o2, r0, r1, ⟨n2, g2, r2⟩, hg, -, hl, k1, k2⟩ := h
  obtain ⟨b1, b2, b3, b4, b5, b6, b7, b8⟩ := id hx
  have bi : ∀ f a, (f < 600 ∨ (f = 601 ∧ 21 ≤ a) ∨ (800 ≤ f ∧ f < 900)) → FI σ' f a = FI σ f a := fun f a w => b1 f a (fun q => by rcases q with q | q <;> omega)
  exact ⟨t, b, g, bo, fa, ra, ca, rq, cq, htb, by rw [b2 _ _ (by decide) (by decide)]; exact f0, by rw [b2 _ _ (by decide) (by decide)]; exact f1, by rw [b2 _ _ (by decide) (by decide)]; exact f2, by rw [b2 _ _ (by decide) (by decide)]; exact f3, by rw [b2 _ _ (by decide) (by decide)]; exact f4, by rw [b2 _ _ (by decide) (by decide)]; exact f5, o1, o2, hx.row r0 (by omega) (by omega), hx.row r1 (by omega) (by omega), ⟨n2, g2, hx.row r2 (by decide) (by decide)⟩, hg.keep ⟨fun f a w _ => ⟨bi f a (by omega), b2 f a (by omega) (by omega)⟩, fun k _ => by rw [b6]; exact Nat.le_refl _⟩ (fun f a w1 w2 _ => ⟨bi f a (by omega), b2 f a (by omega) (by omega)⟩) (fun a w _ => ⟨bi _ a (by omega), b2 _ a (by decide) (by decide)⟩) (fun k a _ _ => by rw [b4, b5]; exact ⟨rfl, rfl⟩) (fun a w _ => ⟨funext fun j => b3 _ a j (fun q => by obtain ⟨-, q2, q3⟩ := q; omega), by rw [b5]⟩) (fun k => by rw [b6]; exact Nat.le_refl _), hr, hl.rx hx, by rw [b6]; exact k1, by rw [b6]; exact k2⟩
section
variable {Q : AQ} {σ : AS} {S : SS}
theorem c_CP_parse (h : clS σ S) {r p : Int} (kk : ∀ σ', clX σ σ' → noN σ σ' → clS σ' (doParse S r p).2 → Q (some (vi (doParse S r p).1)) σ') : wp 251 m_CP_parse [vr 10 0, vi r, vi p] σ Q := by
  obtain ⟨t, b, g, bo, fa, ra, ca, rq, cq, htb, f0, f1, f2, f3, f4, f5, o1, o2, r0, r1, ⟨n2, g2, r2⟩, hg, hr, hl, k1, k2⟩ := id h
  have hz2 : S.1.2.1 ≤ 240 := o2.1
  have bad : (hasG S.2.1 r = false ∨ p < 0 ∨ (S.1.2.1 : Int) < p) → Ex (wp 250) m_CP_parse Q 26 [some (vr 10 0), some (vi r), some (vi p), none] [] σ := by
    intro w
    have := kk σ (clX.rf σ) (noN.rf σ)
    unfold doParse at this
    rw [if_pos w] at this
    refine x_bipush i_CP_parse_26 ?_
    refine x_iret i_CP_parse_28 rfl ?_
    exact this h
  refine x_in (ls := [some _, some _, some _, none]) rfl rfl ?_
  refine x_aload_n i_CP_parse_0 rfl ?_
  refine x_getR (c2 := 1) i_CP_parse_1 rfl rfl (by assumption) ?_
  refine x_iload_n i_CP_parse_4 rfl ?_
  refine x_cv1 i_CP_parse_5 rfl rfl rfl ?_
  refine c_G_has hg (fun w1 => ?_) (fun w1 => ?_)
  · refine x_if_eq_f i_CP_parse_8 (by decide) ?_
    refine x_iload_n i_CP_parse_11 rfl ?_
    refine x_if_lt i_CP_parse_12 (fun w2 => ?_) (fun w2 => ?_)
    · exact bad (Or.inr (Or.inl w2))
    · refine x_iload_n i_CP_parse_15 rfl ?_
      refine x_aload_n i_CP_parse_16 rfl ?_
      refine x_getR (c2 := 6) i_CP_parse_17 rfl rfl (by assumption) ?_
      refine x_cv0 i_CP_parse_20 rfl rfl rfl ?_
      refine c_Row_size r1 ?_
      refine x_icmp_le i_CP_parse_23 (fun w3 => ?_) (fun w3 => ?_)
      · have w1' := w1
        unfold hasG at w1'
        rw [Bool.and_eq_true, decide_eq_true_eq] at w1'
        obtain ⟨hr8, hsome⟩ := w1'
        have kk : ∀ σ', clX σ σ' → noN σ σ' → clS σ' (S.1, S.2.1, (parS S r p).2.2.2.1.2.1, some (parS S r p)) → Q (some (vi (resM (parS S r p)))) σ' := by
          unfold doParse at kk
          rw [if_neg (fun w => by rcases w with w | w | w; · rw [w1] at w; cases w
                                  · omega
                                  · omega)] at kk
          exact kk
        obtain ⟨rn, rfl⟩ : ∃ n : Nat, r = (n : Int) := ⟨r.toNat, by omega⟩
        obtain ⟨pn, rfl⟩ : ∃ n : Nat, p = (n : Int) := ⟨p.toNat, by omega⟩
        unfold parS at kk
        rw [Int.toNat_natCast, Int.toNat_natCast] at kk
        rw [Int.toNat_natCast] at hsome
        obtain ⟨hlaw, hdn⟩ := hg.law
        refine x_aload_n i_CP_parse_29 rfl ?_
        refine x_getR (c2 := 7) i_CP_parse_30 rfl rfl (by assumption) ?_
        refine x_aload_n i_CP_parse_33 rfl ?_
        refine x_getR (c2 := 1) i_CP_parse_34 rfl rfl (by assumption) ?_
        refine x_aload_n i_CP_parse_37 rfl ?_
        refine x_getR (c2 := 6) i_CP_parse_38 rfl rfl (by assumption) ?_
        refine x_iload_n i_CP_parse_41 rfl ?_
        refine x_iload_n i_CP_parse_42 rfl ?_
        refine x_cv4 i_CP_parse_43 rfl rfl rfl ?_
        refine c_R_through hr hg.2.1 hlaw r1 (by omega) hz2 o2.2 (by omega : rn < 8) ((hdn rn (by omega)).mpr hsome) (by omega : pn ≤ S.1.2.1) (fun σ1 x1 ran => ?_)
        have y1 := rX.of x1
        generalize parseE S.1.2.2 S.1.2.1 (rulG S.2.1) rn pn S.2.2.1 = q at kk ran ⊢
        have h1 := h.run y1 ran.2.2.2.2
        have f4 : FR σ1 1004 0 = some 0 := by rw [y1.2.1 _ _ (by decide) (by decide)]; exact f4
        have f3 : FR σ1 1003 0 = some 0 := by rw [y1.2.1 _ _ (by decide) (by decide)]; exact f3
        refine x_istore_n (ls' := [_, _, _, _]) i_CP_parse_46 rfl rfl ?_
        refine x_aload_n i_CP_parse_47 rfl ?_
        refine x_getR (c2 := 2) i_CP_parse_48 rfl rfl (by assumption) ?_
        refine x_aload_n i_CP_parse_51 rfl ?_
        refine x_getR (c2 := 7) i_CP_parse_52 rfl rfl (by assumption) ?_
        refine x_cv1 i_CP_parse_55 rfl rfl rfl ?_
        refine c_L_keep (hl.rx y1) ran (fun σ2 x2 h2 => ?_)
        have f3 : FR σ2 1003 0 = some 0 := by rw [x2.2.1]; exact f3
        have h12 := h1.last x2 h2
        have fin := kk σ2 (y1.cl.tr (laX_cl x2)) (y1.no.tr x2.no) h12
        have e712 : FI σ2 712 0 = bI (sharpE q) := by rw [x2.1 _ _ (fun q => by rcases q with q | q <;> omega)]; exact ran.2.2.1
        unfold resM at fin
        refine x_iload_n i_CP_parse_58 rfl ?_
        refine x_bipush i_CP_parse_59 ?_
        refine x_icmp_ne i_CP_parse_61 (fun w4 => ?_) (fun w4 => ?_)
        · rw [if_neg (fun w => w4 w.1)] at fin
          refine x_iload_n i_CP_parse_79 rfl ?_
          refine x_iret i_CP_parse_80 rfl ?_
          exact fin
        · have h5 : q.1 = -5 := by omega
          have es : sharpE q = q.2.2.1 := by unfold sharpE; rw [if_neg (by omega)]
          refine x_aload_n i_CP_parse_64 rfl ?_
          refine x_getR (c2 := 7) i_CP_parse_65 rfl rfl (by assumption) ?_
          refine x_getI i_CP_parse_68 rfl rfl ?_
          rw [e712, es]
          refine x_if_eq i_CP_parse_71 (fun w5 => ?_) (fun w5 => ?_)
          · rw [if_neg (fun w => by rw [w.2] at w5; exact absurd w5 (by decide))] at fin
            refine x_iload_n i_CP_parse_79 rfl ?_
            refine x_iret i_CP_parse_80 rfl ?_
            exact fin
          · rw [if_pos ⟨h5, bI_t w5⟩] at fin
            refine x_bipush i_CP_parse_74 ?_
            refine x_goto i_CP_parse_76 ?_
            refine x_iret i_CP_parse_80 rfl ?_
            exact fin
      · exact bad (Or.inr (Or.inr (by omega)))
  · refine x_if_eq_t i_CP_parse_8 rfl ?_
    exact bad (Or.inl w1)
end


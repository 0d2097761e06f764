/-! THE MODEL: as -/
theorem as_done {p : Nat} {far fb B : Int} {base : Int × Int} (ok : (far = -1 ∧ fb = 0) ∨ ((p : Int) < far ∧ 0 ≤ far ∧ fb ≠ 0)) {fw : Int × Int} (hfw : fw = if 0 ≤ far then (far, fb) else if B ≠ 0 then ((p : Int), B) else (-1, 0)) : (if B = 0 then (if 0 ≤ far then noteE far.toNat fb base else base) else noteE p B (if 0 ≤ far then noteE far.toNat fb base else base)) = if fw.1 < 0 then base else noteE fw.1.toNat fw.2 base := by
  rcases ok with ⟨h1, h2⟩ | ⟨h1, h2, h3⟩
  · have n : ¬ 0 ≤ far := by omega
    rw [if_neg n] at hfw
    rw [if_neg n]
    by_cases hB : B = 0
    · rw [if_neg (fun w => w hB)] at hfw
      rw [if_pos hB, hfw]
      rfl
    · rw [if_pos hB] at hfw
      rw [if_neg hB, hfw, if_neg (by show ¬ ((p : Nat) : Int) < 0; omega)]
      rfl
  · rw [if_pos h2] at hfw
    rw [if_pos h2, hfw]
    have n : ¬ ((far, fb) : Int × Int).1 < 0 := by show ¬ far < 0; omega
    rw [if_neg n]
    split
    · rfl
    · rw [noteE_far (by omega)]
theorem as_fails {p : Nat} {far fb B b : Int} {base : Int × Int} (ok : (far = -1 ∧ fb = 0) ∨ ((p : Int) < far ∧ 0 ≤ far ∧ fb ≠ 0)) {fw : Int × Int} (hfw : fw = if 0 ≤ far then (far, fb) else if B ≠ 0 then ((p : Int), B) else (-1, 0)) : noteE p b (if 0 ≤ far then noteE far.toNat fb base else base) = noteE p b (if (p : Int) < fw.1 then (if fw.1 < 0 then base else noteE fw.1.toNat fw.2 base) else base) := by
  rcases ok with ⟨h1, h2⟩ | ⟨h1, h2, h3⟩
  · have n : ¬ 0 ≤ far := by omega
    rw [if_neg n] at hfw
    rw [if_neg n, if_neg]
    rw [hfw]
    split
    · show ¬ (p : Int) < (p : Int); omega
    · show ¬ (p : Int) < -1; omega
  · rw [if_pos h2] at hfw
    rw [if_pos h2, hfw, if_pos (by show (p : Int) < far; omega), if_neg (by show ¬ far < 0; omega)]
section
variable {d : Nat} {Q : AQ} {e : EM} {σ : AS} {st : ES} {F N L : Nat} {tab : Nat → TT} {cl : Nat → Prop} {kids : Nat → List Nat} {own : Nat → Nat} {k dep n p pn : Nat} {it : Item (PT n)} {l3 l4 : Option AV}
theorem g_as (ha : AltM e (d + 1) k dep n) (h : RunM σ e st F N L tab cl kids own) (hpr : prtM σ n it pn) (g : GoH e σ st dep F N L p) (hk : it.1.1 = 6) (kk : PostM e Q 2 2 σ st.1.1 F N L tab cl kids p (brackE (fun p st => altE e.2.1 e.1.2 e.2.2 k n it.2.2.1 p st) it.1.1 it.1.2.2 p st)) : Ex (wp (d + 1)) m_M_goes Q 369 [some (vr 11 0), some (vi (pn : Nat)), some (vi (p : Nat)), l3, l4, none, none] [] σ := by
  obtain ⟨hp, hF, hdep, hde, hat, hN, hL⟩ := g
  obtain ⟨j5, -, -, j9, -, j11, -, -⟩ := hpr
  obtain ⟨ja, jb⟩ := j9 (by omega)
  obtain ⟨a, b1, b2⟩ := j11 (by omega)
  have hz : e.1.2 ≤ 240 := h.1.1.2.2.2.2.2.1
  refine x_aload_n i_M_goes_369 rfl ?_
  refine x_iload_n i_M_goes_370 rfl ?_
  refine x_cv1 i_M_goes_371 rfl rfl rfl ?_
  refine c_M_frame h.1.1.1 (F := F + 1) (by omega) (p := (p : Nat)) (by rw [h.2.2.1]; omega) (by omega) (fun σ1 x1 j1 f1 f2 f3 f4 => ?_)
  have x1 : fX puF puA σ σ1 := x1
  have y1 := puX_mp x1
  have h1 := h.frame (F' := F + 1) x1 f1 f3 f4
  obtain ⟨hm, hl, -⟩ := h1.1.1.1
  refine x_aload_n i_M_goes_374 rfl ?_
  refine x_aload_n i_M_goes_375 rfl ?_
  refine x_getR (c2 := 13) i_M_goes_376 rfl rfl (hm _ _ rfl) ?_
  refine x_iload_n i_M_goes_379 rfl ?_
  refine x_iaload i_M_goes_380 rfl (lt_len hl rfl j5) ?_
  rw [y1.lo (by decide), b1]
  refine x_iload_n i_M_goes_381 rfl ?_
  refine x_cv2 i_M_goes_382 rfl rfl rfl ?_
  refine ha it.2.2.1 a _ σ1 _ (F + 1) N L tab cl kids own p h1 (b2.run y1) hp (by omega) ((x1.1 _ _ (fun q => by have := q.1; omega)).trans hde) (by rw [f2]; omega) hN hL ?_
  intro σ2 N2 L2 tab2 cl2 kids2 own2 ho
  simp only [brackE] at kk
  rw [if_neg (by omega), if_pos hk] at kk
  generalize altE e.2.1 e.1.2 e.2.2 k n it.2.2.1 p (st.1, (-1, 0), st.2.2) = r at ho kk
  obtain ⟨o1, o2, o3, o4, o5, o6, o7, o8, o9, o10⟩ := id ho
  have same : ∀ a, 48 ≤ a → a ≤ 51 → AI σ2 13 a F = AI σ 13 a F := fun a w1 w2 => by rw [o3 a F w1 w2 (by omega), j1 a F (by omega)]
  have ok2 : okM σ2 F := h.1.2.2.1.same same
  have vw2 : viewM σ2 F = st.2.1 := (viewM_same same).trans h.1.2.2.2
  have hm : mFld σ2 := o2.1.1.1
  have hl : mLns σ2 := o2.1.1.2.1
  refine x_istore (ls' := [_, _, _, _, _, _, _]) i_M_goes_385 rfl rfl ?_
  refine x_aload_n i_M_goes_387 rfl ?_
  refine x_getI i_M_goes_388 rfl rfl ?_
  by_cases he : r.1 < -5
  · rw [if_pos he] at kk
    have := kk σ2 N2 L2 tab2 cl2 kids2 own2 (ho.nest x1 j1 (fX.rf _ _ _) (fun _ _ _ _ _ => rfl) rfl (fun _ _ _ _ => rfl) rfl ⟨o2.1, o2.2.1, ok2, vw2⟩ rfl o7 (fun w => absurd he (by have w : -5 ≤ r.1 := w; omega)) (fun w => absurd he (by have w : 0 ≤ r.1 := w; omega)) o10)
    rw [retM_0 (by show r.1 < 0; omega)] at this
    rw [o7 he]
    refine x_if_eq_f i_M_goes_391 (by omega) ?_
    refine x_iconst i_M_goes_394 ?_
    refine x_zret i_M_goes_395 rfl (by omega) ?_
    exact this
  obtain ⟨u1, u2, u3, u4, u5, u6⟩ := o8 (by omega)
  rw [if_neg he] at kk
  rw [u1.2.1]
  refine x_if_eq_t i_M_goes_391 rfl ?_
  refine x_aload_n i_M_goes_396 rfl ?_
  refine x_dup i_M_goes_397 ?_
  refine x_getI i_M_goes_398 rfl rfl ?_
  rw [u1.2.2.1]
  refine x_iconst i_M_goes_401 ?_
  refine x_isub i_M_goes_402 (by omega) ?_
  rw [show ((F + 1 : Nat) : Int) - 1 = (F : Int) by omega]
  refine x_putI i_M_goes_403 rfl rfl ?_
  have x3 : fX puF puA σ2 (sFI σ2 1149 0 (F : Int)) := fX_sFI ⟨rfl, rfl⟩
  have h3 := u1.frame (F' := F) (fw := st.2.1) x3 (by simp [FI_sFI]) ok2 vw2
  have g5 : FI (sFI σ2 1149 0 (F : Int)) 1145 0 = FI σ2 1145 0 := rfl
  have g6 : FI (sFI σ2 1149 0 (F : Int)) 1152 0 = FI σ2 1152 0 := rfl
  have g7 : FI (sFI σ2 1149 0 (F : Int)) 1147 0 = FI σ2 1147 0 := rfl
  have g8 : FI (sFI σ2 1149 0 (F : Int)) 1148 0 = FI σ2 1148 0 := rfl
  have ai3 : ∀ k a j, AI (sFI σ2 1149 0 (F : Int)) k a j = AI σ2 k a j := fun _ _ _ => rfl
  generalize sFI σ2 1149 0 (F : Int) = σ3 at x3 h3 g5 ai3 g6 g7 g8
  have y3 := puX_mp x3
  have hm : mFld σ3 := h3.1.1.1.1
  have hl : mLns σ3 := h3.1.1.1.2.1
  have hat3 : AI σ3 13 48 F ≤ (p : Int) := by rw [ai3, same _ (by decide) (by decide)]; exact hat
  -- the frame that was within
  obtain ⟨ok, -, -, k4, -, k6, k7⟩ := o2.2.2.1
  have e48 : AI σ2 13 48 (F + 1) = (p : Int) := o4.trans f2
  have hfw : r.2.2.2.2.1 = if 0 ≤ AI σ2 13 50 (F + 1) then (AI σ2 13 50 (F + 1), AI σ2 13 51 (F + 1)) else if AI σ2 13 49 (F + 1) ≠ 0 then ((p : Int), AI σ2 13 49 (F + 1)) else (-1, 0) := by rw [← o2.2.2.2]; unfold viewM; rw [e48]
  rw [e48] at ok
  have ph2 : ∀ (σ4 : AS) (fw4 : Int × Int), RunM σ4 e (r.2.2.2.1, fw4, r.2.2.2.2.2) F N2 L2 tab2 cl2 kids2 own2 → frX F σ3 σ4 → (0 ≤ r.1 → PostM e Q 2 2 σ st.1.1 F N L tab cl kids p (r.1, r.2.1, r.2.2.1, (r.2.2.2.1, (if AI σ2 13 49 (F + 1) = 0 then fw4 else noteE p (AI σ2 13 49 (F + 1)) fw4), r.2.2.2.2.2))) → (r.1 = -5 → PostM e Q 2 2 σ st.1.1 F N L tab cl kids p (-5, none, r.2.2.1, (r.2.2.2.1, noteE p (iShl 1 (it.1.2.2 : Nat)) fw4, r.2.2.2.2.2))) → Ex (wp (d + 1)) m_M_goes Q 436 [some (vr 11 0), some (vi (pn : Nat)), some (vi (p : Nat)), l3, l4, some (vi (retM r)), some (vi ((F + 1 : Nat) : Int))] [] σ4 := by
    intro σ4 fw4 h4 x4 q1 q2
    have hm : mFld σ4 := h4.1.1.1.1
    have hl : mLns σ4 := h4.1.1.1.2.1
    obtain ⟨w1, w2, w3⟩ := frX_lo x4
    have ai4 : ∀ a j, j ≠ F → AI σ4 13 a j = AI σ2 13 a j := fun a j h => (x4.2 a j h).trans (ai3 _ _ _)
    have lo4 : ∀ a j, a < 49 → AI σ4 13 a j = AI σ2 13 a j := fun a j h => (x4.1.2.2.1 _ _ _ (fun q => by have := q.2.1; omega)).trans (ai3 _ _ _)
    have fin : ∀ (σ5 : AS) (r' : RR), frX F σ4 σ5 → RunM σ5 e r'.2.2.2 F N2 L2 tab2 cl2 kids2 own2 → r'.1 = r.1 → (0 ≤ r.1 → r'.2.1 = r.2.1) → r'.2.2.1 = r.2.2.1 → r'.2.2.2.1 = r.2.2.2.1 → PostM e Q 2 2 σ st.1.1 F N L tab cl kids p r' → Q (some (vi (retM r))) σ5 := by
      intro σ5 r' x5 h5 v1 v2 v3 v4 v5
      obtain ⟨t1, t2, t3⟩ := frX_lo x5
      have fi : ∀ f, FI σ5 f 0 = FI σ3 f 0 := fun f => (x5.1.1 _ _ (fun q => q)).trans (x4.1.1 _ _ (fun q => q))
      have := v5 σ5 N2 L2 tab2 cl2 kids2 own2 (ho.nest x1 j1 ((y3.tr (frX_mp x4)).tr (frX_mp x5)) (fun a j q1 q2 q3 => by rw [t1 a j q1 q2 q3, w1 a j q1 q2 q3, ai3]) (by rw [t2, w2, ai3]) (fun a j q1 q2 => by rw [x5.1.2.2.1 _ _ _ (fun q => by have := q.2.2; omega), x4.1.2.2.1 _ _ _ (fun q => by have := q.2.2; omega), ai3]) (by rw [fi, g5]) h5.1 v4 (fun w => absurd w (by omega)) (fun _ => ⟨by omega, h5, by rw [fi, g6, u6, v3]⟩) (fun w => by
        rw [v1] at w ⊢
        obtain ⟨c1, c2, c3, o, c4, c5, c6⟩ := o9 w
        exact ⟨c1, c2, by rw [fi, g7]; exact c3, o, by rw [fi, g8]; exact c4, c5, by rw [v2 w]; exact c6⟩) (by rw [v1]; exact o10))
      rw [show retM r' = retM r by unfold retM; rw [v1]] at this
      exact this
    have stop : ∀ σ5, Q (some (vi (retM r))) σ5 → Ex (wp (d + 1)) m_M_goes Q 468 [some (vr 11 0), some (vi (pn : Nat)), some (vi (p : Nat)), l3, l4, some (vi (retM r)), some (vi ((F + 1 : Nat) : Int))] [] σ5 := by
      intro σ5 hQ
      refine x_iload i_M_goes_468 rfl ?_
      refine x_zret i_M_goes_470 rfl (by unfold retM; split <;> omega) ?_
      exact hQ
    refine x_aload_n i_M_goes_436 rfl ?_
    refine x_aload_n i_M_goes_437 rfl ?_
    refine x_getI i_M_goes_438 rfl rfl ?_
    rw [h4.2.2.1]
    refine x_iload_n i_M_goes_441 rfl ?_
    refine x_iload i_M_goes_442 rfl ?_
    by_cases h0 : 0 ≤ r.1
    · have q1 := q1 h0
      rw [retM_1 h0] at stop fin ⊢
      refine x_if_eq_f i_M_goes_444 (by decide) ?_
      refine x_aload_n i_M_goes_447 rfl ?_
      refine x_getR (c2 := 13) i_M_goes_448 rfl rfl (hm _ _ rfl) ?_
      refine x_iload i_M_goes_451 rfl ?_
      refine x_iaload i_M_goes_453 (k := F + 1) rfl (lt_len hl rfl (by omega)) ?_
      rw [ai4 _ _ (by omega)]
      refine x_goto i_M_goes_454 ?_
      by_cases hB : AI σ2 13 49 (F + 1) = 0
      · rw [if_pos hB] at q1
        rw [hB]
        refine x_cv3 i_M_goes_465 rfl rfl rfl ?_
        refine c_M_expects0 ?_
        exact stop _ (fin σ4 (r.1, r.2.1, r.2.2.1, (r.2.2.2.1, fw4, r.2.2.2.2.2)) ⟨fX.rf _ _ _, fun _ _ _ => rfl⟩ h4 rfl (fun _ => rfl) rfl rfl q1)
      · rw [if_neg hB] at q1
        refine x_cv3 i_M_goes_465 rfl rfl rfl ?_
        refine c_M_expects h4.1.1.1 (by omega) (by omega) h4.1.2.2.1 (by rw [lo4 _ _ (by decide), ← ai3 13 48 F]; exact hat3) k6 hB (fun σ5 x5 ok5 v5 => ?_)
        exact stop _ (fin σ5 (r.1, r.2.1, r.2.2.1, (r.2.2.2.1, noteE p (AI σ2 13 49 (F + 1)) fw4, r.2.2.2.2.2)) x5 (h4.note x5 ok5 (v5.trans (by rw [h4.1.2.2.2]))) rfl (fun _ => rfl) rfl rfl q1)
    · have h5 : r.1 = -5 := by clear o9; omega
      have q2 := q2 h5
      rw [retM_0 (by omega)] at stop fin ⊢
      refine x_if_eq_t i_M_goes_444 rfl ?_
      refine x_iconst i_M_goes_457 ?_
      refine x_aload_n i_M_goes_458 rfl ?_
      refine x_getR (c2 := 13) i_M_goes_459 rfl rfl (hm _ _ rfl) ?_
      refine x_iload_n i_M_goes_462 rfl ?_
      refine x_iaload i_M_goes_463 rfl (lt_len hl rfl j5) ?_
      rw [lo4 _ _ (by decide), o1.lo (by decide), y1.lo (by decide), ja]
      refine x_ishl i_M_goes_464 ?_
      refine x_cv3 i_M_goes_465 rfl rfl rfl ?_
      refine c_M_expE h4 (by omega) hp (by rw [lo4 _ _ (by decide), ← ai3 13 48 F]; exact hat3) jb (fun σ5 h5' x5 => ?_)
      exact stop _ (fin σ5 (-5, none, r.2.2.1, (r.2.2.2.1, noteE p (iShl 1 (it.1.2.2 : Nat)) fw4, r.2.2.2.2.2)) x5 h5' h5.symm (fun w => absurd w h0) rfl rfl q2)
  have kd : 0 ≤ r.1 → PostM e Q 2 2 σ st.1.1 F N L tab cl kids p (r.1, r.2.1, r.2.2.1, (r.2.2.2.1, (if AI σ2 13 49 (F + 1) = 0 then (if 0 ≤ AI σ2 13 50 (F + 1) then noteE (AI σ2 13 50 (F + 1)).toNat (AI σ2 13 51 (F + 1)) st.2.1 else st.2.1) else noteE p (AI σ2 13 49 (F + 1)) (if 0 ≤ AI σ2 13 50 (F + 1) then noteE (AI σ2 13 50 (F + 1)).toNat (AI σ2 13 51 (F + 1)) st.2.1 else st.2.1)), r.2.2.2.2.2)) := by
    intro h0
    rw [as_done ok hfw]
    rw [if_neg (by omega), if_pos (Or.inl h0)] at kk
    split
    · rename_i q
      rw [if_pos q] at kk
      exact kk
    · rename_i q
      rw [if_neg q] at kk
      exact kk
  have kf : r.1 = -5 → PostM e Q 2 2 σ st.1.1 F N L tab cl kids p (-5, none, r.2.2.1, (r.2.2.2.1, noteE p (iShl 1 (it.1.2.2 : Nat)) (if 0 ≤ AI σ2 13 50 (F + 1) then noteE (AI σ2 13 50 (F + 1)).toNat (AI σ2 13 51 (F + 1)) st.2.1 else st.2.1), r.2.2.2.2.2)) := by
    intro h5
    rw [as_fails ok hfw]
    rw [if_pos h5] at kk
    by_cases q : (p : Int) < r.2.2.2.2.1.1
    · rw [if_pos (Or.inr q)] at kk
      rw [if_pos q]
      split
      · rename_i q
        rw [if_pos q] at kk
        exact kk
      · rename_i q
        rw [if_neg q] at kk
        exact kk
    · rw [if_neg (fun w => w.elim (fun w => by omega) q)] at kk
      rw [if_neg q]
      exact kk
  clear kk
  refine x_aload_n i_M_goes_406 rfl ?_
  refine x_getI i_M_goes_407 rfl rfl ?_
  rw [h3.2.2.1]
  refine x_iconst i_M_goes_410 ?_
  refine x_iadd i_M_goes_411 (by omega) ?_
  refine x_istore (ls' := [_, _, _, _, _, _, _]) i_M_goes_412 rfl rfl ?_
  refine x_aload_n i_M_goes_414 rfl ?_
  refine x_aload_n i_M_goes_415 rfl ?_
  refine x_getI i_M_goes_416 rfl rfl ?_
  rw [h3.2.2.1]
  refine x_aload_n i_M_goes_419 rfl ?_
  refine x_getR (c2 := 13) i_M_goes_420 rfl rfl (hm _ _ rfl) ?_
  refine x_iload i_M_goes_423 rfl ?_
  rw [show (F : Int) + 1 = ((F + 1 : Nat) : Int) by omega]
  refine x_iaload i_M_goes_425 (k := F + 1) rfl (lt_len hl rfl (by omega)) ?_
  refine x_aload_n i_M_goes_426 rfl ?_
  refine x_getR (c2 := 13) i_M_goes_427 rfl rfl (hm _ _ rfl) ?_
  refine x_iload i_M_goes_430 rfl ?_
  refine x_iaload i_M_goes_432 (k := F + 1) rfl (lt_len hl rfl (by omega)) ?_
  rw [ai3, ai3]
  rcases ok with ⟨w1, w2⟩ | ⟨w1, w2, w3⟩
  · rw [w2]
    have n0 : ¬ 0 ≤ AI σ2 13 50 (F + 1) := by omega
    rw [if_neg n0] at kd kf
    refine x_cv3 i_M_goes_433 rfl rfl rfl ?_
    refine c_M_expects0 ?_
    exact ph2 σ3 st.2.1 h3 ⟨fX.rf _ _ _, fun _ _ _ => rfl⟩ kd kf
  · rw [if_pos w2] at kd kf
    rw [show AI σ2 13 50 (F + 1) = (((AI σ2 13 50 (F + 1)).toNat : Nat) : Int) by omega]
    refine x_cv3 i_M_goes_433 rfl rfl rfl ?_
    refine c_M_expects h3.1.1.1 (f := F) (by omega) (by omega) h3.1.2.2.1 (by omega) k7 w3 (fun σ4 x4 ok4 v4 => ?_)
    exact ph2 σ4 _ (h3.note x4 ok4 (v4.trans (by rw [h3.1.2.2.2]))) x4 kd kf
end


/-! THE MODEL: not -/
section
variable {d : Nat} {Q : AQ} {e : EM} {σ : AS} {st : ES} {F N L : Nat} {tab : Nat → TT} {cl : Nat → Prop} {kids : Nat → List Nat} {own : Nat → Nat} {k dep n p pn : Nat} {it : Item (PT n)} {x3 x4 : Option AV}
theorem g_not (ha : AltM e (d + 1) k dep n) (h : RunM σ e st F N L tab cl kids own) (hpr : prtM σ n it pn) (g : GoH e σ st dep F N L p) (hk : it.1.1 = 5) (kk : PostM e Q 2 2 σ st.1.1 F N L tab cl kids p (brackE (fun p st => altE e.2.1 e.1.2 e.2.2 k n it.2.2.1 p st) it.1.1 it.1.2.2 p st)) : Ex (wp (d + 1)) m_M_goes Q 295 [some (vr 11 0), some (vi (pn : Nat)), some (vi (p : Nat)), x3, x4, none, none] [] σ := by
  obtain ⟨hp, hF, hdep, hde, hat, hN, hL⟩ := g
  obtain ⟨j5, -, -, j9, -, j11, -, -⟩ := hpr
  obtain ⟨ja, jb⟩ := j9 (by omega)
  obtain ⟨a, b1, b2⟩ := j11 (by omega)
  refine x_aload_n i_M_goes_295 rfl ?_
  refine x_bipush i_M_goes_296 ?_
  refine x_cv1 i_M_goes_298 rfl rfl rfl ?_
  refine c_M_frame h.1.1.1 (F := F + 1) (by omega) (p := -2) (by rw [h.2.2.1]; omega) (Or.inl rfl) (fun σ1 x1 j1 f1 f2 f3 f4 => ?_)
  have x1 : fX puF puA σ σ1 := x1
  have y1 := puX_mp x1
  have h1 := h.frame (F' := F + 1) x1 f1 f3 f4
  obtain ⟨hm, hl, -⟩ := h1.1.1.1
  refine x_aload_n i_M_goes_301 rfl ?_
  refine x_aload_n i_M_goes_302 rfl ?_
  refine x_getR (c2 := 13) i_M_goes_303 rfl rfl (hm _ _ rfl) ?_
  refine x_iload_n i_M_goes_306 rfl ?_
  refine x_iaload i_M_goes_307 rfl (lt_len hl rfl j5) ?_
  rw [y1.lo (by decide), b1]
  refine x_iload_n i_M_goes_308 rfl ?_
  refine x_cv2 i_M_goes_309 rfl rfl rfl ?_
  refine ha it.2.2.1 a _ σ1 _ (F + 1) N L tab cl kids own p h1 (b2.run y1) hp (by omega) ((x1.1 _ _ (fun q => by have := q.1; omega)).trans hde) (by rw [f2]; omega) hN hL ?_
  intro σ2 N2 L2 tab2 cl2 kids2 own2 ho
  simp only [brackE] at kk
  rw [if_pos hk] at kk
  generalize altE e.2.1 e.1.2 e.2.2 k n it.2.2.1 p (st.1, (-1, 0), st.2.2) = r at ho kk
  obtain ⟨o1, o2, o3, o4, o5, o6, o7, o8, o9, o10⟩ := id ho
  have same : ∀ a, 48 ≤ a → a ≤ 51 → AI σ2 13 a F = AI σ 13 a F := fun a w1 w2 => by rw [o3 a F w1 w2 (by omega), j1 a F (by omega)]
  have ok2 : okM σ2 F := h.1.2.2.1.same same
  have vw2 : viewM σ2 F = st.2.1 := (viewM_same same).trans h.1.2.2.2
  have hm : mFld σ2 := o2.1.1.1
  have hl : mLns σ2 := o2.1.1.2.1
  refine x_istore (ls' := [_, _, _, _, _, _, _]) i_M_goes_312 rfl rfl ?_
  refine x_aload_n i_M_goes_314 rfl ?_
  refine x_getI i_M_goes_315 rfl rfl ?_
  by_cases he : r.1 < -5
  · rw [if_pos he] at kk
    have := kk σ2 N2 L2 tab2 cl2 kids2 own2 (ho.nest x1 j1 (fX.rf _ _ _) (fun _ _ _ _ _ => rfl) rfl (fun _ _ _ _ => rfl) rfl ⟨o2.1, o2.2.1, ok2, vw2⟩ rfl o7 (fun w => absurd he (by have w : -5 ≤ r.1 := w; omega)) (fun w => absurd he (by have w : 0 ≤ r.1 := w; omega)) o10)
    rw [retM_0 (by show r.1 < 0; omega)] at this
    rw [o7 he]
    refine x_if_eq_f i_M_goes_318 (by omega) ?_
    refine x_iconst i_M_goes_321 ?_
    refine x_zret i_M_goes_322 rfl (by omega) ?_
    exact this
  obtain ⟨u1, u2, u3, u4, u5, u6⟩ := o8 (by omega)
  rw [if_neg he] at kk
  rw [u1.2.1]
  refine x_if_eq_t i_M_goes_318 rfl ?_
  refine x_aload_n i_M_goes_323 rfl ?_
  refine x_dup i_M_goes_324 ?_
  refine x_getI i_M_goes_325 rfl rfl ?_
  rw [u1.2.2.1]
  refine x_iconst i_M_goes_328 ?_
  refine x_isub i_M_goes_329 (by omega) ?_
  rw [show ((F + 1 : Nat) : Int) - 1 = (F : Int) by omega]
  refine x_putI i_M_goes_330 rfl rfl ?_
  have x3 : fX puF puA σ2 (sFI σ2 1149 0 (F : Int)) := fX_sFI ⟨rfl, rfl⟩
  have h3 := u1.frame (F' := F) (fw := st.2.1) x3 (by simp [FI_sFI]) ok2 vw2
  have g5 : FI (sFI σ2 1149 0 (F : Int)) 1145 0 = FI σ2 1145 0 := rfl
  have ai3 : ∀ k a j, AI (sFI σ2 1149 0 (F : Int)) k a j = AI σ2 k a j := fun _ _ _ => rfl
  generalize sFI σ2 1149 0 (F : Int) = σ3 at x3 h3 g5 ai3
  have y3 := puX_mp x3
  refine x_iload i_M_goes_333 rfl ?_
  by_cases h0 : 0 ≤ r.1
  · rw [if_neg (by omega)] at kk
    rw [retM_1 h0]
    have hm : mFld σ3 := h3.1.1.1.1
    have hl : mLns σ3 := h3.1.1.1.2.1
    refine x_if_ne_t i_M_goes_335 (by decide) ?_
    refine x_aload_n i_M_goes_346 rfl ?_
    refine x_aload_n i_M_goes_347 rfl ?_
    refine x_getI i_M_goes_348 rfl rfl ?_
    rw [h3.2.2.1]
    refine x_iload_n i_M_goes_351 rfl ?_
    refine x_iconst i_M_goes_352 ?_
    refine x_aload_n i_M_goes_353 rfl ?_
    refine x_getR (c2 := 13) i_M_goes_354 rfl rfl (hm _ _ rfl) ?_
    refine x_iload_n i_M_goes_357 rfl ?_
    refine x_iaload i_M_goes_358 rfl (lt_len hl rfl j5) ?_
    rw [ai3, o1.lo (by decide), y1.lo (by decide), ja]
    refine x_ishl i_M_goes_359 ?_
    refine x_cv3 i_M_goes_360 rfl rfl rfl ?_
    refine c_M_expE h3 (by omega) hp (by rw [ai3, same _ (by decide) (by decide)]; exact hat) jb (fun σ4 h4 x4 => ?_)
    obtain ⟨w1, w2, w3⟩ := frX_lo x4
    refine x_aload_n i_M_goes_363 rfl ?_
    refine x_iconst i_M_goes_364 ?_
    refine x_cv1 i_M_goes_365 rfl rfl rfl ?_
    refine c_M_fails (Or.inl rfl) ?_
    have y := psX1 σ4 0
    have := kk _ N2 L2 tab2 cl2 kids2 own2 (ho.nest x1 j1 ((y3.tr (frX_mp x4)).tr (psX_mp y)) (fun a j q1 q2 q3 => by rw [psX_ai y, w1 a j q1 q2 q3, ai3]) (by rw [psX_ai y, w2, ai3]) (fun a j q1 q2 => by rw [psX_ai y]; exact (x4.1.2.2.1 _ _ _ (fun q => by have := q.2.2; omega)).trans (ai3 _ _ _)) (by rw [FI_sFI, if_neg (by omega), w3, g5]) (h4.set y).1 rfl (fun w => absurd w (by show ¬ ((-5 : Int) < -5); decide)) (fun _ => ⟨by omega, h4.set y, by simp [FI_sFI, bI]⟩) (fun w => absurd w n50) (Or.inr (Or.inl rfl)))
    refine x_zret i_M_goes_368 rfl (by omega) ?_
    exact this
  · have h5 : r.1 = -5 := by clear o9; omega
    rw [if_pos h5] at kk
    rw [retM_0 (by omega)]
    refine x_if_ne_f i_M_goes_335 rfl ?_
    refine x_aload_n i_M_goes_338 rfl ?_
    refine x_iload_n i_M_goes_339 rfl ?_
    refine x_iconst i_M_goes_340 ?_
    refine x_iconst i_M_goes_341 ?_
    refine x_cv3 i_M_goes_342 rfl rfl rfl ?_
    refine c_M_done (Or.inl rfl) ?_
    have y := psX3 σ3 (p : Nat) (-1) 0
    have := kk _ N2 L2 tab2 cl2 kids2 own2 (ho.nest x1 j1 (y3.tr (psX_mp y)) (fun a j q1 q2 q3 => by rw [psX_ai y, ai3]) (by rw [psX_ai y, ai3]) (fun a j q1 q2 => by rw [psX_ai y, ai3]) (by simp [FI_sFI]; exact g5) (h3.set y).1 rfl (fun w => absurd w (by show ¬ ((p : Nat) : Int) < -5; omega)) (fun _ => ⟨by omega, h3.set y, by simp [FI_sFI, bI]⟩) (fun _ => ⟨Int.le_refl _, by show (p : Int) ≤ _; omega, by simp [FI_sFI], none, by simp [FI_sFI, oI], fun i hi => (by cases hi), rfl⟩) (Or.inr (Or.inr (by show 0 ≤ (p : Int); omega))))
    rw [retM_1 (by show 0 ≤ (p : Int); omega)] at this
    refine x_zret i_M_goes_345 rfl (by omega) ?_
    exact this
end


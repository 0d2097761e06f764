/-! THE MODEL: brackets, walked -/
def GoH (e : EM) (σ : AS) (st : ES) (dep F N L p : Nat) : Prop := p ≤ e.1.2 ∧ F < dep ∧ dep ≤ 70 ∧ FI σ 1145 0 = (dep : Int) ∧ AI σ 13 48 F ≤ (p : Int) ∧ N ≤ 4 * st.1.1 + dep ∧ L ≤ 3 * st.1.1
section
variable {d : Nat} {Q : AQ} {e : EM} {σ : AS} {st : ES} {F N L : Nat} {tab : Nat → TT} {cl : Nat → Prop} {kids : Nat → List Nat} {own : Nat → Nat} {k dep n p pn : Nat} {it : Item (PT n)} {x3 x4 : Option AV}
theorem g_group (ha : AltM e d k dep n) (h : RunM σ e st F N L tab cl kids own) (hpr : prtM σ n it pn) (g : GoH e σ st dep F N L p) (hk : it.1.1 = 11) (kk : PostM e Q 2 2 σ st.1.1 F N L tab cl kids p (brackE (fun p st => altE e.2.1 e.1.2 e.2.2 k n it.2.2.1 p st) it.1.1 it.1.2.2 p st)) : Ex (wp d) m_M_goes Q 236 [some (vr 11 0), some (vi (pn : Nat)), some (vi (p : Nat)), x3, x4, none, none] [] σ := by
  obtain ⟨hp, hF, hdep, hde, hat, hN, hL⟩ := g
  obtain ⟨j5, -, -, -, -, j11, -, -⟩ := hpr
  obtain ⟨a, b1, b2⟩ := j11 (by omega)
  obtain ⟨hm, hl, -⟩ := h.1.1.1
  refine x_aload_n i_M_goes_236 rfl ?_
  refine x_aload_n i_M_goes_237 rfl ?_
  refine x_getR (c2 := 13) i_M_goes_238 rfl rfl (hm _ _ rfl) ?_
  refine x_iload_n i_M_goes_241 rfl ?_
  refine x_iaload i_M_goes_242 rfl (lt_len hl rfl j5) ?_
  rw [b1]
  refine x_iload_n i_M_goes_243 rfl ?_
  refine x_cv2 i_M_goes_244 rfl rfl rfl ?_
  refine ha it.2.2.1 a _ σ st F N L tab cl kids own p h b2 hp (by omega) hde hat hN hL ?_
  intro σ2 N2 L2 tab2 cl2 kids2 own2 ho
  simp only [brackE] at kk
  rw [if_neg (by omega), if_neg (by omega)] at kk
  generalize altE e.2.1 e.1.2 e.2.2 k n it.2.2.1 p st = r at ho kk
  rw [if_neg (fun w => by omega), hk, show (decide (11 = 11)) = true from rfl, Bool.and_true] at kk
  have := kk σ2 N2 L2 tab2 cl2 kids2 own2 ho
  refine x_zret i_M_goes_247 rfl (by unfold retM; split <;> omega) ?_
  exact this
theorem g_try (ha : AltM e d k dep n) (h : RunM σ e st F N L tab cl kids own) (hpr : prtM σ n it pn) (g : GoH e σ st dep F N L p) (hk : it.1.1 = 8) (kk : PostM e Q 2 2 σ st.1.1 F N L tab cl kids p (brackE (fun p st => altE e.2.1 e.1.2 e.2.2 k n it.2.2.1 p st) it.1.1 it.1.2.2 p st)) : Ex (wp d) m_M_goes Q 248 [some (vr 11 0), some (vi (pn : Nat)), some (vi (p : Nat)), x3, x4, none, none] [] σ := by
  obtain ⟨hp, hF, hdep, hde, hat, hN, hL⟩ := g
  obtain ⟨j5, -, -, -, -, j11, -, -⟩ := hpr
  obtain ⟨a, b1, b2⟩ := j11 (by omega)
  obtain ⟨hm, hl, -⟩ := h.1.1.1
  refine x_aload_n i_M_goes_248 rfl ?_
  refine x_aload_n i_M_goes_249 rfl ?_
  refine x_getR (c2 := 13) i_M_goes_250 rfl rfl (hm _ _ rfl) ?_
  refine x_iload_n i_M_goes_253 rfl ?_
  refine x_iaload i_M_goes_254 rfl (lt_len hl rfl j5) ?_
  rw [b1]
  refine x_iload_n i_M_goes_255 rfl ?_
  refine x_cv2 i_M_goes_256 rfl rfl rfl ?_
  refine ha it.2.2.1 a _ σ st F N L tab cl kids own p h b2 hp (by omega) hde hat hN hL ?_
  intro σ2 N2 L2 tab2 cl2 kids2 own2 ho
  simp only [brackE] at kk
  rw [if_neg (by omega), if_neg (by omega)] at kk
  generalize altE e.2.1 e.1.2 e.2.2 k n it.2.2.1 p st = r at ho kk
  rw [if_neg (fun w => by omega), hk, show (decide (8 = 11)) = false from rfl, Bool.and_false] at kk
  have y := psX1 σ2 0
  have := kk _ N2 L2 tab2 cl2 kids2 own2 (ho.re y (by simp [FI_sFI]) rfl (fun _ => rfl) id (fun _ => by simp [FI_sFI, bI]) (fun w => by
    obtain ⟨q1, q2, q3, q4⟩ := ho.2.2.2.2.2.2.2.2.1 w
    exact ⟨q1, q2, by rw [FI_sFI, if_neg (by omega)]; exact q3, by rw [FI_sFI, if_neg (by omega)]; exact q4⟩) ho.2.2.2.2.2.2.2.2.2)
  refine x_istore (ls' := [_, _, _, _, _, _, _]) i_M_goes_259 rfl rfl ?_
  refine x_aload_n i_M_goes_261 rfl ?_
  refine x_iconst i_M_goes_262 ?_
  refine x_putZ i_M_goes_263 rfl rfl (by omega) ?_
  refine x_iload i_M_goes_266 rfl ?_
  refine x_zret i_M_goes_268 rfl (by unfold retM; split <;> omega) ?_
  exact this
theorem g_look (ha : AltM e d k dep n) (h : RunM σ e st F N L tab cl kids own) (hpr : prtM σ n it pn) (g : GoH e σ st dep F N L p) (hk : it.1.1 = 9) (kk : PostM e Q 2 2 σ st.1.1 F N L tab cl kids p (brackE (fun p st => altE e.2.1 e.1.2 e.2.2 k n it.2.2.1 p st) it.1.1 it.1.2.2 p st)) : Ex (wp d) m_M_goes Q 269 [some (vr 11 0), some (vi (pn : Nat)), some (vi (p : Nat)), x3, x4, none, none] [] σ := by
  obtain ⟨hp, hF, hdep, hde, hat, hN, hL⟩ := g
  obtain ⟨j5, -, -, -, -, j11, -, -⟩ := hpr
  obtain ⟨a, b1, b2⟩ := j11 (by omega)
  obtain ⟨hm, hl, -⟩ := h.1.1.1
  refine x_aload_n i_M_goes_269 rfl ?_
  refine x_aload_n i_M_goes_270 rfl ?_
  refine x_getR (c2 := 13) i_M_goes_271 rfl rfl (hm _ _ rfl) ?_
  refine x_iload_n i_M_goes_274 rfl ?_
  refine x_iaload i_M_goes_275 rfl (lt_len hl rfl j5) ?_
  rw [b1]
  refine x_iload_n i_M_goes_276 rfl ?_
  refine x_cv2 i_M_goes_277 rfl rfl rfl ?_
  refine ha it.2.2.1 a _ σ st F N L tab cl kids own p h b2 hp (by omega) hde hat hN hL ?_
  intro σ2 N2 L2 tab2 cl2 kids2 own2 ho
  simp only [brackE] at kk
  rw [if_neg (by omega), if_neg (by omega)] at kk
  generalize altE e.2.1 e.1.2 e.2.2 k n it.2.2.1 p st = r at ho kk
  have y : fX psF fnA σ2 (sFI (sFI σ2 1147 0 (p : Nat)) 1152 0 0) := (fX_sFI ⟨Or.inr (Or.inl rfl), rfl⟩).tr (fX_sFI ⟨Or.inr (Or.inr (Or.inr rfl)), rfl⟩)
  have fin : Q (some (vi (retM r))) (sFI (sFI σ2 1147 0 (p : Nat)) 1152 0 0) := by
    by_cases h0 : 0 ≤ r.1
    · rw [if_pos ⟨hk, h0⟩] at kk
      have := kk _ N2 L2 tab2 cl2 kids2 own2 (ho.re y (by simp [FI_sFI]) rfl (fun w => absurd w (by show ¬ ((p : Nat) : Int) < -5; omega)) (fun _ => by omega) (fun _ => by simp [FI_sFI, bI]) (fun _ => by
        obtain ⟨q1, q2, q3, o, q4, q5, q6⟩ := ho.2.2.2.2.2.2.2.2.1 h0
        exact ⟨Int.le_refl _, by show (p : Int) ≤ _; omega, by simp [FI_sFI], o, by simp only [FI_sFI]; simp; exact q4, q5, q6⟩) (Or.inr (Or.inr (by show 0 ≤ (p : Int); omega))))
      rw [retM_1 (by show 0 ≤ (p : Int); omega)] at this
      rw [retM_1 h0]
      exact this
    · rw [if_neg (fun w => h0 w.2), hk, show (decide (9 = 11)) = false from rfl, Bool.and_false] at kk
      exact kk _ N2 L2 tab2 cl2 kids2 own2 (ho.re y (by simp [FI_sFI]) rfl (fun _ => rfl) id (fun _ => by simp [FI_sFI, bI]) (fun w => absurd w h0) ho.2.2.2.2.2.2.2.2.2)
  refine x_istore (ls' := [_, _, _, _, _, _, _]) i_M_goes_280 rfl rfl ?_
  refine x_aload_n i_M_goes_282 rfl ?_
  refine x_iload_n i_M_goes_283 rfl ?_
  refine x_putI i_M_goes_284 rfl rfl ?_
  refine x_aload_n i_M_goes_287 rfl ?_
  refine x_iconst i_M_goes_288 ?_
  refine x_putZ i_M_goes_289 rfl rfl (by omega) ?_
  refine x_iload i_M_goes_292 rfl ?_
  refine x_zret i_M_goes_294 rfl (by unfold retM; split <;> omega) ?_
  exact fin
end


/-! THE MODEL's reading: words, PARTS -/
theorem kdW_sm {t : TP} {p : Nat} (h : isSm (chT t p) = false) : kdW t p (we t p) = none := by
  rw [we_stop (fun w => by
    have : chT t p = t.2 p := if_pos w.1
    rw [this, w.2] at h
    cases h)]
  cases hk : kdW t p p with
  | none => rfl
  | some k => exact absurd (kdW_lt hk).1 (Nat.lt_irrefl _)
section
variable {d : Nat} {Q : AQ} {σ : AS} {t : TP} {st : RT} {opn n rule : Nat} {dA : PT n}
theorem M_rpTail {alt : Option (RT → PR (PT n))} (hA : altHM (d + 5) t rule opn n alt) (h : MdS σ t st opn 1) (hR : FI σ 1136 0 = 1 → FI σ 1137 0 = (rule : Int)) {k : Nat} (k9 : k < 9) {z : Int} (hz : z = (mKind (k + 2) : Int)) {σ2 : AS} {st1 : RT} {num : Nat} {aI : Int} (h2 : MdS σ2 t st1 opn 1) (r2 : rdM σ σ2) (c2 : ∀ f, 1130 ≤ f → f ≤ 1133 → FI σ2 f 0 = FI σ f 0) (hlt : st.1 < st1.1) (hnum : k + 2 ≤ 6 → aI = (num : Int) ∧ num < 32) (kk : ∀ σ' p, prtQ t st opn n (if k + 2 = 10 then chaP t alt st1 else if k + 2 = 5 ∨ k + 2 = 6 ∨ k + 2 = 8 ∨ k + 2 = 9 then bodP t dA alt (k + 2) num st1 else .inr (mkI (k + 2) num (-1) (-1) dA dA, st1)) σ σ' p → Q (some (vi (p : Nat))) σ') : Ex (wp (d + 5)) m_M_readPart Q 420 [some (vr 11 0), some (vi (st.1 : Nat)), some (vi (k : Nat)), some (vi z), some (vi aI), none, none] [] σ2 := by
  have hR2 : FI σ2 1136 0 = 1 → FI σ2 1137 0 = (rule : Int) := by rw [r2.2.1.1, r2.2.1.2]; exact hR
  have cs := MdS_cts h2
  have ht1 := h2.1.2.1.1
  have hle := h2.2.1.1
  have leaf : (k < 3 ∨ k = 5) → Ex (wp (d + 5)) m_M_readPart Q 437 [some (vr 11 0), some (vi (st.1 : Nat)), some (vi (k : Nat)), some (vi z), some (vi aI), none, none] [] σ2 := by
    intro w
    rw [if_neg (by omega), if_neg (by omega)] at kk
    refine x_aload_n i_M_readPart_437 rfl ?_
    refine x_iload_n i_M_readPart_438 rfl ?_
    refine x_iconst i_M_readPart_439 ?_
    refine x_iconst i_M_readPart_440 ?_
    refine x_iload i_M_readPart_441 rfl ?_
    refine x_cv4 i_M_readPart_443 rfl rfl rfl ?_
    refine c_M_mkPart h2.1.1.1 h2.1.1.2.1 h2.P (by omega) ?_
    refine x_iret i_M_readPart_446 rfl ?_
    exact kk _ _ (prt_leaf h h2 r2 c2 hlt (by show k + 2 ≤ 4 ∨ k + 2 = 7 ∨ k + 2 = 12; omega) rfl hz (fun v => absurd v (by show ¬ k + 2 ≤ 1; omega)) (fun v => hnum v) (fun v => absurd v (by show ¬ k + 2 = 12; omega)))
  have body : (k = 3 ∨ k = 4 ∨ (6 ≤ k ∧ k ≤ 8)) → Ex (wp (d + 5)) m_M_readPart Q 447 [some (vr 11 0), some (vi (st.1 : Nat)), some (vi (k : Nat)), some (vi z), some (vi aI), none, none] [] σ2 := by
    intro w
    refine x_aload_n i_M_readPart_447 rfl ?_
    refine x_cv0 i_M_readPart_448 rfl rfl rfl ?_
    refine c_M_opens2 h2 hA.le (fun σ3 p3 => ?_)
    refine x_aload_n i_M_readPart_451 rfl ?_
    refine x_cv0 i_M_readPart_452 rfl rfl rfl ?_
    refine c_M_alt2 hA hR2 p3 (fun σ4 a p4 => ?_)
    refine x_istore (ls' := [_, _, _, _, _, _, _]) i_M_readPart_455 rfl rfl ?_
    refine x_iconst i_M_readPart_457 ?_
    refine x_istore (ls' := [_, _, _, _, _, _, _]) i_M_readPart_458 rfl rfl ?_
    refine x_iload_n i_M_readPart_460 rfl ?_
    refine x_bipush i_M_readPart_461 ?_
    by_cases k8 : k = 8
    · rw [if_pos (by omega)] at kk
      refine x_icmp_ne_f i_M_readPart_463 (by rw [hz, k8]; decide) ?_
      refine x_aload_n i_M_readPart_466 rfl ?_
      refine x_bipush i_M_readPart_467 ?_
      refine x_cv1 i_M_readPart_469 rfl rfl rfl ?_
      refine c_M_need2 p4 (fun σ5 p5 => ?_)
      refine x_aload_n i_M_readPart_472 rfl ?_
      refine x_cv0 i_M_readPart_473 rfl rfl rfl ?_
      refine c_M_alt3 hA hR2 p5 (fun σ6 b p6 => ?_)
      refine x_istore (ls' := [_, _, _, _, _, _, _]) i_M_readPart_476 rfl rfl ?_
      refine x_aload_n i_M_readPart_478 rfl ?_
      refine x_cv0 i_M_readPart_479 rfl rfl rfl ?_
      refine c_M_closes3 hA.le p6 (fun σ7 p7 => ?_)
      obtain ⟨⟨hm7, hl7⟩, P7, P8⟩ := p7.P
      refine x_aload_n i_M_readPart_482 rfl ?_
      refine x_iload_n i_M_readPart_483 rfl ?_
      refine x_iload i_M_readPart_484 rfl ?_
      refine x_iload i_M_readPart_486 rfl ?_
      refine x_iload i_M_readPart_488 rfl ?_
      refine x_cv4 i_M_readPart_490 rfl rfl rfl ?_
      refine c_M_mkPart hm7 hl7 P7 P8 ?_
      refine x_iret i_M_readPart_493 rfl ?_
      exact kk _ _ (clQ_prt (fun x w => (chaP_mk w).1) h2 r2 p7 hA.le (by decide) (fun w => absurd w (by decide)) (by rw [hz, k8]) rfl (fun _ => rfl) (fun w => absurd w (by decide)))
    · rw [if_neg (by omega), if_pos (by omega)] at kk
      have hz2 : z = ((k + 2 : Nat) : Int) := by rw [hz]; unfold mKind; rw [if_neg (by omega), if_neg (by omega)]
      refine x_icmp_ne_t i_M_readPart_463 (by omega) ?_
      refine x_aload_n i_M_readPart_478 rfl ?_
      refine x_cv0 i_M_readPart_479 rfl rfl rfl ?_
      refine c_M_closes2 dA (k + 2) num (by omega) hA.le p4 (fun σ5 p5 => ?_)
      obtain ⟨⟨hm5, hl5⟩, P5, P6⟩ := p5.P
      refine x_aload_n i_M_readPart_482 rfl ?_
      refine x_iload_n i_M_readPart_483 rfl ?_
      refine x_iload i_M_readPart_484 rfl ?_
      refine x_iload i_M_readPart_486 rfl ?_
      refine x_iload i_M_readPart_488 rfl ?_
      refine x_cv4 i_M_readPart_490 rfl rfl rfl ?_
      refine c_M_mkPart hm5 hl5 P5 P6 ?_
      refine x_iret i_M_readPart_493 rfl ?_
      exact kk _ _ (clQ_prt (fun x w => (bodP_mk w).1) h2 r2 p5 hA.le (by omega) (fun w => (hnum w).2) hz rfl (fun w => by omega) (fun w => (hnum w).1))
  refine x_aload_n i_M_readPart_420 rfl ?_
  refine x_getI i_M_readPart_421 rfl rfl ?_
  rw [h2.2.2.2.1]
  refine x_if_ge_f i_M_readPart_424 (by decide) ?_
  refine x_iload_n i_M_readPart_427 rfl ?_
  refine x_iconst i_M_readPart_428 ?_
  refine x_icmp_lt i_M_readPart_429 (fun g3 => ?_) (fun g3 => ?_)
  · exact leaf (by omega)
  · refine x_iload_n i_M_readPart_432 rfl ?_
    refine x_iconst i_M_readPart_433 ?_
    refine x_icmp_ne i_M_readPart_434 (fun g5 => ?_) (fun g5 => ?_)
    · exact body (by omega)
    · exact leaf (by omega)
theorem M_rpWord {alt : Option (RT → PR (PT n))} (hA : altHM (d + 5) t rule opn n alt) (h : MdS σ t st opn 1) (hR : FI σ 1136 0 = 1 → FI σ 1137 0 = (rule : Int)) (f1 : FI σ 1125 0 = (st.1 : Int)) (kk : ∀ σ' p, prtQ t st opn n (worP t rule dA alt st) σ σ' p → Q (some (vi (p : Nat))) σ') : Ex (wp (d + 5)) m_M_readPart Q 305 [some (vr 11 0), some (vi (st.1 : Nat)), none, none, none, none, none] [] σ := by
  have b2 := h.2.1
  have ht1 := h.1.2.1.1
  have ho := hA.le
  have we1 := we_all t _ st.1 rfl
  have we3 := sk_ge t (we t st.1)
  refine x_aload_n i_M_readPart_305 rfl ?_
  refine x_cv0 i_M_readPart_306 rfl rfl rfl ?_
  refine c_M_word (u := 0) h (by decide) f1 (fun k hk k9 σ1 x1 h1 => ?_) (fun hk σ1 x1 h1 => ?_)
  · have k1 := (kdW_lt hk).1
    have hlt : st.1 < sk t (we t st.1) := by omega
    have hc1 : ∀ f, 1130 ≤ f → f ≤ 1133 → FI σ1 f 0 = FI σ f 0 := fun f w1 w2 => x1.1 f 0 (fun q => by have := q.2.1; omega)
    unfold worP at kk
    rw [hk] at kk
    simp only [] at kk
    have main : ∀ z : Int, z = (mKind (k + 2) : Int) → Ex (wp (d + 5)) m_M_readPart Q 398 [some (vr 11 0), some (vi (st.1 : Nat)), some (vi (k : Nat)), none, none, none, none] [vi z] σ1 := by
      intro z hz
      refine x_istore_n (ls' := [_, _, _, _, _, _, _]) i_M_readPart_398 rfl rfl ?_
      refine x_iload_n i_M_readPart_399 rfl ?_
      refine x_iconst i_M_readPart_400 ?_
      refine x_icmp_ge i_M_readPart_401 (fun g5 => ?_) (fun g5 => ?_)
      · rw [if_neg (by omega)] at kk
        refine x_iconst i_M_readPart_417 ?_
        refine x_istore (ls' := [_, _, _, _, _, _, _]) i_M_readPart_418 rfl rfl ?_
        refine M_rpTail (dA := dA) (st1 := (sk t (we t st.1), st.2)) (num := 0) hA h hR k9 hz h1 x1.rd hc1 hlt (fun w => by omega) (fun σ' p hp => kk σ' p ?_)
        by_cases w7 : k + 2 = 7
        · rw [if_pos w7]
          rw [if_neg (by omega), if_neg (by omega), w7] at hp
          exact hp
        · rw [if_neg w7]
          by_cases w10 : k + 2 = 10
          · rw [if_pos w10] at hp ⊢
            exact hp
          · rw [if_neg w10] at hp ⊢
            rw [if_pos (by omega)] at hp
            exact hp
      · rw [if_pos (by omega)] at kk
        refine x_aload_n i_M_readPart_404 rfl ?_
        refine x_iload_n i_M_readPart_405 rfl ?_
        refine x_iconst i_M_readPart_406 ?_
        refine x_iload_n i_M_readPart_407 rfl ?_
        refine x_iadd i_M_readPart_408 (by omega) ?_
        refine x_iconst i_M_readPart_409 ?_
        refine x_iconst i_M_readPart_410 ?_
        by_cases hl : 32 ≤ st.2.1.length
        · rw [if_pos hl] at kk
          refine x_cv4 i_M_readPart_411 rfl rfl rfl ?_
          refine c_M_atomF (u := 0) h1 (by decide) hl b2.1 (fun σ2 x2 h2 => ?_)
          have hP := h2.P
          refine x_goto i_M_readPart_414 ?_
          refine x_istore (ls' := [_, _, _, _, _, _, _]) i_M_readPart_418 rfl rfl ?_
          refine x_aload_n i_M_readPart_420 rfl ?_
          refine x_getI i_M_readPart_421 rfl rfl ?_
          rw [h2.2.2.2.1]
          refine x_if_ge_t i_M_readPart_424 (by omega) ?_
          refine x_aload_n i_M_readPart_437 rfl ?_
          refine x_iload_n i_M_readPart_438 rfl ?_
          refine x_iconst i_M_readPart_439 ?_
          refine x_iconst i_M_readPart_440 ?_
          refine x_iload i_M_readPart_441 rfl ?_
          refine x_cv4 i_M_readPart_443 rfl rfl rfl ?_
          refine c_M_mkPart h2.1.1.1 h2.1.1.2.1 hP.1 (by omega) ?_
          refine x_iret i_M_readPart_446 rfl ?_
          exact kk _ _ (prt_bad2 h2 (show atX σ σ2 from x1.tr x2).rd (by omega))
        · rw [if_neg hl] at kk
          refine x_cv4 i_M_readPart_411 rfl rfl rfl ?_
          refine c_M_atomS (rule := rule) (ty := k + 2) h1 (by show st.2.1.length < 32; omega) (by omega) (by rw [x1.rd.2.1.1, x1.rd.2.1.2]; exact hR) (fun σ2 r2 h2 f2 c2 n2 => ?_)
          refine x_goto i_M_readPart_414 ?_
          refine x_istore (ls' := [_, _, _, _, _, _, _]) i_M_readPart_418 rfl rfl ?_
          refine M_rpTail (dA := dA) (st1 := (sk t (we t st.1), st.2.1 ++ [(rule, st.1, k + 2, -1, -1)], st.2.2)) (num := st.2.1.length) hA h hR k9 hz h2 (x1.rd.tr r2) (fun f w1 w2 => (c2 f w1 w2).trans (hc1 f w1 w2)) hlt (fun w => ⟨rfl, by omega⟩) (fun σ' p hp => kk σ' p ?_)
          rw [if_neg (by omega)] at hp
          by_cases w5 : k + 2 = 5 ∨ k + 2 = 6
          · rw [if_pos w5]
            rw [if_pos (by omega)] at hp
            exact hp
          · rw [if_neg w5]
            rw [if_neg (by omega)] at hp
            exact hp
    have mk : ∀ (j : Nat) (z : Int), k = j → z = (mKind (j + 2) : Int) → z = (mKind (k + 2) : Int) := fun j z w v => by rw [w]; exact v
    refine x_istore_n (ls' := [_, _, _, _, _, _, _]) i_M_readPart_309 rfl rfl ?_
    refine x_aload_n i_M_readPart_310 rfl ?_
    refine x_getI i_M_readPart_311 rfl rfl ?_
    rw [h1.2.2.2.1]
    refine x_if_lt_t i_M_readPart_314 (by decide) ?_
    refine x_iload_n i_M_readPart_319 rfl ?_
    refine x_if_ne i_M_readPart_320 (fun g0 => ?_) (fun g0 => ?_)
    · refine x_iload_n i_M_readPart_327 rfl ?_
      refine x_iconst i_M_readPart_328 ?_
      refine x_icmp_ne i_M_readPart_329 (fun g1 => ?_) (fun g1 => ?_)
      · refine x_iload_n i_M_readPart_336 rfl ?_
        refine x_iconst i_M_readPart_337 ?_
        refine x_icmp_ne i_M_readPart_338 (fun g2 => ?_) (fun g2 => ?_)
        · refine x_iload_n i_M_readPart_345 rfl ?_
          refine x_iconst i_M_readPart_346 ?_
          refine x_icmp_ne i_M_readPart_347 (fun g3 => ?_) (fun g3 => ?_)
          · refine x_iload_n i_M_readPart_354 rfl ?_
            refine x_iconst i_M_readPart_355 ?_
            refine x_icmp_ne i_M_readPart_356 (fun g4 => ?_) (fun g4 => ?_)
            · refine x_iload_n i_M_readPart_364 rfl ?_
              refine x_iconst i_M_readPart_365 ?_
              refine x_icmp_ne i_M_readPart_366 (fun g5 => ?_) (fun g5 => ?_)
              · refine x_iload_n i_M_readPart_374 rfl ?_
                refine x_bipush i_M_readPart_375 ?_
                refine x_icmp_ne i_M_readPart_377 (fun g6 => ?_) (fun g6 => ?_)
                · refine x_iload_n i_M_readPart_385 rfl ?_
                  refine x_bipush i_M_readPart_386 ?_
                  refine x_icmp_ne i_M_readPart_388 (fun g7 => ?_) (fun g7 => ?_)
                  · refine x_bipush i_M_readPart_396 ?_
                    exact main _ (mk 8 _ (by omega) rfl)
                  · refine x_bipush i_M_readPart_391 ?_
                    refine x_goto i_M_readPart_393 ?_
                    exact main _ (mk 7 _ (by omega) rfl)
                · refine x_bipush i_M_readPart_380 ?_
                  refine x_goto i_M_readPart_382 ?_
                  exact main _ (mk 6 _ (by omega) rfl)
              · refine x_bipush i_M_readPart_369 ?_
                refine x_goto i_M_readPart_371 ?_
                exact main _ (mk 5 _ (by omega) rfl)
            · refine x_bipush i_M_readPart_359 ?_
              refine x_goto i_M_readPart_361 ?_
              exact main _ (mk 4 _ (by omega) rfl)
          · refine x_iconst i_M_readPart_350 ?_
            refine x_goto i_M_readPart_351 ?_
            exact main _ (mk 3 _ (by omega) rfl)
        · refine x_iconst i_M_readPart_341 ?_
          refine x_goto i_M_readPart_342 ?_
          exact main _ (mk 2 _ (by omega) rfl)
      · refine x_iconst i_M_readPart_332 ?_
        refine x_goto i_M_readPart_333 ?_
        exact main _ (mk 1 _ (by omega) rfl)
    · refine x_iconst i_M_readPart_323 ?_
      refine x_goto i_M_readPart_324 ?_
      exact main _ (mk 0 _ (by omega) rfl)
  · unfold worP at kk
    rw [hk] at kk
    refine x_istore_n (ls' := [_, _, _, _, _, _, _]) i_M_readPart_309 rfl rfl ?_
    refine x_aload_n i_M_readPart_310 rfl ?_
    refine x_getI i_M_readPart_311 rfl rfl ?_
    rw [h1.2.2.2.1]
    refine x_if_lt_f i_M_readPart_314 (by omega) ?_
    refine x_iconst i_M_readPart_317 ?_
    refine x_iret i_M_readPart_318 rfl ?_
    exact kk σ1 0 (prt_bad h1 x1.rd (by omega))
theorem c_M_readPartF {p : Nat} (hf : FI σ 1126 0 = (p : Int)) (kk : Q (some (vi 0)) σ) : wp (d + 1) m_M_readPart [vr 11 0] σ Q := by
  refine x_in (ls := [some _, none, none, none, none, none, none]) rfl rfl ?_
  refine x_aload_n i_M_readPart_0 rfl ?_
  refine x_getI i_M_readPart_1 rfl rfl ?_
  rw [hf]
  refine x_if_lt_f i_M_readPart_4 (by omega) ?_
  refine x_iconst i_M_readPart_7 ?_
  refine x_iret i_M_readPart_8 rfl ?_
  exact kk
theorem c_M_readPartS {alt : Option (RT → PR (PT n))} (hA : altHM (d + 5) t rule opn n alt) (h : MdS σ t st opn 1) (hR : FI σ 1136 0 = 1 → FI σ 1137 0 = (rule : Int)) (kk : ∀ σ' p, prtQ t st opn n (parP t rule dA alt st) σ σ' p → Q (some (vi (p : Nat))) σ') : wp (d + 6) m_M_readPart [vr 11 0] σ Q := by
  obtain ⟨b1, b2, ⟨a0, b3, b31, b32⟩, b4, b5, -⟩ := id h
  refine x_in (ls := [some _, none, none, none, none, none, none]) rfl rfl ?_
  refine x_aload_n i_M_readPart_0 rfl ?_
  refine x_getI i_M_readPart_1 rfl rfl ?_
  rw [b4]
  refine x_if_lt_t i_M_readPart_4 (by decide) ?_
  refine x_aload_n i_M_readPart_9 rfl ?_
  refine x_cv0 i_M_readPart_10 rfl rfl rfl ?_
  refine c_M_skips b1 b3 b31 (fun σ1 x1 f1 f2 f3 => ?_)
  rw [b32] at f1
  have h1 : MdS σ1 t st opn 1 := h.at_ x1 (Nat.le_refl _) ⟨st.1, f1, b2.1, b2.2.1⟩ (f2.trans b4) (f3.trans b5) (Nat.le_refl _)
  have kk : ∀ σ' p, prtQ t st opn n (parP t rule dA alt st) σ1 σ' p → Q (some (vi (p : Nat))) σ' := fun σ' p w => kk σ' p (w.pre x1)
  have hR1 : FI σ1 1136 0 = 1 → FI σ1 1137 0 = (rule : Int) := by rw [x1.rd.2.1.1, x1.rd.2.1.2]; exact hR
  unfold parP at kk
  refine x_aload_n i_M_readPart_13 rfl ?_
  refine x_getI i_M_readPart_14 rfl rfl ?_
  rw [f1]
  refine x_istore_n (ls' := [_, _, _, _, _, _, _]) i_M_readPart_17 rfl rfl ?_
  refine x_aload_n i_M_readPart_18 rfl ?_
  refine x_bipush i_M_readPart_19 ?_
  refine x_bipush i_M_readPart_21 ?_
  refine x_cv2 i_M_readPart_23 rfl rfl rfl ?_
  refine c_M_isCh h1.1 f1 b2.1 (by decide) ?_
  by_cases g1 : chT t st.1 = 39
  · rw [decide_eq_true g1]
    rw [if_pos g1] at kk
    refine x_if_eq_f i_M_readPart_26 (by decide) ?_
    exact M_rpQuote (dA := dA) (rule := rule) h1 hA.le hR1 f1 g1 kk
  · rw [decide_eq_false g1]
    rw [if_neg g1] at kk
    refine x_if_eq_t i_M_readPart_26 rfl ?_
    refine x_aload_n i_M_readPart_94 rfl ?_
    refine x_bipush i_M_readPart_95 ?_
    refine x_bipush i_M_readPart_97 ?_
    refine x_cv2 i_M_readPart_99 rfl rfl rfl ?_
    refine c_M_isCh h1.1 f1 b2.1 (by decide) ?_
    by_cases g2 : chT t st.1 = 91
    · rw [decide_eq_true g2]
      rw [if_pos g2] at kk
      refine x_if_eq_f i_M_readPart_102 (by decide) ?_
      exact M_rpRange (dA := dA) (rule := rule) h1 hA.le hR1 f1 g2 kk
    · rw [decide_eq_false g2]
      rw [if_neg g2] at kk
      refine x_if_eq_t i_M_readPart_102 rfl ?_
      refine x_aload_n i_M_readPart_176 rfl ?_
      refine x_bipush i_M_readPart_177 ?_
      refine x_bipush i_M_readPart_179 ?_
      refine x_cv2 i_M_readPart_181 rfl rfl rfl ?_
      refine c_M_isRg h1.1 f1 b2.1 (by decide) ?_
      by_cases g3 : 65 ≤ chT t st.1 ∧ chT t st.1 ≤ 72
      · rw [decide_eq_true g3]
        rw [if_neg (by omega), if_pos (show isNm (chT t st.1) = true from decide_eq_true g3)] at kk
        refine x_if_eq_f i_M_readPart_184 (by decide) ?_
        exact M_rpName (dA := dA) h1 f1 (decide_eq_true g3) kk
      · rw [decide_eq_false g3]
        refine x_if_eq_t i_M_readPart_184 rfl ?_
        refine x_aload_n i_M_readPart_250 rfl ?_
        refine x_bipush i_M_readPart_251 ?_
        refine x_bipush i_M_readPart_253 ?_
        refine x_cv2 i_M_readPart_255 rfl rfl rfl ?_
        refine c_M_isCh h1.1 f1 b2.1 (by decide) ?_
        by_cases g4 : chT t st.1 = 40
        · rw [decide_eq_true g4]
          rw [if_pos g4] at kk
          refine x_if_eq_f i_M_readPart_258 (by decide) ?_
          exact M_rpGroup (dA := dA) hA h1 hR1 kk
        · rw [decide_eq_false g4]
          have hn : ¬ isNm (chT t st.1) = true := by unfold isNm; rw [decide_eq_false g3]; decide
          rw [if_neg g4, if_neg hn] at kk
          refine x_if_eq_t i_M_readPart_258 rfl ?_
          refine x_aload_n i_M_readPart_284 rfl ?_
          refine x_bipush i_M_readPart_285 ?_
          refine x_bipush i_M_readPart_287 ?_
          refine x_cv2 i_M_readPart_289 rfl rfl rfl ?_
          refine c_M_isRg h1.1 f1 b2.1 (by decide) ?_
          by_cases g5 : 97 ≤ chT t st.1 ∧ chT t st.1 ≤ 122
          · rw [decide_eq_true g5]
            refine x_if_ne_t i_M_readPart_292 (by decide) ?_
            exact M_rpWord (dA := dA) hA h1 hR1 f1 kk
          · rw [decide_eq_false g5]
            unfold worP at kk
            rw [kdW_sm (decide_eq_false g5)] at kk
            have ho := hA.le
            refine x_if_ne_f i_M_readPart_292 rfl ?_
            refine x_aload_n i_M_readPart_295 rfl ?_
            refine x_aload_n i_M_readPart_296 rfl ?_
            refine x_getI i_M_readPart_297 rfl rfl ?_
            rw [f1]
            refine x_cv1 i_M_readPart_300 rfl rfl rfl ?_
            refine c_M_wrongS (u := 0) h1 (by decide) b2.1 (fun σ2 x2 h2 _ => ?_)
            refine x_iconst i_M_readPart_303 ?_
            refine x_iret i_M_readPart_304 rfl ?_
            exact kk σ2 0 (prt_bad h2 x2.rd (by omega))
end


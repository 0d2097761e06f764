/-! THE CLASS's Reader: newPart -/
theorem RdA.flt {σ σ' : AS} {C : Nat → Nat} {t : TP} {st : RT} {opn opn' p : Nat} {q : List Int} (h : RdA σ C t st opn q) (hx : rsX (C 0) σ σ') (hp : p ≤ t.1) (a1 : ∃ a : Nat, FI σ' 503 (C 0) = (a : Int) ∧ a ≤ t.1) (a2 : FI σ' 504 (C 0) = (opn' : Int)) (a3 : FI σ' 505 (C 0) = (p : Int)) : RdF σ' C t p opn' := by
  obtain ⟨b1, b2, b3, b4, b5, b6, b7, b8, b9⟩ := h
  exact ⟨b1.rs hx, hp, a1, a2, a3, ⟨_, b2.2.2, by rw [hx.1 _ _ (fun q => by have := q.1; omega)]; exact b6⟩, ⟨_, _, hx.row b8⟩, ⟨_, hx.row b9⟩⟩
theorem RdA.rs {σ σ' : AS} {C : Nat → Nat} {t : TP} {st st' : RT} {opn opn' : Nat} {q : List Int} (h : RdA σ C t st opn q) (hx : rsX (C 0) σ σ') (ho : okT t st') (h2 : st'.2 = st.2) (a1 : ∃ a : Nat, FI σ' 503 (C 0) = (a : Int) ∧ a ≤ t.1 ∧ sk t a = st'.1) (a2 : FI σ' 504 (C 0) = (opn' : Int)) (a3 : FI σ' 505 (C 0) = -1) : RdA σ' C t st' opn' q := by
  obtain ⟨b1, b2, b3, b4, b5, b6, b7, b8, b9⟩ := h
  unfold RdA
  rw [h2]
  exact ⟨b1.rs hx, ho, a1, a2, a3, by rw [hx.1 _ _ (fun q => by have := q.1; omega)]; exact b6, b7.rs hx, hx.row b8, hx.row b9⟩
section
variable {d : Nat} {Q : AQ} {σ : AS} {C : Nat → Nat} {t : TP} {st : RT} {opn : Nat}
theorem c_Rd_failA {q : List Int} (h : RdA σ C t st opn q) {a p : Nat} (ha : FI σ 503 (C 0) = (a : Int)) (ha2 : a ≤ t.1) (hp : p ≤ t.1) (kk : ∀ σ', rsX (C 0) σ σ' → RdF σ' C t p opn → FI σ' 503 (C 0) = (a : Int) → Q none σ') : wp (d + 1) m_Reader_fail [vr 5 (C 0), vi (p : Nat)] σ Q := by
  obtain ⟨b1, b2, b3, b4, b5, -⟩ := id h
  refine x_in (ls := [some _, some _]) rfl rfl ?_
  refine x_aload_n i_Reader_fail_0 rfl ?_
  refine x_getI i_Reader_fail_1 rfl rfl ?_
  rw [b5]
  refine x_iconst i_Reader_fail_4 ?_
  refine x_icmp_ne_f i_Reader_fail_5 rfl ?_
  refine x_aload_n i_Reader_fail_8 rfl ?_
  refine x_iload_n i_Reader_fail_9 rfl ?_
  refine x_putI i_Reader_fail_10 rfl rfl ?_
  have x := rsX_sFI (rd := C 0) (σ := σ) (f := 505) (v := (p : Int)) (by decide) (by decide)
  have e3 : FI (sFI σ 505 (C 0) (p : Int)) 503 (C 0) = (a : Int) := by rw [FI_sFI, if_neg (by omega)]; exact ha
  refine x_vret i_Reader_fail_13 rfl ?_
  exact kk _ x (h.flt x hp ⟨a, e3, ha2⟩ (by rw [FI_sFI, if_neg (by omega)]; exact b4) (by rw [FI_sFI, if_pos ⟨rfl, rfl⟩])) e3
theorem c_Rd_newPart {q : List Int} (h : RdA σ C t st opn q) (ha : FI σ 503 (C 0) = (st.1 : Int)) {rule kind : Nat} (hk : kind ≤ 12)
    (k1 : 6 < kind → ∀ σ', rdX C σ σ' → RdA σ' C t st opn q → FI σ' 503 (C 0) = (st.1 : Int) → nC σ' = nC σ + 1 → CN σ' 4 = CN σ 4 + 1 → CN σ' 8 = CN σ 8 → newP σ' (CN σ 4) kind none → Q (some (vr 4 (CN σ 4))) σ')
    (k2 : kind ≤ 6 → st.2.1.length < 32 → ∀ σ', rdX C σ σ' → RdA σ' C t (st.1, st.2.1 ++ [(rule, st.1, kind, -1, -1)], st.2.2) opn q → FI σ' 503 (C 0) = (st.1 : Int) → nC σ' = nC σ + 2 → CN σ' 4 = CN σ 4 + 1 → CN σ' 8 = CN σ 8 → CN σ' 0 = CN σ 0 + 1 → newP σ' (CN σ 4) kind (some (CN σ 0)) → AR σ' 15 (C 3) st.2.1.length = some (CN σ 0) → (∀ i, i < st.2.1.length → ∃ x, AR σ' 15 (C 3) i = some x ∧ x < CN σ 0) → FI σ' 2 (CN σ 0) = (st.2.1.length : Int) → FI σ' 3 (CN σ 0) = -1 → FI σ' 4 (CN σ 0) = -1 → Q (some (vr 4 (CN σ 4))) σ')
    (k3 : kind ≤ 6 → 32 ≤ st.2.1.length → ∀ σ', rdX C σ σ' → RdF σ' C t st.1 opn → FI σ' 503 (C 0) = (st.1 : Int) → nC σ' = nC σ + 1 → CN σ' 4 = CN σ 4 + 1 → CN σ' 8 = CN σ 8 → FR σ' 402 (CN σ 4) = none → Q (some (vr 4 (CN σ 4))) σ') : wp (d + 3) m_Reader_newPart [vr 5 (C 0), vi (kind : Nat)] σ Q := by
  have hN : RdA (nO σ 4) C t st opn q := h.newO (Or.inr (Or.inl rfl))
  have hrN : rdX C σ (nO σ 4) := (rdX.rf C σ).nO (Or.inr (Or.inl rfl))
  have e5 : ∀ f x, f / 100 = 5 → FI (nO σ 4) f x = FI σ f x := fun f x w => by rw [FI_nO, if_neg (by omega)]
  refine x_in (ls := [some _, some _, none]) rfl rfl ?_
  refine x_new i_Reader_newPart_0 ?_
  refine x_dup i_Reader_newPart_3 ?_
  refine x_iload_n i_Reader_newPart_4 rfl ?_
  refine x_ci1 i_Reader_newPart_5 rfl rfl rfl ?_
  refine c_P_init (fun σ2 x2 p2 => ?_)
  have h2 : RdA σ2 C t st opn q := hN.ob x2 (Or.inl rfl)
  have hr2 : rdX C σ σ2 := hrN.ob x2 (Nat.le_refl _)
  have a2 : FI σ2 503 (C 0) = (st.1 : Int) := by rw [(x2.1 _ _ (fun q => by omega)).1, e5 _ _ (by decide)]; exact ha
  have cn : CN σ2 = CN (nO σ 4) := x2.2.2.2.2.1
  have cn4 : CN σ2 4 = CN σ 4 + 1 := by rw [cn, CN_nO, if_pos rfl]
  have cn8 : CN σ2 8 = CN σ 8 := by rw [cn, CN_nO, if_neg (by decide)]
  have cn0 : CN σ2 0 = CN σ 0 := by rw [cn, CN_nO, if_neg (by decide)]
  have en : nC σ2 = nC σ + 1 := x2.2.2.2.2.2.1
  obtain ⟨⟨-, -, -, -, ⟨q1, q2, -⟩, -⟩, b2, -⟩ := id h2
  refine x_astore_n (ls' := [_, _, _]) i_Reader_newPart_8 rfl rfl ?_
  refine x_iload_n i_Reader_newPart_9 rfl ?_
  refine x_bipush i_Reader_newPart_10 ?_
  refine x_icmp_gt i_Reader_newPart_12 (fun g1 => ?_) (fun g1 => ?_)
  · refine x_aload_n i_Reader_newPart_46 rfl ?_
    refine x_aret (c := 4) i_Reader_newPart_47 rfl ?_
    exact k1 (by omega) σ2 hr2 h2 a2 en cn4 cn8 p2
  · refine x_aload_n i_Reader_newPart_15 rfl ?_
    refine x_aload_n i_Reader_newPart_16 rfl ?_
    refine x_getR (c2 := 1) i_Reader_newPart_17 rfl rfl (by assumption) ?_
    refine x_iload_n i_Reader_newPart_20 rfl ?_
    refine x_aload_n i_Reader_newPart_21 rfl ?_
    refine x_getI i_Reader_newPart_22 rfl rfl ?_
    rw [a2]
    refine x_cv2 i_Reader_newPart_25 rfl rfl rfl ?_
    refine c_G_addAtom (rule := rule) h2 (fun hl σ3 x3 h3 f3 same e1 e2 e3 e4 e5' e9 e6 e7 e8 => ?_) (fun hl => ?_)
    · rw [cn0] at e2 e5' e9 e6 e7 e8 ⊢
      refine x_putO (c2 := 0) i_Reader_newPart_28 rfl rfl ?_
      have x4 : obX 4 (CN σ 4) σ3 (sFR σ3 402 (CN σ 4) (some (CN σ 0))) := (obX.rf _ _ _).sFR rfl
      have h4 := h3.ob x4 (Or.inl rfl)
      have hr4 := (hr2.tr x3).ob x4 (Nat.le_refl _)
      have p4 : newP (sFR σ3 402 (CN σ 4) (some (CN σ 0))) (CN σ 4) kind (some (CN σ 0)) := by
        obtain ⟨p1, p2, p3, p4, p5, p6, p7⟩ := p2
        have s : ∀ f, 400 ≤ f → f < 500 → FI σ3 f (CN σ 4) = FI σ2 f (CN σ 4) ∧ FR σ3 f (CN σ 4) = FR σ2 f (CN σ 4) := fun f w1 w2 => same f _ w1 w2
        exact ⟨by rw [FI_sFR, (s _ (by decide) (by decide)).1]; exact p1, by rw [FI_sFR, (s _ (by decide) (by decide)).1]; exact p2, by rw [FI_sFR, (s _ (by decide) (by decide)).1]; exact p3, by rw [FR_sFR, if_pos ⟨rfl, rfl⟩], by rw [FR_sFR, if_neg (by omega), (s _ (by decide) (by decide)).2]; exact p5, by rw [FR_sFR, if_neg (by omega), (s _ (by decide) (by decide)).2]; exact p6, by rw [FR_sFR, if_neg (by omega), (s _ (by decide) (by decide)).2]; exact p7⟩
      have fin := k2 (by omega) hl _ hr4 h4 (f3.trans a2) (by show nC σ3 = _; rw [e1, en]) (by show CN σ3 4 = _; rw [e3, cn4]) (by show CN σ3 8 = _; rw [e4, cn8]) e2 p4 e5' e9 e6 e7 e8
      have e402 : FR (sFR σ3 402 (CN σ 4) (some (CN σ 0))) 402 (CN σ 4) = some (CN σ 0) := by rw [FR_sFR, if_pos ⟨rfl, rfl⟩]
      refine x_aload_n i_Reader_newPart_31 rfl ?_
      refine x_getR (c2 := 0) i_Reader_newPart_32 rfl rfl (by assumption) ?_
      refine x_ifnonnull_t i_Reader_newPart_35 (by intro w; cases w) ?_
      refine x_aload_n i_Reader_newPart_46 rfl ?_
      refine x_aret (c := 4) i_Reader_newPart_47 rfl ?_
      exact fin
    · refine x_putO (c2 := 0) i_Reader_newPart_28 rfl rfl ?_
      have x4 : obX 4 (CN σ 4) σ2 (sFR σ2 402 (CN σ 4) none) := (obX.rf _ _ _).sFR rfl
      have h4 := h2.ob x4 (Or.inl rfl)
      have hr4 := hr2.ob x4 (Nat.le_refl _)
      have e402 : FR (sFR σ2 402 (CN σ 4) none) 402 (CN σ 4) = none := by rw [FR_sFR, if_pos ⟨rfl, rfl⟩]
      have a4 : FI (sFR σ2 402 (CN σ 4) none) 503 (C 0) = (st.1 : Int) := a2
      have cn4' : CN (sFR σ2 402 (CN σ 4) none) = CN σ2 := rfl
      have en' : nC (sFR σ2 402 (CN σ 4) none) = nC σ2 := rfl
      generalize sFR σ2 402 (CN σ 4) none = σ4 at h4 hr4 e402 a4 cn4' en'
      refine x_aload_n i_Reader_newPart_31 rfl ?_
      refine x_getO (c2 := 0) i_Reader_newPart_32 rfl rfl ?_
      refine x_ifnonnull_f i_Reader_newPart_35 e402 ?_
      refine x_aload_n i_Reader_newPart_38 rfl ?_
      refine x_aload_n i_Reader_newPart_39 rfl ?_
      refine x_getI i_Reader_newPart_40 rfl rfl ?_
      rw [a4]
      refine x_cv1 i_Reader_newPart_43 rfl rfl rfl ?_
      refine c_Rd_failA h4 a4 b2.1 b2.1 (fun σ5 x5 h5 f5 => ?_)
      refine x_aload_n i_Reader_newPart_46 rfl ?_
      refine x_aret (c := 4) i_Reader_newPart_47 rfl ?_
      exact k3 (by omega) hl σ5 (hr4.tr x5.rd) h5 f5 (by rw [x5.2.2.2.2.2.2.1, en', en]) (by rw [x5.2.2.2.2.2.1, cn4', cn4]) (by rw [x5.2.2.2.2.2.1, cn4', cn8]) (by rw [x5.2.1]; exact e402)
end


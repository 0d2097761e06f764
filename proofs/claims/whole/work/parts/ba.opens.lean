/-! THE CLASS's Reader: names, opens, closes; reading when there is a fault -/
theorem fuF_none {l : List (Nat × Nat)} {r : Nat} : fuF l r = -1 ↔ l.find? (fun y => y.2 == r) = none := by
  unfold fuF
  cases l.find? (fun y => y.2 == r) with
  | none => simp
  | some y =>
    constructor
    · intro w
      have w : (y.1 : Int) = -1 := w
      omega
    · intro w; cases w
theorem fuF_snoc (l : List (Nat × Nat)) (p r j : Nat) : fuF (l ++ [(p, r)]) j = if fuF l r = -1 ∧ j = r then (p : Int) else fuF l j := by
  by_cases w : fuF l r = -1 ∧ j = r
  · obtain ⟨w1, w2⟩ := w
    subst w2
    rw [if_pos ⟨w1, rfl⟩]
    unfold fuF
    rw [List.find?_append, fuF_none.mp w1]
    simp
  · rw [if_neg w]
    unfold fuF
    rw [List.find?_append]
    cases hl : l.find? (fun y => y.2 == j) with
    | some y => rfl
    | none =>
      have hj : j ≠ r := fun e => w ⟨by rw [← e]; exact fuF_none.mpr hl, e⟩
      have : (r == j) = false := by simp; omega
      simp [this]
section
variable {d : Nat} {Q : AQ} {σ : AS} {C : Nat → Nat} {t : TP} {st : RT} {opn : Nat}
theorem c_Rd_readName {k r : Nat} {dA : PT k} (h : RdS σ C t st opn) (ha : FI σ 503 (C 0) = (st.1 : Int)) (hlt : st.1 < t.1) (hr : r < 8) (kk : ∀ σ' b, parPost C t st opn k (.inr (mkI 12 r (-1) (-1) dA dA, (sk t (st.1 + 1), st.2.1, st.2.2 ++ [(st.1, r)]))) σ σ' b → Q (some (vr 4 b)) σ') : wp (d + 4) m_Reader_readName [vr 5 (C 0), vi (r : Nat)] σ Q := by
  obtain ⟨b1, b2, b3, b4, b5, -⟩ := id h
  have ht1 := b1.2.2.2.2.2.2.2.1.1
  have hN : RdA (nO σ 4) C t st opn (litT st.2.1) := (RdS_A.mp h).newO (Or.inr (Or.inl rfl))
  have hrN : rdX C σ (nO σ 4) := (rdX.rf C σ).nO (Or.inr (Or.inl rfl))
  have e5 : ∀ f x, f / 100 = 5 → FI (nO σ 4) f x = FI σ f x := fun f x w => by rw [FI_nO, if_neg (by omega)]
  refine x_in (ls := [some _, some _, none]) rfl rfl ?_
  refine x_new i_Reader_readName_0 ?_
  refine x_dup i_Reader_readName_3 ?_
  refine x_bipush i_Reader_readName_4 ?_
  refine x_ci1 i_Reader_readName_6 rfl rfl rfl ?_
  refine c_P_init (kind := 12) (fun σ2 x2 p2 => ?_)
  have h2 : RdA σ2 C t st opn (litT st.2.1) := hN.ob x2 (Or.inl rfl)
  have hr2 : rdX C σ σ2 := hrN.ob x2 (Nat.le_refl _)
  have a2 : FI σ2 503 (C 0) = (st.1 : Int) := by rw [(x2.1 _ _ (fun q => by omega)).1, e5 _ _ (by decide)]; exact ha
  have cn : CN σ2 = CN (nO σ 4) := x2.2.2.2.2.1
  have cn4 : CN σ2 4 = CN σ 4 + 1 := by rw [cn, CN_nO, if_pos rfl]
  have en : nC σ2 = nC σ + 1 := x2.2.2.2.2.2.1
  refine x_astore_n (ls' := [_, _, _]) i_Reader_readName_9 rfl rfl ?_
  refine x_aload_n i_Reader_readName_10 rfl ?_
  refine x_iload_n i_Reader_readName_11 rfl ?_
  refine x_putI i_Reader_readName_12 rfl rfl ?_
  have x3 : obX 4 (CN σ 4) σ2 (sFI σ2 403 (CN σ 4) (r : Int)) := (obX.rf 4 (CN σ 4) σ2).sFI rfl
  have h3 := h2.ob x3 (Or.inl rfl)
  have hr3 := hr2.ob x3 (Nat.le_refl _)
  have a3 : FI (sFI σ2 403 (CN σ 4) (r : Int)) 503 (C 0) = (st.1 : Int) := by rw [FI_sFI, if_neg (by omega)]; exact a2
  have p3 : FI (sFI σ2 403 (CN σ 4) (r : Int)) 400 (CN σ 4) = 12 ∧ FI (sFI σ2 403 (CN σ 4) (r : Int)) 401 (CN σ 4) = 0 ∧ FI (sFI σ2 403 (CN σ 4) (r : Int)) 403 (CN σ 4) = (r : Int) ∧ FR (sFI σ2 403 (CN σ 4) (r : Int)) 406 (CN σ 4) = none := by
    obtain ⟨p1, p2, p3, p4, p5, p6, p7⟩ := p2
    exact ⟨by rw [FI_sFI, if_neg (by omega)]; exact p1, by rw [FI_sFI, if_neg (by omega)]; exact p2, by rw [FI_sFI, if_pos ⟨rfl, rfl⟩], p7⟩
  have c3 : CN (sFI σ2 403 (CN σ 4) (r : Int)) = CN σ2 := rfl
  have n3 : nC (sFI σ2 403 (CN σ 4) (r : Int)) = nC σ2 := rfl
  generalize sFI σ2 403 (CN σ 4) (r : Int) = σ3 at h3 hr3 a3 p3 c3 n3
  obtain ⟨⟨-, ⟨r1, r2, r3, r4, r5, r6, r7, r8, r9⟩, ⟨s1, s2, s3, s4, s5, s6, s7, s8, s9⟩, -, ⟨q1, q2, q3, -⟩, -⟩, -, -, c4, c5, c6, c7, c8, c9⟩ := id h3
  have fin : ∀ σ4, rowX (C 8) (C 9) σ3 σ4 → rowF σ4 (C 8) (C 9) 8 8 (fuF (st.2.2 ++ [(st.1, r)])) → Ex (wp (d + 3)) m_Reader_readName Q 39 [some (vr 5 (C 0)), some (vi (r : Nat)), some (vr 4 (CN σ 4))] [] σ4 := by
    intro σ4 x4 r4
    have fi : ∀ f y, f ≠ 601 → FI σ4 f y = FI σ3 f y := fun f y w => x4.1 f y (fun q => w q.1)
    refine x_aload_n i_Reader_readName_39 rfl ?_
    refine x_dup i_Reader_readName_40 ?_
    refine x_getI i_Reader_readName_41 rfl rfl ?_
    rw [fi _ _ (by decide), a3]
    refine x_iconst i_Reader_readName_44 ?_
    refine x_iadd i_Reader_readName_45 (by omega) ?_
    refine x_putI i_Reader_readName_46 rfl rfl ?_
    have x5 : rsX (C 0) σ4 (sFI σ4 503 (C 0) ((st.1 : Int) + 1)) := rsX_sFI (by decide) (by decide)
    have a5 : FI (sFI σ4 503 (C 0) ((st.1 : Int) + 1)) 503 (C 0) = ((st.1 + 1 : Nat) : Int) := by rw [FI_sFI, if_pos ⟨rfl, rfl⟩]; omega
    have g5 : FI (sFI σ4 503 (C 0) ((st.1 : Int) + 1)) 504 (C 0) = (opn : Int) ∧ FI (sFI σ4 503 (C 0) ((st.1 : Int) + 1)) 505 (C 0) = -1 := ⟨by rw [FI_sFI, if_neg (by omega), fi _ _ (by decide)]; exact c4, by rw [FI_sFI, if_neg (by omega), fi _ _ (by decide)]; exact c5⟩
    generalize sFI σ4 503 (C 0) ((st.1 : Int) + 1) = σ5 at x5 a5 g5
    have f5 : ∀ f y, f < 503 ∨ 505 < f → f ≠ 601 → FI σ5 f y = FI σ3 f y := fun f y w1 w2 => by rw [x5.1 _ _ (fun q => by have := q.1; have := q.2.1; omega), fi f y w2]
    have hr5 : rdX C σ σ5 := (hr3.tr (x4.rd (Or.inr ⟨rfl, rfl⟩))).tr x5.rd
    have := sk_ge t (st.1 + 1)
    have hS : RdS σ5 C t (sk t (st.1 + 1), st.2.1, st.2.2 ++ [(st.1, r)]) opn := by
      refine ⟨b1.rd hr5, ⟨sk_le (by omega), sk_sk _ _, b2.2.2⟩, ⟨st.1 + 1, a5, by omega, rfl⟩, g5.1, g5.2, by rw [f5 _ _ (by decide) (by decide)]; exact c6, fun i a hi => ?_, x5.row (c8.keep x4 r9 s9), x5.row r4⟩
      obtain ⟨tt, d1, d2, d3, d4, d5, d6⟩ := c7 i a hi
      exact ⟨tt, by rw [x5.2.2.2.1, x4.2.2.2.1]; exact d1, by rw [x5.2.2.2.2.2.1, x4.2.2.2.2.2.1]; exact d2, by rw [f5 _ _ (by decide) (by decide)]; exact d3, by rw [f5 _ _ (by decide) (by decide)]; exact d4, by rw [f5 _ _ (by decide) (by decide)]; exact d5, by rw [f5 _ _ (by decide) (by decide)]; exact d6⟩
    have cn5 : CN σ5 = CN σ2 := by rw [x5.2.2.2.2.2.1, x4.2.2.2.2.2.1, c3]
    have nc5 : nC σ5 = nC σ + 1 := by rw [x5.2.2.2.2.2.2.1, x4.2.2.2.2.2.2.1, n3, en]
    refine x_aload_n i_Reader_readName_49 rfl ?_
    refine x_aret (c := 4) i_Reader_readName_50 rfl ?_
    refine kk σ5 _ ⟨hr5, Nat.le_refl _, hS, ⟨by rw [cn5, cn4]; omega, ⟨⟨by rw [f5 _ _ (by decide) (by decide)]; exact p3.1, by rw [f5 _ _ (by decide) (by decide)]; exact p3.2.1, by show 12 ≤ 12; decide, Or.inl rfl, fun w => by have w : 12 ≤ 6 := w; omega, fun _ => ⟨by rw [f5 _ _ (by decide) (by decide)]; exact p3.2.2.1, hr, st.1, by show (st.1, r) ∈ st.2.2 ++ [(st.1, r)]; simp⟩, fun w => by have w : 12 = 5 ∨ 12 = 6 ∨ (8 ≤ 12 ∧ 12 ≤ 11) := w; omega, fun w => by have w : 12 = 10 := w; omega⟩, fun w => by have w : 12 ≤ 6 := w; omega, fun w => by have w : 12 ≤ 4 ∨ 12 = 7 := w; omega⟩, by rw [x5.2.1, x4.2.1]; exact p3.2.2.2⟩, by rw [nc5]; show nC σ + 1 + 1 ≤ nC σ + 4 * (sk t (st.1 + 1) - st.1); omega⟩
  refine x_aload_n i_Reader_readName_15 rfl ?_
  refine x_getR (c2 := 6) i_Reader_readName_16 rfl rfl (by assumption) ?_
  refine x_iload_n i_Reader_readName_19 rfl ?_
  refine x_cv1 i_Reader_readName_20 rfl rfl rfl ?_
  refine c_at_in c9 (j := r) rfl hr ?_
  refine x_iconst i_Reader_readName_23 ?_
  refine x_icmp_ne i_Reader_readName_24 (fun g1 => ?_) (fun g1 => ?_)
  · refine fin σ3 (rowX.rf _ _ _) (rowF.eq c9 (fun j hj => ?_))
    rw [fuF_snoc, if_neg (fun w => g1 w.1)]
  · refine x_aload_n i_Reader_readName_27 rfl ?_
    refine x_getR (c2 := 6) i_Reader_readName_28 rfl rfl (by assumption) ?_
    refine x_iload_n i_Reader_readName_31 rfl ?_
    refine x_aload_n i_Reader_readName_32 rfl ?_
    refine x_getI i_Reader_readName_33 rfl rfl ?_
    rw [a3]
    refine x_cv2 i_Reader_readName_36 rfl rfl rfl ?_
    refine c_put c9 (j := r) rfl hr (fun σ4 y4 x4 _ => ?_)
    refine fin σ4 x4 (rowF.eq y4 (fun j hj => ?_))
    rw [fuF_snoc]
    by_cases w : j = r
    · subst w
      rw [up_eq, if_pos ⟨by omega, rfl⟩]
    · rw [up_ne w, if_neg (fun q => w q.2)]
theorem c_Rd_opens (h : RdS σ C t st opn) (ho : opn ≤ 8) (kt : opn < 8 → chT t st.1 = 40 → ∀ σ', rsX (C 0) σ σ' → RdS σ' C t (sk t (st.1 + 1), st.2) (opn + 1) → Q (some (vi 1)) σ') (kf : (opn = 8 ∨ chT t st.1 ≠ 40) → ∀ σ', rsX (C 0) σ σ' → RdF σ' C t st.1 opn → Q (some (vi 0)) σ') : wp (d + 5) m_Reader_opens [vr 5 (C 0)] σ Q := by
  obtain ⟨b1, b2, b3, b4, b5, -⟩ := id h
  have no : (opn = 8 ∨ chT t st.1 ≠ 40) → ∀ σ1, rsX (C 0) σ σ1 → RdS σ1 C t st opn → Ex (wp (d + 4)) m_Reader_opens Q 18 [some (vr 5 (C 0))] [] σ1 := by
    intro w σ1 x1 h1
    refine x_aload_n i_Reader_opens_18 rfl ?_
    refine x_cv0 i_Reader_opens_19 rfl rfl rfl ?_
    refine c_Rd_aheadS h1 (fun σ2 x2 h2 f2 => ?_)
    refine x_pop i_Reader_opens_22 ?_
    refine x_aload_n i_Reader_opens_23 rfl ?_
    refine x_aload_n i_Reader_opens_24 rfl ?_
    refine x_getI i_Reader_opens_25 rfl rfl ?_
    rw [f2]
    refine x_cv1 i_Reader_opens_28 rfl rfl rfl ?_
    refine c_Rd_failS h2 f2 b2.1 b2.1 (fun σ3 x3 h3 _ => ?_)
    refine x_iconst i_Reader_opens_31 ?_
    refine x_zret i_Reader_opens_32 rfl (by omega) ?_
    exact kf w σ3 ((x1.tr x2).tr x3) h3
  refine x_in (ls := [some _]) rfl rfl ?_
  refine x_aload_n i_Reader_opens_0 rfl ?_
  refine x_getI i_Reader_opens_1 rfl rfl ?_
  rw [b4]
  refine x_bipush i_Reader_opens_4 ?_
  refine x_icmp_ge i_Reader_opens_6 (fun g1 => ?_) (fun g1 => ?_)
  · exact no (Or.inl (by omega)) σ (tX.rf _ _ _) h
  · refine x_aload_n i_Reader_opens_9 rfl ?_
    refine x_bipush i_Reader_opens_10 ?_
    refine x_cv1 i_Reader_opens_12 rfl rfl rfl ?_
    refine c_Rd_takes h (by decide) (fun w σ1 x1 h1 => ?_) (fun w σ1 x1 h1 f1 => ?_)
    · obtain ⟨c1, c2, c3, c4, c5, -⟩ := id h1
      refine x_if_ne_t i_Reader_opens_15 (by decide) ?_
      refine x_aload_n i_Reader_opens_33 rfl ?_
      refine x_dup i_Reader_opens_34 ?_
      refine x_getI i_Reader_opens_35 rfl rfl ?_
      rw [c4]
      refine x_iconst i_Reader_opens_38 ?_
      refine x_iadd i_Reader_opens_39 (by omega) ?_
      refine x_putI i_Reader_opens_40 rfl rfl ?_
      refine x_iconst i_Reader_opens_43 ?_
      have x2 := rsX_sFI (rd := C 0) (σ := σ1) (f := 504) (v := (opn : Int) + 1) (by decide) (by decide)
      obtain ⟨a, c31, c32⟩ := c3
      refine x_zret i_Reader_opens_44 rfl (by omega) ?_
      exact kt (by omega) w _ (x1.tr x2) (h1.rs x2 c2 rfl ⟨a, by rw [FI_sFI, if_neg (by omega)]; exact c31, c32⟩ (by rw [FI_sFI, if_pos ⟨rfl, rfl⟩]; omega) (by rw [FI_sFI, if_neg (by omega)]; exact c5))
    · refine x_if_ne_f i_Reader_opens_15 rfl ?_
      exact no (Or.inr w) σ1 x1 h1
theorem c_Rd_opensF {p : Nat} (h : RdF σ C t p opn) (ho : opn ≤ 8) (kk : ∀ σ', rsX (C 0) σ σ' → RdF σ' C t p opn → Q (some (vi 0)) σ') : wp (d + 5) m_Reader_opens [vr 5 (C 0)] σ Q := by
  obtain ⟨b1, b2, ⟨a, b3, b31⟩, b4, b5, -⟩ := id h
  have no : Ex (wp (d + 4)) m_Reader_opens Q 18 [some (vr 5 (C 0))] [] σ := by
    refine x_aload_n i_Reader_opens_18 rfl ?_
    refine x_cv0 i_Reader_opens_19 rfl rfl rfl ?_
    refine c_Rd_ahead b1 b3 b31 (fun σ2 x2 f2 f3 f4 => ?_)
    have h2 := h.rs x2 ⟨sk t a, f2, sk_le b31⟩ (f3.trans b4) (f4.trans b5)
    refine x_pop i_Reader_opens_22 ?_
    refine x_aload_n i_Reader_opens_23 rfl ?_
    refine x_aload_n i_Reader_opens_24 rfl ?_
    refine x_getI i_Reader_opens_25 rfl rfl ?_
    refine x_cv1 i_Reader_opens_28 rfl rfl rfl ?_
    refine c_Rd_failF h2.2.2.2.2.1 ?_
    refine x_iconst i_Reader_opens_31 ?_
    refine x_zret i_Reader_opens_32 rfl (by omega) ?_
    exact kk σ2 x2 h2
  refine x_in (ls := [some _]) rfl rfl ?_
  refine x_aload_n i_Reader_opens_0 rfl ?_
  refine x_getI i_Reader_opens_1 rfl rfl ?_
  rw [b4]
  refine x_bipush i_Reader_opens_4 ?_
  refine x_icmp_ge i_Reader_opens_6 (fun g1 => ?_) (fun g1 => ?_)
  · exact no
  · refine x_aload_n i_Reader_opens_9 rfl ?_
    refine x_bipush i_Reader_opens_10 ?_
    refine x_cv1 i_Reader_opens_12 rfl rfl rfl ?_
    refine c_Rd_takesF b5 ?_
    refine x_if_ne_f i_Reader_opens_15 rfl ?_
    exact no
theorem c_Rd_closesFB {p b : Nat} (h : RdF σ C t p (opn + 1)) (ho : opn ≤ 8) (kk : ∀ σ', rsX (C 0) σ σ' → RdF σ' C t p opn → Q none σ') : Ex (wp (d + 6)) m_Reader_readBody Q 15 [some (vr 5 (C 0)), some (vr 4 b)] [] σ := by
  obtain ⟨b1, b2, ⟨a, b3, b31⟩, b4, b5, -⟩ := id h
  refine x_aload_n i_Reader_readBody_15 rfl ?_
  refine x_bipush i_Reader_readBody_16 ?_
  refine x_cv1 i_Reader_readBody_18 rfl rfl rfl ?_
  refine c_Rd_mustF b5 ?_
  refine x_aload_n i_Reader_readBody_21 rfl ?_
  refine x_dup i_Reader_readBody_22 ?_
  refine x_getI i_Reader_readBody_23 rfl rfl ?_
  rw [b4]
  refine x_iconst i_Reader_readBody_26 ?_
  refine x_isub i_Reader_readBody_27 (by omega) ?_
  refine x_putI i_Reader_readBody_28 rfl rfl ?_
  have x2 := rsX_sFI (rd := C 0) (σ := σ) (f := 504) (v := ((opn + 1 : Nat) : Int) - 1) (by decide) (by decide)
  refine x_vret i_Reader_readBody_31 rfl ?_
  exact kk _ x2 (h.rs x2 ⟨a, by rw [FI_sFI, if_neg (by omega)]; exact b3, b31⟩ (by rw [FI_sFI, if_pos ⟨rfl, rfl⟩]; omega) (by rw [FI_sFI, if_neg (by omega)]; exact b5))
theorem c_Rd_closesB {b : Nat} (h : RdS σ C t st (opn + 1)) (ho : opn ≤ 8) (kt : chT t st.1 = 41 → ∀ σ', rsX (C 0) σ σ' → RdS σ' C t (sk t (st.1 + 1), st.2) opn → Q none σ') (kf : chT t st.1 ≠ 41 → ∀ σ', rsX (C 0) σ σ' → RdF σ' C t st.1 opn → Q none σ') : Ex (wp (d + 6)) m_Reader_readBody Q 15 [some (vr 5 (C 0)), some (vr 4 b)] [] σ := by
  refine x_aload_n i_Reader_readBody_15 rfl ?_
  refine x_bipush i_Reader_readBody_16 ?_
  refine x_cv1 i_Reader_readBody_18 rfl rfl rfl ?_
  refine c_Rd_must h (by decide) (fun w σ1 x1 h1 => ?_) (fun w σ1 x1 h1 => ?_)
  · obtain ⟨c1, c2, ⟨a, c31, c32⟩, c4, c5, -⟩ := id h1
    refine x_aload_n i_Reader_readBody_21 rfl ?_
    refine x_dup i_Reader_readBody_22 ?_
    refine x_getI i_Reader_readBody_23 rfl rfl ?_
    rw [c4]
    refine x_iconst i_Reader_readBody_26 ?_
    refine x_isub i_Reader_readBody_27 (by omega) ?_
    refine x_putI i_Reader_readBody_28 rfl rfl ?_
    have x2 := rsX_sFI (rd := C 0) (σ := σ1) (f := 504) (v := ((opn + 1 : Nat) : Int) - 1) (by decide) (by decide)
    refine x_vret i_Reader_readBody_31 rfl ?_
    exact kt w _ (x1.tr x2) (h1.rs x2 c2 rfl ⟨a, by rw [FI_sFI, if_neg (by omega)]; exact c31, c32⟩ (by rw [FI_sFI, if_pos ⟨rfl, rfl⟩]; omega) (by rw [FI_sFI, if_neg (by omega)]; exact c5))
  · obtain ⟨b1, b2, ⟨a, b3, b31⟩, b4, b5, -⟩ := id h1
    refine x_aload_n i_Reader_readBody_21 rfl ?_
    refine x_dup i_Reader_readBody_22 ?_
    refine x_getI i_Reader_readBody_23 rfl rfl ?_
    rw [b4]
    refine x_iconst i_Reader_readBody_26 ?_
    refine x_isub i_Reader_readBody_27 (by omega) ?_
    refine x_putI i_Reader_readBody_28 rfl rfl ?_
    have x2 := rsX_sFI (rd := C 0) (σ := σ1) (f := 504) (v := ((opn + 1 : Nat) : Int) - 1) (by decide) (by decide)
    refine x_vret i_Reader_readBody_31 rfl ?_
    exact kf w _ (x1.tr x2) (h1.rs x2 ⟨a, by rw [FI_sFI, if_neg (by omega)]; exact b3, b31⟩ (by rw [FI_sFI, if_pos ⟨rfl, rfl⟩]; omega) (by rw [FI_sFI, if_neg (by omega)]; exact b5))
theorem c_Rd_closesFC {p b : Nat} (h : RdF σ C t p (opn + 1)) (ho : opn ≤ 8) (kk : ∀ σ', rsX (C 0) σ σ' → RdF σ' C t p opn → Q none σ') : Ex (wp (d + 6)) m_Reader_readChain Q 29 [some (vr 5 (C 0)), some (vr 4 b)] [] σ := by
  obtain ⟨b1, b2, ⟨a, b3, b31⟩, b4, b5, -⟩ := id h
  refine x_aload_n i_Reader_readChain_29 rfl ?_
  refine x_bipush i_Reader_readChain_30 ?_
  refine x_cv1 i_Reader_readChain_32 rfl rfl rfl ?_
  refine c_Rd_mustF b5 ?_
  refine x_aload_n i_Reader_readChain_35 rfl ?_
  refine x_dup i_Reader_readChain_36 ?_
  refine x_getI i_Reader_readChain_37 rfl rfl ?_
  rw [b4]
  refine x_iconst i_Reader_readChain_40 ?_
  refine x_isub i_Reader_readChain_41 (by omega) ?_
  refine x_putI i_Reader_readChain_42 rfl rfl ?_
  have x2 := rsX_sFI (rd := C 0) (σ := σ) (f := 504) (v := ((opn + 1 : Nat) : Int) - 1) (by decide) (by decide)
  refine x_vret i_Reader_readChain_45 rfl ?_
  exact kk _ x2 (h.rs x2 ⟨a, by rw [FI_sFI, if_neg (by omega)]; exact b3, b31⟩ (by rw [FI_sFI, if_pos ⟨rfl, rfl⟩]; omega) (by rw [FI_sFI, if_neg (by omega)]; exact b5))
theorem c_Rd_closesC {b : Nat} (h : RdS σ C t st (opn + 1)) (ho : opn ≤ 8) (kt : chT t st.1 = 41 → ∀ σ', rsX (C 0) σ σ' → RdS σ' C t (sk t (st.1 + 1), st.2) opn → Q none σ') (kf : chT t st.1 ≠ 41 → ∀ σ', rsX (C 0) σ σ' → RdF σ' C t st.1 opn → Q none σ') : Ex (wp (d + 6)) m_Reader_readChain Q 29 [some (vr 5 (C 0)), some (vr 4 b)] [] σ := by
  refine x_aload_n i_Reader_readChain_29 rfl ?_
  refine x_bipush i_Reader_readChain_30 ?_
  refine x_cv1 i_Reader_readChain_32 rfl rfl rfl ?_
  refine c_Rd_must h (by decide) (fun w σ1 x1 h1 => ?_) (fun w σ1 x1 h1 => ?_)
  · obtain ⟨c1, c2, ⟨a, c31, c32⟩, c4, c5, -⟩ := id h1
    refine x_aload_n i_Reader_readChain_35 rfl ?_
    refine x_dup i_Reader_readChain_36 ?_
    refine x_getI i_Reader_readChain_37 rfl rfl ?_
    rw [c4]
    refine x_iconst i_Reader_readChain_40 ?_
    refine x_isub i_Reader_readChain_41 (by omega) ?_
    refine x_putI i_Reader_readChain_42 rfl rfl ?_
    have x2 := rsX_sFI (rd := C 0) (σ := σ1) (f := 504) (v := ((opn + 1 : Nat) : Int) - 1) (by decide) (by decide)
    refine x_vret i_Reader_readChain_45 rfl ?_
    exact kt w _ (x1.tr x2) (h1.rs x2 c2 rfl ⟨a, by rw [FI_sFI, if_neg (by omega)]; exact c31, c32⟩ (by rw [FI_sFI, if_pos ⟨rfl, rfl⟩]; omega) (by rw [FI_sFI, if_neg (by omega)]; exact c5))
  · obtain ⟨b1, b2, ⟨a, b3, b31⟩, b4, b5, -⟩ := id h1
    refine x_aload_n i_Reader_readChain_35 rfl ?_
    refine x_dup i_Reader_readChain_36 ?_
    refine x_getI i_Reader_readChain_37 rfl rfl ?_
    rw [b4]
    refine x_iconst i_Reader_readChain_40 ?_
    refine x_isub i_Reader_readChain_41 (by omega) ?_
    refine x_putI i_Reader_readChain_42 rfl rfl ?_
    have x2 := rsX_sFI (rd := C 0) (σ := σ1) (f := 504) (v := ((opn + 1 : Nat) : Int) - 1) (by decide) (by decide)
    refine x_vret i_Reader_readChain_45 rfl ?_
    exact kf w _ (x1.tr x2) (h1.rs x2 ⟨a, by rw [FI_sFI, if_neg (by omega)]; exact b3, b31⟩ (by rw [FI_sFI, if_pos ⟨rfl, rfl⟩]; omega) (by rw [FI_sFI, if_neg (by omega)]; exact b5))
/-- an ALT, when there is a fault -/
theorem c_Rd_altF {p : Nat} (h : RdF σ C t p opn) (kk : ∀ σ' s, rdX C σ σ' → CN σ 8 ≤ s → RdF σ' C t p opn → nC σ' = nC σ + 1 → Q (some (vr 8 s)) σ') : wp (d + 5) m_Reader_readAlt [vr 5 (C 0)] σ Q := by
  have hN : RdF (nO σ 8) C t p opn := h.newO (Or.inr (Or.inr rfl))
  have hrN : rdX C σ (nO σ 8) := (rdX.rf C σ).nO (Or.inr (Or.inr rfl))
  have seq : ∀ (Q : AQ), (∀ σ' s, rdX C σ σ' → CN σ 8 ≤ s → RdF σ' C t p opn → nC σ' = nC σ + 1 → Q (some (vr 8 s)) σ') → wp (d + 4) m_Reader_readSeq [vr 5 (C 0)] σ Q := by
    intro Q kk
    refine x_in (ls := [some _, none, none, none, none]) rfl rfl ?_
    refine x_new i_Reader_readSeq_0 ?_
    refine x_dup i_Reader_readSeq_3 ?_
    refine x_ci0 i_Reader_readSeq_4 rfl rfl rfl ?_
    refine c_S_init (fun σ2 x2 _ _ => ?_)
    have h2 : RdF σ2 C t p opn := hN.ob x2 (Or.inr (Or.inr rfl))
    have hr2 : rdX C σ σ2 := hrN.ob x2 (Nat.le_refl _)
    have it : wp (d + 3) m_Reader_readItem [vr 5 (C 0)] σ2 (fun r u => r = some (vn 4) ∧ u = σ2) := by
      refine x_in (ls := [some _, none]) rfl rfl ?_
      refine x_aload_n i_Reader_readItem_0 rfl ?_
      refine x_cv0 i_Reader_readItem_1 rfl rfl rfl ?_
      refine c_Rd_partAheadF h2.2.2.2.2.1 ?_
      refine x_if_ne_f i_Reader_readItem_4 rfl ?_
      refine x_aload_n i_Reader_readItem_7 rfl ?_
      refine x_aload_n i_Reader_readItem_8 rfl ?_
      refine x_getI i_Reader_readItem_9 rfl rfl ?_
      refine x_cv1 i_Reader_readItem_12 rfl rfl rfl ?_
      refine c_Rd_failF h2.2.2.2.2.1 ?_
      refine x_null i_Reader_readItem_15 ?_
      refine x_aretN (c := 4) i_Reader_readItem_16 rfl ?_
      exact ⟨rfl, rfl⟩
    refine x_astore_n (ls' := [_, _, _, _, _]) i_Reader_readSeq_7 rfl rfl ?_
    refine x_aload_n i_Reader_readSeq_8 rfl ?_
    refine x_aload_n i_Reader_readSeq_9 rfl ?_
    refine x_cv0 i_Reader_readSeq_10 rfl rfl rfl ?_
    refine it.mono ?_
    rintro r u ⟨rfl, rfl⟩
    refine x_putO (c2 := 4) i_Reader_readSeq_13 rfl rfl ?_
    have x3 : obX 8 (CN σ 8) u (sFR u 800 (CN σ 8) none) := (obX.rf 8 (CN σ 8) u).sFR rfl
    have h3 := h2.ob x3 (Or.inr (Or.inr rfl))
    have hr3 := hr2.ob x3 (Nat.le_refl _)
    have e3 : FR (sFR u 800 (CN σ 8) none) 800 (CN σ 8) = none := by rw [FR_sFR, if_pos ⟨rfl, rfl⟩]
    have n3 : nC (sFR u 800 (CN σ 8) none) = nC u := rfl
    generalize sFR u 800 (CN σ 8) none = σ3 at h3 hr3 e3 n3
    refine x_aload_n i_Reader_readSeq_16 rfl ?_
    refine x_getO (c2 := 4) i_Reader_readSeq_17 rfl rfl ?_
    rw [e3]
    refine x_astore_n (ls' := [_, _, _, _, _]) i_Reader_readSeq_20 rfl rfl ?_
    refine x_iconst i_Reader_readSeq_21 ?_
    refine x_istore_n (ls' := [_, _, _, _, _]) i_Reader_readSeq_22 rfl rfl ?_
    refine x_iload_n i_Reader_readSeq_23 rfl ?_
    refine x_sipush i_Reader_readSeq_24 ?_
    refine x_icmp_ge_f i_Reader_readSeq_27 (by decide) ?_
    refine x_aload_n i_Reader_readSeq_30 rfl ?_
    refine x_ifnull_t i_Reader_readSeq_31 rfl ?_
    refine x_aload_n i_Reader_readSeq_62 rfl ?_
    refine x_aret (c := 8) i_Reader_readSeq_63 rfl ?_
    exact kk σ3 (CN σ 8) hr3 (Nat.le_refl _) h3 (by rw [n3]; exact x2.2.2.2.2.2.1)
  refine x_in (ls := [some _, none, none, none, none]) rfl rfl ?_
  refine x_aload_n i_Reader_readAlt_0 rfl ?_
  refine x_cv0 i_Reader_readAlt_1 rfl rfl rfl ?_
  refine seq _ (fun σ1 s hr1 hs h1 n1 => ?_)
  refine x_astore_n (ls' := [_, _, _, _, _]) i_Reader_readAlt_4 rfl rfl ?_
  refine x_aload_n i_Reader_readAlt_5 rfl ?_
  refine x_astore_n (ls' := [_, _, _, _, _]) i_Reader_readAlt_6 rfl rfl ?_
  refine x_iconst i_Reader_readAlt_7 ?_
  refine x_istore_n (ls' := [_, _, _, _, _]) i_Reader_readAlt_8 rfl rfl ?_
  refine x_iload_n i_Reader_readAlt_9 rfl ?_
  refine x_sipush i_Reader_readAlt_10 ?_
  refine x_icmp_ge_f i_Reader_readAlt_13 (by decide) ?_
  refine x_aload_n i_Reader_readAlt_16 rfl ?_
  refine x_bipush i_Reader_readAlt_17 ?_
  refine x_cv1 i_Reader_readAlt_19 rfl rfl rfl ?_
  refine c_Rd_takesF h1.2.2.2.2.1 ?_
  refine x_if_eq_t i_Reader_readAlt_22 rfl ?_
  refine x_aload_n i_Reader_readAlt_46 rfl ?_
  refine x_aret (c := 8) i_Reader_readAlt_47 rfl ?_
  exact kk σ1 s hr1 hs h1 n1
end


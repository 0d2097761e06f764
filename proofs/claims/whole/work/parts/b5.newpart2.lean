/-! THE CLASS's Reader: new parts, atoms -/
/-- only the fields of object a of class c -/
def obX (c a : Nat) (σ σ' : AS) : Prop := (∀ f x, ¬ (f / 100 = c ∧ x = a) → FI σ' f x = FI σ f x ∧ FR σ' f x = FR σ f x) ∧ AI σ' = AI σ ∧ AR σ' = AR σ ∧ LN σ' = LN σ ∧ CN σ' = CN σ ∧ nC σ' = nC σ ∧ nS σ' = nS σ
theorem obX.rf (c a : Nat) (σ : AS) : obX c a σ σ := ⟨fun _ _ _ => ⟨rfl, rfl⟩, rfl, rfl, rfl, rfl, rfl, rfl⟩
theorem obX.sFI {c a : Nat} {σ σ' : AS} (h : obX c a σ σ') {f : Nat} {v : Int} (w : f / 100 = c) : obX c a σ (sFI σ' f a v) := ⟨fun g x q => ⟨by rw [FI_sFI, if_neg (fun u => q ⟨by rw [u.1]; exact w, u.2⟩)]; exact (h.1 g x q).1, (h.1 g x q).2⟩, h.2⟩
theorem obX.sFR {c a : Nat} {σ σ' : AS} (h : obX c a σ σ') {f : Nat} {v : Option Nat} (w : f / 100 = c) : obX c a σ (sFR σ' f a v) := ⟨fun g x q => ⟨(h.1 g x q).1, by rw [FR_sFR, if_neg (fun u => q ⟨by rw [u.1]; exact w, u.2⟩)]; exact (h.1 g x q).2⟩, h.2⟩
theorem rdX.ob {C : Nat → Nat} {σ0 σ σ' : AS} {c a : Nat} (h : rdX C σ0 σ) (hx : obX c a σ σ') (ha : CN σ0 c ≤ a) : rdX C σ0 σ' := by
  obtain ⟨h1, h2, h3, h4, h5, h6, h7, h8, h9⟩ := h
  obtain ⟨b1, b2, b3, b4, b5, b6, b7⟩ := hx
  have ne : ∀ f x, x < CN σ0 (f / 100) → ¬ (f / 100 = c ∧ x = a) := fun f x w q => by rw [q.1, q.2] at w; omega
  exact ⟨fun f x w w1 w2 w3 => by rw [(b1 f x (ne f x w)).1]; exact h1 f x w w1 w2 w3, fun f x w => by rw [(b1 f x (ne f x w)).2]; exact h2 f x w, by rw [b2]; exact h3, by rw [b3]; exact h4, by rw [b4]; exact h5, by rw [b5]; exact h6, by rw [b5]; exact h7, by rw [b6]; exact h8, by rw [b6, b7]; exact h9⟩
theorem obX.row {c a : Nat} {σ σ' : AS} (hx : obX c a σ σ') (hc : c ≠ 6) {r k cap n : Nat} {f : Nat → Int} (h : rowF σ r k cap n f) : rowF σ' r k cap n f := by
  obtain ⟨b1, b2, b3, b4, b5, b6, b7⟩ := hx
  exact ⟨by rw [(b1 600 r (fun q => by omega)).2]; exact h.1, by rw [(b1 601 r (fun q => by omega)).1]; exact h.2.1, by rw [b4]; exact h.2.2.1, h.2.2.2.1, h.2.2.2.2.1, by rw [b2]; exact h.2.2.2.2.2⟩
theorem nO_row {σ : AS} {c : Nat} (hc : c ≠ 6) {r k cap n : Nat} {f : Nat → Int} (h : rowF σ r k cap n f) : rowF (nO σ c) r k cap n f := ⟨by rw [FR_nO, if_neg (by omega)]; exact h.1, by rw [FI_nO, if_neg (by omega)]; exact h.2.1, h.2.2⟩
theorem RdA.newO {σ : AS} {C : Nat → Nat} {t : TP} {st : RT} {opn : Nat} {q : List Int} (h : RdA σ C t st opn q) {c : Nat} (hc : c = 0 ∨ c = 4 ∨ c = 8) : RdA (nO σ c) C t st opn q := by
  obtain ⟨b1, b2, ⟨a, b3, b31, b32⟩, b4, b5, b6, b7, b8, b9⟩ := h
  have hx : rdX C σ (nO σ c) := (rdX.rf C σ).nO hc
  have fi : ∀ f x, (f / 100 = 5 ∨ f / 100 = 1) → FI (nO σ c) f x = FI σ f x := fun f x w => by rw [FI_nO, if_neg (by omega)]
  refine ⟨b1.rd hx, b2, ⟨a, by rw [fi _ _ (by decide)]; exact b3, b31, b32⟩, by rw [fi _ _ (by decide)]; exact b4, by rw [fi _ _ (by decide)]; exact b5, by rw [fi _ _ (by decide)]; exact b6, fun i x hi => ?_, nO_row (by omega) b8, nO_row (by omega) b9⟩
  obtain ⟨tt, c1, c2, c3, c4, c5, c6⟩ := b7 i x hi
  have ft : ∀ f, f < 100 → FI (nO σ c) f tt = FI σ f tt := fun f w => by rw [FI_nO, if_neg (fun q => by rw [show f / 100 = 0 by omega] at q; rw [← q.1] at q; omega)]
  exact ⟨tt, c1, Nat.lt_of_lt_of_le c2 (hx.2.2.2.2.2.1 0), by rw [ft _ (by decide)]; exact c3, by rw [ft _ (by decide)]; exact c4, by rw [ft _ (by decide)]; exact c5, by rw [ft _ (by decide)]; exact c6⟩
theorem RdA.ob {σ σ' : AS} {C : Nat → Nat} {t : TP} {st : RT} {opn : Nat} {q : List Int} (h : RdA σ C t st opn q) {c a : Nat} (hx : obX c a σ σ') (hc : c = 4 ∨ c = 8) : RdA σ' C t st opn q := by
  obtain ⟨b1, b2, ⟨x, b3, b31, b32⟩, b4, b5, b6, b7, b8, b9⟩ := h
  obtain ⟨x1, x2, x3, x4, x5, x6, x7⟩ := id hx
  have fi : ∀ f y, f / 100 ≠ c → FI σ' f y = FI σ f y := fun f y w => (x1 f y (fun q => w q.1)).1
  have fr : ∀ f y, f / 100 ≠ c → FR σ' f y = FR σ f y := fun f y w => (x1 f y (fun q => w q.1)).2
  have c6 : c ≠ 6 := by omega
  obtain ⟨h1, h2, h3, h4, ⟨q1, q2, q3, q4, q5, q6, q7⟩, l1, l2, t2, t3⟩ := b1
  refine ⟨⟨by rw [x5]; exact h1, by rw [x5]; exact h2, by rw [x5]; exact h3, h4, ⟨by rw [fr _ _ (by omega)]; exact q1, by rw [fr _ _ (by omega)]; exact q2, by rw [fr _ _ (by omega)]; exact q3, by rw [fr _ _ (by omega)]; exact q4, by rw [fr _ _ (by omega)]; exact q5, by rw [fr _ _ (by omega)]; exact q6, by rw [fr _ _ (by omega)]; exact q7⟩, by rw [x4]; exact l1, by rw [x4]; exact l2, t2, hx.row c6 t3⟩, b2, ⟨x, by rw [fi _ _ (by omega)]; exact b3, b31, b32⟩, by rw [fi _ _ (by omega)]; exact b4, by rw [fi _ _ (by omega)]; exact b5, by rw [fi _ _ (by omega)]; exact b6, fun i y hi => ?_, hx.row c6 b8, hx.row c6 b9⟩
  obtain ⟨tt, c1, c2, c3, c4, c5, c6⟩ := b7 i y hi
  exact ⟨tt, by rw [x3]; exact c1, by rw [x5]; exact c2, by rw [fi _ _ (by omega)]; exact c3, by rw [fi _ _ (by omega)]; exact c4, by rw [fi _ _ (by omega)]; exact c5, by rw [fi _ _ (by omega)]; exact c6⟩
section
variable {d : Nat} {Q : AQ} {σ : AS} {C : Nat → Nat} {t : TP} {st : RT} {opn : Nat}
theorem c_P_init {a kind : Nat} (kk : ∀ σ', obX 4 a σ σ' → newP σ' a kind none → Q none σ') : wp (d + 1) m_Part_init [vr 4 a, vi (kind : Nat)] σ Q := by
  refine x_in (ls := [some _, some _]) rfl rfl ?_
  refine x_aload_n i_Part_init_0 rfl ?_
  refine x_objInit i_Part_init_1 rfl ?_
  refine x_aload_n i_Part_init_4 rfl ?_
  refine x_iconst i_Part_init_5 ?_
  refine x_putI i_Part_init_6 rfl rfl ?_
  refine x_aload_n i_Part_init_9 rfl ?_
  refine x_null i_Part_init_10 ?_
  refine x_putO (c2 := 0) i_Part_init_11 rfl rfl ?_
  refine x_aload_n i_Part_init_14 rfl ?_
  refine x_iconst i_Part_init_15 ?_
  refine x_putI i_Part_init_16 rfl rfl ?_
  refine x_aload_n i_Part_init_19 rfl ?_
  refine x_null i_Part_init_20 ?_
  refine x_putN (c3 := 8) i_Part_init_21 rfl rfl ?_
  refine x_aload_n i_Part_init_24 rfl ?_
  refine x_null i_Part_init_25 ?_
  refine x_putN (c3 := 8) i_Part_init_26 rfl rfl ?_
  refine x_aload_n i_Part_init_29 rfl ?_
  refine x_null i_Part_init_30 ?_
  refine x_putN (c3 := 4) i_Part_init_31 rfl rfl ?_
  refine x_aload_n i_Part_init_34 rfl ?_
  refine x_iload_n i_Part_init_35 rfl ?_
  refine x_putI i_Part_init_36 rfl rfl ?_
  refine x_vret i_Part_init_39 rfl ?_
  exact kk _ (((((((((obX.rf 4 a σ).sFI rfl).sFR rfl).sFI rfl).sFR rfl).sFR rfl).sFR rfl).sFI rfl)) ⟨by simp [FI_sFI], by simp [FI_sFI, FI_sFR], by simp [FI_sFI, FI_sFR], by simp [FR_sFI, FR_sFR], by simp [FR_sFI, FR_sFR], by simp [FR_sFI, FR_sFR], by simp [FR_sFI, FR_sFR]⟩
theorem c_S_init {a : Nat} (kk : ∀ σ', obX 8 a σ σ' → FR σ' 800 a = none → FR σ' 801 a = none → Q none σ') : wp (d + 1) m_Seq_init [vr 8 a] σ Q := by
  refine x_in (ls := [some _]) rfl rfl ?_
  refine x_aload_n i_Seq_init_0 rfl ?_
  refine x_objInit i_Seq_init_1 rfl ?_
  refine x_aload_n i_Seq_init_4 rfl ?_
  refine x_null i_Seq_init_5 ?_
  refine x_putN (c3 := 4) i_Seq_init_6 rfl rfl ?_
  refine x_aload_n i_Seq_init_9 rfl ?_
  refine x_null i_Seq_init_10 ?_
  refine x_putN (c3 := 8) i_Seq_init_11 rfl rfl ?_
  refine x_vret i_Seq_init_14 rfl ?_
  exact kk _ (((obX.rf 8 a σ).sFR rfl).sFR rfl) (by simp [FR_sFR]) (by simp [FR_sFR])
theorem c_A_init {a kind place num : Nat} (kk : ∀ σ', obX 0 a σ σ' → FI σ' 0 a = (kind : Int) → FI σ' 1 a = (place : Int) → FI σ' 2 a = (num : Int) → FI σ' 3 a = -1 → FI σ' 4 a = -1 → Q none σ') : wp (d + 1) m_Atom_init [vr 0 a, vi (kind : Nat), vi (place : Nat), vi (num : Nat)] σ Q := by
  refine x_in (ls := [some _, some _, some _, some _]) rfl rfl ?_
  refine x_aload_n i_Atom_init_0 rfl ?_
  refine x_objInit i_Atom_init_1 rfl ?_
  refine x_aload_n i_Atom_init_4 rfl ?_
  refine x_iconst i_Atom_init_5 ?_
  refine x_putI i_Atom_init_6 rfl rfl ?_
  refine x_aload_n i_Atom_init_9 rfl ?_
  refine x_iconst i_Atom_init_10 ?_
  refine x_putI i_Atom_init_11 rfl rfl ?_
  refine x_aload_n i_Atom_init_14 rfl ?_
  refine x_iload_n i_Atom_init_15 rfl ?_
  refine x_putI i_Atom_init_16 rfl rfl ?_
  refine x_aload_n i_Atom_init_19 rfl ?_
  refine x_iload_n i_Atom_init_20 rfl ?_
  refine x_putI i_Atom_init_21 rfl rfl ?_
  refine x_aload_n i_Atom_init_24 rfl ?_
  refine x_iload_n i_Atom_init_25 rfl ?_
  refine x_putI i_Atom_init_26 rfl rfl ?_
  refine x_vret i_Atom_init_29 rfl ?_
  exact kk _ ((((((obX.rf 0 a σ).sFI rfl).sFI rfl).sFI rfl).sFI rfl).sFI rfl) (by simp [FI_sFI]) (by simp [FI_sFI]) (by simp [FI_sFI]) (by simp [FI_sFI]) (by simp [FI_sFI])
theorem c_G_addAtom {q : List Int} (h : RdA σ C t st opn q) {rule kind place : Nat} (k1 : st.2.1.length < 32 → ∀ σ', rdX C σ σ' → RdA σ' C t (st.1, st.2.1 ++ [(rule, place, kind, -1, -1)], st.2.2) opn q → FI σ' 503 (C 0) = FI σ 503 (C 0) → (∀ f x, 400 ≤ f → f < 500 → FI σ' f x = FI σ f x ∧ FR σ' f x = FR σ f x) → nC σ' = nC σ + 1 → CN σ' 0 = CN σ 0 + 1 → CN σ' 4 = CN σ 4 → CN σ' 8 = CN σ 8 → AR σ' 15 (C 3) st.2.1.length = some (CN σ 0) → (∀ i, i < st.2.1.length → ∃ x, AR σ' 15 (C 3) i = some x ∧ x < CN σ 0) → FI σ' 2 (CN σ 0) = (st.2.1.length : Int) → FI σ' 3 (CN σ 0) = -1 → FI σ' 4 (CN σ 0) = -1 → Q (some (vr 0 (CN σ 0))) σ') (k2 : 32 ≤ st.2.1.length → Q (some (vn 0)) σ) : wp (d + 2) m_Grammar_addAtom [vr 1 (C 1), vi (kind : Nat), vi (place : Nat)] σ Q := by
  obtain ⟨b1, b2, ⟨x, b3, b31, b32⟩, b4, b5, b6, b7, b8, b9⟩ := id h
  obtain ⟨⟨h1, h2, h3, h4⟩, -, -, -, ⟨q1, q2, q3, q4, q5, q6, q7⟩, l1, l2, t2, t3⟩ := id b1
  have hlen := b2.2.2
  refine x_in (ls := [some _, some _, some _, none]) rfl rfl ?_
  refine x_aload_n i_Grammar_addAtom_0 rfl ?_
  refine x_getI i_Grammar_addAtom_1 rfl rfl ?_
  rw [b6]
  refine x_if_lt_f i_Grammar_addAtom_4 (by omega) ?_
  refine x_aload_n i_Grammar_addAtom_7 rfl ?_
  refine x_getI i_Grammar_addAtom_8 rfl rfl ?_
  rw [b6]
  refine x_aload_n i_Grammar_addAtom_11 rfl ?_
  refine x_getR (c2 := 15) i_Grammar_addAtom_12 rfl rfl (by assumption) ?_
  refine x_alen i_Grammar_addAtom_15 (by omega) ?_
  rw [l2]
  refine x_icmp_lt i_Grammar_addAtom_16 (fun g1 => ?_) (fun g1 => ?_)
  · refine x_new i_Grammar_addAtom_21 ?_
    refine x_dup i_Grammar_addAtom_24 ?_
    refine x_iload_n i_Grammar_addAtom_25 rfl ?_
    refine x_iload_n i_Grammar_addAtom_26 rfl ?_
    refine x_aload_n i_Grammar_addAtom_27 rfl ?_
    refine x_getI i_Grammar_addAtom_28 rfl rfl ?_
    have e0 : FI (nO σ 0) 105 (C 1) = (st.2.1.length : Int) := by rw [FI_nO, if_neg (by omega)]; exact b6
    rw [e0]
    refine x_ci3 i_Grammar_addAtom_31 rfl rfl rfl ?_
    refine c_A_init (fun σ2 x2 v0 v1 v2 v3 v4 => ?_)
    have hr1 : rdX C σ (nO σ 0) := (rdX.rf C σ).nO (Or.inl rfl)
    have hr2 : rdX C σ σ2 := hr1.ob x2 (Nat.le_refl _)
    have m2 : ∀ f y, ¬ (f / 100 = 0 ∧ y = CN σ 0) → FI σ2 f y = FI σ f y ∧ FR σ2 f y = FR σ f y := fun f y w => by
      obtain ⟨c1, c2⟩ := x2.1 f y w
      exact ⟨by rw [c1, FI_nO, if_neg w], by rw [c2, FR_nO, if_neg w]⟩
    have q6' : FR σ2 102 (C 1) = some (C 3) := by rw [(m2 _ _ (by omega)).2]; exact q6
    have b6' : FI σ2 105 (C 1) = (st.2.1.length : Int) := by rw [(m2 _ _ (by omega)).1]; exact b6
    have l2' : LN σ2 15 (C 3) = 32 := by rw [hr2.2.2.2.2.1 _ _ h4]; exact l2
    refine x_astore_n (ls' := [_, _, _, _]) i_Grammar_addAtom_34 rfl rfl ?_
    refine x_aload_n i_Grammar_addAtom_35 rfl ?_
    refine x_getR (c2 := 15) i_Grammar_addAtom_36 rfl rfl (by assumption) ?_
    refine x_aload_n i_Grammar_addAtom_39 rfl ?_
    refine x_getI i_Grammar_addAtom_40 rfl rfl ?_
    refine x_aload_n i_Grammar_addAtom_43 rfl ?_
    rw [b6']
    refine x_aastore i_Grammar_addAtom_44 (by omega) rfl rfl (by rw [l2']; omega) ?_
    refine x_aload_n i_Grammar_addAtom_45 rfl ?_
    refine x_dup i_Grammar_addAtom_46 ?_
    refine x_getI i_Grammar_addAtom_47 rfl rfl ?_
    rw [show FI (sAR σ2 15 (C 3) st.2.1.length (some (CN σ 0))) 105 (C 1) = (st.2.1.length : Int) from b6']
    refine x_iconst i_Grammar_addAtom_50 ?_
    refine x_iadd i_Grammar_addAtom_51 (by omega) ?_
    refine x_putI i_Grammar_addAtom_52 rfl rfl ?_
    refine x_aload_n i_Grammar_addAtom_55 rfl ?_
    generalize hσ3 : sFI (sAR σ2 15 (C 3) st.2.1.length (some (CN σ 0))) 105 (C 1) ((st.2.1.length : Int) + 1) = σ3
    have hr3 : rdX C σ σ3 := by rw [← hσ3]; exact (hr2.sAR).sFI (Or.inr (Or.inr ⟨rfl, rfl⟩))
    have m3 : ∀ f y, ¬ (f / 100 = 0 ∧ y = CN σ 0) → f ≠ 105 → FI σ3 f y = FI σ f y ∧ FR σ3 f y = FR σ f y := fun f y w w2 => by
      rw [← hσ3]
      exact ⟨by rw [FI_sFI, if_neg (fun q => w2 q.1)]; exact (m2 f y w).1, (m2 f y w).2⟩
    have cn : CN σ3 = CN (nO σ 0) := by rw [← hσ3]; exact x2.2.2.2.2.1
    have ar : ∀ k a j, AR σ3 k a j = if k = 15 ∧ a = C 3 ∧ j = st.2.1.length then some (CN σ 0) else AR σ k a j := by
      intro k a j
      rw [← hσ3, AR_sFI, AR_sAR, x2.2.2.1]
      rfl
    have at3 : ∀ f, f < 100 → FI σ3 f (CN σ 0) = FI σ2 f (CN σ 0) := by
      intro f hf
      rw [← hσ3, FI_sFI, if_neg (by omega)]
      rfl
    have e105 : FI σ3 105 (C 1) = ((st.2.1.length + 1 : Nat) : Int) := by rw [← hσ3]; simp [FI_sFI]
    have enC : nC σ3 = nC σ + 1 := by rw [← hσ3]; exact x2.2.2.2.2.2.1
    have rk : ∀ {r k cap n : Nat} {f : Nat → Int}, rowF σ r k cap n f → rowF σ3 r k cap n f := by
      intro r k cap n f hh
      have := x2.row (by decide) (nO_row (c := 0) (by decide) hh)
      rw [← hσ3]
      exact ⟨this.1, by rw [FI_sFI, if_neg (by omega)]; exact this.2.1, this.2.2⟩
    clear hσ3
    have fin := k1 (by omega) σ3 hr3 ⟨b1.rd hr3, ⟨b2.1, b2.2.1, by show (st.2.1 ++ [_]).length ≤ 32; simp; omega⟩, ⟨x, by rw [(m3 _ _ (by omega) (by decide)).1]; exact b3, b31, b32⟩, by rw [(m3 _ _ (by omega) (by decide)).1]; exact b4, by rw [(m3 _ _ (by omega) (by decide)).1]; exact b5, by rw [e105]; show _ = (((st.2.1 ++ [_]).length : Nat) : Int); simp, ?_, rk b8, rk b9⟩ (m3 _ _ (by omega) (by decide)).1 (fun f y w1 w2 => m3 f y (by omega) (by omega)) enC (by rw [cn, CN_nO, if_pos rfl]) (by rw [cn, CN_nO, if_neg (by decide)]) (by rw [cn, CN_nO, if_neg (by decide)]) (by rw [ar, if_pos ⟨rfl, rfl, rfl⟩]) (fun i hi => by
      obtain ⟨tt, c1, c2, -⟩ := b7 i _ (List.getElem?_eq_getElem hi)
      exact ⟨tt, by rw [ar, if_neg (by omega)]; exact c1, c2⟩) (by rw [at3 _ (by decide)]; exact v2) (by rw [at3 _ (by decide)]; exact v3) (by rw [at3 _ (by decide)]; exact v4)
    · refine x_aret (c := 0) i_Grammar_addAtom_56 rfl ?_
      exact fin
    · intro i a hi
      by_cases w : i < st.2.1.length
      · rw [List.getElem?_append_left w] at hi
        obtain ⟨tt, c1, c2, c3, c4, c5, c6⟩ := b7 i a hi
        have ft : ∀ f, f < 100 → FI σ3 f tt = FI σ f tt := fun f hf => (m3 f tt (by omega) (by omega)).1
        exact ⟨tt, by rw [ar, if_neg (by omega)]; exact c1, by rw [cn, CN_nO, if_pos rfl]; omega, by rw [ft _ (by decide)]; exact c3, by rw [ft _ (by decide)]; exact c4, by rw [ft _ (by decide)]; exact c5, by rw [ft _ (by decide)]; exact c6⟩
      · have hlt := (List.getElem?_eq_some_iff.mp hi).1
        simp at hlt
        have ei : i = st.2.1.length := by omega
        subst ei
        simp at hi
        subst hi
        exact ⟨CN σ 0, by rw [ar, if_pos ⟨rfl, rfl, rfl⟩], by rw [cn, CN_nO, if_pos rfl]; omega, by rw [at3 _ (by decide)]; exact v1, by rw [at3 _ (by decide)]; exact v0, by rw [at3 _ (by decide)]; exact v3, by rw [at3 _ (by decide)]; exact v4⟩
  · refine x_null i_Grammar_addAtom_19 ?_
    refine x_aretN (c := 0) i_Grammar_addAtom_20 rfl ?_
    exact k2 (by omega)
end


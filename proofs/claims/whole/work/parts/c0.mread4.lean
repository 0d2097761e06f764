/-! THE MODEL's reading: atoms, words -/
def mWd : List (List Nat) := [[100, 105, 103, 105, 116], [97, 110, 121], [101, 110, 100], [110, 111, 116], [97, 115], [99, 117, 116], [116, 114, 121], [108, 111, 111, 107], [99, 104, 97, 105, 110]]
theorem mWd_ok : ∀ w, w < 9 → ((mWd.getD w []).length ≤ 5 ∧ 0 < (mWd.getD w []).length) ∧ ∀ i, i < 6 → sC 9 (6 * w + i) = (if i < (mWd.getD w []).length then (mWd.getD w []).getD i 0 else 32) ∧ (i < (mWd.getD w []).length → (mWd.getD w []).getD i 0 ≠ 32) := by decide
def mWp (t : TP) (p e w : Nat) : Prop := e ≤ p + 5 ∧ ∀ i, i < 6 → ((sC 9 (6 * w + i) : Nat) : Int) = if p + i < e then t.2 (p + i) else 32
theorem mWp_iff {t : TP} {p e w : Nat} (hw : w < 9) (hs : ∀ j, p ≤ j → j < e → isSm (t.2 j) = true) (hpe : p ≤ e) : mWp t p e w ↔ isW t p e (mWd.getD w []) = true := by
  obtain ⟨⟨l1, l2⟩, l3⟩ := mWd_ok w hw
  have n32 : ∀ j, p ≤ j → j < e → t.2 j ≠ 32 := fun j w1 w2 q => by
    have := hs j w1 w2
    rw [q] at this
    exact absurd this (by decide)
  rw [isW_iff]
  constructor
  · rintro ⟨h1, h2⟩
    have a1 : e ≤ p + (mWd.getD w []).length := by
      apply Nat.le_of_not_lt
      intro q
      have q1 := h2 (mWd.getD w []).length (by omega)
      rw [(l3 _ (by omega)).1, if_neg (Nat.lt_irrefl _), if_pos q] at q1
      exact n32 _ (by omega) q q1.symm
    have a2 : ¬ e ≤ p + (mWd.getD w []).length - 1 := by
      intro q
      have q1 := h2 ((mWd.getD w []).length - 1) (by omega)
      have q2 := l3 ((mWd.getD w []).length - 1) (by omega)
      rw [q2.1, if_pos (by omega), if_neg (by omega)] at q1
      exact q2.2 (by omega) (by omega)
    refine ⟨by omega, fun i hi => ?_⟩
    have q1 := h2 i (by omega)
    rw [(l3 i (by omega)).1, if_pos hi, if_pos (by omega)] at q1
    exact q1.symm
  · rintro ⟨h1, h2⟩
    refine ⟨by omega, fun i hi => ?_⟩
    rw [(l3 i hi).1]
    by_cases q : i < (mWd.getD w []).length
    · rw [if_pos q, if_pos (by omega)]
      exact (h2 i q).symm
    · rw [if_neg q, if_neg (by omega)]
      rfl
theorem isW_uniq {t : TP} {p e : Nat} {a b : List Nat} (h : isW t p e a = true) (g : isW t p e b = true) : a = b := by
  obtain ⟨h1, h2⟩ := isW_iff.mp h
  obtain ⟨g1, g2⟩ := isW_iff.mp g
  have hl : a.length = b.length := by omega
  apply List.ext_getElem hl
  intro i w1 w2
  have q1 := h2 i w1
  have q2 := g2 i w2
  rw [List.getD_eq_getElem?_getD, List.getElem?_eq_getElem w1] at q1
  rw [List.getD_eq_getElem?_getD, List.getElem?_eq_getElem w2] at q2
  simp only [Option.getD_some] at q1 q2
  omega
theorem kdW_of {t : TP} {p e : Nat} : ∀ w, w < 9 → isW t p e (mWd.getD w []) = true → kdW t p e = some (w + 2) := by
  have go : ∀ a : List Nat, isW t p e a = true → ∀ b : List Nat, a ≠ b → isW t p e b = false := fun a h b n => by
    cases q : isW t p e b with
    | false => rfl
    | true => exact absurd (isW_uniq h q) n
  intro w hw h
  match w, hw, h with
  | 0, _, h => unfold kdW; exact if_pos h
  | 1, _, h => unfold kdW; rw [go _ h _ (by decide), if_neg (by decide)]; exact if_pos h
  | 2, _, h => unfold kdW; rw [go _ h [100, 105, 103, 105, 116] (by decide), go _ h [97, 110, 121] (by decide), if_neg (by decide), if_neg (by decide)]; exact if_pos h
  | 3, _, h => unfold kdW; rw [go _ h [100, 105, 103, 105, 116] (by decide), go _ h [97, 110, 121] (by decide), go _ h [101, 110, 100] (by decide), go _ h [99, 117, 116] (by decide), go _ h [116, 114, 121] (by decide), if_neg (by decide), if_neg (by decide), if_neg (by decide), if_neg (by decide), if_neg (by decide)]; exact if_pos h
  | 4, _, h => unfold kdW; rw [go _ h [100, 105, 103, 105, 116] (by decide), go _ h [97, 110, 121] (by decide), go _ h [101, 110, 100] (by decide), go _ h [99, 117, 116] (by decide), go _ h [116, 114, 121] (by decide), go _ h [110, 111, 116] (by decide), go _ h [108, 111, 111, 107] (by decide), if_neg (by decide), if_neg (by decide), if_neg (by decide), if_neg (by decide), if_neg (by decide), if_neg (by decide), if_neg (by decide)]; exact if_pos h
  | 5, _, h => unfold kdW; rw [go _ h [100, 105, 103, 105, 116] (by decide), go _ h [97, 110, 121] (by decide), go _ h [101, 110, 100] (by decide), if_neg (by decide), if_neg (by decide), if_neg (by decide)]; exact if_pos h
  | 6, _, h => unfold kdW; rw [go _ h [100, 105, 103, 105, 116] (by decide), go _ h [97, 110, 121] (by decide), go _ h [101, 110, 100] (by decide), go _ h [99, 117, 116] (by decide), if_neg (by decide), if_neg (by decide), if_neg (by decide), if_neg (by decide)]; exact if_pos h
  | 7, _, h => unfold kdW; rw [go _ h [100, 105, 103, 105, 116] (by decide), go _ h [97, 110, 121] (by decide), go _ h [101, 110, 100] (by decide), go _ h [99, 117, 116] (by decide), go _ h [116, 114, 121] (by decide), go _ h [110, 111, 116] (by decide), if_neg (by decide), if_neg (by decide), if_neg (by decide), if_neg (by decide), if_neg (by decide), if_neg (by decide)]; exact if_pos h
  | 8, _, h => unfold kdW; rw [go _ h [100, 105, 103, 105, 116] (by decide), go _ h [97, 110, 121] (by decide), go _ h [101, 110, 100] (by decide), go _ h [99, 117, 116] (by decide), go _ h [116, 114, 121] (by decide), go _ h [110, 111, 116] (by decide), go _ h [108, 111, 111, 107] (by decide), go _ h [97, 115] (by decide), if_neg (by decide), if_neg (by decide), if_neg (by decide), if_neg (by decide), if_neg (by decide), if_neg (by decide), if_neg (by decide), if_neg (by decide)]; exact if_pos h
theorem kdW_no {t : TP} {p e : Nat} (h : ∀ w, w < 9 → isW t p e (mWd.getD w []) ≠ true) : kdW t p e = none := by
  have h0 : ¬ isW t p e [100, 105, 103, 105, 116] = true := h 0 (by decide)
  have h1 : ¬ isW t p e [97, 110, 121] = true := h 1 (by decide)
  have h2 : ¬ isW t p e [101, 110, 100] = true := h 2 (by decide)
  have h3 : ¬ isW t p e [110, 111, 116] = true := h 3 (by decide)
  have h4 : ¬ isW t p e [97, 115] = true := h 4 (by decide)
  have h5 : ¬ isW t p e [99, 117, 116] = true := h 5 (by decide)
  have h6 : ¬ isW t p e [116, 114, 121] = true := h 6 (by decide)
  have h7 : ¬ isW t p e [108, 111, 111, 107] = true := h 7 (by decide)
  have h8 : ¬ isW t p e [99, 104, 97, 105, 110] = true := h 8 (by decide)
  unfold kdW
  rw [if_neg h0, if_neg h1, if_neg h2, if_neg h5, if_neg h6, if_neg h3, if_neg h7, if_neg h4, if_neg h8]
section
variable {d : Nat} {Q : AQ} {σ : AS} {t : TP} {st : RT} {opn e : Nat}
theorem c_M_atomF (h : MdS σ t st opn e) (he : e ≤ 1) (hl : 32 ≤ st.2.1.length) {p u : Nat} (hp : p ≤ t.1) {ty a b : Int} (kk : ∀ σ', atX σ σ' → MdF σ' t p opn u → Q (some (vi 0)) σ') : wp (d + 2) m_M_atom [vr 11 0, vi (p : Nat), vi ty, vi a, vi b] σ Q := by
  obtain ⟨b1, b2, b3, b4, b5, b6, -⟩ := id h
  have l32 : st.2.1.length = 32 := Nat.le_antisymm b2.2.2 hl
  refine x_in (ls := [some _, some _, some _, some _, some _]) rfl rfl ?_
  refine x_aload_n i_M_atom_0 rfl ?_
  refine x_getI i_M_atom_1 rfl rfl ?_
  rw [b6.1]
  refine x_bipush i_M_atom_4 ?_
  refine x_icmp_ne_f i_M_atom_6 (by omega) ?_
  refine x_aload_n i_M_atom_9 rfl ?_
  refine x_iload_n i_M_atom_10 rfl ?_
  refine x_cv1 i_M_atom_11 rfl rfl rfl ?_
  refine c_M_wrongS (u := u) h he hp (fun σ2 x2 h2 f2 => ?_)
  refine x_iconst i_M_atom_14 ?_
  refine x_iret i_M_atom_15 rfl ?_
  exact kk σ2 x2 h2
theorem c_M_atomS (h : MdS σ t st opn e) (hl32 : st.2.1.length < 32) {rule p ty : Nat} {tyI : Int} (ety : tyI = (ty : Int)) (hr : FI σ 1136 0 = 1 → FI σ 1137 0 = (rule : Int)) {a b : Int} (kk : ∀ σ', rdM σ σ' → MdS σ' t (st.1, st.2.1 ++ [(rule, p, ty, a, b)], st.2.2) opn e → FI σ' 1125 0 = FI σ 1125 0 → (∀ f, 1130 ≤ f → f ≤ 1133 → FI σ' f 0 = FI σ f 0) → (∀ a j, 27 ≤ a → a ≤ 36 → AI σ' 13 a j = AI σ 13 a j) → Q (some (vi (st.2.1.length : Nat))) σ') : wp (d + 1) m_M_atom [vr 11 0, vi (p : Nat), vi tyI, vi a, vi b] σ Q := by
  subst ety
  obtain ⟨b1, b2, b3, b4, b5, ⟨n1, n2, n3⟩, b7, b8⟩ := id h
  obtain ⟨hmr, ht, htp⟩ := id b1
  obtain ⟨hm, hl, hlb⟩ := id hmr
  have fin : ∀ σ1, fX (fun _ _ => False) (fun k a => k = 13 ∧ 37 ≤ a ∧ a ≤ 41 ∧ FI σ 1136 0 = 1) σ σ1 → (FI σ 1136 0 = 1 → ∀ (i : Nat) x, (st.2.1 ++ [(rule, p, ty, a, b)])[i]? = some x → AI σ1 13 41 i = (x.1 : Int) ∧ AI σ1 13 37 i = (x.2.1 : Int) ∧ AI σ1 13 38 i = (x.2.2.1 : Int) ∧ AI σ1 13 39 i = x.2.2.2.1 ∧ AI σ1 13 40 i = x.2.2.2.2) → Ex (wp d) m_M_atom Q 77 [some (vr 11 0), some (vi (p : Nat)), some (vi (ty : Nat)), some (vi a), some (vi b)] [] σ1 := by
    intro σ1 x1 ha
    have fi : ∀ f, FI σ1 f 0 = FI σ f 0 := fun f => x1.1 _ _ (fun q => q)
    have x2 : fX (fun f a => f = 1129 ∧ a = 0) (fun k a => k = 13 ∧ 37 ≤ a ∧ a ≤ 41 ∧ FI σ 1136 0 = 1) σ (sFI σ1 1129 0 ((st.2.1.length : Int) + 1)) := (x1.mono (fun f x q => q.elim) (fun k a q => q)).tr (fX_sFI ⟨rfl, rfl⟩)
    have ai : ∀ a j, ¬ (37 ≤ a ∧ a ≤ 41) → AI (sFI σ1 1129 0 ((st.2.1.length : Int) + 1)) 13 a j = AI σ 13 a j := fun a j w => x2.2.2.1 _ _ _ (fun q => w ⟨q.2.1, q.2.2.1⟩)
    have f9 : ∀ f, f ≠ 1129 → FI (sFI σ1 1129 0 ((st.2.1.length : Int) + 1)) f 0 = FI σ f 0 := fun f w => x2.1 _ _ (fun q => w q.1)
    have e9 : FI (sFI σ1 1129 0 ((st.2.1.length : Int) + 1)) 1129 0 = (st.2.1.length : Int) + 1 := by rw [FI_sFI, if_pos ⟨rfl, rfl⟩]
    have ha2 : ∀ a j, AI (sFI σ1 1129 0 ((st.2.1.length : Int) + 1)) 13 a j = AI σ1 13 a j := fun _ _ => rfl
    refine x_aload_n i_M_atom_77 rfl ?_
    refine x_dup i_M_atom_78 ?_
    refine x_getI i_M_atom_79 rfl rfl ?_
    rw [fi, n1]
    refine x_iconst i_M_atom_82 ?_
    refine x_iadd i_M_atom_83 (by omega) ?_
    refine x_putI i_M_atom_84 rfl rfl ?_
    generalize sFI σ1 1129 0 ((st.2.1.length : Int) + 1) = σ2 at x2 ai f9 e9 ha2
    refine x_aload_n i_M_atom_87 rfl ?_
    refine x_getI i_M_atom_88 rfl rfl ?_
    rw [e9]
    refine x_iconst i_M_atom_91 ?_
    refine x_isub i_M_atom_92 (by omega) ?_
    rw [show (st.2.1.length : Int) + 1 - 1 = ((st.2.1.length : Nat) : Int) by omega]
    have ct1 : ∀ f, 1130 ≤ f → f ≤ 1133 → ct σ2 f = ct σ f := fun f w1 w2 => by unfold ct; rw [f9 f (by omega)]
    have x3 : fX rmF (rmA (FI σ 1136 0 = 1)) σ σ2 := x2.mono (fun f x q => ⟨by omega, by omega, q.2⟩) (fun k a q => ⟨q.1, Or.inr (Or.inr ⟨q.2.2.2, q.2.1, q.2.2.1⟩)⟩)
    have r3 : rdM σ σ2 := ⟨x3, ⟨f9 _ (by decide), f9 _ (by decide)⟩, fun f w1 w2 => by rw [ct1 f w1 w2]; exact Nat.le_refl _, ⟨fun j _ _ => ai _ _ (by decide), fun j _ _ => ⟨ai _ _ (by decide), ai _ _ (by decide)⟩, fun j _ => ⟨ai _ _ (by decide), ai _ _ (by decide), ai _ _ (by decide)⟩, fun j _ => ⟨ai _ _ (by decide), ai _ _ (by decide), ai _ _ (by decide), ai _ _ (by decide)⟩⟩⟩
    have h3 : MdS σ2 t (st.1, st.2.1 ++ [(rule, p, ty, a, b)], st.2.2) opn e := by
      obtain ⟨a0, a1, a2, a3⟩ := b3
      refine ⟨b1.keep x2 (by decide) (fun q => absurd q.2.1 (by decide)), ⟨b2.1, b2.2.1, by show (st.2.1 ++ [_]).length ≤ 32; simp; omega⟩, ⟨a0, by rw [f9 _ (by decide)]; exact a1, a2, a3⟩, by rw [f9 _ (by decide)]; exact b4, by rw [f9 _ (by decide)]; exact b5, ⟨?_, ?_, ?_⟩, ⟨⟨?_, ?_⟩, b7.2⟩, b8.cg (fun f w1 w2 => f9 f (by omega))⟩
      · rw [e9]; simp
      · rw [f9 _ (by decide)]; exact n2
      · rw [f9 _ (by decide)]
        intro w i x hx
        rw [ha2, ha2, ha2, ha2, ha2]
        exact ha w i x hx
      · rw [f9 _ (by decide)]; exact b7.1.1
      · intro i y hy
        rw [ai _ _ (by decide), ai _ _ (by decide)]
        exact b7.1.2 i y hy
    refine x_iret i_M_atom_93 rfl ?_
    exact kk σ2 r3 h3 (f9 _ (by decide)) (fun f w1 w2 => f9 f (by omega)) (fun a j w1 w2 => ai a j (by omega))
  refine x_in (ls := [some _, some _, some _, some _, some _]) rfl rfl ?_
  refine x_aload_n i_M_atom_0 rfl ?_
  refine x_getI i_M_atom_1 rfl rfl ?_
  rw [n1]
  refine x_bipush i_M_atom_4 ?_
  refine x_icmp_ne_t i_M_atom_6 (by omega) ?_
  refine x_aload_n i_M_atom_16 rfl ?_
  refine x_getI i_M_atom_17 rfl rfl ?_
  rcases n2 with n2 | n2
  · rw [n2]
    refine x_if_eq_t i_M_atom_20 (by decide) ?_
    exact fin σ (fX.rf _ _ _) (fun w => by rw [n2] at w; exact absurd w (by decide))
  · rw [n2]
    refine x_if_eq_f i_M_atom_20 (by decide) ?_
    have x1 : ∀ (τ : AS) c v, 37 ≤ c → c ≤ 41 → fX (fun _ _ => False) (fun k a => k = 13 ∧ 37 ≤ a ∧ a ≤ 41 ∧ FI σ 1136 0 = 1) σ τ → fX (fun _ _ => False) (fun k a => k = 13 ∧ 37 ≤ a ∧ a ≤ 41 ∧ FI σ 1136 0 = 1) σ (sAI τ 13 c st.2.1.length v) := fun τ c v w1 w2 h => h.tr (fX_sAI ⟨rfl, w1, w2, n2⟩)
    have y0 : fX (fun _ _ => False) (fun k a => k = 13 ∧ 37 ≤ a ∧ a ≤ 41 ∧ FI σ 1136 0 = 1) σ σ := fX.rf _ _ _
    have y1 := x1 σ 37 (p : Nat) (by decide) (by decide) y0
    have y2 := x1 _ 38 (ty : Nat) (by decide) (by decide) y1
    have y3 := x1 _ 39 a (by decide) (by decide) y2
    have y4 := x1 _ 40 b (by decide) (by decide) y3
    have y5 := x1 _ 41 (rule : Nat) (by decide) (by decide) y4
    refine x_aload_n i_M_atom_23 rfl ?_
    refine x_getR (c2 := 13) i_M_atom_24 rfl rfl (hm _ _ rfl) ?_
    refine x_aload_n i_M_atom_27 rfl ?_
    refine x_getI i_M_atom_28 rfl rfl ?_
    rw [n1]
    refine x_iload_n i_M_atom_31 rfl ?_
    refine x_iastore i_M_atom_32 (k := st.2.1.length) rfl (lt_len hl rfl hl32) ?_
    refine x_aload_n i_M_atom_33 rfl ?_
    refine x_getR (c2 := 13) i_M_atom_34 rfl rfl (hm _ _ rfl) ?_
    refine x_aload_n i_M_atom_37 rfl ?_
    refine x_getI i_M_atom_38 rfl rfl ?_
    rw [show FI (sAI σ 13 37 st.2.1.length (p : Nat)) 1129 0 = (st.2.1.length : Int) from n1]
    refine x_iload_n i_M_atom_41 rfl ?_
    refine x_iastore i_M_atom_42 (k := st.2.1.length) rfl (lt_len hl rfl hl32) ?_
    refine x_aload_n i_M_atom_43 rfl ?_
    refine x_getR (c2 := 13) i_M_atom_44 rfl rfl (hm _ _ rfl) ?_
    refine x_aload_n i_M_atom_47 rfl ?_
    refine x_getI i_M_atom_48 rfl rfl ?_
    rw [show FI (sAI (sAI σ 13 37 st.2.1.length (p : Nat)) 13 38 st.2.1.length (ty : Nat)) 1129 0 = (st.2.1.length : Int) from n1]
    refine x_iload_n i_M_atom_51 rfl ?_
    refine x_iastore i_M_atom_52 (k := st.2.1.length) rfl (lt_len hl rfl hl32) ?_
    refine x_aload_n i_M_atom_53 rfl ?_
    refine x_getR (c2 := 13) i_M_atom_54 rfl rfl (hm _ _ rfl) ?_
    refine x_aload_n i_M_atom_57 rfl ?_
    refine x_getI i_M_atom_58 rfl rfl ?_
    rw [show FI (sAI (sAI (sAI σ 13 37 st.2.1.length (p : Nat)) 13 38 st.2.1.length (ty : Nat)) 13 39 st.2.1.length a) 1129 0 = (st.2.1.length : Int) from n1]
    refine x_iload i_M_atom_61 rfl ?_
    refine x_iastore i_M_atom_63 (k := st.2.1.length) rfl (lt_len hl rfl hl32) ?_
    refine x_aload_n i_M_atom_64 rfl ?_
    refine x_getR (c2 := 13) i_M_atom_65 rfl rfl (hm _ _ rfl) ?_
    refine x_aload_n i_M_atom_68 rfl ?_
    refine x_getI i_M_atom_69 rfl rfl ?_
    rw [show FI (sAI (sAI (sAI (sAI σ 13 37 st.2.1.length (p : Nat)) 13 38 st.2.1.length (ty : Nat)) 13 39 st.2.1.length a) 13 40 st.2.1.length b) 1129 0 = (st.2.1.length : Int) from n1]
    refine x_aload_n i_M_atom_72 rfl ?_
    refine x_getI i_M_atom_73 rfl rfl ?_
    rw [show FI (sAI (sAI (sAI (sAI σ 13 37 st.2.1.length (p : Nat)) 13 38 st.2.1.length (ty : Nat)) 13 39 st.2.1.length a) 13 40 st.2.1.length b) 1137 0 = (rule : Int) from hr n2]
    refine x_iastore i_M_atom_76 (k := st.2.1.length) rfl (lt_len hl rfl hl32) ?_
    refine fin _ y5 (fun _ i x hx => ?_)
    by_cases hi : i < st.2.1.length
    · rw [List.getElem?_append_left hi] at hx
      have := n3 n2 i x hx
      simp only [AI_sAI]
      simp only [Nat.ne_of_lt hi, and_false, if_false]
      exact this
    · have hi2 : i = st.2.1.length := by
        have := (List.getElem?_eq_some_iff.mp hx).1
        simp at this
        omega
      subst hi2
      rw [List.getElem?_append_right (Nat.le_refl _), Nat.sub_self] at hx
      injection hx with hx
      subst hx
      simp [AI_sAI]
theorem c_M_word (h : MdS σ t st opn e) (he : e ≤ 1) {u : Nat} (ha : FI σ 1125 0 = (st.1 : Int)) (kt : ∀ k, kdW t st.1 (we t st.1) = some (k + 2) → k < 9 → ∀ σ', atX σ σ' → MdS σ' t (sk t (we t st.1), st.2) opn e → Q (some (vi (k : Nat))) σ') (kf : kdW t st.1 (we t st.1) = none → ∀ σ', atX σ σ' → MdF σ' t st.1 opn u → Q (some (vi (-1))) σ') : wp (d + 3) m_M_word [vr 11 0] σ Q := by
  obtain ⟨b1, b2, b3, b4, b5, -⟩ := id h
  have ht1 := b1.2.1.1
  have we1 := we_all t _ st.1 rfl
  have we2 := we1.2.1 b2.1
  have we3 := sk_ge t (we t st.1)
  have main : ∀ σ1, atX σ σ1 → FI σ1 1125 0 = ((we t st.1 : Nat) : Int) → FI σ1 1126 0 = -1 → FI σ1 1127 0 = (opn : Int) → Ex (wp (d + 2)) m_M_word Q 29 [some (vr 11 0), some (vi (st.1 : Nat)), none, none, none] [] σ1 := by
    intro σ1 x1 f1 f2 f3
    have h1 : MdS σ1 t (sk t (we t st.1), st.2) opn e := h.at_ x1 (by omega) ⟨we t st.1, f1, we2, rfl⟩ f2 f3 (by omega)
    have hB := h1.1
    obtain ⟨hmr, ht, htp⟩ := id hB
    obtain ⟨hm, hl, hlb⟩ := id hmr
    have loop : ∀ (k w : Nat), w + k = 9 → (∀ v, v < w → ¬ mWp t st.1 (we t st.1) v) → Ex (wp (d + 2)) m_M_word Q 31 [some (vr 11 0), some (vi (st.1 : Nat)), some (vi (w : Nat)), none, none] [] σ1 := by
      intro k
      induction k with
      | zero =>
        intro w hw hv
        have no : kdW t st.1 (we t st.1) = none := kdW_no (fun v q1 q2 => hv v (by omega) ((mWp_iff q1 we1.2.2 we1.1).mpr q2))
        refine x_iload_n i_M_word_31 rfl ?_
        refine x_bipush i_M_word_32 ?_
        refine x_icmp_ge_t i_M_word_34 (by omega) ?_
        refine x_aload_n i_M_word_131 rfl ?_
        refine x_iload_n i_M_word_132 rfl ?_
        refine x_cv1 i_M_word_133 rfl rfl rfl ?_
        refine c_M_wrongS (u := u) h1 he b2.1 (fun σ2 x2 h2 _ => ?_)
        refine x_iconst i_M_word_136 ?_
        refine x_iret i_M_word_137 rfl ?_
        exact kf no σ2 (x1.tr x2) h2
      | succ k ih =>
        intro w hw hv
        have next : ∀ o, ¬ mWp t st.1 (we t st.1) w → Ex (wp (d + 2)) m_M_word Q 119 [some (vr 11 0), some (vi (st.1 : Nat)), some (vi (w : Nat)), some (vi 0), o] [] σ1 := by
          intro o hn
          refine x_iload_n i_M_word_119 rfl ?_
          refine x_if_eq_t i_M_word_120 rfl ?_
          refine x_iinc (ls' := [_, _, _, _, _]) i_M_word_125 rfl (by omega) rfl ?_
          refine x_goto i_M_word_128 ?_
          refine Ex.weak (ls := [_, _, _, none, none]) ⟨Or.inr rfl, Or.inr rfl, Or.inr rfl, Or.inl rfl, Or.inl rfl, trivial⟩ ?_
          exact ih (w + 1) (by omega) (fun v q => by
            by_cases e : v = w
            · rw [e]; exact hn
            · exact hv v (by omega))
        have inn : ∀ (f i : Nat), i + f = 6 → we t st.1 ≤ st.1 + 5 → (∀ j, j < i → ((sC 9 (6 * w + j) : Nat) : Int) = if st.1 + j < we t st.1 then t.2 (st.1 + j) else 32) → Ex (wp (d + 2)) m_M_word Q 56 [some (vr 11 0), some (vi (st.1 : Nat)), some (vi (w : Nat)), some (vi 1), some (vi (i : Nat))] [] σ1 := by
          intro f
          induction f with
          | zero =>
            intro i hi h5 hj
            have yes : mWp t st.1 (we t st.1) w := ⟨h5, fun j q => hj j (by omega)⟩
            have := kdW_of w (by omega) ((mWp_iff (by omega) we1.2.2 we1.1).mp yes)
            refine x_iload i_M_word_56 rfl ?_
            refine x_bipush i_M_word_58 ?_
            refine x_icmp_ge_t i_M_word_60 (by omega) ?_
            refine x_iload_n i_M_word_119 rfl ?_
            refine x_if_eq_f i_M_word_120 (by decide) ?_
            refine x_iload_n i_M_word_123 rfl ?_
            refine x_iret i_M_word_124 rfl ?_
            exact kt w this (by omega) σ1 x1 h1
          | succ f ihf =>
            intro i hi h5 hj
            have cmp : ∀ z : Int, z = (if st.1 + i < we t st.1 then t.2 (st.1 + i) else 32) → Ex (wp (d + 2)) m_M_word Q 104 [some (vr 11 0), some (vi (st.1 : Nat)), some (vi (w : Nat)), some (vi 1), some (vi (i : Nat))] [vi z, vi (sC 9 (6 * w + i) : Nat)] σ1 := by
              intro z hz
              refine x_icmp_ne i_M_word_104 (fun g => ?_) (fun g => ?_)
              · refine x_iconst i_M_word_111 ?_
                refine x_istore_n (ls' := [_, _, _, _, _]) i_M_word_112 rfl rfl ?_
                refine x_iinc (ls' := [_, _, _, _, _]) i_M_word_113 rfl (by omega) rfl ?_
                refine x_goto i_M_word_116 ?_
                have hn : ¬ mWp t st.1 (we t st.1) w := fun q => g (by rw [hz]; exact q.2 i (by omega))
                refine x_iload i_M_word_56 rfl ?_
                refine x_bipush i_M_word_58 ?_
                refine x_icmp_ge i_M_word_60 (fun g6 => ?_) (fun g6 => ?_)
                · exact next _ hn
                · refine x_iload_n i_M_word_63 rfl ?_
                  refine x_if_eq_t i_M_word_64 rfl ?_
                  exact next _ hn
              · refine x_iconst i_M_word_107 ?_
                refine x_goto i_M_word_108 ?_
                refine x_istore_n (ls' := [_, _, _, _, _]) i_M_word_112 rfl rfl ?_
                refine x_iinc (ls' := [_, _, _, _, _]) i_M_word_113 rfl (by omega) rfl ?_
                refine x_goto i_M_word_116 ?_
                refine ihf (i + 1) (by omega) h5 (fun j q => ?_)
                by_cases e : j = i
                · rw [e, ← hz]; exact g
                · exact hj j (by omega)
            refine x_iload i_M_word_56 rfl ?_
            refine x_bipush i_M_word_58 ?_
            refine x_icmp_ge_f i_M_word_60 (by omega) ?_
            refine x_iload_n i_M_word_63 rfl ?_
            refine x_if_eq_f i_M_word_64 (by decide) ?_
            refine x_ldcS i_M_word_67 ?_
            refine x_bipush i_M_word_69 ?_
            refine x_iload_n i_M_word_71 rfl ?_
            refine x_imul i_M_word_72 (by omega) ?_
            refine x_iload i_M_word_73 rfl ?_
            refine x_iadd i_M_word_75 (by omega) ?_
            refine x_strAt i_M_word_76 rfl (n := 6 * w + i) (by omega) (by show 6 * w + i < 54; omega) ?_
            refine x_iload_n i_M_word_79 rfl ?_
            refine x_iload i_M_word_80 rfl ?_
            refine x_iadd i_M_word_82 (by omega) ?_
            refine x_aload_n i_M_word_83 rfl ?_
            refine x_getI i_M_word_84 rfl rfl ?_
            rw [f1]
            refine x_icmp_ge i_M_word_87 (fun g => ?_) (fun g => ?_)
            · refine x_bipush i_M_word_102 ?_
              exact cmp 32 (by rw [if_neg (by omega)])
            · have hlt : st.1 + i < t.1 := by omega
              refine x_aload_n i_M_word_90 rfl ?_
              refine x_getR (c2 := 13) i_M_word_91 rfl rfl (hm _ _ rfl) ?_
              refine x_iload_n i_M_word_94 rfl ?_
              refine x_iload i_M_word_95 rfl ?_
              refine x_iadd i_M_word_97 (by omega) ?_
              refine x_iaload i_M_word_98 (k := st.1 + i) (by omega) (lt_len hl rfl (by omega)) ?_
              rw [htp.2 _ hlt]
              refine x_goto i_M_word_99 ?_
              exact cmp _ (by rw [if_pos (by omega)])
        refine x_iload_n i_M_word_31 rfl ?_
        refine x_bipush i_M_word_32 ?_
        refine x_icmp_ge_f i_M_word_34 (by omega) ?_
        refine x_aload_n i_M_word_37 rfl ?_
        refine x_getI i_M_word_38 rfl rfl ?_
        rw [f1]
        refine x_iload_n i_M_word_41 rfl ?_
        refine x_isub i_M_word_42 (by omega) ?_
        refine x_iconst i_M_word_43 ?_
        refine x_icmp_gt i_M_word_44 (fun g => ?_) (fun g => ?_)
        · have hn : ¬ mWp t st.1 (we t st.1) w := fun q => by have := q.1; omega
          refine x_iconst i_M_word_51 ?_
          refine x_istore_n (ls' := [_, _, _, _, _]) i_M_word_52 rfl rfl ?_
          refine x_iconst i_M_word_53 ?_
          refine x_istore (ls' := [_, _, _, _, _]) i_M_word_54 rfl rfl ?_
          refine x_iload i_M_word_56 rfl ?_
          refine x_bipush i_M_word_58 ?_
          refine x_icmp_ge_f i_M_word_60 (by decide) ?_
          refine x_iload_n i_M_word_63 rfl ?_
          refine x_if_eq_t i_M_word_64 rfl ?_
          exact next _ hn
        · refine x_iconst i_M_word_47 ?_
          refine x_goto i_M_word_48 ?_
          refine x_istore_n (ls' := [_, _, _, _, _]) i_M_word_52 rfl rfl ?_
          refine x_iconst i_M_word_53 ?_
          refine x_istore (ls' := [_, _, _, _, _]) i_M_word_54 rfl rfl ?_
          exact inn 6 0 rfl (by omega) (fun j q => absurd q (Nat.not_lt_zero _))
    refine x_iconst i_M_word_29 ?_
    refine x_istore_n (ls' := [_, _, _, _, _]) i_M_word_30 rfl rfl ?_
    exact loop 9 0 rfl (fun v q => absurd q (Nat.not_lt_zero _))
  have lets : ∀ (k a : Nat) (σ1 : AS), t.1 - a = k → st.1 ≤ a → a ≤ t.1 → we t a = we t st.1 → atX σ σ1 → FI σ1 1125 0 = (a : Int) → FI σ1 1126 0 = -1 → FI σ1 1127 0 = (opn : Int) → Ex (wp (d + 2)) m_M_word Q 5 [some (vr 11 0), some (vi (st.1 : Nat)), none, none, none] [] σ1 := by
    intro k
    induction k with
    | zero =>
      intro a σ1 hk h1 h2 h3 x1 f1 f2 f3
      have e0 : chT t a = -1 := by unfold chT; rw [if_neg (by omega)]
      rw [we_stop (by omega)] at h3
      refine x_aload_n i_M_word_5 rfl ?_
      refine x_bipush i_M_word_6 ?_
      refine x_bipush i_M_word_8 ?_
      refine x_cv2 i_M_word_10 rfl rfl rfl ?_
      refine c_M_isRg (b1.at_ x1) f1 h2 (by decide) ?_
      rw [decide_eq_false (by omega)]
      refine x_if_eq_t i_M_word_13 rfl ?_
      exact main σ1 x1 (by rw [f1, h3]) f2 f3
    | succ k ih =>
      intro a σ1 hk h1 h2 h3 x1 f1 f2 f3
      have hlt : a < t.1 := by omega
      have ec : chT t a = t.2 a := if_pos hlt
      refine x_aload_n i_M_word_5 rfl ?_
      refine x_bipush i_M_word_6 ?_
      refine x_bipush i_M_word_8 ?_
      refine x_cv2 i_M_word_10 rfl rfl rfl ?_
      refine c_M_isRg (b1.at_ x1) f1 h2 (by decide) ?_
      by_cases g : 97 ≤ chT t a ∧ chT t a ≤ 122
      · rw [decide_eq_true g]
        rw [ec] at g
        rw [we_step hlt (decide_eq_true g)] at h3
        refine x_if_eq_f i_M_word_13 (by decide) ?_
        refine x_aload_n i_M_word_16 rfl ?_
        refine x_dup i_M_word_17 ?_
        refine x_getI i_M_word_18 rfl rfl ?_
        rw [f1]
        refine x_iconst i_M_word_21 ?_
        refine x_iadd i_M_word_22 (by omega) ?_
        refine x_putI i_M_word_23 rfl rfl ?_
        refine x_goto i_M_word_26 ?_
        exact ih (a + 1) _ (by omega) (by omega) (by omega) h3 (x1.tr (atX_sFI (by decide) (by decide))) (by rw [FI_sFI, if_pos ⟨rfl, rfl⟩]; omega) (by rw [FI_sFI, if_neg (by omega)]; exact f2) (by rw [FI_sFI, if_neg (by omega)]; exact f3)
      · rw [decide_eq_false g]
        rw [ec] at g
        rw [we_stop (fun q => g (of_decide_eq_true q.2))] at h3
        refine x_if_eq_t i_M_word_13 rfl ?_
        exact main σ1 x1 (by rw [f1, h3]) f2 f3
  refine x_in (ls := [some _, none, none, none, none]) rfl rfl ?_
  refine x_aload_n i_M_word_0 rfl ?_
  refine x_getI i_M_word_1 rfl rfl ?_
  rw [ha]
  refine x_istore_n (ls' := [_, _, _, _, _]) i_M_word_4 rfl rfl ?_
  exact lets _ st.1 σ rfl (Nat.le_refl _) b2.1 rfl (fX.rf _ _ _) ha b4 b5
end


/-! THE MODEL's reading: begins, atom, part, inner -/
theorem sk_mono {t : TP} {a : Nat} (h : a < t.1) : sk t a ≤ sk t (a + 1) := by
  by_cases w : t.2 a = 32
  · rw [sk_step h w]; exact Nat.le_refl _
  · rw [sk_stop (fun q => w q.2)]
    have := sk_ge t (a + 1)
    omega
theorem MdS.re {σ : AS} {t : TP} {st : RT} {opn e : Nat} (h : MdS σ t st opn e) {e' : Nat} (he : e ≤ e') : MdS σ t st opn e' := ⟨h.1, h.2.1, h.2.2.1, h.2.2.2.1, h.2.2.2.2.1, h.2.2.2.2.2.1, h.2.2.2.2.2.2.1, h.2.2.2.2.2.2.2.mono (by omega) (by omega) (Nat.le_refl _) (Nat.le_refl _)⟩
/-- a new part's place, filled -/
def ptM (σ : AS) (P : Nat) (k x y a : Int) : AS := sFI (sAI (sAI (sAI (sAI σ 13 33 P k) 13 34 P x) 13 35 P y) 13 36 P a) 1133 0 ((P : Int) + 1)
section
variable {d : Nat} {Q : AQ} {σ : AS} {t : TP} {st : RT} {opn e : Nat}
theorem c_M_beginsF {p : Nat} (hf : FI σ 1126 0 = (p : Int)) (kk : Q (some (vi 0)) σ) : wp (d + 1) m_M_begins [vr 11 0] σ Q := by
  refine x_in (ls := [some _]) rfl rfl ?_
  refine x_aload_n i_M_begins_0 rfl ?_
  refine x_getI i_M_begins_1 rfl rfl ?_
  rw [hf]
  refine x_if_lt_f i_M_begins_4 (by omega) ?_
  refine x_iconst i_M_begins_7 ?_
  refine x_zret i_M_begins_8 rfl (by omega) ?_
  exact kk
theorem c_M_beginsS (h : MdS σ t st opn e) (kk : ∀ σ', atX σ σ' → MdS σ' t st opn e → FI σ' 1125 0 = (st.1 : Int) → Q (some (vi (bI (ahP (chT t st.1))))) σ') : wp (d + 3) m_M_begins [vr 11 0] σ Q := by
  obtain ⟨b1, b2, ⟨a, b3, b31, b32⟩, b4, b5, -⟩ := id h
  refine x_in (ls := [some _]) rfl rfl ?_
  refine x_aload_n i_M_begins_0 rfl ?_
  refine x_getI i_M_begins_1 rfl rfl ?_
  rw [b4]
  refine x_if_lt_t i_M_begins_4 (by decide) ?_
  refine x_aload_n i_M_begins_9 rfl ?_
  refine x_cv0 i_M_begins_10 rfl rfl rfl ?_
  refine c_M_skips b1 b3 b31 (fun σ1 x1 f1 f2 f3 => ?_)
  rw [b32] at f1
  have h1 : MdS σ1 t st opn e := h.at_ x1 (Nat.le_refl _) ⟨st.1, f1, b2.1, b2.2.1⟩ (f2.trans b4) (f3.trans b5) (Nat.le_refl _)
  have kk := kk σ1 x1 h1 f1
  have yes : ahP (chT t st.1) = true → Ex (wp (d + 2)) m_M_begins Q 68 [some (vr 11 0)] [] σ1 := by
    intro w
    rw [w] at kk
    refine x_iconst i_M_begins_68 ?_
    refine x_goto i_M_begins_69 ?_
    refine x_zret i_M_begins_73 rfl (by omega) ?_
    exact kk
  have eq : ahP (chT t st.1) = (decide (chT t st.1 = 39) || (decide (chT t st.1 = 91) || (decide (chT t st.1 = 40) || (isNm (chT t st.1) || isSm (chT t st.1))))) := by
    unfold ahP
    by_cases w1 : chT t st.1 = 39
    · simp [w1]
    · by_cases w2 : chT t st.1 = 91
      · simp [w2]
      · by_cases w3 : chT t st.1 = 40
        · simp [w3]
        · simp [w1, w2, w3]
  rw [eq] at yes kk
  refine x_aload_n i_M_begins_13 rfl ?_
  refine x_bipush i_M_begins_14 ?_
  refine x_bipush i_M_begins_16 ?_
  refine x_cv2 i_M_begins_18 rfl rfl rfl ?_
  refine c_M_isCh h1.1 f1 b2.1 (by decide) ?_
  cases g1 : decide (chT t st.1 = 39) with
  | true =>
    refine x_if_ne_t i_M_begins_21 (by decide) ?_
    exact yes (by rw [g1]; rfl)
  | false =>
    rw [g1, Bool.false_or] at yes kk
    refine x_if_ne_f i_M_begins_21 rfl ?_
    refine x_aload_n i_M_begins_24 rfl ?_
    refine x_bipush i_M_begins_25 ?_
    refine x_bipush i_M_begins_27 ?_
    refine x_cv2 i_M_begins_29 rfl rfl rfl ?_
    refine c_M_isCh h1.1 f1 b2.1 (by decide) ?_
    cases g2 : decide (chT t st.1 = 91) with
    | true =>
      refine x_if_ne_t i_M_begins_32 (by decide) ?_
      exact yes (by rw [g2]; rfl)
    | false =>
      rw [g2, Bool.false_or] at yes kk
      refine x_if_ne_f i_M_begins_32 rfl ?_
      refine x_aload_n i_M_begins_35 rfl ?_
      refine x_bipush i_M_begins_36 ?_
      refine x_bipush i_M_begins_38 ?_
      refine x_cv2 i_M_begins_40 rfl rfl rfl ?_
      refine c_M_isCh h1.1 f1 b2.1 (by decide) ?_
      cases g3 : decide (chT t st.1 = 40) with
      | true =>
        refine x_if_ne_t i_M_begins_43 (by decide) ?_
        exact yes (by rw [g3]; rfl)
      | false =>
        rw [g3, Bool.false_or] at yes kk
        refine x_if_ne_f i_M_begins_43 rfl ?_
        refine x_aload_n i_M_begins_46 rfl ?_
        refine x_bipush i_M_begins_47 ?_
        refine x_bipush i_M_begins_49 ?_
        refine x_cv2 i_M_begins_51 rfl rfl rfl ?_
        refine c_M_isRg h1.1 f1 b2.1 (by decide) ?_
        cases g4 : decide (65 ≤ chT t st.1 ∧ chT t st.1 ≤ 72) with
        | true =>
          refine x_if_ne_t i_M_begins_54 (by decide) ?_
          exact yes (by unfold isNm; rw [g4]; rfl)
        | false =>
          have g4' : isNm (chT t st.1) = false := g4
          rw [g4', Bool.false_or] at yes kk
          refine x_if_ne_f i_M_begins_54 rfl ?_
          refine x_aload_n i_M_begins_57 rfl ?_
          refine x_bipush i_M_begins_58 ?_
          refine x_bipush i_M_begins_60 ?_
          refine x_cv2 i_M_begins_62 rfl rfl rfl ?_
          refine c_M_isRg h1.1 f1 b2.1 (by decide) ?_
          cases g5 : decide (97 ≤ chT t st.1 ∧ chT t st.1 ≤ 122) with
          | true =>
            refine x_if_eq_f i_M_begins_65 (by decide) ?_
            exact yes g5
          | false =>
            have g5' : isSm (chT t st.1) = false := g5
            rw [g5'] at kk
            refine x_if_eq_t i_M_begins_65 rfl ?_
            refine x_iconst i_M_begins_72 ?_
            refine x_zret i_M_begins_73 rfl (by omega) ?_
            exact kk
theorem c_M_mkPart (hm : mFld σ) (hl : mLns σ) {P : Nat} (hP : FI σ 1133 0 = (P : Int)) (hP2 : P < 260) {k x y a : Int} (kk : Q (some (vi (P : Nat))) (ptM σ P k x y a)) : wp (d + 1) m_M_part [vr 11 0, vi k, vi x, vi y, vi a] σ Q := by
  have e : ∀ c v, FI (sAI σ 13 c P v) 1133 0 = (P : Int) := fun _ _ => hP
  refine x_in (ls := [some _, some _, some _, some _, some _]) rfl rfl ?_
  refine x_aload_n i_M_part_0 rfl ?_
  refine x_getI i_M_part_1 rfl rfl ?_
  rw [hP]
  refine x_sipush i_M_part_4 ?_
  refine x_icmp_lt_t i_M_part_7 (by omega) ?_
  refine x_aload_n i_M_part_12 rfl ?_
  refine x_getR (c2 := 13) i_M_part_13 rfl rfl (hm _ _ rfl) ?_
  refine x_aload_n i_M_part_16 rfl ?_
  refine x_getI i_M_part_17 rfl rfl ?_
  rw [hP]
  refine x_iload_n i_M_part_20 rfl ?_
  refine x_iastore i_M_part_21 (k := P) rfl (lt_len hl rfl hP2) ?_
  refine x_aload_n i_M_part_22 rfl ?_
  refine x_getR (c2 := 13) i_M_part_23 rfl rfl (hm _ _ rfl) ?_
  refine x_aload_n i_M_part_26 rfl ?_
  refine x_getI i_M_part_27 rfl rfl ?_
  rw [show FI (sAI σ 13 33 P k) 1133 0 = (P : Int) from hP]
  refine x_iload_n i_M_part_30 rfl ?_
  refine x_iastore i_M_part_31 (k := P) rfl (lt_len hl rfl hP2) ?_
  refine x_aload_n i_M_part_32 rfl ?_
  refine x_getR (c2 := 13) i_M_part_33 rfl rfl (hm _ _ rfl) ?_
  refine x_aload_n i_M_part_36 rfl ?_
  refine x_getI i_M_part_37 rfl rfl ?_
  rw [show FI (sAI (sAI σ 13 33 P k) 13 34 P x) 1133 0 = (P : Int) from hP]
  refine x_iload_n i_M_part_40 rfl ?_
  refine x_iastore i_M_part_41 (k := P) rfl (lt_len hl rfl hP2) ?_
  refine x_aload_n i_M_part_42 rfl ?_
  refine x_getR (c2 := 13) i_M_part_43 rfl rfl (hm _ _ rfl) ?_
  refine x_aload_n i_M_part_46 rfl ?_
  refine x_getI i_M_part_47 rfl rfl ?_
  rw [show FI (sAI (sAI (sAI σ 13 33 P k) 13 34 P x) 13 35 P y) 1133 0 = (P : Int) from hP]
  refine x_iload i_M_part_50 rfl ?_
  refine x_iastore i_M_part_52 (k := P) rfl (lt_len hl rfl hP2) ?_
  refine x_aload_n i_M_part_53 rfl ?_
  refine x_dup i_M_part_54 ?_
  refine x_getI i_M_part_55 rfl rfl ?_
  rw [show FI (sAI (sAI (sAI (sAI σ 13 33 P k) 13 34 P x) 13 35 P y) 13 36 P a) 1133 0 = (P : Int) from hP]
  refine x_iconst i_M_part_58 ?_
  refine x_iadd i_M_part_59 (by omega) ?_
  refine x_putI i_M_part_60 rfl rfl ?_
  have e9 : FI (ptM σ P k x y a) 1133 0 = (P : Int) + 1 := by unfold ptM; rw [FI_sFI, if_pos ⟨rfl, rfl⟩]
  show Ex (wp d) m_M_part Q 63 _ _ (ptM σ P k x y a)
  refine x_aload_n i_M_part_63 rfl ?_
  refine x_getI i_M_part_64 rfl rfl ?_
  rw [e9]
  refine x_iconst i_M_part_67 ?_
  refine x_isub i_M_part_68 (by omega) ?_
  have e10 : (P : Int) + 1 - 1 = (P : Int) := by omega
  rw [e10]
  refine x_iret i_M_part_69 rfl ?_
  exact kk
theorem c_M_innerF {p : Nat} (hf : FI σ 1126 0 = (p : Int)) {lo bu : Int} (kk : Q (some (vi 0)) σ) : wp (d + 1) m_M_inner [vr 11 0, vi lo, vi bu] σ Q := by
  refine x_in (ls := [some _, some _, some _]) rfl rfl ?_
  refine x_aload_n i_M_inner_0 rfl ?_
  refine x_getI i_M_inner_1 rfl rfl ?_
  rw [hf]
  refine x_if_lt_f i_M_inner_4 (by omega) ?_
  refine x_iconst i_M_inner_7 ?_
  refine x_iret i_M_inner_8 rfl ?_
  exact kk
theorem c_M_innerS (h : MdS σ t st opn e) (he : e ≤ 1) {a : Nat} (ha : FI σ 1125 0 = (a : Int)) (ha1 : a ≤ t.1) (ha2 : sk t a = st.1) {lo bu : Int} {u : Nat} (kt : a < t.1 → lo ≤ chT t a → chT t a ≠ bu → ∀ σ', atX σ σ' → MdS σ' t (sk t (a + 1), st.2) opn e → FI σ' 1125 0 = ((a + 1 : Nat) : Int) → Q (some (vi (chT t a))) σ') (kf : (t.1 ≤ a ∨ chT t a < lo ∨ chT t a = bu) → ∀ σ', atX σ σ' → MdF σ' t a opn u → FI σ' 1125 0 = (a : Int) → Q (some (vi 0)) σ') : wp (d + 2) m_M_inner [vr 11 0, vi lo, vi bu] σ Q := by
  obtain ⟨⟨hmr, ht, htp⟩, b2, b3, b4, b5, -⟩ := id h
  obtain ⟨hm, hl, hlb⟩ := id hmr
  have ht1 := ht.1
  have bad : (t.1 ≤ a ∨ chT t a < lo ∨ chT t a = bu) → Ex (wp (d + 1)) m_M_inner Q 46 [some (vr 11 0), some (vi lo), some (vi bu)] [] σ := by
    intro w
    refine x_aload_n i_M_inner_46 rfl ?_
    refine x_aload_n i_M_inner_47 rfl ?_
    refine x_getI i_M_inner_48 rfl rfl ?_
    rw [ha]
    refine x_cv1 i_M_inner_51 rfl rfl rfl ?_
    refine c_M_wrongS (u := u) h he ha1 (fun σ2 x2 h2 f2 => ?_)
    refine x_iconst i_M_inner_54 ?_
    refine x_iret i_M_inner_55 rfl ?_
    exact kf w σ2 x2 h2 (f2.trans ha)
  refine x_in (ls := [some _, some _, some _]) rfl rfl ?_
  refine x_aload_n i_M_inner_0 rfl ?_
  refine x_getI i_M_inner_1 rfl rfl ?_
  rw [b4]
  refine x_if_lt_t i_M_inner_4 (by decide) ?_
  refine x_aload_n i_M_inner_9 rfl ?_
  refine x_getI i_M_inner_10 rfl rfl ?_
  rw [ha]
  refine x_aload_n i_M_inner_13 rfl ?_
  refine x_getI i_M_inner_14 rfl rfl ?_
  rw [htp.1]
  refine x_icmp_ge i_M_inner_17 (fun g1 => ?_) (fun g1 => ?_)
  · exact bad (Or.inl (by omega))
  · have hlt : a < t.1 := by omega
    have ec : chT t a = t.2 a := if_pos hlt
    refine x_aload_n i_M_inner_20 rfl ?_
    refine x_getR (c2 := 13) i_M_inner_21 rfl rfl (hm _ _ rfl) ?_
    refine x_aload_n i_M_inner_24 rfl ?_
    refine x_getI i_M_inner_25 rfl rfl ?_
    rw [ha]
    refine x_iaload i_M_inner_28 (k := a) rfl (lt_len hl rfl (by omega)) ?_
    rw [htp.2 a hlt, ← ec]
    refine x_iload_n i_M_inner_29 rfl ?_
    refine x_icmp_lt i_M_inner_30 (fun g2 => ?_) (fun g2 => ?_)
    · exact bad (Or.inr (Or.inl (by omega)))
    · refine x_aload_n i_M_inner_33 rfl ?_
      refine x_getR (c2 := 13) i_M_inner_34 rfl rfl (hm _ _ rfl) ?_
      refine x_aload_n i_M_inner_37 rfl ?_
      refine x_getI i_M_inner_38 rfl rfl ?_
      rw [ha]
      refine x_iaload i_M_inner_41 (k := a) rfl (lt_len hl rfl (by omega)) ?_
      rw [htp.2 a hlt, ← ec]
      refine x_iload_n i_M_inner_42 rfl ?_
      refine x_icmp_ne i_M_inner_43 (fun g3 => ?_) (fun g3 => ?_)
      · have x1 : atX σ (sFI σ 1125 0 ((a : Int) + 1)) := atX_sFI (by decide) (by decide)
        have f1 : FI (sFI σ 1125 0 ((a : Int) + 1)) 1125 0 = ((a + 1 : Nat) : Int) := by rw [FI_sFI, if_pos ⟨rfl, rfl⟩]; omega
        have h1 : MdS (sFI σ 1125 0 ((a : Int) + 1)) t (sk t (a + 1), st.2) opn e := h.at_ x1 (by rw [← ha2]; exact sk_mono hlt) ⟨a + 1, f1, hlt, rfl⟩ (by rw [FI_sFI, if_neg (by omega)]; exact b4) (by rw [FI_sFI, if_neg (by omega)]; exact b5) (by have := sk_mono hlt; omega)
        have fin := kt hlt (by omega) g3 _ x1 h1 f1
        have ai : AI (sFI σ 1125 0 ((a : Int) + 1)) 13 23 a = t.2 a := htp.2 a hlt
        refine x_aload_n i_M_inner_56 rfl ?_
        refine x_dup i_M_inner_57 ?_
        refine x_getI i_M_inner_58 rfl rfl ?_
        rw [ha]
        refine x_iconst i_M_inner_61 ?_
        refine x_iadd i_M_inner_62 (by omega) ?_
        refine x_putI i_M_inner_63 rfl rfl ?_
        generalize sFI σ 1125 0 ((a : Int) + 1) = σ1 at f1 fin ai x1
        obtain ⟨hm, hl, hlb⟩ := hmr.keep x1
        refine x_aload_n i_M_inner_66 rfl ?_
        refine x_getR (c2 := 13) i_M_inner_67 rfl rfl (hm _ _ rfl) ?_
        refine x_aload_n i_M_inner_70 rfl ?_
        refine x_getI i_M_inner_71 rfl rfl ?_
        rw [f1]
        refine x_iconst i_M_inner_74 ?_
        refine x_isub i_M_inner_75 (by omega) ?_
        have ea : ((a + 1 : Nat) : Int) - 1 = (a : Int) := by omega
        rw [ea]
        refine x_iaload i_M_inner_76 (k := a) rfl (lt_len hl rfl (by omega)) ?_
        rw [ai, ← ec]
        refine x_iret i_M_inner_77 rfl ?_
        exact fin
      · exact bad (Or.inr (Or.inr g3))
theorem c_M_innerSignF {p : Nat} (hf : FI σ 1126 0 = (p : Int)) {c : Int} (kk : Q none σ) : wp (d + 1) m_M_innerSign [vr 11 0, vi c] σ Q := by
  refine x_in (ls := [some _, some _]) rfl rfl ?_
  refine x_aload_n i_M_innerSign_0 rfl ?_
  refine x_getI i_M_innerSign_1 rfl rfl ?_
  rw [hf]
  refine x_if_lt_f i_M_innerSign_4 (by omega) ?_
  refine x_vret i_M_innerSign_7 rfl ?_
  exact kk
theorem c_M_innerSignS (h : MdS σ t st opn e) (he : e ≤ 1) {a : Nat} (ha : FI σ 1125 0 = (a : Int)) (ha1 : a ≤ t.1) (ha2 : sk t a = st.1) {c : Int} (hc : 0 ≤ c) {u : Nat} (kt : chT t a = c → ∀ σ', atX σ σ' → MdS σ' t (sk t (a + 1), st.2) opn e → Q none σ') (kf : chT t a ≠ c → ∀ σ', atX σ σ' → MdF σ' t a opn u → Q none σ') : wp (d + 2) m_M_innerSign [vr 11 0, vi c] σ Q := by
  obtain ⟨b1, b2, b3, b4, b5, -⟩ := id h
  have ht1 := b1.2.1.1
  refine x_in (ls := [some _, some _]) rfl rfl ?_
  refine x_aload_n i_M_innerSign_0 rfl ?_
  refine x_getI i_M_innerSign_1 rfl rfl ?_
  rw [b4]
  refine x_if_lt_t i_M_innerSign_4 (by decide) ?_
  refine x_aload_n i_M_innerSign_8 rfl ?_
  refine x_iload_n i_M_innerSign_9 rfl ?_
  refine x_iload_n i_M_innerSign_10 rfl ?_
  refine x_cv2 i_M_innerSign_11 rfl rfl rfl ?_
  refine c_M_isCh b1 ha ha1 hc ?_
  by_cases w : chT t a = c
  · rw [decide_eq_true w]
    have hlt := chT_lt (t := t) (a := a) (by omega)
    refine x_if_ne_t i_M_innerSign_14 (by decide) ?_
    refine x_aload_n i_M_innerSign_28 rfl ?_
    refine x_dup i_M_innerSign_29 ?_
    refine x_getI i_M_innerSign_30 rfl rfl ?_
    rw [ha]
    have x1 : atX σ (sFI σ 1125 0 ((a : Int) + 1)) := atX_sFI (by decide) (by decide)
    refine x_iconst i_M_innerSign_33 ?_
    refine x_iadd i_M_innerSign_34 (by omega) ?_
    refine x_putI i_M_innerSign_35 rfl rfl ?_
    refine x_vret i_M_innerSign_38 rfl ?_
    exact kt w _ x1 (h.at_ x1 (by rw [← ha2]; exact sk_mono hlt) ⟨a + 1, by rw [FI_sFI, if_pos ⟨rfl, rfl⟩]; omega, hlt, rfl⟩ (by rw [FI_sFI, if_neg (by omega)]; exact b4) (by rw [FI_sFI, if_neg (by omega)]; exact b5) (by have := sk_mono hlt; omega))
  · rw [decide_eq_false w]
    refine x_if_ne_f i_M_innerSign_14 rfl ?_
    refine x_aload_n i_M_innerSign_17 rfl ?_
    refine x_aload_n i_M_innerSign_18 rfl ?_
    refine x_getI i_M_innerSign_19 rfl rfl ?_
    rw [ha]
    refine x_cv1 i_M_innerSign_22 rfl rfl rfl ?_
    refine c_M_wrongS (u := u) h he ha1 (fun σ2 x2 h2 f2 => ?_)
    refine x_goto i_M_innerSign_25 ?_
    refine x_vret i_M_innerSign_38 rfl ?_
    exact kf w σ2 x2 h2
end


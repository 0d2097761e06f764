/-! THE MODEL's reading: signs -/
/-- its reading's fields at, fault, open -/
def atF (f a : Nat) : Prop := 1125 ≤ f ∧ f ≤ 1127 ∧ a = 0
def atX (σ σ' : AS) : Prop := fX atF (fun _ _ => False) σ σ'
def rmB (σ : AS) (t : TP) : Prop := modR σ ∧ tpOK t ∧ tapM σ 1103 23 t
theorem rmB.keep {F A : Nat → Nat → Prop} {σ σ' : AS} {t : TP} (h : rmB σ t) (hx : fX F A σ σ') (hF : ¬ F 1103 0) (hA : ¬ A 13 23) : rmB σ' t := ⟨h.1.keep hx, h.2.1, h.2.2.keep (hx.1 _ _ hF) (fun j => hx.2.2.1 _ _ _ hA)⟩
theorem rmB.at_ {σ σ' : AS} {t : TP} (h : rmB σ t) (hx : atX σ σ') : rmB σ' t := h.keep hx (fun q => absurd (show 1125 ≤ 1103 from q.1) (by decide)) (fun q => q)
theorem atX_sFI {σ : AS} {f : Nat} {v : Int} (h1 : 1125 ≤ f) (h2 : f ≤ 1127) : atX σ (sFI σ f 0 v) := fX_sFI ⟨h1, h2, rfl⟩
section
variable {d : Nat} {Q : AQ} {σ : AS} {t : TP} {st : RT} {opn : Nat}
theorem c_M_isAt (hB : rmB σ t) {a : Nat} (ha : FI σ 1125 0 = (a : Int)) (ha2 : a ≤ t.1) {lo hi : Int} (kk : Q (some (vi (bI (decide (a < t.1 ∧ lo ≤ t.2 a ∧ t.2 a ≤ hi))))) σ) : wp (d + 1) m_M_isAt [vr 11 0, vi lo, vi hi] σ Q := by
  obtain ⟨hmr, ht, htp⟩ := hB
  obtain ⟨hm, hl, hlb⟩ := id hmr
  have ht1 := ht.1
  have no : ¬ (a < t.1 ∧ lo ≤ t.2 a ∧ t.2 a ≤ hi) → Ex (wp d) m_M_isAt Q 41 [some (vr 11 0), some (vi lo), some (vi hi)] [] σ := by
    intro w
    rw [decide_eq_false w] at kk
    refine x_iconst i_M_isAt_41 ?_
    refine x_zret i_M_isAt_42 rfl (by omega) ?_
    exact kk
  refine x_in (ls := [some _, some _, some _]) rfl rfl ?_
  refine x_aload_n i_M_isAt_0 rfl ?_
  refine x_getI i_M_isAt_1 rfl rfl ?_
  rw [ha]
  refine x_aload_n i_M_isAt_4 rfl ?_
  refine x_getI i_M_isAt_5 rfl rfl ?_
  rw [htp.1]
  refine x_icmp_ge i_M_isAt_8 (fun g1 => ?_) (fun g1 => ?_)
  · exact no (by omega)
  · have hlt : a < t.1 := by omega
    refine x_aload_n i_M_isAt_11 rfl ?_
    refine x_getR (c2 := 13) i_M_isAt_12 rfl rfl (hm _ _ rfl) ?_
    refine x_aload_n i_M_isAt_15 rfl ?_
    refine x_getI i_M_isAt_16 rfl rfl ?_
    rw [ha]
    refine x_iaload i_M_isAt_19 (k := a) rfl (lt_len hl rfl (by omega)) ?_
    rw [htp.2 a hlt]
    refine x_iload_n i_M_isAt_20 rfl ?_
    refine x_icmp_lt i_M_isAt_21 (fun g2 => ?_) (fun g2 => ?_)
    · exact no (by omega)
    · refine x_aload_n i_M_isAt_24 rfl ?_
      refine x_getR (c2 := 13) i_M_isAt_25 rfl rfl (hm _ _ rfl) ?_
      refine x_aload_n i_M_isAt_28 rfl ?_
      refine x_getI i_M_isAt_29 rfl rfl ?_
      rw [ha]
      refine x_iaload i_M_isAt_32 (k := a) rfl (lt_len hl rfl (by omega)) ?_
      rw [htp.2 a hlt]
      refine x_iload_n i_M_isAt_33 rfl ?_
      refine x_icmp_gt i_M_isAt_34 (fun g3 => ?_) (fun g3 => ?_)
      · exact no (by omega)
      · rw [decide_eq_true ⟨hlt, by omega, by omega⟩] at kk
        refine x_iconst i_M_isAt_37 ?_
        refine x_goto i_M_isAt_38 ?_
        refine x_zret i_M_isAt_42 rfl (by omega) ?_
        exact kk
theorem is_ch {t : TP} (ht : tpOK t) {a : Nat} {c : Int} (hc : 0 ≤ c) : decide (a < t.1 ∧ c ≤ t.2 a ∧ t.2 a ≤ c) = decide (chT t a = c) := by
  unfold chT
  by_cases w : a < t.1
  · rw [if_pos w]
    apply decide_eq_decide.mpr
    exact ⟨fun q => by omega, fun q => ⟨w, by omega, by omega⟩⟩
  · rw [if_neg w, decide_eq_false (fun q => w q.1), decide_eq_false (by omega)]
theorem is_rg {t : TP} (ht : tpOK t) {a : Nat} {lo hi : Int} (hc : 0 ≤ lo) : decide (a < t.1 ∧ lo ≤ t.2 a ∧ t.2 a ≤ hi) = decide (lo ≤ chT t a ∧ chT t a ≤ hi) := by
  unfold chT
  by_cases w : a < t.1
  · rw [if_pos w]
    apply decide_eq_decide.mpr
    exact ⟨fun q => q.2, fun q => ⟨w, q⟩⟩
  · rw [if_neg w, decide_eq_false (fun q => w q.1), decide_eq_false (by omega)]
theorem c_M_isCh (hB : rmB σ t) {a : Nat} (ha : FI σ 1125 0 = (a : Int)) (ha2 : a ≤ t.1) {c : Int} (hc : 0 ≤ c) (kk : Q (some (vi (bI (decide (chT t a = c))))) σ) : wp (d + 1) m_M_isAt [vr 11 0, vi c, vi c] σ Q :=
  c_M_isAt hB ha ha2 (by rw [is_ch hB.2.1 hc]; exact kk)
theorem c_M_isRg (hB : rmB σ t) {a : Nat} (ha : FI σ 1125 0 = (a : Int)) (ha2 : a ≤ t.1) {lo hi : Int} (hc : 0 ≤ lo) (kk : Q (some (vi (bI (decide (lo ≤ chT t a ∧ chT t a ≤ hi))))) σ) : wp (d + 1) m_M_isAt [vr 11 0, vi lo, vi hi] σ Q :=
  c_M_isAt hB ha ha2 (by rw [is_rg hB.2.1 hc]; exact kk)
theorem c_M_skips (hB : rmB σ t) {a : Nat} (ha : FI σ 1125 0 = (a : Int)) (ha2 : a ≤ t.1) (kk : ∀ σ', atX σ σ' → FI σ' 1125 0 = ((sk t a : Nat) : Int) → FI σ' 1126 0 = FI σ 1126 0 → FI σ' 1127 0 = FI σ 1127 0 → Q none σ') : wp (d + 2) m_M_skips [vr 11 0] σ Q := by
  have loop : ∀ (k a : Nat) (σ1 : AS), t.1 - a = k → a ≤ t.1 → atX σ σ1 → FI σ1 1125 0 = (a : Int) → FI σ1 1126 0 = FI σ 1126 0 → FI σ1 1127 0 = FI σ 1127 0 → (∀ σ', atX σ σ' → FI σ' 1125 0 = ((sk t a : Nat) : Int) → FI σ' 1126 0 = FI σ 1126 0 → FI σ' 1127 0 = FI σ 1127 0 → Q none σ') → Ex (wp (d + 1)) m_M_skips Q 0 [some (vr 11 0)] [] σ1 := by
    intro k
    induction k with
    | zero =>
      intro a σ1 hk ha x1 f1 f2 f3 kk
      have e : chT t a ≠ 32 := by unfold chT; rw [if_neg (by omega)]; decide
      rw [sk_stop (by omega)] at kk
      refine x_aload_n i_M_skips_0 rfl ?_
      refine x_bipush i_M_skips_1 ?_
      refine x_bipush i_M_skips_3 ?_
      refine x_cv2 i_M_skips_5 rfl rfl rfl ?_
      refine c_M_isCh (hB.at_ x1) f1 ha (by decide) ?_
      rw [decide_eq_false e]
      refine x_if_eq_t i_M_skips_8 rfl ?_
      refine x_vret i_M_skips_24 rfl ?_
      exact kk σ1 x1 f1 f2 f3
    | succ k ih =>
      intro a σ1 hk ha x1 f1 f2 f3 kk
      have hlt : a < t.1 := by omega
      have ht1 := hB.2.1.1
      refine x_aload_n i_M_skips_0 rfl ?_
      refine x_bipush i_M_skips_1 ?_
      refine x_bipush i_M_skips_3 ?_
      refine x_cv2 i_M_skips_5 rfl rfl rfl ?_
      refine c_M_isCh (hB.at_ x1) f1 ha (by decide) ?_
      by_cases w : chT t a = 32
      · have w2 : t.2 a = 32 := by unfold chT at w; rw [if_pos hlt] at w; exact w
        rw [decide_eq_true w]
        refine x_if_eq_f i_M_skips_8 (by decide) ?_
        refine x_aload_n i_M_skips_11 rfl ?_
        refine x_dup i_M_skips_12 ?_
        refine x_getI i_M_skips_13 rfl rfl ?_
        rw [f1]
        refine x_iconst i_M_skips_16 ?_
        refine x_iadd i_M_skips_17 (by omega) ?_
        refine x_putI i_M_skips_18 rfl rfl ?_
        refine x_goto i_M_skips_21 ?_
        refine ih (a + 1) _ (by omega) (by omega) (x1.tr (atX_sFI (by decide) (by decide))) (by rw [FI_sFI, if_pos ⟨rfl, rfl⟩]; omega) (by rw [FI_sFI, if_neg (by omega)]; exact f2) (by rw [FI_sFI, if_neg (by omega)]; exact f3) ?_
        rw [sk_step hlt w2] at kk
        exact kk
      · rw [sk_stop (fun q => w (by unfold chT; rw [if_pos hlt]; exact q.2))] at kk
        rw [decide_eq_false w]
        refine x_if_eq_t i_M_skips_8 rfl ?_
        refine x_vret i_M_skips_24 rfl ?_
        exact kk σ1 x1 f1 f2 f3
  refine x_in (ls := [some _]) rfl rfl ?_
  exact loop _ a σ rfl ha2 (fX.rf _ _ _) ha rfl rfl kk
theorem c_M_wrongF {p : Nat} (hf : FI σ 1126 0 = (p : Int)) {q : Int} (kk : Q none σ) : wp (d + 1) m_M_wrong [vr 11 0, vi q] σ Q := by
  refine x_in (ls := [some _, some _]) rfl rfl ?_
  refine x_aload_n i_M_wrong_0 rfl ?_
  refine x_getI i_M_wrong_1 rfl rfl ?_
  rw [hf]
  refine x_if_ge_t i_M_wrong_4 (by omega) ?_
  refine x_vret i_M_wrong_12 rfl ?_
  exact kk
theorem c_M_wrongN (hf : FI σ 1126 0 = -1) {q : Int} (kk : Q none (sFI σ 1126 0 q)) : wp (d + 1) m_M_wrong [vr 11 0, vi q] σ Q := by
  refine x_in (ls := [some _, some _]) rfl rfl ?_
  refine x_aload_n i_M_wrong_0 rfl ?_
  refine x_getI i_M_wrong_1 rfl rfl ?_
  rw [hf]
  refine x_if_ge_f i_M_wrong_4 (by decide) ?_
  refine x_aload_n i_M_wrong_7 rfl ?_
  refine x_iload_n i_M_wrong_8 rfl ?_
  refine x_putI i_M_wrong_9 rfl rfl ?_
  refine x_vret i_M_wrong_12 rfl ?_
  exact kk
theorem c_M_takesF {p : Nat} (hf : FI σ 1126 0 = (p : Int)) {c : Int} (kk : Q (some (vi 0)) σ) : wp (d + 1) m_M_takes [vr 11 0, vi c] σ Q := by
  refine x_in (ls := [some _, some _]) rfl rfl ?_
  refine x_aload_n i_M_takes_0 rfl ?_
  refine x_getI i_M_takes_1 rfl rfl ?_
  rw [hf]
  refine x_if_lt_f i_M_takes_4 (by omega) ?_
  refine x_iconst i_M_takes_7 ?_
  refine x_zret i_M_takes_8 rfl (by omega) ?_
  exact kk
theorem c_M_takesN (hB : rmB σ t) (hf : FI σ 1126 0 = -1) {a : Nat} (ha : FI σ 1125 0 = (a : Int)) (ha2 : a ≤ t.1) {c : Int} (hc : 0 ≤ c) (kt : chT t (sk t a) = c → ∀ σ', atX σ σ' → FI σ' 1125 0 = ((sk t a + 1 : Nat) : Int) → FI σ' 1126 0 = -1 → FI σ' 1127 0 = FI σ 1127 0 → Q (some (vi 1)) σ') (kf : chT t (sk t a) ≠ c → ∀ σ', atX σ σ' → FI σ' 1125 0 = ((sk t a : Nat) : Int) → FI σ' 1126 0 = -1 → FI σ' 1127 0 = FI σ 1127 0 → Q (some (vi 0)) σ') : wp (d + 3) m_M_takes [vr 11 0, vi c] σ Q := by
  have ht1 := hB.2.1.1
  refine x_in (ls := [some _, some _]) rfl rfl ?_
  refine x_aload_n i_M_takes_0 rfl ?_
  refine x_getI i_M_takes_1 rfl rfl ?_
  rw [hf]
  refine x_if_lt_t i_M_takes_4 (by decide) ?_
  refine x_aload_n i_M_takes_9 rfl ?_
  refine x_cv0 i_M_takes_10 rfl rfl rfl ?_
  refine c_M_skips hB ha ha2 (fun σ1 x1 f1 f2 f3 => ?_)
  have hle : sk t a ≤ t.1 := sk_le ha2
  refine x_aload_n i_M_takes_13 rfl ?_
  refine x_iload_n i_M_takes_14 rfl ?_
  refine x_iload_n i_M_takes_15 rfl ?_
  refine x_cv2 i_M_takes_16 rfl rfl rfl ?_
  refine c_M_isCh (hB.at_ x1) f1 hle hc ?_
  by_cases w : chT t (sk t a) = c
  · rw [decide_eq_true w]
    refine x_if_ne_t i_M_takes_19 (by decide) ?_
    refine x_aload_n i_M_takes_24 rfl ?_
    refine x_dup i_M_takes_25 ?_
    refine x_getI i_M_takes_26 rfl rfl ?_
    rw [f1]
    refine x_iconst i_M_takes_29 ?_
    refine x_iadd i_M_takes_30 (by omega) ?_
    refine x_putI i_M_takes_31 rfl rfl ?_
    have e1 : FI (sFI σ1 1125 0 ((sk t a : Nat) + 1 : Int)) 1125 0 = ((sk t a + 1 : Nat) : Int) := by rw [FI_sFI, if_pos ⟨rfl, rfl⟩]; omega
    refine x_iconst i_M_takes_34 ?_
    refine x_zret i_M_takes_35 rfl (by omega) ?_
    exact kt w _ (x1.tr (atX_sFI (by decide) (by decide))) e1 (by rw [FI_sFI, if_neg (by omega), f2]; exact hf) (by rw [FI_sFI, if_neg (by omega)]; exact f3)
  · rw [decide_eq_false w]
    refine x_if_ne_f i_M_takes_19 rfl ?_
    refine x_iconst i_M_takes_22 ?_
    refine x_zret i_M_takes_23 rfl (by omega) ?_
    exact kf w σ1 x1 f1 (f2.trans hf) f3
end


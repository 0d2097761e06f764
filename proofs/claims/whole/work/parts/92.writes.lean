/-! THE MODEL: worthFrom, writes -/
def wkF (f a : Nat) : Prop := (f = 1181 ∨ f = 1182) ∧ a = 0
def woF (f a : Nat) : Prop := f = 1182 ∧ a = 0
def wkA (k a : Nat) : Prop := k = 13 ∧ a = 63
theorem wkX_fl {σ σ' : AS} (hx : fX wkF wkA σ σ') {l : List (Nat × Nat × Nat × Nat)} {k : Nat} (h : flM σ k l) : flM σ' k l := h.keep l k (fun a j w1 w2 _ _ => hx.2.2.1 _ _ _ (fun q => by have := q.2; omega))
theorem gA_size : ∀ {t : TT}, gA true t → 1 ≤ sizeT t
  | .num _, _ => by simp [sizeT]
  | .mulL _ _, _ => by simp [sizeT]
  | .mulR _ _, _ => by simp [sizeT]
theorem lenT_le : ∀ (ts : TT), gA false ts → lenT ts ≤ sizeT ts
  | .var _, _ => Nat.zero_le _
  | .add a b, h => by
    have := lenT_le b h.2
    have := gA_size h.1
    simp only [lenT, sizeT]; omega
theorem c_M_worthFrom : ∀ (D : Nat) (t : TT), gA true t → sizeT t ≤ D → ∀ (Q : AQ) (σ : AS) (k dp : Nat), modR σ → flM σ k (flatT t dp) → FI σ 1182 0 = (k : Int) → k + sizeT t ≤ 2001 → (∀ σ', fX woF fnA σ σ' → FI σ' 1182 0 = ((k + sizeT t : Nat) : Int) → Q (some (vi (worthT t))) σ') → wp (D + 1) m_M_worthFrom [vr 11 0] σ Q := by
  intro D
  induction D with
  | zero =>
    intro t hg hs
    exfalso
    match t, hg, hs with
    | .num _, _, hs => simp [sizeT] at hs
    | .mulL _ _, _, hs => simp [sizeT] at hs
    | .mulR _ _, _, hs => simp [sizeT] at hs
  | succ D ih =>
    intro t hg hs Q σ k dp hmr hf hk hk2 kk
    obtain ⟨hm, hl, -⟩ := id hmr
    have hs1 : 1 ≤ sizeT t := by
      match t, hg with
      | .num _, _ => simp [sizeT]
      | .mulL _ _, _ => simp [sizeT]
      | .mulR _ _, _ => simp [sizeT]
    refine x_in (ls := [some _, none, none, none, none]) rfl rfl ?_
    refine x_aload_n i_M_worthFrom_0 rfl ?_
    refine x_getI i_M_worthFrom_1 rfl rfl ?_
    refine x_istore_n (ls' := [_, _, _, _, _]) i_M_worthFrom_4 rfl rfl ?_
    refine x_aload_n i_M_worthFrom_5 rfl ?_
    refine x_dup i_M_worthFrom_6 ?_
    refine x_getI i_M_worthFrom_7 rfl rfl ?_
    refine x_iconst i_M_worthFrom_10 ?_
    refine x_iadd i_M_worthFrom_11 (by omega) ?_
    refine x_putI i_M_worthFrom_12 rfl rfl ?_
    refine x_aload_n i_M_worthFrom_15 rfl ?_
    refine x_getR (c2 := 13) i_M_worthFrom_16 rfl rfl (hm _ _ rfl) ?_
    refine x_iload_n i_M_worthFrom_19 rfl ?_
    rw [hk]
    generalize hσ1 : sFI σ 1182 0 ((k : Int) + 1) = σ1
    have x1 : fX woF fnA σ σ1 := by rw [← hσ1]; exact fX_sFI ⟨rfl, rfl⟩
    have f1 : FI σ1 1182 0 = ((k + 1 : Nat) : Int) := by rw [← hσ1]; simp [FI_sFI]
    clear hσ1
    have hmr1 := hmr.keep x1
    obtain ⟨hm, hl, -⟩ := id hmr1
    have wk : ∀ {s s' : AS}, fX woF fnA s s' → fX wkF wkA s s' := fun h => h.mono (fun _ _ q => ⟨Or.inr q.1, q.2⟩) (fun _ _ q => q.elim)
    have hf1 := wkX_fl (wk x1) hf
    match t, hg, hs, hk2, kk, hf1, hs1 with
    | .num n, hg, hs, hk2, kk, hf1, _ =>
      obtain ⟨g1, g2, -⟩ := hf1
      have g1 : AI σ1 13 59 k = 0 := g1
      refine x_iaload i_M_worthFrom_20 (k := k) rfl (lt_len hl rfl (by omega)) ?_
      rw [g1]
      refine x_if_ne_f i_M_worthFrom_21 (by decide) ?_
      refine x_aload_n i_M_worthFrom_24 rfl ?_
      refine x_getR (c2 := 13) i_M_worthFrom_25 rfl rfl (hm _ _ rfl) ?_
      refine x_iload_n i_M_worthFrom_28 rfl ?_
      refine x_iaload i_M_worthFrom_29 (k := k) rfl (lt_len hl rfl (by omega)) ?_
      rw [g2]
      have hw : worthT (.num n) = (n : Int) := by
        have hg : n < 256 := hg
        have z : wr (0 * 10) = 0 := by unfold wr; decide
        simp only [worthT, worthA, z, Int.zero_add]
        exact wr_id (by omega) (by omega)
      have := kk σ1 x1 f1
      rw [hw] at this
      refine x_iret i_M_worthFrom_30 rfl ?_
      exact this
    | .mulL z ts, hg, hs, hk2, kk, hf1, _ =>
      obtain ⟨g1, -, g3, -, g5⟩ := hf1
      have g1 : AI σ1 13 59 k = 1 := g1
      have hg : gA false ts := hg
      have hlen := lenT_le ts hg
      have hs : 1 + sizeT ts ≤ D + 1 := hs
      have hk2 : k + (1 + sizeT ts) ≤ 2001 := hk2
      have hin : InR (worthA ts 0) := by
        have : ∀ (ts : TT) (acc : Int), gA false ts → InR acc → InR (worthA ts acc) := by
          intro ts
          induction ts with
          | add a b _ ihb => intro acc h1 h2; exact ihb _ h1.2 (by rw [gA_isN h1.1]; exact inr_wr _)
          | var _ => intro acc _ h; exact h
          | num _ => intro acc h; exact h.elim
          | mulL _ _ => intro acc h; exact h.elim
          | mulR _ _ => intro acc h; exact h.elim
        exact this ts 0 hg inr_0
      have hw : worthT (.mulL z ts) = worthA ts 0 := by
        have z0 : wr (0 * 10) = 0 := by unfold wr; decide
        simp only [worthT, worthA, z0, Int.zero_add]
        exact wr_id hin.1 hin.2
      rw [hw] at kk
      clear hw hin
      have loop : ∀ (us : TT), gA false us → ∀ (acc : Int) (j : Nat) (σ2 : AS), sizeT us ≤ sizeT ts → fX woF fnA σ1 σ2 → flM σ2 (k + 1 + (sizeT ts - sizeT us)) (flatT us (dp + 1)) → FI σ2 1182 0 = ((k + 1 + (sizeT ts - sizeT us) : Nat) : Int) → j + lenT us = lenT ts → worthA us acc = worthA ts 0 → Ex (wp (D + 1)) m_M_worthFrom Q 45 [some (vr 11 0), some (vi (k : Nat)), some (vi acc), some (vi (j : Nat)), none] [] σ2 := by
        intro us
        induction us with
        | var _ =>
          intro _ acc j σ2 h1 x2 h2 h3 h4 h5
          obtain ⟨hm, hl, -⟩ := hmr1.keep x2
          refine x_iload_n i_M_worthFrom_45 rfl ?_
          refine x_aload_n i_M_worthFrom_46 rfl ?_
          refine x_getR (c2 := 13) i_M_worthFrom_47 rfl rfl (hm _ _ rfl) ?_
          refine x_iload_n i_M_worthFrom_50 rfl ?_
          refine x_iaload i_M_worthFrom_51 (k := k) rfl (lt_len hl rfl (by omega)) ?_
          rw [show AI σ2 13 61 k = (lenT ts : Nat) by rw [x2.2.2.1 _ _ _ (fun q => q)]; exact g3]
          refine x_icmp_ge_t i_M_worthFrom_52 (by simp only [lenT] at h4; omega) ?_
          refine x_iload_n i_M_worthFrom_71 rfl ?_
          have := kk σ2 (x1.tr x2) (by rw [h3]; simp only [sizeT]; omega)
          rw [← h5] at this
          refine x_iret i_M_worthFrom_72 rfl ?_
          exact this
        | add a b _ ihb =>
          intro hg acc j σ2 h1 x2 h2 h3 h4 h5
          obtain ⟨hm, hl, -⟩ := hmr1.keep x2
          have h1 : sizeT a + sizeT b ≤ sizeT ts := h1
          simp only [flatT] at h2
          rw [flM_app, flatT_len] at h2
          refine x_iload_n i_M_worthFrom_45 rfl ?_
          refine x_aload_n i_M_worthFrom_46 rfl ?_
          refine x_getR (c2 := 13) i_M_worthFrom_47 rfl rfl (hm _ _ rfl) ?_
          refine x_iload_n i_M_worthFrom_50 rfl ?_
          refine x_iaload i_M_worthFrom_51 (k := k) rfl (lt_len hl rfl (by omega)) ?_
          rw [show AI σ2 13 61 k = (lenT ts : Nat) by rw [x2.2.2.1 _ _ _ (fun q => q)]; exact g3]
          refine x_icmp_ge_f i_M_worthFrom_52 (by simp only [lenT] at h4; omega) ?_
          refine x_bipush i_M_worthFrom_55 ?_
          refine x_iload_n i_M_worthFrom_57 rfl ?_
          refine x_imulW i_M_worthFrom_58 ?_
          refine x_aload_n i_M_worthFrom_59 rfl ?_
          refine x_cv0 i_M_worthFrom_60 rfl rfl rfl ?_
          refine ih a hg.1 (by omega) _ σ2 _ (dp + 1) (hmr1.keep x2) h2.1 h3 (by simp only [sizeT]; omega) (fun σ3 x3 f3 => ?_)
          have e1 : wr (wr (10 * acc) + worthT a) = worthA a acc := by rw [gA_isN hg.1, Int.mul_comm]
          refine x_iaddW i_M_worthFrom_63 ?_
          rw [e1]
          refine x_istore_n (ls' := [_, _, _, _, _]) i_M_worthFrom_64 rfl rfl ?_
          refine x_iinc (ls' := [_, _, _, _, _]) i_M_worthFrom_65 rfl (by simp only [lenT] at h4; omega) rfl ?_
          refine x_goto i_M_worthFrom_68 ?_
          have e2 : k + 1 + (sizeT ts - sizeT (.add a b)) + sizeT a = k + 1 + (sizeT ts - sizeT b) := by simp only [sizeT]; omega
          rw [e2] at f3
          have h22 := h2.2
          rw [e2] at h22
          exact ihb hg.2 (worthA a acc) (j + 1) σ3 (by omega) (x2.tr x3) (wkX_fl (wk x3) h22) f3 (by simp only [lenT] at h4 ⊢; omega) h5
        | num _ => intro h; exact h.elim
        | mulL _ _ => intro h; exact h.elim
        | mulR _ _ => intro h; exact h.elim
      refine x_iaload i_M_worthFrom_20 (k := k) rfl (lt_len hl rfl (by omega)) ?_
      rw [g1]
      refine x_if_ne_t i_M_worthFrom_21 (by decide) ?_
      refine x_iconst i_M_worthFrom_31 ?_
      refine x_istore_n (ls' := [_, _, _, _, _]) i_M_worthFrom_32 rfl rfl ?_
      refine x_aload_n i_M_worthFrom_33 rfl ?_
      refine x_getR (c2 := 13) i_M_worthFrom_34 rfl rfl (hm _ _ rfl) ?_
      refine x_iload_n i_M_worthFrom_37 rfl ?_
      refine x_iaload i_M_worthFrom_38 (k := k) rfl (lt_len hl rfl (by omega)) ?_
      rw [g1]
      refine x_iconst i_M_worthFrom_39 ?_
      refine x_icmp_ne_f i_M_worthFrom_40 rfl ?_
      refine x_iconst i_M_worthFrom_43 ?_
      refine x_istore_n (ls' := [_, _, _, _, _]) i_M_worthFrom_44 rfl rfl ?_
      exact loop ts hg 0 0 σ1 (Nat.le_refl _) (fX.rf _ _ _) (by rw [Nat.sub_self]; exact g5) (by rw [Nat.sub_self]; exact f1) (by omega) rfl
    | .mulR (.add a b) c, hg, hs, hk2, kk, hf1, _ =>
      obtain ⟨g1, g2, -, -, g5⟩ := hf1
      have g1 : AI σ1 13 59 k = 2 := g1
      obtain ⟨hc, ga, gb⟩ := hg
      have hs : 1 + (sizeT a + sizeT b) ≤ D + 1 := hs
      have hk2 : k + (1 + (sizeT a + sizeT b)) ≤ 2001 := hk2
      simp only [flatT] at g5
      rw [flM_app, flatT_len] at g5
      have hw : worthT (.mulR (.add a b) c) = reck c (worthT a) (worthT b) := by
        have := inr_reck c (worthT a) (worthT b)
        have z : wr (0 * 10) = 0 := by unfold wr; decide
        simp only [worthT, worthA, z, Int.zero_add] at this ⊢
        exact wr_id this.1 this.2
      rw [hw] at kk
      refine x_iaload i_M_worthFrom_20 (k := k) rfl (lt_len hl rfl (by omega)) ?_
      rw [g1]
      refine x_if_ne_t i_M_worthFrom_21 (by decide) ?_
      refine x_iconst i_M_worthFrom_31 ?_
      refine x_istore_n (ls' := [_, _, _, _, _]) i_M_worthFrom_32 rfl rfl ?_
      refine x_aload_n i_M_worthFrom_33 rfl ?_
      refine x_getR (c2 := 13) i_M_worthFrom_34 rfl rfl (hm _ _ rfl) ?_
      refine x_iload_n i_M_worthFrom_37 rfl ?_
      refine x_iaload i_M_worthFrom_38 (k := k) rfl (lt_len hl rfl (by omega)) ?_
      rw [g1]
      refine x_iconst i_M_worthFrom_39 ?_
      refine x_icmp_ne_t i_M_worthFrom_40 (by decide) ?_
      refine x_aload_n i_M_worthFrom_73 rfl ?_
      refine x_cv0 i_M_worthFrom_74 rfl rfl rfl ?_
      refine ih a ga (by omega) _ σ1 (k + 1) (dp + 1) hmr1 g5.1 f1 (by omega) (fun σ2 x2 f2 => ?_)
      refine x_istore_n (ls' := [_, _, _, _, _]) i_M_worthFrom_77 rfl rfl ?_
      refine x_aload_n i_M_worthFrom_78 rfl ?_
      refine x_cv0 i_M_worthFrom_79 rfl rfl rfl ?_
      refine ih b gb (by omega) _ σ2 (k + 1 + sizeT a) (dp + 1) (hmr1.keep x2) (wkX_fl (wk x2) g5.2) f2 (by omega) (fun σ3 x3 f3 => ?_)
      obtain ⟨hm, hl, -⟩ := (hmr1.keep x2).keep x3
      have fin := kk σ3 ((x1.tr x2).tr x3) (by rw [f3]; simp only [sizeT]; omega)
      have e2 : AI σ3 13 60 k = (c : Int) := by rw [(x2.tr x3).2.2.1 _ _ _ (fun q => q)]; exact g2
      unfold reck at fin
      refine x_istore (ls' := [_, _, _, _, _]) i_M_worthFrom_82 rfl rfl ?_
      refine x_aload_n i_M_worthFrom_84 rfl ?_
      refine x_getR (c2 := 13) i_M_worthFrom_85 rfl rfl (hm _ _ rfl) ?_
      refine x_iload_n i_M_worthFrom_88 rfl ?_
      refine x_iaload i_M_worthFrom_89 (k := k) rfl (lt_len hl rfl (by omega)) ?_
      rw [e2]
      refine x_bipush i_M_worthFrom_90 ?_
      refine x_icmp_ne i_M_worthFrom_92 (fun h1 => ?_) (fun h1 => ?_)
      · refine x_aload_n i_M_worthFrom_102 rfl ?_
        refine x_getR (c2 := 13) i_M_worthFrom_103 rfl rfl (hm _ _ rfl) ?_
        refine x_iload_n i_M_worthFrom_106 rfl ?_
        refine x_iaload i_M_worthFrom_107 (k := k) rfl (lt_len hl rfl (by omega)) ?_
        rw [e2]
        refine x_bipush i_M_worthFrom_108 ?_
        refine x_icmp_ne i_M_worthFrom_110 (fun h2 => ?_) (fun h2 => ?_)
        · refine x_aload_n i_M_worthFrom_120 rfl ?_
          refine x_getR (c2 := 13) i_M_worthFrom_121 rfl rfl (hm _ _ rfl) ?_
          refine x_iload_n i_M_worthFrom_124 rfl ?_
          refine x_iaload i_M_worthFrom_125 (k := k) rfl (lt_len hl rfl (by omega)) ?_
          rw [e2]
          refine x_bipush i_M_worthFrom_126 ?_
          refine x_icmp_ne i_M_worthFrom_128 (fun h3 => ?_) (fun h3 => ?_)
          · rw [if_neg (by omega), if_neg (by omega), if_neg (by omega)] at fin
            refine x_iconst i_M_worthFrom_138 ?_
            refine x_iret i_M_worthFrom_139 rfl ?_
            exact fin
          · rw [if_neg (by omega), if_neg (by omega), if_pos (by omega)] at fin
            refine x_iload_n i_M_worthFrom_131 rfl ?_
            refine x_iload i_M_worthFrom_132 rfl ?_
            refine x_imulW i_M_worthFrom_134 ?_
            refine x_goto i_M_worthFrom_135 ?_
            refine x_iret i_M_worthFrom_139 rfl ?_
            exact fin
        · rw [if_neg (by omega), if_pos (by omega)] at fin
          refine x_iload_n i_M_worthFrom_113 rfl ?_
          refine x_iload i_M_worthFrom_114 rfl ?_
          refine x_isubW i_M_worthFrom_116 ?_
          refine x_goto i_M_worthFrom_117 ?_
          refine x_iret i_M_worthFrom_139 rfl ?_
          exact fin
      · rw [if_pos (by omega)] at fin
        refine x_iload_n i_M_worthFrom_95 rfl ?_
        refine x_iload i_M_worthFrom_96 rfl ?_
        refine x_iaddW i_M_worthFrom_98 ?_
        refine x_goto i_M_worthFrom_99 ?_
        refine x_iret i_M_worthFrom_139 rfl ?_
        exact fin


/-! THE MODEL: writes -/
def txM (σ : AS) (A : List Int) : Prop := FI σ 1181 0 = (A.length : Int) ∧ ∀ i v, A[i]? = some v → AI σ 13 63 i = v
section
variable {d : Nat} {Q : AQ} {σ : AS}
theorem c_M_write (h : modR σ) {A : List Int} (ht : txM σ A) (hA : A.length < 30000) {c : Int} (kk : ∀ σ', fX wkF wkA σ σ' → txM σ' (A ++ [c]) → FI σ' 1182 0 = FI σ 1182 0 → Q none σ') : wp (d + 1) m_M_write [vr 11 0, vi c] σ Q := by
  obtain ⟨hm, hl, -⟩ := h
  obtain ⟨t1, t2⟩ := ht
  refine x_in (ls := [some _, some _]) rfl rfl ?_
  refine x_aload_n i_M_write_0 rfl ?_
  refine x_getR (c2 := 13) i_M_write_1 rfl rfl (hm _ _ rfl) ?_
  refine x_aload_n i_M_write_4 rfl ?_
  refine x_getI i_M_write_5 rfl rfl ?_
  rw [t1]
  refine x_iload_n i_M_write_8 rfl ?_
  refine x_iastore i_M_write_9 rfl (lt_len hl rfl hA) ?_
  refine x_aload_n i_M_write_10 rfl ?_
  refine x_dup i_M_write_11 ?_
  refine x_getI i_M_write_12 rfl rfl ?_
  rw [show FI (sAI σ 13 63 A.length c) 1181 0 = (A.length : Int) from t1]
  refine x_iconst i_M_write_15 ?_
  refine x_iadd i_M_write_16 (by omega) ?_
  refine x_putI i_M_write_17 rfl rfl ?_
  refine x_vret i_M_write_20 rfl ?_
  refine kk _ ((fX_sAI ⟨rfl, rfl⟩).tr (fX_sFI ⟨Or.inl rfl, rfl⟩)) ⟨by simp [FI_sFI], fun i v hi => ?_⟩ (by rw [FI_sFI, if_neg (by omega)]; rfl)
  rw [AI_sFI, AI_sAI]
  by_cases w : i < A.length
  · rw [List.getElem?_append_left w] at hi
    rw [if_neg (by omega)]
    exact t2 i v hi
  · have hlt := (List.getElem?_eq_some_iff.mp hi).1
    simp at hlt
    have e : i = A.length := by omega
    subst e
    simp at hi
    rw [if_pos ⟨rfl, rfl, rfl⟩, hi]
end
theorem c_M_writes : ∀ (D : Nat) (t : TT), gA true t → sizeT t ≤ D → ∀ (Q : AQ) (σ : AS) (A : List Int) (k dp : Nat), modR σ → flM σ k (flatT t dp) → FI σ 1182 0 = (k : Int) → k + sizeT t ≤ 2001 → txM σ A → A.length + 4 * sizeT t ≤ 30000 → (∀ σ', fX wkF wkA σ σ' → FI σ' 1182 0 = ((k + sizeT t : Nat) : Int) → txM σ' (A ++ textT t) → Q none σ') → wp (D + 1) m_M_writes [vr 11 0] σ Q := by
  intro D
  induction D with
  | zero =>
    intro t hg hs
    have := gA_size hg
    omega
  | succ D ih =>
    intro t hg hs Q σ A k dp hmr hf hk hk2 htx hA kk
    obtain ⟨hm, hl, -⟩ := id hmr
    have hs1 := gA_size hg
    have hlen := (text_len t).1 hg
    refine x_in (ls := [some _, none, none]) rfl rfl ?_
    refine x_aload_n i_M_writes_0 rfl ?_
    refine x_getI i_M_writes_1 rfl rfl ?_
    refine x_istore_n (ls' := [_, _, _]) i_M_writes_4 rfl rfl ?_
    refine x_aload_n i_M_writes_5 rfl ?_
    refine x_dup i_M_writes_6 ?_
    refine x_getI i_M_writes_7 rfl rfl ?_
    refine x_iconst i_M_writes_10 ?_
    refine x_iadd i_M_writes_11 (by omega) ?_
    refine x_putI i_M_writes_12 rfl rfl ?_
    refine x_aload_n i_M_writes_15 rfl ?_
    refine x_getR (c2 := 13) i_M_writes_16 rfl rfl (hm _ _ rfl) ?_
    refine x_iload_n i_M_writes_19 rfl ?_
    rw [hk]
    generalize hσ1 : sFI σ 1182 0 ((k : Int) + 1) = σ1
    have x1 : fX wkF wkA σ σ1 := by rw [← hσ1]; exact fX_sFI ⟨Or.inr rfl, rfl⟩
    have f1 : FI σ1 1182 0 = ((k + 1 : Nat) : Int) := by rw [← hσ1]; simp [FI_sFI]
    have htx1 : txM σ1 A := by rw [← hσ1]; exact ⟨by rw [FI_sFI, if_neg (by omega)]; exact htx.1, htx.2⟩
    clear hσ1
    have hmr1 := hmr.keep x1
    obtain ⟨hm, hl, -⟩ := id hmr1
    have hf1 := wkX_fl x1 hf
    match t, hg, hs, hk2, kk, hf1, hs1, hA, hlen with
    | .num n, hg, hs, hk2, kk, hf1, _, hA, hlen =>
      obtain ⟨g1, g2, -⟩ := hf1
      have g1 : AI σ1 13 59 k = 0 := g1
      have g2 : AI σ1 13 60 k = (n : Int) := g2
      have hg : n < 256 := hg
      have hA : A.length + 4 ≤ 30000 := hA
      have hd := digs_len hg
      refine x_iaload i_M_writes_20 (k := k) rfl (lt_len hl rfl (by omega)) ?_
      rw [g1]
      refine x_if_ne_f i_M_writes_21 rfl ?_
      refine x_aload_n i_M_writes_24 rfl ?_
      refine x_getR (c2 := 13) i_M_writes_25 rfl rfl (hm _ _ rfl) ?_
      refine x_iload_n i_M_writes_28 rfl ?_
      refine x_iaload i_M_writes_29 (k := k) rfl (lt_len hl rfl (by omega)) ?_
      rw [g2]
      have last : ∀ (σ2 : AS) (B : List Int), fX wkF wkA σ1 σ2 → FI σ2 1182 0 = ((k + 1 : Nat) : Int) → txM σ2 B → B.length < 30000 → B ++ [((48 + n % 10 : Nat) : Int)] = A ++ textT (.num n) → Ex (wp (D + 1)) m_M_writes Q 68 [some (vr 11 0), some (vi (k : Nat)), some (vi (n : Nat))] [] σ2 := by
        intro σ2 B x2 f2 t2 hB e
        refine x_aload_n i_M_writes_68 rfl ?_
        refine x_bipush i_M_writes_69 ?_
        refine x_iload_n i_M_writes_71 rfl ?_
        refine x_bipush i_M_writes_72 ?_
        refine x_irem i_M_writes_74 (by omega) ?_
        rw [show iRem (n : Int) 10 = ((n % 10 : Nat) : Int) from iRem_nn (b := 10) (by omega) (by decide)]
        refine x_iadd i_M_writes_75 (by omega) ?_
        rw [show (48 : Int) + ((n % 10 : Nat) : Int) = ((48 + n % 10 : Nat) : Int) by omega]
        refine x_cv1 i_M_writes_76 rfl rfl rfl ?_
        refine c_M_write (hmr1.keep x2) t2 hB (fun σ3 x3 t3 f3 => ?_)
        refine x_goto i_M_writes_79 ?_
        rw [e] at t3
        refine x_vret i_M_writes_183 rfl ?_
        exact kk σ3 ((x1.tr x2).tr x3) (by rw [f3, f2]; rfl) t3
      have mid : ∀ (σ2 : AS) (B : List Int), fX wkF wkA σ1 σ2 → FI σ2 1182 0 = ((k + 1 : Nat) : Int) → txM σ2 B → B.length + 1 < 30000 → B ++ (if 10 ≤ n then [((48 + n / 10 % 10 : Nat) : Int)] else []) ++ [((48 + n % 10 : Nat) : Int)] = A ++ textT (.num n) → Ex (wp (D + 1)) m_M_writes Q 48 [some (vr 11 0), some (vi (k : Nat)), some (vi (n : Nat))] [] σ2 := by
        intro σ2 B x2 f2 t2 hB e
        refine x_iload_n i_M_writes_48 rfl ?_
        refine x_bipush i_M_writes_49 ?_
        refine x_icmp_le i_M_writes_51 (fun w => ?_) (fun w => ?_)
        · rw [if_neg (by omega), List.append_nil] at e
          exact last σ2 B x2 f2 t2 (by omega) e
        · rw [if_pos (by omega)] at e
          refine x_aload_n i_M_writes_54 rfl ?_
          refine x_bipush i_M_writes_55 ?_
          refine x_iload_n i_M_writes_57 rfl ?_
          refine x_bipush i_M_writes_58 ?_
          refine x_idiv i_M_writes_60 (by omega) ?_
          rw [show iDiv (n : Int) 10 = ((n / 10 : Nat) : Int) from iDiv_nn (b := 10) (by omega) (by decide)]
          refine x_bipush i_M_writes_61 ?_
          refine x_irem i_M_writes_63 (by omega) ?_
          rw [show iRem ((n / 10 : Nat) : Int) 10 = ((n / 10 % 10 : Nat) : Int) from iRem_nn (b := 10) (by omega) (by decide)]
          refine x_iadd i_M_writes_64 (by omega) ?_
          rw [show (48 : Int) + ((n / 10 % 10 : Nat) : Int) = ((48 + n / 10 % 10 : Nat) : Int) by omega]
          refine x_cv1 i_M_writes_65 rfl rfl rfl ?_
          refine c_M_write (hmr1.keep x2) t2 (by omega) (fun σ3 x3 t3 f3 => ?_)
          exact last σ3 _ (x2.tr x3) (f3.trans f2) t3 (by simp; omega) e
      refine x_istore_n (ls' := [_, _, _]) i_M_writes_30 rfl rfl ?_
      refine x_iload_n i_M_writes_31 rfl ?_
      refine x_bipush i_M_writes_32 ?_
      refine x_icmp_le i_M_writes_34 (fun w => ?_) (fun w => ?_)
      · refine mid σ1 A (fX.rf _ _ _) f1 htx1 (by omega) ?_
        show _ = A ++ digs n
        unfold digs
        rw [if_neg (show ¬ 100 ≤ n by omega)]
        simp
      · refine x_aload_n i_M_writes_37 rfl ?_
        refine x_bipush i_M_writes_38 ?_
        refine x_iload_n i_M_writes_40 rfl ?_
        refine x_bipush i_M_writes_41 ?_
        refine x_idiv i_M_writes_43 (by omega) ?_
        rw [show iDiv (n : Int) 100 = ((n / 100 : Nat) : Int) from iDiv_nn (b := 100) (by omega) (by decide)]
        refine x_iadd i_M_writes_44 (by omega) ?_
        rw [show (48 : Int) + ((n / 100 : Nat) : Int) = ((48 + n / 100 : Nat) : Int) by omega]
        refine x_cv1 i_M_writes_45 rfl rfl rfl ?_
        refine c_M_write hmr1 htx1 (by omega) (fun σ3 x3 t3 f3 => ?_)
        refine mid σ3 _ x3 (f3.trans f1) t3 (by simp; omega) ?_
        show _ = A ++ digs n
        unfold digs
        rw [if_pos (show 100 ≤ n by omega)]
        simp
    | .mulL z ts, hg, hs, hk2, kk, hf1, _, hA, hlen =>
      obtain ⟨g1, -, g3, -, g5⟩ := hf1
      have g1 : AI σ1 13 59 k = 1 := g1
      have hg : gA false ts := hg
      have hln := lenT_le ts hg
      have hs : 1 + sizeT ts ≤ D + 1 := hs
      have hk2 : k + (1 + sizeT ts) ≤ 2001 := hk2
      have hA : A.length + 4 * (1 + sizeT ts) ≤ 30000 := hA
      have loop : ∀ (us : TT), gA false us → ∀ (B : List Int) (j : Nat) (σ2 : AS), sizeT us ≤ sizeT ts → fX wkF wkA σ1 σ2 → flM σ2 (k + 1 + (sizeT ts - sizeT us)) (flatT us (dp + 1)) → FI σ2 1182 0 = ((k + 1 + (sizeT ts - sizeT us) : Nat) : Int) → j + lenT us = lenT ts → txM σ2 B → B.length + 4 * sizeT us + 1 ≤ 30000 → B ++ textA us (some (44, decide (j = 0))) ++ [93] = A ++ textT (.mulL z ts) → Ex (wp (D + 1)) m_M_writes Q 100 [some (vr 11 0), some (vi (k : Nat)), some (vi (j : Nat))] [] σ2 := by
        intro us
        induction us with
        | var _ =>
          intro _ B j σ2 h1 x2 h2 h3 h4 h6 h7 h5
          obtain ⟨hm, hl, -⟩ := hmr1.keep x2
          refine x_iload_n i_M_writes_100 rfl ?_
          refine x_aload_n i_M_writes_101 rfl ?_
          refine x_getR (c2 := 13) i_M_writes_102 rfl rfl (hm _ _ rfl) ?_
          refine x_iload_n i_M_writes_105 rfl ?_
          refine x_iaload i_M_writes_106 (k := k) rfl (lt_len hl rfl (by omega)) ?_
          rw [show AI σ2 13 61 k = (lenT ts : Nat) by rw [x2.2.2.1 _ _ _ (fun q => by have := q.2; omega)]; exact g3]
          refine x_icmp_ge_t i_M_writes_107 (by simp only [lenT] at h4; omega) ?_
          refine x_aload_n i_M_writes_130 rfl ?_
          refine x_bipush i_M_writes_131 ?_
          refine x_cv1 i_M_writes_133 rfl rfl rfl ?_
          refine c_M_write (hmr1.keep x2) h6 (by simp only [sizeT] at h7; omega) (fun σ3 x3 t3 f3 => ?_)
          refine x_goto i_M_writes_136 ?_
          simp only [textA, List.append_nil] at h5
          rw [h5] at t3
          refine x_vret i_M_writes_183 rfl ?_
          exact kk σ3 ((x1.tr x2).tr x3) (by rw [f3, h3]; simp only [sizeT]; omega) t3
        | add a b _ ihb =>
          intro hg B j σ2 h1 x2 h2 h3 h4 h6 h7 h5
          obtain ⟨hm, hl, -⟩ := hmr1.keep x2
          have h1 : sizeT a + sizeT b ≤ sizeT ts := h1
          have h7 : B.length + 4 * (sizeT a + sizeT b) + 1 ≤ 30000 := h7
          have hla := (text_len a).1 hg.1
          simp only [flatT] at h2
          rw [flM_app, flatT_len] at h2
          have rest : ∀ (σ3 : AS) (B3 : List Int), fX wkF wkA σ2 σ3 → FI σ3 1182 0 = FI σ2 1182 0 → txM σ3 B3 → B3.length ≤ B.length + 1 → B3 ++ textT a ++ textA b (some (44, false)) ++ [93] = A ++ textT (.mulL z ts) → Ex (wp (D + 1)) m_M_writes Q 120 [some (vr 11 0), some (vi (k : Nat)), some (vi (j : Nat))] [] σ3 := by
            intro σ3 B3 x3 f3 t3 l3 e3
            have g7 : B3.length + 4 * sizeT a ≤ 30000 := by omega
            have hj : (j : Int) + 1 ≤ 2001 := by simp only [lenT] at h4; omega
            refine x_aload_n i_M_writes_120 rfl ?_
            refine x_cv0 i_M_writes_121 rfl rfl rfl ?_
            refine ih a hg.1 (by omega) _ σ3 B3 _ (dp + 1) ((hmr1.keep x2).keep x3) (wkX_fl x3 h2.1) (f3.trans h3) (by simp only [sizeT]; omega) t3 g7 (fun σ4 x4 f4 t4 => ?_)
            refine x_iinc (ls' := [_, _, _]) i_M_writes_124 rfl (by omega) rfl ?_
            refine x_goto i_M_writes_127 ?_
            have e2 : k + 1 + (sizeT ts - sizeT (.add a b)) + sizeT a = k + 1 + (sizeT ts - sizeT b) := by simp only [sizeT]; omega
            rw [e2] at f4
            have h22 := h2.2
            rw [e2] at h22
            exact ihb hg.2 _ (j + 1) σ4 (by omega) ((x2.tr x3).tr x4) (wkX_fl (x3.tr x4) h22) f4 (by simp only [lenT] at h4 ⊢; omega) t4 (by have hla : (textT a).length + 1 ≤ 4 * sizeT a := hla; rw [List.length_append]; omega) e3
          refine x_iload_n i_M_writes_100 rfl ?_
          refine x_aload_n i_M_writes_101 rfl ?_
          refine x_getR (c2 := 13) i_M_writes_102 rfl rfl (hm _ _ rfl) ?_
          refine x_iload_n i_M_writes_105 rfl ?_
          refine x_iaload i_M_writes_106 (k := k) rfl (lt_len hl rfl (by omega)) ?_
          rw [show AI σ2 13 61 k = (lenT ts : Nat) by rw [x2.2.2.1 _ _ _ (fun q => by have := q.2; omega)]; exact g3]
          refine x_icmp_ge_f i_M_writes_107 (by simp only [lenT] at h4; omega) ?_
          refine x_iload_n i_M_writes_110 rfl ?_
          refine x_if_le i_M_writes_111 (fun w => ?_) (fun w => ?_)
          · refine rest σ2 B (fX.rf _ _ _) rfl h6 (by omega) ?_
            rw [← h5, decide_eq_true (by omega)]
            simp [textA, textT]
          · refine x_aload_n i_M_writes_114 rfl ?_
            refine x_bipush i_M_writes_115 ?_
            refine x_cv1 i_M_writes_117 rfl rfl rfl ?_
            refine c_M_write (hmr1.keep x2) h6 (by omega) (fun σ3 x3 t3 f3 => ?_)
            refine rest σ3 _ x3 f3 t3 (by simp) ?_
            rw [← h5, decide_eq_false (by omega)]
            simp [textA, textT]
        | num _ => intro h; exact h.elim
        | mulL _ _ => intro h; exact h.elim
        | mulR _ _ => intro h; exact h.elim
      refine x_iaload i_M_writes_20 (k := k) rfl (lt_len hl rfl (by omega)) ?_
      rw [g1]
      refine x_if_ne_t i_M_writes_21 (by decide) ?_
      refine x_aload_n i_M_writes_82 rfl ?_
      refine x_getR (c2 := 13) i_M_writes_83 rfl rfl (hm _ _ rfl) ?_
      refine x_iload_n i_M_writes_86 rfl ?_
      refine x_iaload i_M_writes_87 (k := k) rfl (lt_len hl rfl (by omega)) ?_
      rw [g1]
      refine x_iconst i_M_writes_88 ?_
      refine x_icmp_ne_f i_M_writes_89 rfl ?_
      refine x_aload_n i_M_writes_92 rfl ?_
      refine x_bipush i_M_writes_93 ?_
      refine x_cv1 i_M_writes_95 rfl rfl rfl ?_
      refine c_M_write hmr1 htx1 (by omega) (fun σ2 x2 t2 f2 => ?_)
      refine x_iconst i_M_writes_98 ?_
      refine x_istore_n (ls' := [_, _, _]) i_M_writes_99 rfl rfl ?_
      exact loop ts hg _ 0 σ2 (Nat.le_refl _) x2 (by rw [Nat.sub_self]; exact wkX_fl x2 g5) (by rw [Nat.sub_self, f2]; exact f1) (by omega) t2 (by simp; omega) (by simp [textT, textA])
    | .mulR (.add a b) c, hg, hs, hk2, kk, hf1, _, hA, hlen =>
      obtain ⟨g1, g2, -, -, g5⟩ := hf1
      have g1 : AI σ1 13 59 k = 2 := g1
      obtain ⟨hc, ga, gb⟩ := hg
      have hs : 1 + (sizeT a + sizeT b) ≤ D + 1 := hs
      have hk2 : k + (1 + (sizeT a + sizeT b)) ≤ 2001 := hk2
      have hA : A.length + 4 * (1 + (sizeT a + sizeT b)) ≤ 30000 := hA
      have hla : (textT a).length + 1 ≤ 4 * sizeT a := (text_len a).1 ga
      have hlb : (textT b).length + 1 ≤ 4 * sizeT b := (text_len b).1 gb
      simp only [flatT] at g5
      rw [flM_app, flatT_len] at g5
      refine x_iaload i_M_writes_20 (k := k) rfl (lt_len hl rfl (by omega)) ?_
      rw [g1]
      refine x_if_ne_t i_M_writes_21 (by decide) ?_
      refine x_aload_n i_M_writes_82 rfl ?_
      refine x_getR (c2 := 13) i_M_writes_83 rfl rfl (hm _ _ rfl) ?_
      refine x_iload_n i_M_writes_86 rfl ?_
      refine x_iaload i_M_writes_87 (k := k) rfl (lt_len hl rfl (by omega)) ?_
      rw [g1]
      refine x_iconst i_M_writes_88 ?_
      refine x_icmp_ne_t i_M_writes_89 (by decide) ?_
      refine x_aload_n i_M_writes_139 rfl ?_
      refine x_bipush i_M_writes_140 ?_
      refine x_cv1 i_M_writes_142 rfl rfl rfl ?_
      refine c_M_write hmr1 htx1 (by omega) (fun σ2 x2 t2 f2 => ?_)
      refine x_aload_n i_M_writes_145 rfl ?_
      refine x_cv0 i_M_writes_146 rfl rfl rfl ?_
      refine ih a ga (by omega) _ σ2 _ (k + 1) (dp + 1) (hmr1.keep x2) (wkX_fl x2 g5.1) (f2.trans f1) (by omega) t2 (by simp; omega) (fun σ3 x3 f3 t3 => ?_)
      have x3' := x2.tr x3
      have hmr3 := hmr1.keep x3'
      obtain ⟨hm, hl, -⟩ := id hmr3
      have e2 : AI σ3 13 60 k = (c : Int) := by rw [x3'.2.2.1 _ _ _ (fun q => by have := q.2; omega)]; exact g2
      have rest : ∀ q : Int, q = (if c = 0 then 63 else (c : Int)) → Ex (wp (D + 1)) m_M_writes Q 170 [some (vr 11 0), some (vi (k : Nat)), none] [vi q, vr 11 0] σ3 := by
        intro q hq
        refine x_cv1 i_M_writes_170 rfl rfl rfl ?_
        refine c_M_write hmr3 t3 (by simp; omega) (fun σ4 x4 t4 f4 => ?_)
        refine x_aload_n i_M_writes_173 rfl ?_
        refine x_cv0 i_M_writes_174 rfl rfl rfl ?_
        refine ih b gb (by omega) _ σ4 _ (k + 1 + sizeT a) (dp + 1) (hmr3.keep x4) (wkX_fl (x3'.tr x4) g5.2) (f4.trans f3) (by omega) t4 (by simp; omega) (fun σ5 x5 f5 t5 => ?_)
        refine x_aload_n i_M_writes_177 rfl ?_
        refine x_bipush i_M_writes_178 ?_
        refine x_cv1 i_M_writes_180 rfl rfl rfl ?_
        refine c_M_write ((hmr3.keep x4).keep x5) t5 (by simp; omega) (fun σ6 x6 t6 f6 => ?_)
        refine x_vret i_M_writes_183 rfl ?_
        refine kk σ6 ((((x1.tr x3').tr x4).tr x5).tr x6) (by rw [f6, f5]; simp only [sizeT]; omega) ?_
        rw [hq] at t6
        simpa [textT, textA] using t6
      refine x_aload_n i_M_writes_149 rfl ?_
      refine x_aload_n i_M_writes_150 rfl ?_
      refine x_getR (c2 := 13) i_M_writes_151 rfl rfl (hm _ _ rfl) ?_
      refine x_iload_n i_M_writes_154 rfl ?_
      refine x_iaload i_M_writes_155 (k := k) rfl (lt_len hl rfl (by omega)) ?_
      rw [e2]
      refine x_if_ne i_M_writes_156 (fun w => ?_) (fun w => ?_)
      · refine x_aload_n i_M_writes_164 rfl ?_
        refine x_getR (c2 := 13) i_M_writes_165 rfl rfl (hm _ _ rfl) ?_
        refine x_iload_n i_M_writes_168 rfl ?_
        refine x_iaload i_M_writes_169 (k := k) rfl (lt_len hl rfl (by omega)) ?_
        rw [e2]
        exact rest _ (by rw [if_neg (by omega)])
      · refine x_bipush i_M_writes_159 ?_
        refine x_goto i_M_writes_161 ?_
        exact rest 63 (by rw [if_pos (by omega)])


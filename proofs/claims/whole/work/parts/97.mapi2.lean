/-! THE MODEL: told, node, worth, text -/
section
variable {d : Nat} {Q : AQ} {σ : AS} {S : SS}
theorem c_M_told (h : moS σ S) {w : Int} (kk : Q (some (vi (doTold S w))) σ) : wp (d + 1) m_M_told [vr 11 0, vi w] σ Q := by
  obtain ⟨hmr, hbes, ht1, ht2, htp, hti, hg, hsp, hsp2, hla⟩ := id h
  have hla : lastM σ S.2.2.2 := hla
  unfold doTold at kk
  refine x_in (ls := [some _, some _]) rfl rfl ?_
  refine x_iload_n i_M_told_0 rfl ?_
  refine x_if_lt i_M_told_1 (fun g0 => ?_) (fun g0 => ?_)
  · rw [if_pos (Or.inl g0)] at kk
    refine x_bipush i_M_told_9 ?_
    refine x_iret i_M_told_11 rfl ?_
    exact kk
  · refine x_iload_n i_M_told_4 rfl ?_
    refine x_iconst i_M_told_5 ?_
    refine x_icmp_le i_M_told_6 (fun g1 => ?_) (fun g1 => ?_)
    · rw [if_neg (by omega)] at kk
      revert hla kk
      cases S.2.2.2 with
      | none =>
        intro kk hla
        have hla : FI σ 1169 0 = 0 := hla
        refine x_aload_n i_M_told_12 rfl ?_
        refine x_getI i_M_told_13 rfl rfl ?_
        rw [hla]
        refine x_if_ne_f i_M_told_16 (by decide) ?_
        refine x_bipush i_M_told_19 ?_
        refine x_iret i_M_told_21 rfl ?_
        exact kk
      | some r =>
        intro kk hla
        obtain ⟨hla, a1, a2, a3, a4, a5, a6⟩ := hla
        have kk : Q (some (vi (toldE r w))) σ := kk
        unfold toldE at kk
        refine x_aload_n i_M_told_12 rfl ?_
        refine x_getI i_M_told_13 rfl rfl ?_
        rw [hla]
        refine x_if_ne_t i_M_told_16 (by decide) ?_
        refine x_iload_n i_M_told_22 rfl ?_
        refine x_if_ne i_M_told_23 (fun c0 => ?_) (fun c0 => ?_)
        · rw [if_neg c0] at kk
          refine x_iload_n i_M_told_33 rfl ?_
          refine x_iconst i_M_told_34 ?_
          refine x_icmp_ne i_M_told_35 (fun c1 => ?_) (fun c1 => ?_)
          · rw [if_neg c1] at kk
            refine x_iload_n i_M_told_45 rfl ?_
            refine x_iconst i_M_told_46 ?_
            refine x_icmp_ne i_M_told_47 (fun c2 => ?_) (fun c2 => ?_)
            · rw [if_neg c2] at kk
              refine x_iload_n i_M_told_57 rfl ?_
              refine x_iconst i_M_told_58 ?_
              refine x_icmp_ne i_M_told_59 (fun c3 => ?_) (fun c3 => ?_)
              · rw [if_neg c3] at kk
                refine x_iload_n i_M_told_69 rfl ?_
                refine x_iconst i_M_told_70 ?_
                refine x_icmp_ne i_M_told_71 (fun c4 => ?_) (fun c4 => ?_)
                · rw [if_neg c4] at kk
                  refine x_aload_n i_M_told_89 rfl ?_
                  refine x_getI i_M_told_90 rfl rfl ?_
                  have e : FI σ 1175 0 = (match treeE r with | none => (0 : Int) | some t => (sizeT t : Int)) := by
                    revert a6
                    cases treeE r with
                    | none => intro a6; exact a6.1
                    | some t => intro a6; exact a6.2.2.1
                  rw [e]
                  refine x_iret i_M_told_93 rfl ?_
                  exact kk
                · rw [if_pos (by omega)] at kk
                  refine x_aload_n i_M_told_74 rfl ?_
                  refine x_getI i_M_told_75 rfl rfl ?_
                  rw [a5]
                  refine x_if_eq i_M_told_78 (fun c5 => ?_) (fun c5 => ?_)
                  · rw [c5] at kk
                    refine x_iconst i_M_told_85 ?_
                    refine x_goto i_M_told_86 ?_
                    refine x_iret i_M_told_93 rfl ?_
                    exact kk
                  · rw [bI_t c5] at kk
                    refine x_iconst i_M_told_81 ?_
                    refine x_goto i_M_told_82 ?_
                    refine x_iret i_M_told_93 rfl ?_
                    exact kk
              · rw [if_pos (by omega)] at kk
                refine x_aload_n i_M_told_62 rfl ?_
                refine x_getI i_M_told_63 rfl rfl ?_
                rw [a4]
                refine x_goto i_M_told_66 ?_
                refine x_iret i_M_told_93 rfl ?_
                exact kk
            · rw [if_pos (by omega)] at kk
              refine x_aload_n i_M_told_50 rfl ?_
              refine x_getI i_M_told_51 rfl rfl ?_
              rw [a3]
              refine x_goto i_M_told_54 ?_
              refine x_iret i_M_told_93 rfl ?_
              exact kk
          · rw [if_pos (by omega)] at kk
            refine x_aload_n i_M_told_38 rfl ?_
            refine x_getI i_M_told_39 rfl rfl ?_
            rw [a2]
            refine x_goto i_M_told_42 ?_
            refine x_iret i_M_told_93 rfl ?_
            exact kk
        · rw [if_pos (by omega)] at kk
          refine x_aload_n i_M_told_26 rfl ?_
          refine x_getI i_M_told_27 rfl rfl ?_
          rw [a1]
          refine x_goto i_M_told_30 ?_
          refine x_iret i_M_told_93 rfl ?_
          exact kk
    · rw [if_pos (by omega)] at kk
      refine x_bipush i_M_told_9 ?_
      refine x_iret i_M_told_11 rfl ?_
      exact kk
theorem c_M_node (h : moS σ S) {k w : Int} (kk : Q (some (vi (doNode S k w))) σ) : wp (d + 1) m_M_node [vr 11 0, vi k, vi w] σ Q := by
  obtain ⟨hmr, hbes, ht1, ht2, htp, hti, hg, hsp, hsp2, hla⟩ := id h
  obtain ⟨hm, hl, hlb⟩ := id hmr
  have hla : lastM σ S.2.2.2 := hla
  unfold doNode at kk
  refine x_in (ls := [some _, some _, some _]) rfl rfl ?_
  refine x_iload_n i_M_node_0 rfl ?_
  refine x_if_lt i_M_node_1 (fun g0 => ?_) (fun g0 => ?_)
  · rw [if_pos (Or.inl g0)] at kk
    refine x_bipush i_M_node_9 ?_
    refine x_iret i_M_node_11 rfl ?_
    exact kk
  · refine x_iload_n i_M_node_4 rfl ?_
    refine x_iconst i_M_node_5 ?_
    refine x_icmp_le i_M_node_6 (fun g1 => ?_) (fun g1 => ?_)
    · rw [if_neg (by omega)] at kk
      revert hla kk
      cases S.2.2.2 with
      | none =>
        intro kk hla
        have hla : FI σ 1169 0 = 0 := hla
        refine x_aload_n i_M_node_12 rfl ?_
        refine x_getI i_M_node_13 rfl rfl ?_
        rw [hla]
        refine x_if_ne_f i_M_node_16 (by decide) ?_
        refine x_bipush i_M_node_19 ?_
        refine x_iret i_M_node_21 rfl ?_
        exact kk
      | some r =>
        intro kk hla
        obtain ⟨hla, a1, a2, a3, a4, a5, a6⟩ := hla
        have kk : Q (some (vi (nodeE (treeE r) k w))) σ := kk
        refine x_aload_n i_M_node_12 rfl ?_
        refine x_getI i_M_node_13 rfl rfl ?_
        rw [hla]
        refine x_if_ne_t i_M_node_16 (by decide) ?_
        revert a6 kk
        cases treeE r with
        | none =>
          intro a6 kk
          have kk : Q (some (vi (-1))) σ := kk
          refine x_iload_n i_M_node_22 rfl ?_
          refine x_if_lt i_M_node_23 (fun c0 => ?_) (fun c0 => ?_)
          · refine x_iconst i_M_node_34 ?_
            refine x_iret i_M_node_35 rfl ?_
            exact kk
          · refine x_iload_n i_M_node_26 rfl ?_
            refine x_aload_n i_M_node_27 rfl ?_
            refine x_getI i_M_node_28 rfl rfl ?_
            rw [a6.1]
            refine x_icmp_lt_f i_M_node_31 (by omega) ?_
            refine x_iconst i_M_node_34 ?_
            refine x_iret i_M_node_35 rfl ?_
            exact kk
        | some t =>
          intro ⟨b1, b2, b3, b4, b5⟩ kk
          simp only [nodeE] at kk
          refine x_iload_n i_M_node_22 rfl ?_
          refine x_if_lt i_M_node_23 (fun c0 => ?_) (fun c0 => ?_)
          · rw [if_pos (Or.inl c0)] at kk
            refine x_iconst i_M_node_34 ?_
            refine x_iret i_M_node_35 rfl ?_
            exact kk
          · refine x_iload_n i_M_node_26 rfl ?_
            refine x_aload_n i_M_node_27 rfl ?_
            refine x_getI i_M_node_28 rfl rfl ?_
            rw [b3]
            refine x_icmp_lt i_M_node_31 (fun c1 => ?_) (fun c1 => ?_)
            · rw [if_neg (by omega)] at kk
              obtain ⟨q1, q2, q3, q4⟩ := flM_get _ 0 k.toNat b4 (by rw [flatT_len]; omega)
              rw [Nat.zero_add] at q1 q2 q3 q4
              have hk : k = (k.toNat : Int) := by omega
              have hk2 : k.toNat < 2001 := by omega
              generalize (flatT t 0).getD k.toNat (0, 0, 0, 0) = x at kk q1 q2 q3 q4
              refine x_iload_n i_M_node_36 rfl ?_
              refine x_if_ne i_M_node_37 (fun c2 => ?_) (fun c2 => ?_)
              · rw [if_neg c2] at kk
                refine x_iload_n i_M_node_49 rfl ?_
                refine x_iconst i_M_node_50 ?_
                refine x_icmp_ne i_M_node_51 (fun c3 => ?_) (fun c3 => ?_)
                · rw [if_neg c3] at kk
                  refine x_aload_n i_M_node_63 rfl ?_
                  refine x_getR (c2 := 13) i_M_node_64 rfl rfl (hm _ _ rfl) ?_
                  refine x_iload_n i_M_node_67 rfl ?_
                  refine x_iaload i_M_node_68 (k := k.toNat) hk (lt_len hl rfl hk2) ?_
                  rw [q1]
                  refine x_iconst i_M_node_69 ?_
                  refine x_icmp_ne i_M_node_70 (fun c4 => ?_) (fun c4 => ?_)
                  · rw [if_neg (by omega)] at kk
                    refine x_aload_n i_M_node_82 rfl ?_
                    refine x_getR (c2 := 13) i_M_node_83 rfl rfl (hm _ _ rfl) ?_
                    refine x_iload_n i_M_node_86 rfl ?_
                    refine x_iaload i_M_node_87 (k := k.toNat) hk (lt_len hl rfl hk2) ?_
                    rw [q2]
                    refine x_iret i_M_node_88 rfl ?_
                    exact kk
                  · rw [if_pos (by omega)] at kk
                    refine x_aload_n i_M_node_73 rfl ?_
                    refine x_getR (c2 := 13) i_M_node_74 rfl rfl (hm _ _ rfl) ?_
                    refine x_iload_n i_M_node_77 rfl ?_
                    refine x_iaload i_M_node_78 (k := k.toNat) hk (lt_len hl rfl hk2) ?_
                    rw [q3]
                    refine x_goto i_M_node_79 ?_
                    refine x_iret i_M_node_88 rfl ?_
                    exact kk
                · rw [if_pos (by omega)] at kk
                  refine x_aload_n i_M_node_54 rfl ?_
                  refine x_getR (c2 := 13) i_M_node_55 rfl rfl (hm _ _ rfl) ?_
                  refine x_iload_n i_M_node_58 rfl ?_
                  refine x_iaload i_M_node_59 (k := k.toNat) hk (lt_len hl rfl hk2) ?_
                  rw [q4]
                  refine x_goto i_M_node_60 ?_
                  refine x_iret i_M_node_88 rfl ?_
                  exact kk
              · rw [if_pos (by omega)] at kk
                refine x_aload_n i_M_node_40 rfl ?_
                refine x_getR (c2 := 13) i_M_node_41 rfl rfl (hm _ _ rfl) ?_
                refine x_iload_n i_M_node_44 rfl ?_
                refine x_iaload i_M_node_45 (k := k.toNat) hk (lt_len hl rfl hk2) ?_
                rw [q1]
                refine x_goto i_M_node_46 ?_
                refine x_iret i_M_node_88 rfl ?_
                exact kk
            · rw [if_pos (by omega)] at kk
              refine x_iconst i_M_node_34 ?_
              refine x_iret i_M_node_35 rfl ?_
              exact kk
    · rw [if_pos (by omega)] at kk
      refine x_bipush i_M_node_9 ?_
      refine x_iret i_M_node_11 rfl ?_
      exact kk
theorem c_M_text (h : moS σ S) {k : Int} (kk : Q (some (vi (doText S k))) σ) : wp (d + 1) m_M_text [vr 11 0, vi k] σ Q := by
  obtain ⟨hmr, hbes, ht1, ht2, htp, hti, hg, hsp, hsp2, hla⟩ := id h
  obtain ⟨hm, hl, hlb⟩ := id hmr
  have hla : lastM σ S.2.2.2 := hla
  unfold doText at kk
  refine x_in (ls := [some _, some _]) rfl rfl ?_
  revert hla kk
  cases S.2.2.2 with
  | none =>
    intro kk hla
    have hla : FI σ 1169 0 = 0 := hla
    refine x_aload_n i_M_text_0 rfl ?_
    refine x_getI i_M_text_1 rfl rfl ?_
    rw [hla]
    refine x_if_ne_f i_M_text_4 (by decide) ?_
    refine x_bipush i_M_text_7 ?_
    refine x_iret i_M_text_9 rfl ?_
    exact kk
  | some r =>
    intro kk hla
    obtain ⟨hla, a1, a2, a3, a4, a5, a6⟩ := hla
    have kk : Q (some (vi (textE (treeE r) k))) σ := kk
    refine x_aload_n i_M_text_0 rfl ?_
    refine x_getI i_M_text_1 rfl rfl ?_
    rw [hla]
    refine x_if_ne_t i_M_text_4 (by decide) ?_
    revert a6 kk
    cases treeE r with
    | none =>
      intro a6 kk
      have kk : Q (some (vi (-1))) σ := kk
      refine x_iload_n i_M_text_10 rfl ?_
      refine x_if_lt i_M_text_11 (fun c0 => ?_) (fun c0 => ?_)
      · refine x_iconst i_M_text_22 ?_
        refine x_goto i_M_text_23 ?_
        refine x_iret i_M_text_32 rfl ?_
        exact kk
      · refine x_iload_n i_M_text_14 rfl ?_
        refine x_aload_n i_M_text_15 rfl ?_
        refine x_getI i_M_text_16 rfl rfl ?_
        rw [a6.2]
        refine x_icmp_lt_f i_M_text_19 (by omega) ?_
        refine x_iconst i_M_text_22 ?_
        refine x_goto i_M_text_23 ?_
        refine x_iret i_M_text_32 rfl ?_
        exact kk
    | some t =>
      intro ⟨b1, b2, b3, b4, b5, b6⟩ kk
      simp only [textE] at kk
      have hlen : (textT t).length + 1 ≤ 4 * sizeT t := (text_len t).1 b1
      refine x_iload_n i_M_text_10 rfl ?_
      refine x_if_lt i_M_text_11 (fun c0 => ?_) (fun c0 => ?_)
      · rw [if_pos (Or.inl c0)] at kk
        refine x_iconst i_M_text_22 ?_
        refine x_goto i_M_text_23 ?_
        refine x_iret i_M_text_32 rfl ?_
        exact kk
      · refine x_iload_n i_M_text_14 rfl ?_
        refine x_aload_n i_M_text_15 rfl ?_
        refine x_getI i_M_text_16 rfl rfl ?_
        rw [b5]
        refine x_icmp_lt i_M_text_19 (fun c1 => ?_) (fun c1 => ?_)
        · rw [if_neg (by omega)] at kk
          have hk3 : k.toNat < (textT t).length := by omega
          refine x_aload_n i_M_text_26 rfl ?_
          refine x_getR (c2 := 13) i_M_text_27 rfl rfl (hm _ _ rfl) ?_
          refine x_iload_n i_M_text_30 rfl ?_
          refine x_iaload i_M_text_31 (k := k.toNat) (by omega) (lt_len hl rfl (by omega)) ?_
          rw [b6 k.toNat _ (List.getElem?_eq_getElem hk3)]
          rw [List.getD_eq_getElem?_getD, List.getElem?_eq_getElem hk3, Option.getD_some] at kk
          refine x_iret i_M_text_32 rfl ?_
          exact kk
        · rw [if_pos (by omega)] at kk
          refine x_iconst i_M_text_22 ?_
          refine x_goto i_M_text_23 ?_
          refine x_iret i_M_text_32 rfl ?_
          exact kk
theorem c_M_worth (h : moS σ S) (kk : ∀ σ', moX σ σ' → moS σ' S → Q (some (vi (doWorth S))) σ') : wp 2003 m_M_worth [vr 11 0] σ Q := by
  obtain ⟨hmr, hbes, ht1, ht2, htp, hti, hg, hsp, hsp2, hla⟩ := id h
  have hla : lastM σ S.2.2.2 := hla
  have keep : ∀ σ', fX woF fnA σ σ' → moX σ σ' ∧ moS σ' S := by
    intro σ' x
    have fi : ∀ f, f ≠ 1182 → FI σ' f 0 = FI σ f 0 := fun f hf => x.1 _ _ (fun u => hf u.1)
    have ai : ∀ k a j, AI σ' k a j = AI σ k a j := fun k a j => x.2.2.1 _ _ _ (fun q => q)
    exact ⟨x.mo (fun f a q => by have := q.1; omega) (fun _ _ q => q.elim), hmr.keep x, hbes.keep (by rw [x.2.1]) x.2.2.2.1 x.2.2.2.2.1, ht1, ht2, htp.keep (fi _ (by decide)) (fun j => ai _ _ _), hti.keep (fi _ (by decide)) (fun j => ai _ _ _), hg.keep (fun a j _ _ => ai _ _ _) (fun j => ai _ _ _) (fi _ (by decide)) (fi _ (by decide)), by rw [fi _ (by decide)]; exact hsp, hsp2, lasM_keep hla (fun f _ _ => fi _ (by omega)) (fun a j _ _ => ai _ _ _)⟩
  have k0 := kk σ (moX.rf σ) h
  unfold doWorth at k0 kk
  refine x_in (ls := [some _]) rfl rfl ?_
  cases hS : S.2.2.2 with
  | none =>
    rw [hS] at hla k0
    have hla : FI σ 1169 0 = 0 := hla
    refine x_aload_n i_M_worth_0 rfl ?_
    refine x_getI i_M_worth_1 rfl rfl ?_
    rw [hla]
    refine x_if_ne_f i_M_worth_4 (by decide) ?_
    refine x_bipush i_M_worth_7 ?_
    refine x_iret i_M_worth_9 rfl ?_
    exact k0
  | some r =>
    rw [hS] at hla kk
    obtain ⟨hla, a1, a2, a3, a4, a5, a6⟩ := hla
    refine x_aload_n i_M_worth_0 rfl ?_
    refine x_getI i_M_worth_1 rfl rfl ?_
    rw [hla]
    refine x_if_ne_t i_M_worth_4 (by decide) ?_
    refine x_aload_n i_M_worth_10 rfl ?_
    refine x_iconst i_M_worth_11 ?_
    refine x_putI i_M_worth_12 rfl rfl ?_
    have x1 : fX woF fnA σ (sFI σ 1182 0 0) := fX_sFI ⟨rfl, rfl⟩
    have g1 : FI (sFI σ 1182 0 0) 1182 0 = 0 := by simp [FI_sFI]
    have g2 : FI (sFI σ 1182 0 0) 1175 0 = FI σ 1175 0 := by simp [FI_sFI]
    have g3 : FI (sFI σ 1182 0 0) 1181 0 = FI σ 1181 0 := by simp [FI_sFI]
    generalize sFI σ 1182 0 0 = σ1 at x1 g1 g2 g3
    cases ht : treeE r with
    | none =>
      rw [ht] at a6
      simp only [ht] at kk
      refine x_aload_n i_M_worth_15 rfl ?_
      refine x_getI i_M_worth_16 rfl rfl ?_
      rw [g2, a6.1]
      refine x_if_ne_f i_M_worth_19 rfl ?_
      refine x_iconst i_M_worth_22 ?_
      refine x_goto i_M_worth_23 ?_
      obtain ⟨y1, y2⟩ := keep σ1 x1
      refine x_iret i_M_worth_30 rfl ?_
      exact kk σ1 y1 y2
    | some t =>
      rw [ht] at a6
      simp only [ht] at kk
      obtain ⟨b1, b2, b3, b4, b5⟩ := a6
      have hs1 := gA_size b1
      refine x_aload_n i_M_worth_15 rfl ?_
      refine x_getI i_M_worth_16 rfl rfl ?_
      rw [g2, b3]
      refine x_if_ne_t i_M_worth_19 (by omega) ?_
      refine x_aload_n i_M_worth_26 rfl ?_
      refine x_cv0 i_M_worth_27 rfl rfl rfl ?_
      refine wp.le (by decide : 2001 ≤ 2002) (c_M_worthFrom 2000 t b1 b2 _ σ1 0 0 (hmr.keep x1) (wkX_fl (x1.mono (fun _ _ q => ⟨Or.inr q.1, q.2⟩) (fun _ _ q => q.elim)) b4) g1 (by omega) (fun σ2 x2 f2 => ?_))
      obtain ⟨y1, y2⟩ := keep σ2 (x1.tr x2)
      refine x_iret i_M_worth_30 rfl ?_
      exact kk σ2 y1 y2
end


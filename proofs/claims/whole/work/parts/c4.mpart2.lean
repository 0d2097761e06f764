/-! THE MODEL's reading: PARTS -/
/-- a name more -/
def nmM (σ : AS) (a L : Nat) (r : Int) : AS := sFI (sAI (sAI (sFI σ 1125 0 ((a : Int) + 1)) 13 43 L (a : Int)) 13 44 L r) 1134 0 ((L : Int) + 1)
theorem MdS.nm {σ : AS} {t : TP} {st : RT} {opn e r : Nat} (h : MdS σ t st opn e) (hlt : st.1 < t.1) : MdS (nmM σ st.1 st.2.2.length (r : Int)) t (sk t (st.1 + 1), st.2.1, st.2.2 ++ [(st.1, r)]) opn e ∧ rdM σ (nmM σ st.1 st.2.2.length (r : Int)) ∧ (∀ f, 1130 ≤ f → f ≤ 1133 → FI (nmM σ st.1 st.2.2.length (r : Int)) f 0 = FI σ f 0) := by
  have x0 : fX (fun f a => (f = 1125 ∨ f = 1134) ∧ a = 0) (fun k a => k = 13 ∧ 43 ≤ a ∧ a ≤ 44) σ (nmM σ st.1 st.2.2.length (r : Int)) :=
    ((((fX_sFI ⟨Or.inl rfl, rfl⟩ : fX (fun f a => (f = 1125 ∨ f = 1134) ∧ a = 0) (fun k a => k = 13 ∧ 43 ≤ a ∧ a ≤ 44) _ _).tr (fX_sAI ⟨rfl, by decide, by decide⟩)).tr (fX_sAI ⟨rfl, by decide, by decide⟩)).tr (fX_sFI ⟨Or.inr rfl, rfl⟩))
  have f1 : FI (nmM σ st.1 st.2.2.length (r : Int)) 1125 0 = ((st.1 + 1 : Nat) : Int) := by unfold nmM; rw [FI_sFI, if_neg (by omega)]; show FI (sFI σ 1125 0 ((st.1 : Int) + 1)) 1125 0 = _; rw [FI_sFI, if_pos ⟨rfl, rfl⟩]; omega
  have f4 : FI (nmM σ st.1 st.2.2.length (r : Int)) 1134 0 = (st.2.2.length : Int) + 1 := by unfold nmM; rw [FI_sFI, if_pos ⟨rfl, rfl⟩]
  have fi : ∀ f, f ≠ 1125 → f ≠ 1134 → FI (nmM σ st.1 st.2.2.length (r : Int)) f 0 = FI σ f 0 := fun f w1 w2 => x0.1 _ _ (fun q => by have := q.1; omega)
  have ai : ∀ c j, (c < 43 ∨ j ≠ st.2.2.length) → AI (nmM σ st.1 st.2.2.length (r : Int)) 13 c j = AI σ 13 c j := by
    intro c j w
    by_cases q : c < 43
    · exact x0.2.2.1 _ _ _ (fun v => by omega)
    · have hj : j ≠ st.2.2.length := by omega
      unfold nmM
      show AI (sAI (sAI (sFI σ 1125 0 ((st.1 : Int) + 1)) 13 43 st.2.2.length (st.1 : Int)) 13 44 st.2.2.length (r : Int)) 13 c j = _
      rw [AI_sAI, if_neg (fun v => hj v.2.2), AI_sAI, if_neg (fun v => hj v.2.2)]
      rfl
  have v3 : AI (nmM σ st.1 st.2.2.length (r : Int)) 13 43 st.2.2.length = (st.1 : Int) := by unfold nmM; simp [AI_sFI, AI_sAI]
  have v4 : AI (nmM σ st.1 st.2.2.length (r : Int)) 13 44 st.2.2.length = (r : Int) := by unfold nmM; simp [AI_sFI, AI_sAI]
  have ai0 : ∀ c j, c < 43 → AI (nmM σ st.1 st.2.2.length (r : Int)) 13 c j = AI σ 13 c j := fun c j w => ai c j (Or.inl w)
  generalize nmM σ st.1 st.2.2.length (r : Int) = σ1 at *
  have hge := sk_ge t (st.1 + 1)
  obtain ⟨b1, ⟨o1, o2, o3⟩, b3, b4, b5, ⟨b61, b62, b63⟩, ⟨⟨b71, b72⟩, b73⟩, q⟩ := h
  have fc : ∀ f, 1130 ≤ f → f ≤ 1133 → FI σ1 f 0 = FI σ f 0 := fun f w1 w2 => fi f (by omega) (by omega)
  refine ⟨⟨b1.keep x0 (by decide) (by decide), ⟨sk_le hlt, sk_sk _ _, o3⟩, ⟨st.1 + 1, f1, hlt, rfl⟩, by rw [fi _ (by decide) (by decide)]; exact b4, by rw [fi _ (by decide) (by decide)]; exact b5, ⟨by rw [fi _ (by decide) (by decide)]; exact b61, by rw [fi _ (by decide) (by decide)]; exact b62, ?_⟩, ⟨⟨by rw [f4]; simp, ?_⟩, ?_⟩, (q.cg fc).mono (by show st.1 + e ≤ sk t (st.1 + 1) + e; omega) (by show st.1 + e ≤ sk t (st.1 + 1) + e; omega) (by show st.1 ≤ sk t (st.1 + 1); omega) (by show st.1 ≤ sk t (st.1 + 1); omega)⟩, ?_, fc⟩
  · rw [fi _ (by decide) (by decide)]
    intro w i z hz
    rw [ai0 _ _ (by decide), ai0 _ _ (by decide), ai0 _ _ (by decide), ai0 _ _ (by decide), ai0 _ _ (by decide)]
    exact b63 w i z hz
  · intro i z hz
    by_cases hi : i < st.2.2.length
    · rw [ai _ _ (Or.inr (by omega)), ai _ _ (Or.inr (by omega))]
      have hz : (st.2.2 ++ [(st.1, r)])[i]? = some z := hz
      rw [List.getElem?_append_left hi] at hz
      exact b72 i z hz
    · have hz : (st.2.2 ++ [(st.1, r)])[i]? = some z := hz
      have hi2 : i = st.2.2.length := by
        have := (List.getElem?_eq_some_iff.mp hz).1
        simp at this
        omega
      subst hi2
      rw [List.getElem?_append_right (Nat.le_refl _), Nat.sub_self] at hz
      injection hz with hz
      subst hz
      exact ⟨v3, v4⟩
  · show (st.2.2 ++ [(st.1, r)]).length ≤ sk t (st.1 + 1)
    simp
    omega
  · exact ⟨x0.mono (fun f x q => ⟨by omega, by omega, q.2⟩) (fun k x q => ⟨q.1, by omega⟩), ⟨fi _ (by decide) (by decide), fi _ (by decide) (by decide)⟩, fun f w1 w2 => by rw [ctE (fc f w1 w2)]; exact Nat.le_refl _, ⟨fun j _ _ => ai0 _ _ (by decide), fun j _ _ => ⟨ai0 _ _ (by decide), ai0 _ _ (by decide)⟩, fun j _ => ⟨ai0 _ _ (by decide), ai0 _ _ (by decide), ai0 _ _ (by decide)⟩, fun j _ => ⟨ai0 _ _ (by decide), ai0 _ _ (by decide), ai0 _ _ (by decide), ai0 _ _ (by decide)⟩⟩⟩
section
variable {d : Nat} {Q : AQ} {σ : AS} {t : TP} {st : RT} {opn n rule : Nat} {dA : PT n}
theorem M_rpRange (h : MdS σ t st opn 1) (ho : opn ≤ 8) (hR : FI σ 1136 0 = 1 → FI σ 1137 0 = (rule : Int)) (f1 : FI σ 1125 0 = (st.1 : Int)) (g : chT t st.1 = 91) (kk : ∀ σ' p, prtQ t st opn n (ranP t rule dA st) σ σ' p → Q (some (vi (p : Nat))) σ') : Ex (wp (d + 5)) m_M_readPart Q 105 [some (vr 11 0), some (vi (st.1 : Nat)), none, none, none, none, none] [] σ := by
  obtain ⟨b1, b2, b3, b4, b5, b6, -⟩ := id h
  have ht1 := b1.2.1.1
  have hlt : st.1 < t.1 := chT_lt (by omega)
  have l32 := b2.2.2
  have bad : ∀ (σ3 : AS) (q : Nat), MdF σ3 t q opn 0 → rdM σ σ3 → ranP t rule dA st = .inl q → Ex (wp (d + 5)) m_M_readPart Q 149 [some (vr 11 0), some (vi (st.1 : Nat)), none, none, none, none, none] [] σ3 := by
    intro σ3 q h3 r3 e
    rw [e] at kk
    have hf := h3.2.2.2.1
    refine x_aload_n i_M_readPart_149 rfl ?_
    refine x_getI i_M_readPart_150 rfl rfl ?_
    rw [hf]
    refine x_if_lt_f i_M_readPart_153 (by omega) ?_
    refine x_iconst i_M_readPart_156 ?_
    refine x_goto i_M_readPart_157 ?_
    refine x_iret i_M_readPart_175 rfl ?_
    exact kk σ3 0 (prt_bad h3 r3 (by omega))
  have bad2 : ∀ (σ3 : AS) (q : Nat) z o, MdF σ3 t q opn 0 → rdM σ σ3 → ranP t rule dA st = .inl q → Ex (wp (d + 5)) m_M_readPart Q 142 [some (vr 11 0), some (vi (st.1 : Nat)), o, none, none, none, none] [vi z] σ3 := by
    intro σ3 q z o h3 r3 e
    refine x_istore_n (ls' := [_, _, _, _, _, _, _]) i_M_readPart_142 rfl rfl ?_
    refine x_aload_n i_M_readPart_143 rfl ?_
    refine x_bipush i_M_readPart_144 ?_
    refine x_cv1 i_M_readPart_146 rfl rfl rfl ?_
    refine c_M_innerSignF h3.2.2.2.1 ?_
    refine Ex.weak (ls := [_, _, none, none, _, _, _]) ⟨Or.inr rfl, Or.inr rfl, Or.inl rfl, Or.inl rfl, Or.inr rfl, Or.inr rfl, Or.inr rfl, trivial⟩ ?_
    exact bad σ3 q h3 r3 e
  have bad1 : ∀ (σ3 : AS) (q : Nat) z, MdF σ3 t q opn 0 → rdM σ σ3 → ranP t rule dA st = .inl q → Ex (wp (d + 5)) m_M_readPart Q 135 [some (vr 11 0), some (vi (st.1 : Nat)), none, none, none, none, none] [vi z] σ3 := by
    intro σ3 q z h3 r3 e
    refine x_istore_n (ls' := [_, _, _, _, _, _, _]) i_M_readPart_135 rfl rfl ?_
    refine x_aload_n i_M_readPart_136 rfl ?_
    refine x_iload_n i_M_readPart_137 rfl ?_
    refine x_iconst i_M_readPart_138 ?_
    refine x_cv2 i_M_readPart_139 rfl rfl rfl ?_
    refine c_M_innerF h3.2.2.2.1 ?_
    exact bad2 σ3 q _ _ h3 r3 e
  refine x_aload_n i_M_readPart_105 rfl ?_
  refine x_getI i_M_readPart_106 rfl rfl ?_
  rw [b6.1]
  refine x_bipush i_M_readPart_109 ?_
  refine x_icmp_ne i_M_readPart_111 (fun gl => ?_) (fun gl => ?_)
  · have lt : st.2.1.length < 32 := by omega
    obtain ⟨x1, h1, f2⟩ := h.inc hlt
    refine x_aload_n i_M_readPart_119 rfl ?_
    refine x_dup i_M_readPart_120 ?_
    refine x_getI i_M_readPart_121 rfl rfl ?_
    rw [f1]
    refine x_iconst i_M_readPart_124 ?_
    refine x_iadd i_M_readPart_125 (by omega) ?_
    refine x_putI i_M_readPart_126 rfl rfl ?_
    generalize sFI σ 1125 0 ((st.1 : Int) + 1) = σ1 at x1 h1 f2
    unfold ranP at kk bad bad1 bad2
    rw [if_neg (by omega)] at kk bad bad1 bad2
    have ch1 := chT_in b1.2.1 (st.1 + 1)
    have ch2 := chT_in b1.2.1 (st.1 + 2)
    refine x_aload_n i_M_readPart_129 rfl ?_
    refine x_iconst i_M_readPart_130 ?_
    refine x_iconst i_M_readPart_131 ?_
    refine x_cv2 i_M_readPart_132 rfl rfl rfl ?_
    refine c_M_innerS (u := 0) h1 (by decide) f2 (by omega) rfl (fun w1 w2 w3 σ2 x2 h2 f3 => ?_) (fun w σ2 x2 h2 f3 => ?_)
    · rw [if_neg (by omega)] at kk bad bad2
      refine x_istore_n (ls' := [_, _, _, _, _, _, _]) i_M_readPart_135 rfl rfl ?_
      refine x_aload_n i_M_readPart_136 rfl ?_
      refine x_iload_n i_M_readPart_137 rfl ?_
      refine x_iconst i_M_readPart_138 ?_
      refine x_cv2 i_M_readPart_139 rfl rfl rfl ?_
      refine c_M_innerS (u := 0) h2 (by decide) f3 (by omega) rfl (fun v1 v2 v3 σ3 x3 h3 f4 => ?_) (fun w σ3 x3 h3 f4 => ?_)
      · have v2' : chT t (st.1 + 1) ≤ chT t (st.1 + 2) := v2
        rw [if_neg (by omega)] at kk bad
        refine x_istore_n (ls' := [_, _, _, _, _, _, _]) i_M_readPart_142 rfl rfl ?_
        refine x_aload_n i_M_readPart_143 rfl ?_
        refine x_bipush i_M_readPart_144 ?_
        refine x_cv1 i_M_readPart_146 rfl rfl rfl ?_
        refine c_M_innerSignS (u := 0) h3 (by decide) f4 (by omega) rfl (by decide) (fun w σ4 x4 h4 => ?_) (fun w σ4 x4 h4 => ?_)
        · rw [if_pos w] at kk
          have x14 : atX σ σ4 := ((x1.tr x2).tr x3).tr x4
          refine x_aload_n i_M_readPart_149 rfl ?_
          refine x_getI i_M_readPart_150 rfl rfl ?_
          rw [h4.2.2.2.1]
          refine x_if_lt_t i_M_readPart_153 (by decide) ?_
          refine x_aload_n i_M_readPart_160 rfl ?_
          refine x_iconst i_M_readPart_161 ?_
          refine x_iload_n i_M_readPart_162 rfl ?_
          refine x_iload_n i_M_readPart_163 rfl ?_
          refine x_aload_n i_M_readPart_164 rfl ?_
          refine x_iload_n i_M_readPart_165 rfl ?_
          refine x_iconst i_M_readPart_166 ?_
          refine x_iload_n i_M_readPart_167 rfl ?_
          refine x_iload_n i_M_readPart_168 rfl ?_
          refine x_cv4 i_M_readPart_169 rfl rfl rfl ?_
          refine c_M_atomS (rule := rule) (ty := 1) h4 lt rfl (by rw [x14.rd.2.1.1, x14.rd.2.1.2]; exact hR) (fun σ5 r5 h5 f5 c5 n5 => ?_)
          have hm5 := h5.1.1
          have cs := MdS_cts h5
          have s1 := sk_ge t (st.1 + 1 + 1 + 1 + 1)
          refine x_cv4 i_M_readPart_172 rfl rfl rfl ?_
          refine c_M_mkPart hm5.1 hm5.2.1 h5.P (by have := cs.2.2.2; have := h5.2.1.1; omega) ?_
          refine x_iret i_M_readPart_175 rfl ?_
          exact kk _ _ (prt_leaf h h5 (x14.rd.tr r5) (fun f w1 w2 => by rw [c5 f w1 w2]; exact x14.1 f 0 (fun q => by have := q.2.1; omega)) (by show st.1 < sk t (st.1 + 1 + 1 + 1 + 1); omega) (Or.inl (by show (1 : Nat) ≤ 4; decide)) rfl rfl (fun _ => ⟨rfl, rfl⟩) (fun _ => ⟨rfl, lt⟩) (fun w => absurd w (by show ¬ (1 : Nat) = 12; decide)))
        · rw [if_neg w] at bad
          refine Ex.weak (ls := [_, _, none, none, _, _, _]) ⟨Or.inr rfl, Or.inr rfl, Or.inl rfl, Or.inl rfl, Or.inr rfl, Or.inr rfl, Or.inr rfl, trivial⟩ ?_
          exact bad σ4 _ h4 (show atX σ σ4 from ((x1.tr x2).tr x3).tr x4).rd rfl
      · have v1 : chT t (st.1 + 2) < chT t (st.1 + 1) := by
          rcases w with w | w | w
          · have : chT t (st.1 + 2) = -1 := if_neg (by omega)
            omega
          · exact w
          · have : chT t (st.1 + 2) = -1 := w
            omega
        rw [if_pos v1] at bad2
        exact bad2 σ3 _ _ _ h3 (show atX σ σ3 from (x1.tr x2).tr x3).rd rfl
    · have v1 : chT t (st.1 + 1) = -1 := by
        rcases w with w | w | w
        · exact if_neg (by omega)
        · omega
        · exact w
      rw [if_pos v1] at bad1
      exact bad1 σ2 _ _ h2 (show atX σ σ2 from x1.tr x2).rd rfl
  · have full : 32 ≤ st.2.1.length := by omega
    unfold ranP at bad1
    rw [if_pos full] at bad1
    refine x_aload_n i_M_readPart_114 rfl ?_
    refine x_iload_n i_M_readPart_115 rfl ?_
    refine x_cv1 i_M_readPart_116 rfl rfl rfl ?_
    refine c_M_wrongS (u := 0) h (by decide) b2.1 (fun σ2 x2 h2 f2 => ?_)
    refine x_aload_n i_M_readPart_119 rfl ?_
    refine x_dup i_M_readPart_120 ?_
    refine x_getI i_M_readPart_121 rfl rfl ?_
    rw [f2, f1]
    refine x_iconst i_M_readPart_124 ?_
    refine x_iadd i_M_readPart_125 (by omega) ?_
    refine x_putI i_M_readPart_126 rfl rfl ?_
    have x3 : atX σ2 (sFI σ2 1125 0 ((st.1 : Int) + 1)) := atX_sFI (by decide) (by decide)
    have h3 : MdF (sFI σ2 1125 0 ((st.1 : Int) + 1)) t st.1 opn 0 := h2.at_ x3 ⟨st.1 + 1, by rw [FI_sFI, if_pos ⟨rfl, rfl⟩]; omega, hlt⟩ (by rw [FI_sFI, if_neg (by omega)]; exact h2.2.2.2.1) (by rw [FI_sFI, if_neg (by omega)]; exact h2.2.2.2.2.1) (Nat.le_refl _)
    generalize sFI σ2 1125 0 ((st.1 : Int) + 1) = σ3 at x3 h3
    refine x_aload_n i_M_readPart_129 rfl ?_
    refine x_iconst i_M_readPart_130 ?_
    refine x_iconst i_M_readPart_131 ?_
    refine x_cv2 i_M_readPart_132 rfl rfl rfl ?_
    refine c_M_innerF h3.2.2.2.1 ?_
    exact bad1 σ3 _ _ h3 (show atX σ σ3 from x2.tr x3).rd rfl
theorem M_rpName (h : MdS σ t st opn 1) (f1 : FI σ 1125 0 = (st.1 : Int)) (g : isNm (chT t st.1) = true) (kk : ∀ σ' p, prtQ t st opn n (.inr (mkI 12 (chT t st.1 - 65).toNat (-1) (-1) dA dA, (sk t (st.1 + 1), st.2.1, st.2.2 ++ [(st.1, (chT t st.1 - 65).toNat)]))) σ σ' p → Q (some (vi (p : Nat))) σ') : Ex (wp (d + 5)) m_M_readPart Q 187 [some (vr 11 0), some (vi (st.1 : Nat)), none, none, none, none, none] [] σ := by
  obtain ⟨b1, b2, b3, b4, b5, b6, b7, -⟩ := id h
  obtain ⟨hmr, ht, htp⟩ := id b1
  obtain ⟨hm, hl, hlb⟩ := id hmr
  have ht1 := ht.1
  have hn := isNm_in g
  have hlt : st.1 < t.1 := chT_lt (by omega)
  have ec : chT t st.1 = t.2 st.1 := if_pos hlt
  have hr : chT t st.1 - 65 = (((chT t st.1 - 65).toNat : Nat) : Int) := by omega
  have hL : st.2.2.length < 240 := by have := b7.2; omega
  obtain ⟨h2, r2, c2⟩ := h.nm (r := (chT t st.1 - 65).toNat) hlt
  have s1 := sk_ge t (st.1 + 1)
  have hm2 := h2.1.1
  have cs := MdS_cts h2
  refine x_aload_n i_M_readPart_187 rfl ?_
  refine x_getR (c2 := 13) i_M_readPart_188 rfl rfl (hm _ _ rfl) ?_
  refine x_aload_n i_M_readPart_191 rfl ?_
  refine x_getI i_M_readPart_192 rfl rfl ?_
  rw [f1]
  refine x_iaload i_M_readPart_195 (k := st.1) rfl (lt_len hl rfl (by omega)) ?_
  rw [htp.2 _ hlt, ← ec]
  refine x_bipush i_M_readPart_196 ?_
  refine x_isub i_M_readPart_198 (by omega) ?_
  rw [hr]
  refine x_istore_n (ls' := [_, _, _, _, _, _, _]) i_M_readPart_199 rfl rfl ?_
  refine x_aload_n i_M_readPart_200 rfl ?_
  refine x_dup i_M_readPart_201 ?_
  refine x_getI i_M_readPart_202 rfl rfl ?_
  rw [f1]
  refine x_iconst i_M_readPart_205 ?_
  refine x_iadd i_M_readPart_206 (by omega) ?_
  refine x_putI i_M_readPart_207 rfl rfl ?_
  refine x_aload_n i_M_readPart_210 rfl ?_
  refine x_getR (c2 := 13) i_M_readPart_211 rfl rfl (hm _ _ rfl) ?_
  refine x_aload_n i_M_readPart_214 rfl ?_
  refine x_getI i_M_readPart_215 rfl rfl ?_
  rw [show FI (sFI σ 1125 0 ((st.1 : Int) + 1)) 1134 0 = (st.2.2.length : Int) by rw [FI_sFI, if_neg (by omega)]; exact b7.1.1]
  refine x_iload_n i_M_readPart_218 rfl ?_
  refine x_iastore i_M_readPart_219 (k := st.2.2.length) rfl (lt_len hl rfl hL) ?_
  refine x_aload_n i_M_readPart_220 rfl ?_
  refine x_getR (c2 := 13) i_M_readPart_221 rfl rfl (hm _ _ rfl) ?_
  refine x_aload_n i_M_readPart_224 rfl ?_
  refine x_getI i_M_readPart_225 rfl rfl ?_
  rw [show FI (sAI (sFI σ 1125 0 ((st.1 : Int) + 1)) 13 43 st.2.2.length (st.1 : Nat)) 1134 0 = (st.2.2.length : Int) by show FI (sFI σ 1125 0 ((st.1 : Int) + 1)) 1134 0 = _; rw [FI_sFI, if_neg (by omega)]; exact b7.1.1]
  refine x_iload_n i_M_readPart_228 rfl ?_
  refine x_iastore i_M_readPart_229 (k := st.2.2.length) rfl (lt_len hl rfl hL) ?_
  refine x_aload_n i_M_readPart_230 rfl ?_
  refine x_dup i_M_readPart_231 ?_
  refine x_getI i_M_readPart_232 rfl rfl ?_
  rw [show FI (sAI (sAI (sFI σ 1125 0 ((st.1 : Int) + 1)) 13 43 st.2.2.length (st.1 : Nat)) 13 44 st.2.2.length ((chT t st.1 - 65).toNat : Nat)) 1134 0 = (st.2.2.length : Int) by show FI (sFI σ 1125 0 ((st.1 : Int) + 1)) 1134 0 = _; rw [FI_sFI, if_neg (by omega)]; exact b7.1.1]
  refine x_iconst i_M_readPart_235 ?_
  refine x_iadd i_M_readPart_236 (by omega) ?_
  refine x_putI i_M_readPart_237 rfl rfl ?_
  show Ex (wp (d + 5)) m_M_readPart Q 240 _ _ (nmM σ st.1 st.2.2.length ((chT t st.1 - 65).toNat : Nat))
  generalize nmM σ st.1 st.2.2.length ((chT t st.1 - 65).toNat : Nat) = σ2 at *
  refine x_aload_n i_M_readPart_240 rfl ?_
  refine x_bipush i_M_readPart_241 ?_
  refine x_iload_n i_M_readPart_243 rfl ?_
  refine x_iconst i_M_readPart_244 ?_
  refine x_iconst i_M_readPart_245 ?_
  refine x_cv4 i_M_readPart_246 rfl rfl rfl ?_
  refine c_M_mkPart hm2.1 hm2.2.1 h2.P (by have := cs.2.2.2; have := h2.2.1.1; omega) ?_
  refine x_iret i_M_readPart_249 rfl ?_
  exact kk _ _ (prt_leaf h h2 r2 c2 (by show st.1 < sk t (st.1 + 1); omega) (Or.inr (Or.inr rfl)) rfl rfl (fun w => absurd w (by show ¬ (12 : Nat) ≤ 1; decide)) (fun w => absurd w (by show ¬ (12 : Nat) ≤ 6; decide)) (fun _ => ⟨rfl, by show (chT t st.1 - 65).toNat < 8; omega, ⟨st.1, List.mem_append_right _ (List.mem_singleton.mpr rfl)⟩⟩))
theorem clQ_prt {R : PR (Item (PT n))} {st1 : RT} {σ1 σ2 : AS} {a b kind num : Nat} {e : Nat} {xI yI : Int} (hmk : ∀ x, R = .inr x → x.1.1 = (kind, 0, num)) (h0 : MdS σ1 t st1 opn e) (r1 : rdM σ σ1) (h : clQ t st1 opn n R a b σ1 σ2) (ho : opn ≤ 8) (hk : kind = 5 ∨ kind = 6 ∨ (8 ≤ kind ∧ kind ≤ 11)) (hnum : kind ≤ 6 → num < 32) {k aI : Int} (ek : k = (mKind kind : Int)) (ex : xI = (a : Int)) (ey : kind = 10 → yI = (b : Int)) (ea : kind ≤ 6 → aI = (num : Int)) : prtQ t st opn n R σ (ptM σ2 (ct σ2 1133) k xI yI aI) (ct σ2 1133) := by
  obtain ⟨r2, h⟩ := h
  have lo := fun f w1 w2 => r1.2.2.1 f w1 w2
  revert h hmk
  cases R with
  | inl q => intro hmk h; exact prt_bad2 (MdF.up h (Nat.le_refl (8 - opn))) (r1.tr r2) (by omega)
  | inr x =>
    intro hmk h
    obtain ⟨h3, h4, h5, h6⟩ := h
    have hm := hmk x rfl
    have e1 : x.1.1.1 = kind := by rw [hm]
    have e2 : x.1.1.2.1 = 0 := by rw [hm]
    have e3 : x.1.1.2.2 = num := by rw [hm]
    have cs := MdS_cts h3
    refine prt_fin (it := x.1) (st3 := x.2) h3 (r1.tr r2) (by have := cs.1; omega) (by have := cs.2.1; omega) h4.1 h4.2 ⟨by omega, e2⟩ (by rw [e1]; exact ek) (fun w => by omega) (fun w => by rw [e3]; exact ⟨ea (by omega), hnum (by omega)⟩) (fun w => by omega) (fun _ => ⟨a, ex, h5.lo (lo _ (by decide) (by decide)) (lo _ (by decide) (by decide)) (lo _ (by decide) (by decide))⟩) (fun w => ⟨b, ey (by omega), (h6 w).lo (lo _ (by decide) (by decide)) (lo _ (by decide) (by decide)) (lo _ (by decide) (by decide))⟩)
theorem clQ.P {R : PR (Item (PT n))} {st1 : RT} {σ1 σ2 : AS} {a b : Nat} (h : clQ t st1 opn n R a b σ1 σ2) : (mFld σ2 ∧ mLns σ2) ∧ FI σ2 1133 0 = (ct σ2 1133 : Int) ∧ ct σ2 1133 < 260 := by
  obtain ⟨r2, h⟩ := h
  revert h
  cases R with
  | inl q =>
    intro h
    have h : MdF σ2 t q opn (8 - opn) := h
    have := h.1.2.1.1
    have := h.P
    exact ⟨⟨h.1.1.1, h.1.1.2.1⟩, this.1, by omega⟩
  | inr x =>
    intro h
    have h3 : MdS σ2 t x.2 opn 0 := h.1
    have := h3.1.2.1.1
    have := h3.2.1.1
    have := (MdS_cts h3).2.2.2
    exact ⟨⟨h3.1.1.1, h3.1.1.2.1⟩, h3.P, by omega⟩
theorem M_rpGroup {alt : Option (RT → PR (PT n))} (hA : altHM (d + 5) t rule opn n alt) (h : MdS σ t st opn 1) (hR : FI σ 1136 0 = 1 → FI σ 1137 0 = (rule : Int)) (kk : ∀ σ' p, prtQ t st opn n (bodP t dA alt 11 0 st) σ σ' p → Q (some (vi (p : Nat))) σ') : Ex (wp (d + 5)) m_M_readPart Q 261 [some (vr 11 0), some (vi (st.1 : Nat)), none, none, none, none, none] [] σ := by
  refine x_aload_n i_M_readPart_261 rfl ?_
  refine x_cv0 i_M_readPart_262 rfl rfl rfl ?_
  refine c_M_opens2 h hA.le (fun σ1 p1 => ?_)
  refine x_aload_n i_M_readPart_265 rfl ?_
  refine x_cv0 i_M_readPart_266 rfl rfl rfl ?_
  refine c_M_alt2 hA hR p1 (fun σ2 a p2 => ?_)
  refine x_istore_n (ls' := [_, _, _, _, _, _, _]) i_M_readPart_269 rfl rfl ?_
  refine x_aload_n i_M_readPart_270 rfl ?_
  refine x_cv0 i_M_readPart_271 rfl rfl rfl ?_
  refine c_M_closes2 dA 11 0 (by decide) hA.le p2 (fun σ3 p3 => ?_)
  obtain ⟨⟨hm3, hl3⟩, P3, P4⟩ := p3.P
  refine x_aload_n i_M_readPart_274 rfl ?_
  refine x_bipush i_M_readPart_275 ?_
  refine x_iload_n i_M_readPart_277 rfl ?_
  refine x_iconst i_M_readPart_278 ?_
  refine x_iconst i_M_readPart_279 ?_
  refine x_cv4 i_M_readPart_280 rfl rfl rfl ?_
  refine c_M_mkPart hm3 hl3 P3 P4 ?_
  refine x_iret i_M_readPart_283 rfl ?_
  exact kk _ _ (clQ_prt (fun x w => (bodP_mk w).1) h (rdM.rf σ) p3 hA.le (by decide) (fun w => absurd w (by decide)) rfl rfl (fun w => absurd w (by decide)) (fun w => absurd w (by decide)))
end


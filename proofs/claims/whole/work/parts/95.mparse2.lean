/-! THE MODEL's parse -/
def hasG (G : GG) (r : Int) : Bool := decide (0 ≤ r ∧ r < 8) && (G.1 r.toNat).isSome
def parS (S : SS) (r p : Int) : RR := parseE S.1.2.2 S.1.2.1 (rulG S.2.1) r.toNat p.toNat S.2.2.1
def doParse (S : SS) (r p : Int) : Int × SS := if hasG S.2.1 r = false ∨ p < 0 ∨ (S.1.2.1 : Int) < p then (-2, S) else (resM (parS S r p), (S.1, S.2.1, (parS S r p).2.2.2.1.2.1, some (parS S r p)))
def laF (f a : Nat) : Prop := 1169 ≤ f ∧ f ≤ 1182 ∧ a = 0
def laA (k a : Nat) : Prop := k = 13 ∧ 59 ≤ a ∧ a ≤ 63
section
variable {d : Nat} {Q : AQ} {σ : AS}
theorem c_M_isRule (h : modR σ) {G : GG} (hg : grmM σ G) {r : Int} (kt : hasG G r = true → Q (some (vi 1)) σ) (kf : hasG G r = false → Q (some (vi 0)) σ) : wp (d + 1) m_M_isRule [vr 11 0, vi r] σ Q := by
  obtain ⟨hm, hl, -⟩ := h
  obtain ⟨-, g2, -⟩ := hg
  refine x_in (ls := [some _, some _]) rfl rfl ?_
  refine x_iload_n i_M_isRule_0 rfl ?_
  refine x_if_lt i_M_isRule_1 (fun h1 => ?_) (fun h1 => ?_)
  · refine x_iconst i_M_isRule_24 ?_
    refine x_zret i_M_isRule_25 rfl (by omega) ?_
    exact kf (by unfold hasG; rw [decide_eq_false (by omega)]; rfl)
  · refine x_iload_n i_M_isRule_4 rfl ?_
    refine x_bipush i_M_isRule_5 ?_
    refine x_icmp_ge i_M_isRule_7 (fun h2 => ?_) (fun h2 => ?_)
    · refine x_iconst i_M_isRule_24 ?_
      refine x_zret i_M_isRule_25 rfl (by omega) ?_
      exact kf (by unfold hasG; rw [decide_eq_false (by omega)]; rfl)
    · have hr : r.toNat < 8 := by omega
      have := g2 _ hr
      refine x_aload_n i_M_isRule_10 rfl ?_
      refine x_getR (c2 := 13) i_M_isRule_11 rfl rfl (hm _ _ rfl) ?_
      refine x_iload_n i_M_isRule_14 rfl ?_
      refine x_iaload i_M_isRule_15 (k := r.toNat) (by omega) (lt_len hl rfl hr) ?_
      refine x_iconst i_M_isRule_16 ?_
      refine x_icmp_eq i_M_isRule_17 (fun h3 => ?_) (fun h3 => ?_)
      · have hq : hasG G r = false := by
          unfold hasG
          rw [Bool.eq_false_iff.mpr (fun w => this.mpr w h3), Bool.and_false]
        refine x_iconst i_M_isRule_24 ?_
        refine x_zret i_M_isRule_25 rfl (by omega) ?_
        exact kf hq
      · refine x_iconst i_M_isRule_20 ?_
        refine x_goto i_M_isRule_21 ?_
        refine x_zret i_M_isRule_25 rfl (by omega) ?_
        exact kt (by unfold hasG; rw [decide_eq_true ⟨by omega, by omega⟩, this.mp h3]; rfl)
theorem laX_mp {σ' : AS} (hx : fX laF laA σ σ') : moX σ σ' := hx.mo (fun f a q => by have := q.1; omega) (fun k a q => Or.inl ⟨q.1, by have := q.2.1; omega, by have := q.2.2; omega⟩)
theorem c_M_parse {S : SS} (h : moS σ S) {r p : Int} (kk : ∀ σ', moX σ σ' → moS σ' (doParse S r p).2 → Q (some (vi (doParse S r p).1)) σ') : wp 2003 m_M_parse [vr 11 0, vi r, vi p] σ Q := by
  obtain ⟨hmr, hbes, ht1, ht2, htp, hti, hg, hsp, hsp2, hla⟩ := id h
  obtain ⟨hm, hl, hlb⟩ := id hmr
  have bad : (hasG S.2.1 r = false ∨ p < 0 ∨ (S.1.2.1 : Int) < p) → Ex (wp 2002) m_M_parse Q 20 [some (vr 11 0), some (vi r), some (vi p), none] [] σ := by
    intro w
    refine x_bipush i_M_parse_20 ?_
    have := kk σ (moX.rf σ)
    unfold doParse at this
    rw [if_pos w] at this
    refine x_iret i_M_parse_22 rfl ?_
    exact this h
  refine x_in (ls := [some _, some _, some _, none]) rfl rfl ?_
  refine x_aload_n i_M_parse_0 rfl ?_
  refine x_iload_n i_M_parse_1 rfl ?_
  refine x_cv1 i_M_parse_2 rfl rfl rfl ?_
  refine c_M_isRule hmr hg (fun w1 => ?_) (fun w1 => ?_)
  · refine x_if_eq_f i_M_parse_5 (by decide) ?_
    refine x_iload_n i_M_parse_8 rfl ?_
    refine x_if_lt i_M_parse_9 (fun w2 => ?_) (fun w2 => ?_)
    · exact bad (Or.inr (Or.inl w2))
    · refine x_iload_n i_M_parse_12 rfl ?_
      refine x_aload_n i_M_parse_13 rfl ?_
      refine x_getI i_M_parse_14 rfl rfl ?_
      rw [hti.1]
      refine x_icmp_le i_M_parse_17 (fun w3 => ?_) (fun w3 => ?_)
      · have w1' := w1
        unfold hasG at w1'
        rw [Bool.and_eq_true, decide_eq_true_eq] at w1'
        obtain ⟨hr, hsome⟩ := w1'
        have kk : ∀ σ', moX σ σ' → moS σ' (S.1, S.2.1, (parS S r p).2.2.2.1.2.1, some (parS S r p)) → Q (some (vi (resM (parS S r p)))) σ' := by
          unfold doParse at kk
          rw [if_neg (fun w => by rcases w with w | w | w; · rw [w1] at w; cases w
                                  · omega
                                  · omega)] at kk
          exact kk
        obtain ⟨rn, rfl⟩ : ∃ n : Nat, r = (n : Int) := ⟨r.toNat, by omega⟩
        obtain ⟨pn, rfl⟩ : ∃ n : Nat, p = (n : Int) := ⟨p.toNat, by omega⟩
        unfold parS at kk
        rw [Int.toNat_natCast, Int.toNat_natCast] at kk
        rw [Int.toNat_natCast] at hsome
        refine x_aload_n i_M_parse_23 rfl ?_
        refine x_aload_n i_M_parse_24 rfl ?_
        refine x_getR (c2 := 13) i_M_parse_25 rfl rfl (hm _ _ rfl) ?_
        refine x_putO (c2 := 13) i_M_parse_28 rfl rfl ?_
        refine x_aload_n i_M_parse_31 rfl ?_
        refine x_aload_n i_M_parse_32 rfl ?_
        refine x_getI i_M_parse_33 rfl rfl ?_
        rw [show FI (sFR σ 1140 0 (some 24)) 1104 0 = (S.1.2.1 : Int) from hti.1]
        refine x_putI i_M_parse_36 rfl rfl ?_
        generalize hσ1 : sFI (sFR σ 1140 0 (some 24)) 1141 0 (S.1.2.1 : Int) = σ1
        have y1 : moX σ σ1 := by rw [← hσ1]; exact (moX_sFR (by decide)).tr (moX_sFI (by decide))
        have fi1 : ∀ f, f ≠ 1141 → FI σ1 f 0 = FI σ f 0 := by intro f hf; rw [← hσ1, FI_sFI, if_neg (fun w => hf w.1)]; rfl
        have fr1 : ∀ f, f ≠ 1140 → FR σ1 f 0 = FR σ f 0 := by intro f hf; rw [← hσ1, FR_sFI, FR_sFR, if_neg (fun w => hf w.1)]
        have ai1 : ∀ k a j, AI σ1 k a j = AI σ k a j := by intro k a j; rw [← hσ1]; rfl
        have in1 : FR σ1 1140 0 = some 24 := by rw [← hσ1]; simp [FR_sFI, FR_sFR]
        have in2 : FI σ1 1141 0 = (S.1.2.1 : Int) := by rw [← hσ1]; simp [FI_sFI]
        clear hσ1
        have hmr1 := hmr.rf fr1 y1.2.2.2.2.2.1
        have hg1 := hg.keep (fun a j _ _ => ai1 _ _ _) (fun j => ai1 _ _ _) (fi1 _ (by decide)) (fi1 _ (by decide))
        have he : envM σ1 ((24, S.1.2.1), S.1.2.2, rulG S.2.1) := ⟨hmr1, hg1.1, in1, hmr1.2.1 24 240 rfl, in2, ht2.1, by show 24 < 26; decide, fun i hi => ⟨by rw [ai1]; exact hti.2 i hi, ht2.2 i hi⟩⟩
        have hm : mFld σ1 := hmr1.1
        refine x_aload_n i_M_parse_39 rfl ?_
        refine x_iload_n i_M_parse_40 rfl ?_
        refine x_iload_n i_M_parse_41 rfl ?_
        refine x_cv2 i_M_parse_42 rfl rfl rfl ?_
        refine wp.le (by decide : 372 ≤ 2002) (c_M_parses he (by omega : rn < 8) ((hg1.2.1 rn (by omega)).mpr hsome) (by show pn ≤ S.1.2.1; omega) (by rw [fi1 _ (by decide)]; exact hsp) hsp2 (fun σ2 x2 ran => ?_))
        have kk : ∀ σ', moX σ σ' → moS σ' (S.1, S.2.1, (parseE S.1.2.2 S.1.2.1 (rulG S.2.1) rn pn S.2.2.1).2.2.2.1.2.1, some (parseE S.1.2.2 S.1.2.1 (rulG S.2.1) rn pn S.2.2.1)) → Q (some (vi (resM (parseE S.1.2.2 S.1.2.1 (rulG S.2.1) rn pn S.2.2.1)))) σ' := kk
        have ran : ranM σ2 ((24, S.1.2.1), S.1.2.2, rulG S.2.1) (parseE S.1.2.2 S.1.2.1 (rulG S.2.1) rn pn S.2.2.1) := ran
        show Ex (wp 2002) m_M_parse Q 45 _ [vi (resM (parseE S.1.2.2 S.1.2.1 (rulG S.2.1) rn pn S.2.2.1))] σ2
        generalize parseE S.1.2.2 S.1.2.1 (rulG S.2.1) rn pn S.2.2.1 = q at kk ran ⊢
        obtain ⟨n1, n2, n3, n4, n5, n6, n7⟩ := ran
        have y2 : moX σ1 σ2 := x2.mo (fun f a q => by have := q.1; omega) (fun k a q => by rcases q with q | q; exact Or.inl ⟨q.1, by omega, by omega⟩; exact Or.inr q.1)
        have fi2 : ∀ f, f < 1142 ∨ 1152 < f → FI σ2 f 0 = FI σ1 f 0 := fun f hf => x2.1 _ _ (fun q => by obtain ⟨q1, q2, -⟩ := q; omega)
        have ai2 : ∀ a j, a < 45 ∨ 58 < a → AI σ2 13 a j = AI σ1 13 a j := fun a j ha => x2.2.2.1 _ _ _ (fun q => by rcases q with q | q <;> omega)
        have bi2 : ∀ j, AI σ2 14 0 j = AI σ1 14 0 j := fun j => x2.2.2.1 _ _ _ (fun q => by rcases q with q | q <;> omega)
        have hmr2 := n1.1
        obtain ⟨hm, hl, hlb⟩ := id hmr2
        have st8 := congrArg Prod.fst n3
        have st9 := congrArg Prod.snd n3
        have st8 : AI σ2 13 50 0 = q.2.2.2.2.1.1 := st8
        have st9 : AI σ2 13 51 0 = q.2.2.2.2.1.2 := st9
        have finish : ∀ σ5, fX laF laA σ2 σ5 → FI σ5 1169 0 = 1 → lasM σ5 q → Q (some (vi (resM q))) σ5 := by
          intro σ5 x5 w1 w2
          have fi5 : ∀ f, f < 1169 → FI σ5 f 0 = FI σ2 f 0 := fun f hf => x5.1 _ _ (fun q => by have := q.1; omega)
          have ai5 : ∀ a j, a < 59 ∨ 63 < a → AI σ5 13 a j = AI σ2 13 a j := fun a j ha => x5.2.2.1 _ _ _ (fun q => by have := q.2; omega)
          have bi5 : ∀ j, AI σ5 14 0 j = AI σ2 14 0 j := fun j => x5.2.2.1 _ _ _ (fun q => by have := q.1; omega)
          have fr5 : FR σ5 = FR σ1 := by rw [x5.2.1, x2.2.1]
          refine kk σ5 ((y1.tr y2).tr (laX_mp x5)) ⟨hmr2.keep x5, hbes.keep (by rw [fr5, fr1 _ (by decide)]) ((y1.tr y2).tr (laX_mp x5)).2.2.2.2.1 ((y1.tr y2).tr (laX_mp x5)).2.2.2.2.2.1, ht1, ht2, htp.keep ?_ ?_, hti.keep ?_ ?_, hg1.keep ?_ ?_ ?_ ?_, ?_, n2.2.2.2.2.1, w1, w2⟩
          · rw [fi5 _ (by decide), fi2 _ (by decide), fi1 _ (by decide)]
          · intro j; rw [ai5 _ _ (by decide), ai2 _ _ (by decide), ai1]
          · rw [fi5 _ (by decide), fi2 _ (by decide), fi1 _ (by decide)]
          · intro j; rw [ai5 _ _ (by decide), ai2 _ _ (by decide), ai1]
          · intro a j v1 v2; rw [ai5 _ _ (by omega), ai2 _ _ (by omega)]
          · intro j; rw [bi5, bi2]
          · rw [fi5 _ (by decide), fi2 _ (by decide)]
          · rw [fi5 _ (by decide), fi2 _ (by decide)]
          · rw [fi5 _ (by decide)]; exact n2.2.1
        have hq3 : q.1 < 0 → resM q < 0 := by
          intro w
          unfold resM
          split
          · decide
          · exact w
        have hq4 : 0 ≤ q.1 → resM q = q.1 := by
          intro w
          unfold resM
          rw [if_neg (by omega)]
        -- the last's tree is written out
        have tail : ∀ (σ4 : AS), fX laF laA σ2 σ4 → FI σ4 1169 0 = 1 → FI σ4 1171 0 = q.2.2.2.2.1.1 → FI σ4 1172 0 = q.2.2.2.2.1.2 → FI σ4 1173 0 = (q.2.2.2.1.1 : Int) → FI σ4 1174 0 = (q.2.2.2.1.2.2 : Int) → FI σ4 1170 0 = bI (sharpE q) → (match treeE q with | none => FI σ4 1175 0 = 0 | some t => gA true t ∧ sizeT t ≤ 2000 ∧ FI σ4 1175 0 = (sizeT t : Int) ∧ flM σ4 0 (flatT t 0)) → Ex (wp 2002) m_M_parse Q 136 [some (vr 11 0), some (vi (rn : Nat)), some (vi (pn : Nat)), some (vi (resM q))] [] σ4 := by
          intro σ4 x4 v1 v2 v3 v4 v5 v6 v7
          refine x_aload_n i_M_parse_136 rfl ?_
          refine x_iconst i_M_parse_137 ?_
          refine x_putI i_M_parse_138 rfl rfl ?_
          refine x_aload_n i_M_parse_141 rfl ?_
          refine x_iconst i_M_parse_142 ?_
          refine x_putI i_M_parse_143 rfl rfl ?_
          generalize hσ5 : sFI (sFI σ4 1181 0 0) 1182 0 0 = σ5
          have x5 : fX wkF wkA σ4 σ5 := by rw [← hσ5]; exact (fX_sFI ⟨Or.inl rfl, rfl⟩).tr (fX_sFI ⟨Or.inr rfl, rfl⟩)
          have g1 : FI σ5 1181 0 = 0 := by rw [← hσ5]; simp [FI_sFI]
          have g2 : FI σ5 1182 0 = 0 := by rw [← hσ5]; simp [FI_sFI]
          clear hσ5
          have wl : ∀ {a b : AS}, fX wkF wkA a b → fX laF laA a b := fun h => h.mono (fun f a q => by rcases q.1 with w | w <;> exact ⟨by omega, by omega, q.2⟩) (fun k a q => ⟨q.1, by have := q.2; omega, by have := q.2; omega⟩)
          have fi : ∀ f, f < 1181 → ∀ {a b : AS}, fX wkF wkA a b → FI b f 0 = FI a f 0 := fun f hf a b h => h.1 _ _ (fun q => by rcases q.1 with w | w <;> omega)
          have last : ∀ σ6, fX wkF wkA σ5 σ6 → outM σ6 (treeE q) → Ex (wp 2002) m_M_parse Q 157 [some (vr 11 0), some (vi (rn : Nat)), some (vi (pn : Nat)), some (vi (resM q))] [] σ6 := by
            intro σ6 x6 ho
            have x46 := x5.tr x6
            have := finish σ6 (x4.tr (wl x46)) (by rw [fi _ (by decide) x46]; exact v1) ⟨by rw [fi _ (by decide) x46]; exact v2, by rw [fi _ (by decide) x46]; exact v3, by rw [fi _ (by decide) x46]; exact v4, by rw [fi _ (by decide) x46]; exact v5, by rw [fi _ (by decide) x46]; exact v6, ho⟩
            refine x_iload_n i_M_parse_157 rfl ?_
            refine x_iret i_M_parse_158 rfl ?_
            exact this
          cases ht : treeE q with
          | none =>
            rw [ht] at v7 last
            have v7 : FI σ4 1175 0 = 0 := v7
            refine x_aload_n i_M_parse_146 rfl ?_
            refine x_getI i_M_parse_147 rfl rfl ?_
            rw [fi _ (by decide) x5, v7]
            refine x_if_le_t i_M_parse_150 (by decide) ?_
            exact last σ5 (fX.rf _ _ _) ⟨by rw [fi _ (by decide) x5, v7], g1⟩
          | some t =>
            rw [ht] at v7 last
            obtain ⟨u1, u2, u3, u4⟩ := v7
            have := gA_size u1
            refine x_aload_n i_M_parse_146 rfl ?_
            refine x_getI i_M_parse_147 rfl rfl ?_
            rw [fi _ (by decide) x5, u3]
            refine x_if_le_f i_M_parse_150 (by omega) ?_
            refine x_aload_n i_M_parse_153 rfl ?_
            refine x_cv0 i_M_parse_154 rfl rfl rfl ?_
            refine wp.le (by decide : 2001 ≤ 2002) (c_M_writes 2000 t u1 u2 _ σ5 [] 0 0 ((hmr2.keep x4).keep x5) (wkX_fl x5 u4) g2 (by omega) ⟨g1, fun i v hi => by cases hi⟩ (by simp; omega) (fun σ6 x6 f6 t6 => ?_))
            exact last σ6 x6 ⟨u1, u2, by rw [fi _ (by decide) x6, fi _ (by decide) x5, u3], wkX_fl x6 (wkX_fl x5 u4), by simpa using t6⟩
        -- the numbers
        refine x_istore_n (ls' := [_, _, _, _]) i_M_parse_45 rfl rfl ?_
        refine x_aload_n i_M_parse_46 rfl ?_
        refine x_iconst i_M_parse_47 ?_
        refine x_putZ i_M_parse_48 rfl rfl (by omega) ?_
        refine x_aload_n i_M_parse_51 rfl ?_
        refine x_aload_n i_M_parse_52 rfl ?_
        refine x_getR (c2 := 13) i_M_parse_53 rfl rfl (hm _ _ rfl) ?_
        refine x_iconst i_M_parse_56 ?_
        refine x_iaload i_M_parse_57 (k := 0) rfl (lt_len hl rfl (by decide)) ?_
        refine x_putI i_M_parse_58 rfl rfl ?_
        refine x_aload_n i_M_parse_61 rfl ?_
        refine x_aload_n i_M_parse_62 rfl ?_
        refine x_getR (c2 := 13) i_M_parse_63 rfl rfl (hm _ _ rfl) ?_
        refine x_iconst i_M_parse_66 ?_
        refine x_iaload i_M_parse_67 (k := 0) rfl (lt_len hl rfl (by decide)) ?_
        refine x_putI i_M_parse_68 rfl rfl ?_
        refine x_aload_n i_M_parse_71 rfl ?_
        refine x_aload_n i_M_parse_72 rfl ?_
        refine x_getI i_M_parse_73 rfl rfl ?_
        refine x_putI i_M_parse_76 rfl rfl ?_
        refine x_aload_n i_M_parse_79 rfl ?_
        refine x_aload_n i_M_parse_80 rfl ?_
        refine x_getI i_M_parse_81 rfl rfl ?_
        refine x_putI i_M_parse_84 rfl rfl ?_
        have e50 : AI (sFI σ2 1169 0 1) 13 50 0 = q.2.2.2.2.1.1 := st8
        have e51 : AI (sFI (sFI σ2 1169 0 1) 1171 0 (AI (sFI σ2 1169 0 1) 13 50 0)) 13 51 0 = q.2.2.2.2.1.2 := st9
        rw [e51, e50]
        generalize hσ3 : sFI (sFI (sFI (sFI (sFI σ2 1169 0 1) 1171 0 q.2.2.2.2.1.1) 1172 0 q.2.2.2.2.1.2) 1173 0 _) 1174 0 _ = σ3
        have x3 : fX laF laA σ2 σ3 := by rw [← hσ3]; exact ((((fX_sFI ⟨by decide, by decide, rfl⟩).tr (fX_sFI ⟨by decide, by decide, rfl⟩)).tr (fX_sFI ⟨by decide, by decide, rfl⟩)).tr (fX_sFI ⟨by decide, by decide, rfl⟩)).tr (fX_sFI ⟨by decide, by decide, rfl⟩)
        have v1 : FI σ3 1169 0 = 1 := by rw [← hσ3]; simp [FI_sFI]
        have v2 : FI σ3 1171 0 = q.2.2.2.2.1.1 := by rw [← hσ3]; simp [FI_sFI]
        have v3 : FI σ3 1172 0 = q.2.2.2.2.1.2 := by rw [← hσ3]; simp [FI_sFI]
        have v4 : FI σ3 1173 0 = (q.2.2.2.1.1 : Int) := by rw [← hσ3]; simp [FI_sFI]; exact n2.1
        have v5 : FI σ3 1174 0 = (q.2.2.2.1.2.2 : Int) := by rw [← hσ3]; simp [FI_sFI]; exact n2.2.2.1
        clear hσ3 e50 e51
        have f3 : ∀ f, f < 1169 → FI σ3 f 0 = FI σ2 f 0 := fun f hf => x3.1 _ _ (fun q => by have := q.1; omega)
        have put : ∀ z, z = bI (sharpE q) → Ex (wp 2002) m_M_parse Q 107 [some (vr 11 0), some (vi (rn : Nat)), some (vi (pn : Nat)), some (vi (resM q))] [vi z, vr 11 0] σ3 := by
          intro z hz
          have hz01 := bI_01 (sharpE q)
          rw [hz]
          refine x_putZ i_M_parse_107 rfl rfl (by omega) ?_
          refine x_aload_n i_M_parse_110 rfl ?_
          refine x_iconst i_M_parse_111 ?_
          refine x_putI i_M_parse_112 rfl rfl ?_
          generalize hσ4 : sFI (sFI σ3 1170 0 (bI (sharpE q))) 1175 0 0 = σ4
          have x4 : fX laF laA σ3 σ4 := by rw [← hσ4]; exact (fX_sFI ⟨by decide, by decide, rfl⟩).tr (fX_sFI ⟨by decide, by decide, rfl⟩)
          have u1 : FI σ4 1169 0 = 1 := by rw [← hσ4]; simp [FI_sFI]; exact v1
          have u2 : FI σ4 1171 0 = q.2.2.2.2.1.1 := by rw [← hσ4]; simp [FI_sFI]; exact v2
          have u3 : FI σ4 1172 0 = q.2.2.2.2.1.2 := by rw [← hσ4]; simp [FI_sFI]; exact v3
          have u4 : FI σ4 1173 0 = (q.2.2.2.1.1 : Int) := by rw [← hσ4]; simp [FI_sFI]; exact v4
          have u5 : FI σ4 1174 0 = (q.2.2.2.1.2.2 : Int) := by rw [← hσ4]; simp [FI_sFI]; exact v5
          have u6 : FI σ4 1170 0 = bI (sharpE q) := by rw [← hσ4]; simp [FI_sFI]
          have u7 : FI σ4 1175 0 = 0 := by rw [← hσ4]; simp [FI_sFI]
          clear hσ4
          have f4 : ∀ f, f < 1169 → FI σ4 f 0 = FI σ2 f 0 := fun f hf => (x4.1 _ _ (fun q => by have := q.1; omega)).trans (f3 f hf)
          have x24 := x3.tr x4
          refine x_iload_n i_M_parse_115 rfl ?_
          by_cases h0 : 0 ≤ q.1
          · obtain ⟨k1, N, L, tab, cl, kids, own, o, k2, k3, k4, k5, k6, k7⟩ := n6 h0
            have et : treeE q = o.map tab := by rw [treeE, if_pos h0, k7]
            have ns : NodeS σ4 N L tab cl kids own := k2.same (fun a j w1 w2 => x24.2.2.1 _ _ _ (fun q => by have := q.2.1; omega)) (f4 _ (by decide)) (f4 _ (by decide))
            rw [hq4 h0] at tail ⊢
            refine x_if_lt_f i_M_parse_116 (by omega) ?_
            refine x_aload_n i_M_parse_119 rfl ?_
            refine x_getI i_M_parse_120 rfl rfl ?_
            rw [f4 _ (by decide), k5]
            refine x_iconst i_M_parse_123 ?_
            cases o with
            | none =>
              refine x_icmp_eq_t i_M_parse_124 rfl ?_
              exact tail σ4 x24 u1 u2 u3 u4 u5 u6 (by rw [et]; exact u7)
            | some i =>
              have ci := k6 i rfl
              have hs := (ns.2.2.2 i (ns.2.2.1 i ci)).2.2.2 ci
              refine x_icmp_eq_f i_M_parse_124 (by simp only [oI]; omega) ?_
              refine x_aload_n i_M_parse_127 rfl ?_
              refine x_aload_n i_M_parse_128 rfl ?_
              refine x_getI i_M_parse_129 rfl rfl ?_
              rw [f4 _ (by decide), k5]
              refine x_iconst i_M_parse_132 ?_
              refine x_cv2 i_M_parse_133 rfl rfl rfl ?_
              refine wp.le (by decide : 2001 ≤ 2002) (c_M_flat (by omega) (by omega) 2000 _ σ4 i 0 0 (hmr2.keep x24) ns ci hs.2 u7 (by omega) (by decide) (fun σ5 x5 j5 g5 w5 => ?_))
              have fi5 : ∀ f, f ≠ 1175 → FI σ5 f 0 = FI σ4 f 0 := fun f hf => x5.1 _ _ (fun q => hf q.1)
              refine tail σ5 (x24.tr (x5.mono (fun f a q => ⟨by have := q.1; omega, by have := q.1; omega, q.2⟩) (fun k a q => ⟨q.1, q.2.1, by have := q.2.2; omega⟩))) ((fi5 _ (by decide)).trans u1) ((fi5 _ (by decide)).trans u2) ((fi5 _ (by decide)).trans u3) ((fi5 _ (by decide)).trans u4) ((fi5 _ (by decide)).trans u5) ((fi5 _ (by decide)).trans u6) ?_
              rw [et]
              exact ⟨ns.good 2000 i ci hs.2, hs.2, by rw [g5]; simp, w5⟩
          · refine x_if_lt_t i_M_parse_116 (by have := hq3 (by omega); omega) ?_
            exact tail σ4 x24 u1 u2 u3 u4 u5 u6 (by rw [treeE, if_neg h0]; exact u7)
        refine x_aload_n i_M_parse_87 rfl ?_
        refine x_aload_n i_M_parse_88 rfl ?_
        refine x_getI i_M_parse_89 rfl rfl ?_
        rw [f3 _ (by decide), n4]
        by_cases he : q.1 < -5
        · rw [if_pos he]
          refine x_if_ne_t i_M_parse_92 (by omega) ?_
          refine x_iconst i_M_parse_106 ?_
          exact put 0 (by rw [sharpE, if_pos he]; rfl)
        · rw [if_neg he]
          refine x_if_ne_f i_M_parse_92 rfl ?_
          refine x_aload_n i_M_parse_95 rfl ?_
          refine x_getI i_M_parse_96 rfl rfl ?_
          rw [f3 _ (by decide), n5 (by omega)]
          refine x_if_eq i_M_parse_99 (fun g7 => ?_) (fun g7 => ?_)
          · refine x_iconst i_M_parse_106 ?_
            exact put 0 (by rw [sharpE, if_neg he]; exact g7.symm)
          · refine x_iconst i_M_parse_102 ?_
            refine x_goto i_M_parse_103 ?_
            exact put 1 (by rw [sharpE, if_neg he, bI_t g7]; rfl)
      · exact bad (Or.inr (Or.inr (by omega)))
  · refine x_if_eq_t i_M_parse_5 rfl ?_
    exact bad (Or.inl w1)
end


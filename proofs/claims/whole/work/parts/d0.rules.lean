/-! THE MODEL's reading: rules -/
def rlF (f a : Nat) : Prop := 1125 ≤ f ∧ f ≤ 1137 ∧ a = 0
def rlA (s : Prop) (k a : Nat) : Prop := k = 13 ∧ ((27 ≤ a ∧ a ≤ 36) ∨ (a = 43 ∨ a = 44) ∨ (s ∧ (a = 26 ∨ (37 ≤ a ∧ a ≤ 41))))
def rlM (s : Prop) (σ σ' : AS) : Prop := fX rlF (rlA s) σ σ'
theorem rdM.rl {s : Prop} {σ σ' : AS} (h : rdM σ σ') (e : FI σ 1136 0 = 1 → s) : rlM s σ σ' := h.1.mono (fun f a q => ⟨q.1.1, q.2⟩) (fun k a q => ⟨q.1, q.2.imp id (fun v => v.imp id (fun z => ⟨e z.1, Or.inr z.2⟩))⟩)
theorem rdM.f28 {σ σ' : AS} (h : rdM σ σ') : FI σ' 1128 0 = FI σ 1128 0 := h.1.1 _ _ (fun q => q.1.2 rfl)
theorem rdM.r26 {σ σ' : AS} (h : rdM σ σ') (r : Nat) : AI σ' 13 26 r = AI σ 13 26 r := h.1.2.2.1 _ _ _ (fun q => by have := q.2; omega)
theorem bI_1 {b : Bool} (h : bI b = 1) : b = true := by
  cases b
  · exact absurd h (by decide)
  · rfl
/-- what the rules' own fields and row change -/
def ruX (σ σ' : AS) : Prop := fX (fun f a => (f = 1128 ∨ f = 1137) ∧ a = 0) (fun k a => k = 13 ∧ a = 26) σ σ'
theorem MdS.ru {σ σ' : AS} {t : TP} {st : RT} {opn e : Nat} (h : MdS σ t st opn e) (hx : ruX σ σ') : MdS σ' t st opn e := by
  obtain ⟨b1, b2, b3, b4, b5, b6, ⟨b7, b71⟩, b8⟩ := h
  have fi : ∀ f, f ≠ 1128 → f ≠ 1137 → FI σ' f 0 = FI σ f 0 := fun f w1 w2 => hx.1 _ _ (fun q => q.1.elim w1 w2)
  have ai : ∀ a j, a ≠ 26 → AI σ' 13 a j = AI σ 13 a j := fun a j w => hx.2.2.1 _ _ _ (fun q => w q.2)
  refine ⟨b1.keep hx (fun q => absurd q.1 (by decide)) (fun q => absurd q.2 (by decide)), b2, by rw [fi _ (by decide) (by decide)]; exact b3, by rw [fi _ (by decide) (by decide)]; exact b4, by rw [fi _ (by decide) (by decide)]; exact b5, ?_, ⟨?_, b71⟩, b8.cg (fun f w1 w2 => fi f (by omega) (by omega))⟩
  · unfold atoM
    rw [fi _ (by decide) (by decide), fi _ (by decide) (by decide)]
    exact ⟨b6.1, b6.2.1, fun w i a hi => by rw [ai _ _ (by decide), ai _ _ (by decide), ai _ _ (by decide), ai _ _ (by decide), ai _ _ (by decide)]; exact b6.2.2 w i a hi⟩
  · unfold namM
    rw [fi _ (by decide) (by decide)]
    exact ⟨b7.1, fun i y hi => by rw [ai _ _ (by decide), ai _ _ (by decide)]; exact b7.2 i y hi⟩
def rulV (σ : AS) (dn : Nat → Prop) (o : Option (PT 9)) (v : Int) : Prop := match o with
  | none => v = -1
  | some alt => ∃ a : Nat, v = (a : Int) ∧ altB σ dn 9 0 (ct σ 1130) 0 (ct σ 1131) 0 (ct σ 1132) (ct σ 1133) alt a
def rulM (σ : AS) (dn : Nat → Prop) (R : Nat → Option (PT 9)) : Prop := ∀ r, r < 8 → rulV σ dn (R r) (AI σ 13 26 r)
theorem rulV.keep {σ σ' : AS} {dn dn' : Nat → Prop} (hd : ∀ r, dn r → dn' r) (hx : rdM σ σ') {o : Option (PT 9)} {v : Int} (h : rulV σ dn o v) : rulV σ' dn' o v := by
  revert h
  cases o with
  | none => exact id
  | some alt =>
    rintro ⟨a, h1, h2⟩
    exact ⟨a, h1, h2.keepM hd hx⟩
theorem rulM.keep {σ σ' : AS} {dn dn' : Nat → Prop} {R : Nat → Option (PT 9)} (h : rulM σ dn R) (hd : ∀ r, dn r → dn' r) (hx : rdM σ σ') : rulM σ' dn' R := fun r hr => by rw [hx.r26]; exact (h r hr).keep hd hx
theorem rulV.ru {σ σ' : AS} {dn : Nat → Prop} (hx : ruX σ σ') {o : Option (PT 9)} {v : Int} (h : rulV σ dn o v) : rulV σ' dn o v := by
  revert h
  cases o with
  | none => exact id
  | some alt =>
    rintro ⟨a, h1, h2⟩
    have cc : ∀ f, f ≠ 1128 → f ≠ 1137 → ct σ' f = ct σ f := fun f w1 w2 => ctE (hx.1 _ _ (fun q => q.1.elim w1 w2))
    refine ⟨a, h1, ?_⟩
    rw [cc _ (by decide) (by decide), cc _ (by decide) (by decide), cc _ (by decide) (by decide), cc _ (by decide) (by decide)]
    exact h2.keepJ (fun _ w => w) 9 _ _ _ _ _ _ _ _ _ _ _ _ _ _ _ _ (nodJ.all (fun a j w1 w2 => hx.2.2.1 _ _ _ (fun q => by omega)) _ _ _ _ _ _ _) (Nat.le_refl _) (Nat.le_refl _) (Nat.le_refl _) (Nat.le_refl _) (Nat.le_refl _) (Nat.le_refl _) (Nat.le_refl _)
/-- all the rules so far -/
def MdR (b : Bool) (σ : AS) (t : TP) (R : Nat → Option (PT 9)) (st : RT) : Prop := FI σ 1136 0 = bI b ∧ MdS σ t st 0 0 ∧ FI σ 1128 0 = (cnR R : Int) ∧ (b = true → rulM σ (dnN st.2.2) R)
section
variable {d : Nat} {Q : AQ} {σ : AS} {t : TP} {st : RT} {b : Bool} {x y : Int}
theorem M_readBad (h : MdS σ t st 0 0) (f1 : FI σ 1125 0 = (st.1 : Int)) (kk : ∀ σ', atX σ σ' → FI σ' 1126 0 = (st.1 : Int) → Q none σ') : Ex (wp (d + 41)) m_M_reads Q 98 [some (vr 11 0), some (vi x), some (vi y), some (vi 1), none] [] σ := by
  refine x_aload_n i_M_reads_98 rfl ?_
  refine x_aload_n i_M_reads_99 rfl ?_
  refine x_getI i_M_reads_100 rfl rfl ?_
  rw [f1]
  refine x_cv1 i_M_reads_103 rfl rfl rfl ?_
  refine c_M_wrongS (u := 0) h (by decide) h.2.1.1 (fun σ2 x2 h2 f2 => ?_)
  refine x_vret i_M_reads_106 rfl ?_
  exact kk σ2 x2 h2.2.2.2.1
theorem M_readF2 {p : Nat} {a : Int} (hf : FI σ 1126 0 = (p : Int)) (kk : Q none σ) : Ex (wp (d + 41)) m_M_reads Q 154 [some (vr 11 0), some (vi x), some (vi y), some (vi 1), some (vi a)] [] σ := by
  refine x_aload_n i_M_reads_154 rfl ?_
  refine x_bipush i_M_reads_155 ?_
  refine x_cv1 i_M_reads_157 rfl rfl rfl ?_
  refine c_M_needF hf ?_
  refine x_aload_n i_M_reads_160 rfl ?_
  refine x_getI i_M_reads_161 rfl rfl ?_
  rw [hf]
  refine x_if_lt_f i_M_reads_164 (by omega) ?_
  refine x_vret i_M_reads_167 rfl ?_
  exact kk
theorem M_readF {p : Nat} (hf : FI σ 1126 0 = (p : Int)) (kk : Q none σ) : Ex (wp (d + 41)) m_M_reads Q 148 [some (vr 11 0), some (vi x), some (vi y), some (vi 1), none] [] σ := by
  refine x_aload_n i_M_reads_148 rfl ?_
  refine x_cv0 i_M_reads_149 rfl rfl rfl ?_
  refine c_M_altF hf ?_
  refine x_istore (ls' := [_, _, _, _, _]) i_M_reads_152 rfl rfl ?_
  exact M_readF2 hf kk
theorem M_rule {R : Nat → Option (PT 9)} {has : Int} (h : MdR b σ t R st) (hh : bN has (fun r => (R r).isSome)) (kf : ∀ p, rulP t R st = .inl p → ∀ σ', rlM (b = true) σ σ' → FI σ' 1126 0 = (p : Int) → Q none σ') (kt : ∀ x, rulP t R st = .inr x → ∀ σ' has', rlM (b = true) σ σ' → MdR b σ' t x.1 x.2 → bN has' (fun r => (x.1 r).isSome) → Ex (wp (d + 41)) m_M_reads Q 59 [some (vr 11 0), some (vi (bI b)), some (vi has'), some (vi (bI (decide (x.2.1 < t.1)))), none] [] σ') : Ex (wp (d + 41)) m_M_reads Q 59 [some (vr 11 0), some (vi (bI b)), some (vi has), some (vi 1), none] [] σ := by
  obtain ⟨hb, hS, h28, hru⟩ := h
  obtain ⟨b1, ⟨o1, o2, o3⟩, ⟨a, b3, b31, b32⟩, b4, b5, -⟩ := id hS
  have ht := b1.2.1
  have ht1 := ht.1
  have hb1 : FI σ 1136 0 = 1 → b = true := fun w => bI_1 (hb.symm.trans w)
  refine x_iload_n i_M_reads_59 rfl ?_
  refine x_if_eq_f i_M_reads_60 (by decide) ?_
  refine x_aload_n i_M_reads_63 rfl ?_
  refine x_cv0 i_M_reads_64 rfl rfl rfl ?_
  refine c_M_skips b1 b3 b31 (fun σ1 x1 f1 f2 f3 => ?_)
  rw [b32] at f1
  have h1 : MdS σ1 t st 0 0 := hS.at_ x1 (Nat.le_refl _) ⟨st.1, f1, o1, o2⟩ (f2.trans b4) (f3.trans b5) (Nat.le_refl _)
  have r1 := x1.rd
  have bad : (¬ (isNm (chT t st.1) = true ∧ (R (chT t st.1 - 65).toNat).isSome = false)) → Ex (wp (d + 41)) m_M_reads Q 98 [some (vr 11 0), some (vi (bI b)), some (vi has), some (vi 1), none] [] σ1 := by
    intro w
    have hR : rulP t R st = .inl st.1 := by unfold rulP; rw [if_neg w]
    exact M_readBad h1 f1 (fun σ2 x2 f2 => kf _ hR σ2 ((r1.tr x2.rd).rl hb1) f2)
  refine x_aload_n i_M_reads_67 rfl ?_
  refine x_bipush i_M_reads_68 ?_
  refine x_bipush i_M_reads_70 ?_
  refine x_cv2 i_M_reads_72 rfl rfl rfl ?_
  refine c_M_isRg h1.1 f1 o1 (by decide) ?_
  cases hn : isNm (chT t st.1) with
  | false =>
    rw [show decide (65 ≤ chT t st.1 ∧ chT t st.1 ≤ 72) = false from hn]
    refine x_if_eq_t i_M_reads_75 rfl ?_
    exact bad (fun w => by rw [hn] at w; exact absurd w.1 (by decide))
  | true =>
    rw [show decide (65 ≤ chT t st.1 ∧ chT t st.1 ≤ 72) = true from hn]
    have hn2 := isNm_in hn
    generalize hr : (chT t st.1 - 65).toNat = r at bad
    have hr8 : r < 8 := by omega
    have er : chT t st.1 - 65 = ((r : Nat) : Int) := by omega
    have hlt := chT_lt (t := t) (a := st.1) (by omega)
    have ec : chT t st.1 = t.2 st.1 := if_pos hlt
    obtain ⟨hmr1, -, htp1⟩ := id h1.1
    obtain ⟨hm, hl, -⟩ := id hmr1
    refine x_if_eq_f i_M_reads_75 (by decide) ?_
    refine x_iload_n i_M_reads_78 rfl ?_
    refine x_aload_n i_M_reads_79 rfl ?_
    refine x_getR (c2 := 13) i_M_reads_80 rfl rfl (hm _ _ rfl) ?_
    refine x_aload_n i_M_reads_83 rfl ?_
    refine x_getI i_M_reads_84 rfl rfl ?_
    rw [f1]
    refine x_iaload i_M_reads_87 (k := st.1) rfl (lt_len hl rfl (by omega)) ?_
    rw [htp1.2 _ hlt, ← ec]
    refine x_bipush i_M_reads_88 ?_
    refine x_isub i_M_reads_90 (by omega) ?_
    rw [er]
    refine x_ishr i_M_reads_91 ?_
    refine x_iconst i_M_reads_92 ?_
    refine x_iand i_M_reads_93 ?_
    refine x_iconst i_M_reads_94 ?_
    rw [bN_bit2 hh hr8]
    cases hs : (R r).isSome with
    | true =>
      refine x_icmp_ne_f i_M_reads_95 (by decide) ?_
      exact bad (fun w => by rw [hs] at w; exact absurd w.2 (by decide))
    | false =>
      clear bad
      have tk := advW.tok (rule := r) h1.2.1 (c := chT t st.1) rfl (by omega)
      unfold rulP at kf kt
      rw [hr, if_pos ⟨hn, hs⟩] at kf kt
      simp only [] at kf kt
      have ge1 := sk_ge t (st.1 + 1)
      refine x_icmp_ne_t i_M_reads_95 (by decide) ?_
      refine x_aload_n i_M_reads_107 rfl ?_
      refine x_aload_n i_M_reads_108 rfl ?_
      refine x_getR (c2 := 13) i_M_reads_109 rfl rfl (hm _ _ rfl) ?_
      refine x_aload_n i_M_reads_112 rfl ?_
      refine x_getI i_M_reads_113 rfl rfl ?_
      rw [f1]
      refine x_iaload i_M_reads_116 (k := st.1) rfl (lt_len hl rfl (by omega)) ?_
      rw [htp1.2 _ hlt, ← ec]
      refine x_bipush i_M_reads_117 ?_
      refine x_isub i_M_reads_119 (by omega) ?_
      rw [er]
      refine x_putI i_M_reads_120 rfl rfl ?_
      have u2 : ruX σ1 (sFI σ1 1137 0 ((r : Nat) : Int)) := fX_sFI ⟨Or.inr rfl, rfl⟩
      have l2 : rlM (b = true) σ1 (sFI σ1 1137 0 ((r : Nat) : Int)) := fX_sFI ⟨by decide, by decide, rfl⟩
      have f37 : FI (sFI σ1 1137 0 ((r : Nat) : Int)) 1137 0 = (r : Int) := by rw [FI_sFI, if_pos ⟨rfl, rfl⟩]
      have fi2 : ∀ f, f ≠ 1137 → FI (sFI σ1 1137 0 ((r : Nat) : Int)) f 0 = FI σ1 f 0 := fun f w => by rw [FI_sFI, if_neg (fun q => w q.1)]
      have ai2 : ∀ j, AI (sFI σ1 1137 0 ((r : Nat) : Int)) 13 26 j = AI σ1 13 26 j := fun j => rfl
      clear hm hl
      generalize sFI σ1 1137 0 ((r : Nat) : Int) = σ2 at u2 l2 f37 fi2 ai2
      have h2 := h1.ru u2
      refine x_iload_n i_M_reads_123 rfl ?_
      refine x_iconst i_M_reads_124 ?_
      refine x_aload_n i_M_reads_125 rfl ?_
      refine x_getI i_M_reads_126 rfl rfl ?_
      rw [f37]
      refine x_ishl i_M_reads_129 ?_
      refine x_ior i_M_reads_130 ?_
      refine x_istore_n (ls' := [_, _, _, _, _]) i_M_reads_131 rfl rfl ?_
      refine x_aload_n i_M_reads_132 rfl ?_
      refine x_dup i_M_reads_133 ?_
      refine x_getI i_M_reads_134 rfl rfl ?_
      rw [fi2 _ (by decide), f1]
      refine x_iconst i_M_reads_137 ?_
      refine x_iadd i_M_reads_138 (by omega) ?_
      refine x_putI i_M_reads_139 rfl rfl ?_
      have x3 : atX σ2 (sFI σ2 1125 0 ((st.1 : Int) + 1)) := atX_sFI (by decide) (by decide)
      have e3 : FI (sFI σ2 1125 0 ((st.1 : Int) + 1)) 1125 0 = ((st.1 + 1 : Nat) : Int) := by rw [FI_sFI, if_pos ⟨rfl, rfl⟩]; omega
      have h3 : MdS (sFI σ2 1125 0 ((st.1 : Int) + 1)) t (sk t (st.1 + 1), st.2) 0 0 := h2.at_ x3 (by omega) ⟨st.1 + 1, e3, hlt, rfl⟩ (by rw [FI_sFI, if_neg (by decide)]; exact h2.2.2.2.1) (by rw [FI_sFI, if_neg (by decide)]; exact h2.2.2.2.2.1) (by omega)
      generalize sFI σ2 1125 0 ((st.1 : Int) + 1) = σ3 at x3 h3
      clear e3
      have L3 : rlM (b = true) σ σ3 := ((r1.rl hb1).tr l2).tr (x3.rd.rl (fun w => hb1 (by rw [fi2 _ (by decide), r1.2.1.1] at w; exact w)))
      have hb3 : FI σ3 1136 0 = bI b := by rw [x3.rd.2.1.1, fi2 _ (by decide), r1.2.1.1]; exact hb
      have e37 : FI σ3 1137 0 = (r : Int) := by rw [x3.rd.2.1.2]; exact f37
      have e28 : FI σ3 1128 0 = (cnR R : Int) := by rw [x3.rd.f28, fi2 _ (by decide), r1.f28]; exact h28
      have hru3 : b = true → rulM σ3 (dnN st.2.2) R := fun w => (show rulM σ2 (dnN st.2.2) R from fun r' hr' => by rw [ai2, r1.r26]; exact ((hru w r' hr').keep (fun _ v => v) r1).ru u2).keep (fun _ v => v) x3.rd
      have hb31 : FI σ3 1136 0 = 1 → b = true := fun w => bI_1 (hb3.symm.trans w)
      have hh' : bN (iOr has (iShl 1 ((r : Nat) : Int))) (fun k => (R k).isSome || decide (k = r)) := bN_or hh (bN_shl hr8)
      generalize iOr has (iShl 1 ((r : Nat) : Int)) = has' at hh'
      refine x_aload_n i_M_reads_142 rfl ?_
      refine x_bipush i_M_reads_143 ?_
      refine x_cv1 i_M_reads_145 rfl rfl rfl ?_
      refine c_M_needS (u := 9) h3 (by decide) (by decide) (fun w σ4 x4 h4 => ?_) (fun w σ4 x4 h4 => ?_)
      · have w : chT t (sk t (st.1 + 1)) = 61 := w
        rw [if_pos w] at kf kt
        have tk3 := advW.tok (rule := r) tk.2.ok w (by decide)
        have av := adv_D ht (rule := r) 8 _ tk3.2.ok
        have ge3 := sk_ge t (sk t (st.1 + 1) + 1)
        have h4 : MdS σ4 t (sk t (sk t (st.1 + 1) + 1), st.2) 0 0 := h4
        have r4 := x4.rd
        simp only [] at kf kt av
        generalize hst3 : (sk t (sk t (st.1 + 1) + 1), st.2) = st3 at kf kt av h4
        have st3e : st3.2 = st.2 := by rw [← hst3]
        refine x_aload_n i_M_reads_148 rfl ?_
        refine x_cv0 i_M_reads_149 rfl rfl rfl ?_
        refine c_M_altAll ht (rule := r) 8 0 _ rfl (by omega) σ4 st3 _ h4 (fun _ => by rw [r4.2.1.2]; exact e37) (fun σ5 a p5 => ?_)
        obtain ⟨r5, p5⟩ := p5
        have r35 := r4.tr r5
        refine x_istore (ls' := [_, _, _, _, _]) i_M_reads_152 rfl rfl ?_
        revert p5 av kf kt
        generalize altD t r 8 st3 = RR
        cases RR with
        | inl q =>
          intro kf kt av p5
          have p5 : MdF σ5 t q 0 9 := p5
          exact M_readF2 p5.2.2.2.1 (kf q rfl σ5 (L3.tr (r35.rl hb31)) p5.2.2.2.1)
        | inr x =>
          intro kf kt av p5
          obtain ⟨p51, p52⟩ := p5
          have av : advI t r st3 x.2 := av
          simp only [] at kf kt
          refine x_aload_n i_M_reads_154 rfl ?_
          refine x_bipush i_M_reads_155 ?_
          refine x_cv1 i_M_reads_157 rfl rfl rfl ?_
          refine c_M_needS (u := 9) p51 (by decide) (by decide) (fun w σ6 x6 h6 => ?_) (fun w σ6 x6 h6 => ?_)
          · rw [if_pos w] at kf kt
            have h6 : MdS σ6 t (sk t (x.2.1 + 1), x.2.2) 0 0 := h6
            have r6 := x6.rd
            have r36 := r35.tr r6
            have hxn := av.2.2.2.2.2.1
            rw [st3e] at hxn
            have dn : ∀ k, dnN st.2.2 k → dnN x.2.2.2 k := fun k w => dnN_ext hxn k w
            have p62 : altB σ6 (dnN x.2.2.2) 9 0 (ct σ6 1130) 0 (ct σ6 1131) 0 (ct σ6 1132) (ct σ6 1133) x.1 a := (show altB σ5 (dnN x.2.2.2) 9 0 (ct σ5 1130) 0 (ct σ5 1131) 0 (ct σ5 1132) (ct σ5 1133) x.1 a from altB.lo p52 (Nat.zero_le _) (Nat.zero_le _) (Nat.zero_le _)).keepM (fun _ v => v) r6
            have hru6 : b = true → rulM σ6 (dnN x.2.2.2) R := fun w => (hru3 w).keep dn r36
            have L6 := L3.tr (r36.rl hb31)
            have hb6 : FI σ6 1136 0 = bI b := by rw [r36.2.1.1]; exact hb3
            have g37 : FI σ6 1137 0 = (r : Int) := by rw [r36.2.1.2]; exact e37
            have g28 : FI σ6 1128 0 = (cnR R : Int) := by rw [r36.f28]; exact e28
            have hmr6 := h6.1.1
            -- behind the store
            have fin : ∀ σ7, rlM (b = true) σ6 σ7 → ruX σ6 σ7 → FI σ7 1136 0 = bI b → FI σ7 1128 0 = (cnR R : Int) → (b = true → rulM σ7 (dnN x.2.2.2) (setR R r x.1)) → Ex (wp (d + 41)) m_M_reads Q 183 [some (vr 11 0), some (vi (bI b)), some (vi has'), some (vi 1), some (vi (a : Nat))] [] σ7 := by
              intro σ7 l7 u7 hb7 g28 hru7
              have h7 := h6.ru u7
              have u8 : ruX σ7 (sFI σ7 1128 0 ((cnR R : Int) + 1)) := fX_sFI ⟨Or.inl rfl, rfl⟩
              have l8 : rlM (b = true) σ7 (sFI σ7 1128 0 ((cnR R : Int) + 1)) := fX_sFI ⟨by decide, by decide, rfl⟩
              have e8 : FI (sFI σ7 1128 0 ((cnR R : Int) + 1)) 1128 0 = (cnR (setR R r x.1) : Int) := by rw [FI_sFI, if_pos ⟨rfl, rfl⟩, cnR_set hs hr8]; omega
              have hb8 : FI (sFI σ7 1128 0 ((cnR R : Int) + 1)) 1136 0 = bI b := by rw [FI_sFI, if_neg (by decide)]; exact hb7
              have ai8 : ∀ j, AI (sFI σ7 1128 0 ((cnR R : Int) + 1)) 13 26 j = AI σ7 13 26 j := fun j => rfl
              have cle := cnR_le R
              refine x_aload_n i_M_reads_183 rfl ?_
              refine x_dup i_M_reads_184 ?_
              refine x_getI i_M_reads_185 rfl rfl ?_
              rw [g28]
              refine x_iconst i_M_reads_188 ?_
              refine x_iadd i_M_reads_189 (by omega) ?_
              refine x_putI i_M_reads_190 rfl rfl ?_
              generalize sFI σ7 1128 0 ((cnR R : Int) + 1) = σ8 at u8 l8 e8 hb8 ai8
              have h8 := h7.ru u8
              have hru8 : b = true → rulM σ8 (dnN x.2.2.2) (setR R r x.1) := fun w r' hr' => by rw [ai8]; exact (hru7 w r' hr').ru u8
              obtain ⟨c1, ⟨q1, q2, q3⟩, ⟨a', c3, c31, c32⟩, c4, c5, -⟩ := id h8
              refine x_aload_n i_M_reads_193 rfl ?_
              refine x_cv0 i_M_reads_194 rfl rfl rfl ?_
              refine c_M_skips c1 c3 c31 (fun σ9 x9 f1 f2 f3 => ?_)
              rw [c32] at f1
              have h9 : MdS σ9 t (sk t (x.2.1 + 1), x.2.2) 0 0 := h8.at_ x9 (Nat.le_refl _) ⟨_, f1, q1, q2⟩ (f2.trans c4) (f3.trans c5) (Nat.le_refl _)
              have r9 := x9.rd
              have L9 : rlM (b = true) σ σ9 := ((L6.tr l7).tr l8).tr (r9.rl (fun w => bI_1 (hb8.symm.trans w)))
              have last : ∀ v : Bool, v = decide (sk t (x.2.1 + 1) < t.1) → Ex (wp (d + 41)) m_M_reads Q 213 [some (vr 11 0), some (vi (bI b)), some (vi has'), some (vi 1), some (vi (a : Nat))] [vi (bI v)] σ9 := by
                intro v hv
                refine x_istore_n (ls' := [_, _, _, _, _]) i_M_reads_213 rfl rfl ?_
                refine x_goto i_M_reads_214 ?_
                refine Ex.weak (ls := [_, _, _, _, none]) ⟨Or.inr rfl, Or.inr rfl, Or.inr rfl, Or.inr rfl, Or.inl rfl, trivial⟩ ?_
                rw [hv]
                refine kt _ rfl σ9 has' L9 ⟨by rw [r9.2.1.1]; exact hb8, h9, by rw [r9.f28]; exact e8, fun w => (hru8 w).keep (fun _ v => v) r9⟩ (hh'.cg (fun k hk => ?_))
                show ((R k).isSome || decide (k = r)) = (setR R r x.1 k).isSome
                unfold setR
                by_cases w : k = r
                · subst w; simp
                · rw [if_neg w]; simp [w]
              refine x_aload_n i_M_reads_197 rfl ?_
              refine x_getI i_M_reads_198 rfl rfl ?_
              rw [f1]
              refine x_aload_n i_M_reads_201 rfl ?_
              refine x_getI i_M_reads_202 rfl rfl ?_
              rw [h9.1.2.2.1]
              by_cases w9 : sk t (x.2.1 + 1) < t.1
              · refine x_icmp_ge_f i_M_reads_205 (by show ((sk t (x.2.1 + 1) : Nat) : Int) < ((t.1 : Nat) : Int); omega) ?_
                refine x_iconst i_M_reads_208 ?_
                refine x_goto i_M_reads_209 ?_
                exact last true (decide_eq_true w9).symm
              · refine x_icmp_ge_t i_M_reads_205 (by show ((t.1 : Nat) : Int) ≤ ((sk t (x.2.1 + 1) : Nat) : Int); omega) ?_
                refine x_iconst i_M_reads_212 ?_
                exact last false (decide_eq_false w9).symm
            refine x_aload_n i_M_reads_160 rfl ?_
            refine x_getI i_M_reads_161 rfl rfl ?_
            rw [h6.2.2.2.1]
            refine x_if_lt_t i_M_reads_164 (by decide) ?_
            refine x_iload_n i_M_reads_168 rfl ?_
            revert kt fin hb6 hru6
            cases b with
            | false =>
              intro kt hru6 hb6 fin
              refine x_if_eq_t i_M_reads_169 rfl ?_
              exact fin σ6 (fX.rf _ _ _) (fX.rf _ _ _) hb6 g28 (fun w => by cases w)
            | true =>
              intro kt hru6 hb6 fin
              refine x_if_eq_f i_M_reads_169 (by decide) ?_
              obtain ⟨hm, hl, -⟩ := id hmr6
              refine x_aload_n i_M_reads_172 rfl ?_
              refine x_getR (c2 := 13) i_M_reads_173 rfl rfl (hm _ _ rfl) ?_
              refine x_aload_n i_M_reads_176 rfl ?_
              refine x_getI i_M_reads_177 rfl rfl ?_
              rw [g37]
              refine x_iload i_M_reads_180 rfl ?_
              refine x_iastore i_M_reads_182 (k := r) rfl (lt_len hl rfl hr8) ?_
              have u7 : ruX σ6 (sAI σ6 13 26 r ((a : Nat) : Int)) := fX_sAI ⟨rfl, rfl⟩
              refine fin _ (fX_sAI ⟨rfl, Or.inr (Or.inr ⟨rfl, Or.inl rfl⟩)⟩) u7 hb6 g28 (fun _ r' hr' => ?_)
              refine rulV.ru u7 ?_
              by_cases w : r' = r
              · subst w
                rw [AI_sAI, if_pos ⟨rfl, rfl, rfl⟩]
                unfold setR
                rw [if_pos rfl]
                exact ⟨a, rfl, p62⟩
              · rw [AI_sAI, if_neg (fun q => w q.2.2)]
                unfold setR
                rw [if_neg w]
                exact hru6 rfl r' hr'
          · rw [if_neg w] at kf
            have r6 := x6.rd
            refine x_aload_n i_M_reads_160 rfl ?_
            refine x_getI i_M_reads_161 rfl rfl ?_
            rw [h6.2.2.2.1]
            refine x_if_lt_f i_M_reads_164 (by omega) ?_
            refine x_vret i_M_reads_167 rfl ?_
            exact kf _ rfl σ6 (L3.tr ((r35.tr r6).rl hb31)) h6.2.2.2.1
      · have w : ¬ chT t (sk t (st.1 + 1)) = 61 := w
        rw [if_neg w] at kf
        have h4 : MdF σ4 t (sk t (st.1 + 1)) 0 9 := h4
        exact M_readF h4.2.2.2.1 (kf _ rfl σ4 (L3.tr (x4.rd.rl hb31)) h4.2.2.2.1)
end


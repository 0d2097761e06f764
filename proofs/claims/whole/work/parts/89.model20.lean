/-! THE MODEL: parses -/
def resM (r : RR) : Int := if r.1 = -5 ∧ r.2.2.1 = true then -6 else r.1
def ranM (σ : AS) (e : EM) (r : RR) : Prop := envM σ e ∧ cntM σ r.2.2.2 ∧ (AI σ 13 50 0, AI σ 13 51 0) = r.2.2.2.2.1 ∧ FI σ 1142 0 = (if r.1 < -5 then r.1 else 0) ∧ (-5 ≤ r.1 → FI σ 1152 0 = bI r.2.2.1) ∧
  (0 ≤ r.1 → r.1 ≤ 240 ∧ ∃ N L tab cl kids own o, NodeS σ N L tab cl kids own ∧ N ≤ 8000 ∧ L ≤ 8000 ∧ FI σ 1148 0 = oI o ∧ (∀ i, o = some i → cl i) ∧ o.map tab = r.2.1) ∧ (r.1 < -9 ∨ r.1 = -5 ∨ 0 ≤ r.1)
theorem parseE_ruledM (e : EM) (r p spent : Nat) : parseE e.2.1 e.1.2 e.2.2 r p spent = ruledM e 61 r p ((0, spent, 0), (-1, 0), fun _ => none) := rfl
section
variable {Q : AQ} {σ : AS} {e : EM}
theorem c_M_parses (h : envM σ e) {r p spent : Nat} (hr : r < 8) (hd : dnM σ r) (hp : p ≤ e.1.2) (hs : FI σ 1144 0 = (spent : Int)) (hs2 : spent ≤ 40000) (kk : ∀ σ', mpX σ σ' → ranM σ' e (parseE e.2.1 e.1.2 e.2.2 r p spent) → Q (some (vi (resM (parseE e.2.1 e.1.2 e.2.2 r p spent)))) σ') : wp 372 m_M_parses [vr 11 0, vi (r : Nat), vi (p : Nat)] σ Q := by
  rw [parseE_ruledM] at kk
  have ai : ∀ (s : AS) (k a j : Nat) (v : Int) (k' a' j' : Nat), AI (sAI s k a j v) k' a' j' = if k' = k ∧ a' = a ∧ j' = j then v else AI s k' a' j' := fun s k a j v k' a' j' => AI_sAI s k a j v k' a' j'
  have ha9 : AltM e 370 61 0 9 := (AltM_all e 61 0 9 rfl (by decide)).up.up
  have rest : ∀ (σ1 : AS) (l3 : Option AV), fX fnA meA σ σ1 → (∀ m, m < 1928 → AI σ1 13 45 m = 0 ∧ AI σ1 14 2 m = 0) → Ex (wp 371) m_M_parses Q 31 [some (vr 11 0), some (vi (r : Nat)), some (vi (p : Nat)), l3] [] σ1 := by
    intro σ1 l3 x1 hz
    have fs : FI σ1 1144 0 = FI σ 1144 0 := x1.1 _ _ (fun q => q)
    have x1 := meX_mp x1
    refine x_aload_n i_M_parses_31 rfl ?_
    refine x_iconst i_M_parses_32 ?_
    refine x_putI i_M_parses_33 rfl rfl ?_
    refine x_aload_n i_M_parses_36 rfl ?_
    refine x_iconst i_M_parses_37 ?_
    refine x_putI i_M_parses_38 rfl rfl ?_
    refine x_aload_n i_M_parses_41 rfl ?_
    refine x_iconst i_M_parses_42 ?_
    refine x_putI i_M_parses_43 rfl rfl ?_
    refine x_aload_n i_M_parses_46 rfl ?_
    refine x_iconst i_M_parses_47 ?_
    refine x_putI i_M_parses_48 rfl rfl ?_
    refine x_aload_n i_M_parses_51 rfl ?_
    refine x_iconst i_M_parses_52 ?_
    refine x_putI i_M_parses_53 rfl rfl ?_
    refine x_aload_n i_M_parses_56 rfl ?_
    refine x_iconst i_M_parses_57 ?_
    refine x_putI i_M_parses_58 rfl rfl ?_
    refine x_aload_n i_M_parses_61 rfl ?_
    refine x_iconst i_M_parses_62 ?_
    refine x_putI i_M_parses_63 rfl rfl ?_
    generalize hσ2 : sFI (sFI (sFI (sFI (sFI (sFI (sFI σ1 1142 0 0) 1143 0 0) 1145 0 0) 1146 0 0) 1150 0 0) 1151 0 0) 1149 0 (-1) = σ2
    have m : ∀ {s : AS} {f : Nat} {v : Int}, 1142 ≤ f → f ≤ 1152 → mpX s (sFI s f 0 v) := fun h1 h2 => fX_sFI ⟨h1, h2, rfl⟩
    have x2 : mpX σ1 σ2 := by rw [← hσ2]; exact ((((((m (by decide) (by decide)).tr (m (by decide) (by decide))).tr (m (by decide) (by decide))).tr (m (by decide) (by decide))).tr (m (by decide) (by decide))).tr (m (by decide) (by decide))).tr (m (by decide) (by decide))
    have f1 : FI σ2 1142 0 = 0 := by rw [← hσ2]; simp [FI_sFI]
    have f2 : FI σ2 1143 0 = 0 := by rw [← hσ2]; simp [FI_sFI]
    have f3 : FI σ2 1144 0 = (spent : Int) := by rw [← hσ2]; simp [FI_sFI, fs]; exact hs
    have f4 : FI σ2 1145 0 = 0 := by rw [← hσ2]; simp [FI_sFI]
    have f5 : FI σ2 1146 0 = 0 := by rw [← hσ2]; simp [FI_sFI]
    have f6 : FI σ2 1150 0 = 0 := by rw [← hσ2]; simp [FI_sFI]
    have f7 : FI σ2 1151 0 = 0 := by rw [← hσ2]; simp [FI_sFI]
    have f8 : FI σ2 1149 0 = -1 := by rw [← hσ2]; simp [FI_sFI]
    have ai2 : ∀ k a j, AI σ2 k a j = AI σ1 k a j := by intro k a j; rw [← hσ2]; rfl
    clear hσ2
    have v2 : envM σ2 e := (h.run x1).run x2
    refine x_aload_n i_M_parses_66 rfl ?_
    refine x_bipush i_M_parses_67 ?_
    refine x_cv1 i_M_parses_69 rfl rfl rfl ?_
    refine c_M_frame v2.1 (F := 0) (by decide) (p := -2) f8 (Or.inl rfl) (fun σ3 x3 j3 g1 g2 g3 g4 => ?_)
    have x3 : fX puF puA σ2 σ3 := x3
    have y3 := puX_mp x3
    have fi : ∀ f, f ≠ 1149 → FI σ3 f 0 = FI σ2 f 0 := fun f h => x3.1 _ _ (fun q => h q.1)
    have me : ∀ k a j, (k = 13 ∧ a = 45) ∨ k = 14 → AI σ3 k a j = AI σ1 k a j := fun k a j h => by
      rw [x3.2.2.1 _ _ _ (fun q => by obtain ⟨q1, q2, q3⟩ := q; omega), ai2]
    have h0 : RunM σ3 e ((0, spent, 0), (-1, 0), fun _ => none) 0 0 0 (fun _ => .num 0) (fun _ => False) (fun _ => []) (fun _ => 0) := by
      refine ⟨⟨v2.run y3, ⟨by rw [fi _ (by decide)]; exact f2, by rw [fi _ (by decide)]; exact f3, by rw [fi _ (by decide)]; exact f5, Nat.zero_le _, hs2, Nat.le_refl _⟩, g3, g4⟩, by rw [fi _ (by decide)]; exact f1, g1, ⟨by rw [fi _ (by decide)]; exact f6, by rw [fi _ (by decide)]; exact f7, fun i w => w.elim, fun i w => absurd w (by omega)⟩, fun r' p' hr' hp' => ?_⟩
      exact ⟨by rw [me _ _ _ (Or.inl ⟨rfl, rfl⟩)]; exact (hz _ (by omega)).1, by rw [me _ _ _ (Or.inr rfl)]; exact (hz _ (by omega)).2⟩
    have x13 : mpX σ σ3 := (x1.tr x2).tr y3
    refine x_aload_n i_M_parses_72 rfl ?_
    refine x_iload_n i_M_parses_73 rfl ?_
    refine x_iload_n i_M_parses_74 rfl ?_
    refine x_cv2 i_M_parses_75 rfl rfl rfl ?_
    refine c_M_named (d := 370) (k := 61) (dep := 0) ha9 h0 hr (by unfold dnM; rw [x13.lo (by decide)]; exact hd) hp (Nat.le_refl _) (by rw [fi _ (by decide)]; exact f4) (by rw [g2]; omega) (by omega) (by omega) rfl ?_
    intro σ4 N4 L4 tab4 cl4 kids4 own4 ho
    generalize ruledM e 61 r p ((0, spent, 0), (-1, 0), fun _ => none) = q at ho kk
    obtain ⟨o1, o2, o3, o4, o5, o6, o7, o8, o9, o10⟩ := id ho
    have s1 : r < 8 := hr
    have hst : q.2.2.2.1.1 ≤ 1000 := o2.2.1.2.2.2.1
    have e48 : AI σ4 13 48 0 = -2 := o4.trans g2
    have vw : (AI σ4 13 50 0, AI σ4 13 51 0) = q.2.2.2.2.1 := by
      rw [← o2.2.2.2]
      obtain ⟨w1, w2, -⟩ := o2.2.2.1
      unfold viewM
      rcases w1 with ⟨w3, w4⟩ | ⟨w3, w4, w5⟩
      · rw [if_neg (by omega), w2 e48, if_neg (fun w => w rfl), w3, w4]
      · rw [if_pos w4]
    have ran : ranM σ4 e q := by
      refine ⟨o2.1, o2.2.1, vw, ?_, fun w => (o8 w).2.2.2.2.2, fun w => ?_, o10⟩
      · split
        · rename_i w; exact o7 w
        · rename_i w; exact (o8 (by omega)).1.2.1
      · obtain ⟨b1, b2, b3, b4, b5, b6⟩ := o8 (by omega)
        obtain ⟨c1, c2, c3, o, c4, c5, c6⟩ := o9 w
        have b4 : N4 + 2 + 0 ≤ 0 + 4 * q.2.2.2.1.1 := b4
        have b5 : L4 + 2 + 0 ≤ 0 + 3 * q.2.2.2.1.1 := b5
        have hz : e.1.2 ≤ 240 := h.2.2.2.2.2.1
        exact ⟨by omega, N4, L4, tab4, cl4, kids4, own4, o, b1.2.2.2.1, by omega, by omega, c4, c5, c6⟩
    have fin := kk σ4 (x13.tr o1) ran
    clear kk ran
    refine x_istore_n (ls' := [_, _, _, _]) i_M_parses_78 rfl rfl ?_
    refine x_aload_n i_M_parses_79 rfl ?_
    refine x_getI i_M_parses_80 rfl rfl ?_
    by_cases he : q.1 < -5
    · rw [resM, if_neg (fun w => by omega)] at fin
      rw [o7 he]
      refine x_if_eq_f i_M_parses_83 (by omega) ?_
      refine x_aload_n i_M_parses_86 rfl ?_
      refine x_getI i_M_parses_87 rfl rfl ?_
      rw [o7 he]
      refine x_goto i_M_parses_90 ?_
      refine x_iret i_M_parses_118 rfl ?_
      exact fin
    · obtain ⟨b1, b2, b3, b4, b5, b6⟩ := o8 (by omega)
      rw [b1.2.1]
      refine x_if_eq_t i_M_parses_83 rfl ?_
      refine x_iload_n i_M_parses_93 rfl ?_
      by_cases w : 0 ≤ q.1
      · obtain ⟨c1, c2, c3, c4⟩ := o9 w
        rw [resM, if_neg (fun w => by omega)] at fin
        rw [retM_1 w]
        refine x_if_eq_f i_M_parses_94 (by decide) ?_
        refine x_aload_n i_M_parses_97 rfl ?_
        refine x_getI i_M_parses_98 rfl rfl ?_
        rw [c3]
        refine x_goto i_M_parses_101 ?_
        refine x_iret i_M_parses_118 rfl ?_
        exact fin
      · have h5 : q.1 = -5 := by clear o9; omega
        rw [retM_0 (by omega)]
        refine x_if_eq_t i_M_parses_94 rfl ?_
        refine x_aload_n i_M_parses_104 rfl ?_
        refine x_getI i_M_parses_105 rfl rfl ?_
        rw [b6]
        refine x_if_eq i_M_parses_108 (fun g7 => ?_) (fun g7 => ?_)
        · rw [resM, if_neg (fun w => by rw [w.2] at g7; exact absurd g7 (by decide)), h5] at fin
          refine x_bipush i_M_parses_116 ?_
          refine x_iret i_M_parses_118 rfl ?_
          exact fin
        · rw [resM, if_pos ⟨h5, bI_t g7⟩] at fin
          refine x_bipush i_M_parses_111 ?_
          refine x_goto i_M_parses_113 ?_
          refine x_iret i_M_parses_118 rfl ?_
          exact fin
  have loop : ∀ (f i : Nat) (σ1 : AS), i + f = 1928 → fX fnA meA σ σ1 → (∀ m, m < i → AI σ1 13 45 m = 0 ∧ AI σ1 14 2 m = 0) → Ex (wp 371) m_M_parses Q 2 [some (vr 11 0), some (vi (r : Nat)), some (vi (p : Nat)), some (vi (i : Nat))] [] σ1 := by
    intro f
    induction f with
    | zero =>
      intro i σ1 hi x1 hz
      obtain ⟨hm, hl, lb1, lb2, lb3⟩ := h.1.keep x1
      refine x_iload_n i_M_parses_2 rfl ?_
      refine x_aload_n i_M_parses_3 rfl ?_
      refine x_getR (c2 := 13) i_M_parses_4 rfl rfl (hm _ _ rfl) ?_
      refine x_alen i_M_parses_7 (by omega) ?_
      rw [hl 45 1928 rfl]
      refine x_icmp_ge_t i_M_parses_8 (by omega) ?_
      exact rest σ1 _ x1 (fun m hm => hz m (by omega))
    | succ f ih =>
      intro i σ1 hi x1 hz
      obtain ⟨hm, hl, lb1, lb2, lb3⟩ := h.1.keep x1
      refine x_iload_n i_M_parses_2 rfl ?_
      refine x_aload_n i_M_parses_3 rfl ?_
      refine x_getR (c2 := 13) i_M_parses_4 rfl rfl (hm _ _ rfl) ?_
      refine x_alen i_M_parses_7 (by omega) ?_
      rw [hl 45 1928 rfl]
      refine x_icmp_ge_f i_M_parses_8 (by omega) ?_
      refine x_aload_n i_M_parses_11 rfl ?_
      refine x_getR (c2 := 13) i_M_parses_12 rfl rfl (hm _ _ rfl) ?_
      refine x_iload_n i_M_parses_15 rfl ?_
      refine x_iconst i_M_parses_16 ?_
      refine x_iastore i_M_parses_17 (k := i) rfl (lt_len hl rfl (by omega)) ?_
      refine x_aload_n i_M_parses_18 rfl ?_
      refine x_getR (c2 := 14) i_M_parses_19 rfl rfl (hm _ _ rfl) ?_
      refine x_iload_n i_M_parses_22 rfl ?_
      refine x_iconst i_M_parses_23 ?_
      refine x_bastore i_M_parses_24 (k := i) rfl (by show i < LN σ1 14 2; rw [lb3]; omega) (Or.inl rfl) ?_
      refine x_iinc (ls' := [_, _, _, _]) i_M_parses_25 rfl (by omega) rfl ?_
      refine x_goto i_M_parses_28 ?_
      refine ih (i + 1) _ (by omega) (x1.tr ((fX_sAI (Or.inl ⟨rfl, by decide, by decide⟩)).tr (fX_sAI (Or.inr ⟨rfl, by decide, by decide⟩)))) (fun m hm => ?_)
      rw [ai, if_neg (by omega), ai, ai, ai]
      by_cases w : m = i
      · rw [if_pos ⟨rfl, rfl, w⟩, if_pos ⟨rfl, rfl, w⟩]; exact ⟨rfl, rfl⟩
      · rw [if_neg (fun q => w q.2.2), if_neg (fun q => w q.2.2), if_neg (by omega)]; exact hz m (by omega)
  refine x_in (ls := [some _, some _, some _, none]) rfl rfl ?_
  refine x_iconst i_M_parses_0 ?_
  refine x_istore_n (ls' := [_, _, _, _]) i_M_parses_1 rfl rfl ?_
  exact loop 1928 0 σ rfl (fX.rf _ _ _) (fun m hm => absurd hm (by omega))
end


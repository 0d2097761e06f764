/-! THE CLASS's May: find, all of it -/
section
variable {d : Nat} {Q : AQ} {σ : AS} {m g b rh ch : Nat} {N : Nat → Bool} {dn : Nat → Prop} {R : Nat → Option (PT 9)}
def mayS (σ : AS) (m g b rh ch : Nat) (dn : Nat → Prop) (R : Nat → Option (PT 9)) : Prop := FR σ 300 m = some g ∧ FR σ 301 m = some rh ∧ FR σ 100 g = some b ∧ bodsR σ b dn R ∧ ∃ n f, rowF σ rh ch 8 n f
theorem myX.row {σ' : AS} (hx : myX g rh ch σ σ') {n : Nat} {f : Nat → Int} (h : rowF σ rh ch 8 n f) (e1 : FI σ' 601 rh = FI σ 601 rh) (e2 : ∀ j, AI σ' 13 ch j = AI σ 13 ch j) : rowF σ' rh ch 8 n f := ⟨by rw [hx.2.1]; exact h.1, by rw [e1]; exact h.2.1, by rw [hx.2.2.2.2.1]; exact h.2.2.1, h.2.2.2.1, h.2.2.2.2.1, fun k hk => by rw [e2]; exact h.2.2.2.2.2 k hk⟩
theorem c_May_find (h : mayS σ m g b rh ch dn R) (e6 : FI σ 106 g = 0) (e7 : FI σ 107 g = 0) (kk : ∀ σ', myX g rh ch σ σ' → bN (FI σ' 106 g) (nulG R) → bN (FI σ' 107 g) (slfG R) → Q none σ') : wp (d + 41) m_May_find [vr 3 m] σ Q := by
  obtain ⟨h1, h2, h3, h4, nn, ff, h5⟩ := id h
  -- the last round: what comes to itself
  have r5 : ∀ (k i : Nat) (σ1 : AS), i + k = 8 → myX g rh ch σ σ1 → bN (FI σ1 106 g) (nulG R) → rowH σ1 rh ch (warG R 8) → bN (FI σ1 107 g) (fun r => decide (r < i) && slfG R r) → Ex (wp (d + 40)) m_May_find Q 123 [some (vr 3 m), some (vi (i : Nat)), none] [] σ1 := by
    intro k
    induction k with
    | zero =>
      intro i σ1 hi hx b1 b2 b3
      refine x_iload_n i_May_find_123 rfl ?_
      refine x_bipush i_May_find_124 ?_
      refine x_icmp_ge_t i_May_find_126 (by omega) ?_
      refine x_vret i_May_find_159 rfl ?_
      exact kk σ1 hx b1 (b3.cg (fun r hr => by rw [decide_eq_true (by omega)]; rfl))
    | succ k ih =>
      intro i σ1 hi hx b1 ⟨f, hf, hb⟩ b3
      have g1 : FR σ1 300 m = some g := by rw [hx.2.1]; exact h1
      have g2 : FR σ1 301 m = some rh := by rw [hx.2.1]; exact h2
      refine x_iload_n i_May_find_123 rfl ?_
      refine x_bipush i_May_find_124 ?_
      refine x_icmp_ge_f i_May_find_126 (by omega) ?_
      refine x_aload_n i_May_find_129 rfl ?_
      refine x_getR (c2 := 1) i_May_find_130 rfl rfl (by assumption) ?_
      refine x_dup i_May_find_133 ?_
      refine x_getI i_May_find_134 rfl rfl ?_
      refine x_aload_n i_May_find_137 rfl ?_
      refine x_getR (c2 := 6) i_May_find_138 rfl rfl (by assumption) ?_
      refine x_iload_n i_May_find_141 rfl ?_
      refine x_cv1 i_May_find_142 rfl rfl rfl ?_
      refine c_at_in hf (j := i) rfl (by omega) ?_
      refine x_iconst i_May_find_145 ?_
      refine x_iload_n i_May_find_146 rfl ?_
      refine x_ishl i_May_find_147 ?_
      refine x_iand i_May_find_148 ?_
      refine x_ior i_May_find_149 ?_
      refine x_putI i_May_find_150 rfl rfl ?_
      refine x_iinc (ls' := [_, _, _]) i_May_find_153 rfl (by omega) rfl ?_
      refine x_goto i_May_find_156 ?_
      have x2 : myX g rh ch σ1 (sFI σ1 107 g (iOr (FI σ1 107 g) (iAnd (f i) (iShl 1 (i : Nat))))) := myX_sFI (Or.inr rfl)
      refine ih (i + 1) _ (by omega) (hx.tr x2) (by rw [FI_sFI, if_neg (by omega)]; exact b1) ⟨f, x2.row hf (by rw [FI_sFI, if_neg (by omega)]) (fun _ => rfl), hb⟩ ?_
      rw [FI_sFI, if_pos ⟨rfl, rfl⟩]
      refine (bN_or b3 (bN_and (hb i (by omega)) (by omega))).cg (fun r hr => ?_)
      by_cases w : r = i
      · subst w
        rw [decide_eq_false (by omega), decide_eq_true rfl, decide_eq_true (by omega)]; rfl
      · rw [decide_eq_false w]
        by_cases w2 : r < i
        · rw [decide_eq_true w2, decide_eq_true (by omega)]; simp
        · rw [decide_eq_false w2, decide_eq_false (by omega)]; simp
  have r4 : ∀ (k i : Nat) (σ1 : AS), i + k = 8 → myX g rh ch σ σ1 → bN (FI σ1 106 g) (nulG R) → FI σ1 107 g = 0 → rowH σ1 rh ch (warG R i) → Ex (wp (d + 40)) m_May_find Q 104 [some (vr 3 m), some (vi (i : Nat)), none] [] σ1 := by
    intro k
    induction k with
    | zero =>
      intro i σ1 hi hx b1 b2 b3
      have e : i = 8 := by omega
      subst e
      refine x_iload_n i_May_find_104 rfl ?_
      refine x_bipush i_May_find_105 ?_
      refine x_icmp_ge_t i_May_find_107 (by omega) ?_
      refine x_iconst i_May_find_121 ?_
      refine x_istore_n (ls' := [_, _, _]) i_May_find_122 rfl rfl ?_
      exact r5 8 0 σ1 rfl hx b1 b3 (by rw [b2]; exact bN_0.cg (fun r _ => by simp))
    | succ k ih =>
      intro i σ1 hi hx b1 b2 b3
      have g2 : FR σ1 301 m = some rh := by rw [hx.2.1]; exact h2
      refine x_iload_n i_May_find_104 rfl ?_
      refine x_bipush i_May_find_105 ?_
      refine x_icmp_ge_f i_May_find_107 (by omega) ?_
      refine x_aload_n i_May_find_110 rfl ?_
      refine x_iload_n i_May_find_111 rfl ?_
      refine x_cv1 i_May_find_112 rfl rfl rfl ?_
      refine c_May_join g2 b3 (n := i) (by omega) (fun σ2 x2 y2 => ?_)
      refine x_iinc (ls' := [_, _, _]) i_May_find_115 rfl (by omega) rfl ?_
      refine x_goto i_May_find_118 ?_
      exact ih (i + 1) σ2 (by omega) (hx.tr x2.my) (by rw [x2.1 _ _ (fun q => by omega)]; exact b1) (by rw [x2.1 _ _ (fun q => by omega)]; exact b2) y2
  have r3 : ∀ (k i : Nat) (σ1 : AS) (f : Nat → Int), i + k = 8 → myX g rh ch σ σ1 → bN (FI σ1 106 g) (nulG R) → FI σ1 107 g = 0 → rowF σ1 rh ch 8 8 f → (∀ r, r < i → bN (f r) (hdG R r)) → Ex (wp (d + 40)) m_May_find Q 70 [some (vr 3 m), some (vi (i : Nat)), none] [] σ1 := by
    intro k
    induction k with
    | zero =>
      intro i σ1 f hi hx b1 b2 b3 b4
      refine x_iload_n i_May_find_70 rfl ?_
      refine x_bipush i_May_find_71 ?_
      refine x_icmp_ge_t i_May_find_73 (by omega) ?_
      refine x_iconst i_May_find_102 ?_
      refine x_istore_n (ls' := [_, _, _]) i_May_find_103 rfl rfl ?_
      exact r4 8 0 σ1 rfl hx b1 b2 ⟨f, b3, fun r hr => b4 r (by omega)⟩
    | succ k ih =>
      intro i σ1 f hi hx b1 b2 b3 b4
      have g1 : FR σ1 300 m = some g := by rw [hx.2.1]; exact h1
      have g2 : FR σ1 301 m = some rh := by rw [hx.2.1]; exact h2
      have g3 : FR σ1 100 g = some b := by rw [hx.2.1]; exact h3
      have g4 := h4.my hx
      refine x_iload_n i_May_find_70 rfl ?_
      refine x_bipush i_May_find_71 ?_
      refine x_icmp_ge_f i_May_find_73 (by omega) ?_
      refine x_aload_n i_May_find_76 rfl ?_
      refine x_getR (c2 := 6) i_May_find_77 rfl rfl (by assumption) ?_
      refine x_iload_n i_May_find_80 rfl ?_
      refine x_aload_n i_May_find_81 rfl ?_
      refine x_aload_n i_May_find_82 rfl ?_
      refine x_getR (c2 := 1) i_May_find_83 rfl rfl (by assumption) ?_
      refine x_iload_n i_May_find_86 rfl ?_
      refine x_cv1 i_May_find_87 rfl rfl rfl ?_
      refine c_G_body g3 g4.1 (r := i) (by omega) ?_
      refine x_cv1 i_May_find_90 rfl rfl rfl ?_
      refine c_May_hu (d := d) ⟨g1, b1⟩ g4 (r := i) (by omega) (fun z hz => ?_)
      refine x_cv2 i_May_find_93 rfl rfl rfl ?_
      refine c_put b3 (j := i) rfl (by omega) (fun σ2 y2 x2 _ => ?_)
      refine x_iinc (ls' := [_, _, _]) i_May_find_96 rfl (by omega) rfl ?_
      refine x_goto i_May_find_99 ?_
      refine ih (i + 1) σ2 _ (by omega) (hx.tr x2.my) (by rw [x2.1 _ _ (fun q => by omega)]; exact b1) (by rw [x2.1 _ _ (fun q => by omega)]; exact b2) y2 (fun r hr => ?_)
      by_cases w : r = i
      · subst w
        rw [up_eq]
        exact hz
      · rw [up_ne w]
        exact b4 r (by omega)
  have r1 : ∀ (k i : Nat) (σ1 : AS), i + k = 8 → myX g rh ch σ σ1 → bN (FI σ1 106 g) (rnsN R i) → FI σ1 107 g = 0 → rowF σ1 rh ch 8 nn ff → Ex (wp (d + 40)) m_May_find Q 2 [some (vr 3 m), some (vi (i : Nat)), none] [] σ1 := by
    intro k
    induction k with
    | zero =>
      intro i σ1 hi hx b1 b2 b3
      have e : i = 8 := by omega
      subst e
      have g2 : FR σ1 301 m = some rh := by rw [hx.2.1]; exact h2
      refine x_iload_n i_May_find_2 rfl ?_
      refine x_bipush i_May_find_3 ?_
      refine x_icmp_ge_t i_May_find_5 (by omega) ?_
      refine x_aload_n i_May_find_58 rfl ?_
      refine x_getR (c2 := 6) i_May_find_59 rfl rfl (by assumption) ?_
      refine x_bipush i_May_find_62 ?_
      refine x_iconst i_May_find_64 ?_
      refine x_cv2 i_May_find_65 rfl rfl rfl ?_
      refine c_Row_fill b3 (j := 8) rfl (Nat.le_refl _) (fun σ2 y2 x2 => ?_)
      refine x_iconst i_May_find_68 ?_
      refine x_istore_n (ls' := [_, _, _]) i_May_find_69 rfl rfl ?_
      exact r3 8 0 σ2 _ rfl (hx.tr x2.my) (by rw [x2.1 _ _ (fun q => by omega)]; exact b1) (by rw [x2.1 _ _ (fun q => by omega)]; exact b2) y2 (fun r hr => absurd hr (by omega))
    | succ k ih =>
      intro i σ1 hi hx b1 b2 b3
      have r2 : ∀ (k' j : Nat) (σ2 : AS), j + k' = 8 → myX g rh ch σ σ2 → bN (FI σ2 106 g) (rndN R (rnsN R i) j) → FI σ2 107 g = 0 → rowF σ2 rh ch 8 nn ff → Ex (wp (d + 40)) m_May_find Q 10 [some (vr 3 m), some (vi (i : Nat)), some (vi (j : Nat))] [] σ2 := by
        intro k'
        induction k' with
        | zero =>
          intro j σ2 hj hx b1 b2 b3
          have e : j = 8 := by omega
          subst e
          refine x_iload_n i_May_find_10 rfl ?_
          refine x_bipush i_May_find_11 ?_
          refine x_icmp_ge_t i_May_find_13 (by omega) ?_
          refine x_iinc (ls' := [_, _, _]) i_May_find_52 rfl (by omega) rfl ?_
          refine x_goto i_May_find_55 ?_
          refine Ex.weak (ls := [_, _, none]) ⟨Or.inr rfl, Or.inr rfl, Or.inl rfl, trivial⟩ ?_
          exact ih (i + 1) σ2 (by omega) hx b1 b2 b3
        | succ k' ih2 =>
          intro j σ2 hj hx b1 b2 b3
          have g1 : FR σ2 300 m = some g := by rw [hx.2.1]; exact h1
          have g3 : FR σ2 100 g = some b := by rw [hx.2.1]; exact h3
          have g4 := h4.my hx
          have next : ∀ σ3, myX g rh ch σ σ3 → bN (FI σ3 106 g) (rndN R (rnsN R i) (j + 1)) → FI σ3 107 g = 0 → rowF σ3 rh ch 8 nn ff → Ex (wp (d + 40)) m_May_find Q 46 [some (vr 3 m), some (vi (i : Nat)), some (vi (j : Nat))] [] σ3 := by
            intro σ3 hx b1 b2 b3
            refine x_iinc (ls' := [_, _, _]) i_May_find_46 rfl (by omega) rfl ?_
            refine x_goto i_May_find_49 ?_
            exact ih2 (j + 1) σ3 (by omega) hx b1 b2 b3
          refine x_iload_n i_May_find_10 rfl ?_
          refine x_bipush i_May_find_11 ?_
          refine x_icmp_ge_f i_May_find_13 (by omega) ?_
          refine x_aload_n i_May_find_16 rfl ?_
          refine x_aload_n i_May_find_17 rfl ?_
          refine x_getR (c2 := 1) i_May_find_18 rfl rfl (by assumption) ?_
          refine x_iload_n i_May_find_21 rfl ?_
          refine x_cv1 i_May_find_22 rfl rfl rfl ?_
          refine c_G_body g3 g4.1 (r := j) (by omega) ?_
          refine x_cv1 i_May_find_25 rfl rfl rfl ?_
          refine c_May_ru (d := d) ⟨g1, b1⟩ g4 (r := j) (by omega) ?_
          cases hr : ruNo R (rndN R (rnsN R i) j) j with
          | false =>
            refine x_if_eq_t i_May_find_28 rfl ?_
            refine next σ2 hx (b1.cg (fun r _ => ?_)) b2 b3
            simp only [rndN, setB]
            split
            · rename_i w; subst w; rw [hr, Bool.or_false]
            · rfl
          | true =>
            refine x_if_eq_f i_May_find_28 (by decide) ?_
            refine x_aload_n i_May_find_31 rfl ?_
            refine x_getR (c2 := 1) i_May_find_32 rfl rfl (by assumption) ?_
            refine x_dup i_May_find_35 ?_
            refine x_getI i_May_find_36 rfl rfl ?_
            refine x_iconst i_May_find_39 ?_
            refine x_iload_n i_May_find_40 rfl ?_
            refine x_ishl i_May_find_41 ?_
            refine x_ior i_May_find_42 ?_
            refine x_putI i_May_find_43 rfl rfl ?_
            have x3 : myX g rh ch σ2 (sFI σ2 106 g (iOr (FI σ2 106 g) (iShl 1 (j : Nat)))) := myX_sFI (Or.inl rfl)
            refine next _ (hx.tr x3) ?_ (by rw [FI_sFI, if_neg (by omega)]; exact b2) (x3.row b3 (by rw [FI_sFI, if_neg (by omega)]) (fun _ => rfl))
            rw [FI_sFI, if_pos ⟨rfl, rfl⟩]
            refine (bN_or b1 (bN_shl (r := j) (by omega))).cg (fun r _ => ?_)
            simp only [rndN, setB]
            split
            · rename_i w; subst w; rw [hr]; simp
            · rename_i w; rw [decide_eq_false w, Bool.or_false]
      refine x_iload_n i_May_find_2 rfl ?_
      refine x_bipush i_May_find_3 ?_
      refine x_icmp_ge_f i_May_find_5 (by omega) ?_
      refine x_iconst i_May_find_8 ?_
      refine x_istore_n (ls' := [_, _, _]) i_May_find_9 rfl rfl ?_
      exact r2 8 0 σ1 rfl hx b1 b2 b3
  refine x_in (ls := [some _, none, none]) rfl rfl ?_
  refine x_iconst i_May_find_0 ?_
  refine x_istore_n (ls' := [_, _, _]) i_May_find_1 rfl rfl ?_
  exact r1 8 0 σ rfl (myX.rf _ _ _ _) (by rw [e6]; exact bN_0) e7 h5
end


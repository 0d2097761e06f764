/-! THE CLASS's makers: Grammar -/
/-- what was there is as it was, but for one object -/
def oldX (c a : Nat) (σ σ' : AS) : Prop := (∀ f x, x < CN σ (f / 100) → ¬ (f / 100 = c ∧ x = a) → FI σ' f x = FI σ f x ∧ FR σ' f x = FR σ f x) ∧ (∀ k x j, x < CN σ k → AI σ' k x j = AI σ k x j ∧ AR σ' k x j = AR σ k x j) ∧ (∀ k x, x < CN σ k → LN σ' k x = LN σ k x) ∧ ∀ k, CN σ k ≤ CN σ' k
def giR (σ : AS) (g b fa ra ca : Nat) : Prop := FR σ 100 g = some b ∧ FR σ 101 g = some ra ∧ FR σ 102 g = some fa ∧ FR σ 103 g = some (ra + 1) ∧ rowF σ ra ca 8 8 (fun _ => 0) ∧ rowF σ (ra + 1) (ca + 1) 32 0 (fun _ => 0) ∧ LN σ 16 b = 8 ∧ LN σ 15 fa = 32 ∧ (∀ r, AR σ 16 b r = none) ∧ FI σ 104 g = 0 ∧ FI σ 105 g = 0 ∧ FI σ 106 g = 0 ∧ FI σ 107 g = 0
def gI (σ : AS) (g : Nat) : AS :=
  let s1 := sFR (nA σ 16 8) 100 g (some (CN σ 16))
  let s2 := sFR (sRow (nO s1 6) (CN s1 6) 8) 101 g (some (CN s1 6))
  let s3 := sFR (nA s2 15 32) 102 g (some (CN s2 15))
  let s4 := sFR (sRow (nO s3 6) (CN s3 6) 32) 103 g (some (CN s3 6))
  sFI (sFI (sFI (sFI s4 104 g 0) 105 g 0) 106 g 0) 107 g 0
theorem gI_cn (σ : AS) (g k : Nat) : CN (gI σ g) k = if k = 6 ∨ k = 13 then CN σ k + 2 else if k = 15 ∨ k = 16 then CN σ k + 1 else CN σ k := by
  simp [gI, sRow, FI_sFI, FR_sFI, AI_sFI, AR_sFI, LN_sFI, CN_sFI, nC_sFI, nS_sFI, FI_sFR, FR_sFR, AI_sFR, AR_sFR, LN_sFR, CN_sFR, nC_sFR, nS_sFR, FI_nO, FR_nO, AI_nO, AR_nO, LN_nO, CN_nO, nC_nO, nS_nO, FI_nA, FR_nA, AI_nA, AR_nA, LN_nA, CN_nA, nC_nA, nS_nA]
  by_cases h6 : k = 6
  · subst h6; simp
  · by_cases h13 : k = 13
    · subst h13; simp
    · by_cases h15 : k = 15
      · subst h15; simp
      · by_cases h16 : k = 16
        · subst h16; simp
        · simp [h6, h13, h15, h16]
theorem gI_fr {σ : AS} {g : Nat} (hg : g < CN σ 1) : FR (gI σ g) 100 g = some (CN σ 16) ∧ FR (gI σ g) 101 g = some (CN σ 6) ∧ FR (gI σ g) 102 g = some (CN σ 15) ∧ FR (gI σ g) 103 g = some (CN σ 6 + 1) ∧ FR (gI σ g) 600 (CN σ 6) = some (CN σ 13) ∧ FR (gI σ g) 600 (CN σ 6 + 1) = some (CN σ 13 + 1) := by
  simp [gI, sRow, FI_sFI, FR_sFI, AI_sFI, AR_sFI, LN_sFI, CN_sFI, nC_sFI, nS_sFI, FI_sFR, FR_sFR, AI_sFR, AR_sFR, LN_sFR, CN_sFR, nC_sFR, nS_sFR, FI_nO, FR_nO, AI_nO, AR_nO, LN_nO, CN_nO, nC_nO, nS_nO, FI_nA, FR_nA, AI_nA, AR_nA, LN_nA, CN_nA, nC_nA, nS_nA]
theorem gI_fi (σ : AS) (g : Nat) : FI (gI σ g) 601 (CN σ 6) = 0 ∧ FI (gI σ g) 601 (CN σ 6 + 1) = 0 ∧ FI (gI σ g) 104 g = 0 ∧ FI (gI σ g) 105 g = 0 ∧ FI (gI σ g) 106 g = 0 ∧ FI (gI σ g) 107 g = 0 := by
  simp [gI, sRow, FI_sFI, FR_sFI, AI_sFI, AR_sFI, LN_sFI, CN_sFI, nC_sFI, nS_sFI, FI_sFR, FR_sFR, AI_sFR, AR_sFR, LN_sFR, CN_sFR, nC_sFR, nS_sFR, FI_nO, FR_nO, AI_nO, AR_nO, LN_nO, CN_nO, nC_nO, nS_nO, FI_nA, FR_nA, AI_nA, AR_nA, LN_nA, CN_nA, nC_nA, nS_nA]
theorem gI_ln (σ : AS) (g : Nat) : LN (gI σ g) 13 (CN σ 13) = 8 ∧ LN (gI σ g) 13 (CN σ 13 + 1) = 32 ∧ LN (gI σ g) 16 (CN σ 16) = 8 ∧ LN (gI σ g) 15 (CN σ 15) = 32 := by
  simp [gI, sRow, FI_sFI, FR_sFI, AI_sFI, AR_sFI, LN_sFI, CN_sFI, nC_sFI, nS_sFI, FI_sFR, FR_sFR, AI_sFR, AR_sFR, LN_sFR, CN_sFR, nC_sFR, nS_sFR, FI_nO, FR_nO, AI_nO, AR_nO, LN_nO, CN_nO, nC_nO, nS_nO, FI_nA, FR_nA, AI_nA, AR_nA, LN_nA, CN_nA, nC_nA, nS_nA]
theorem gI_ar (σ : AS) (g r : Nat) : AR (gI σ g) 16 (CN σ 16) r = none := by
  simp [gI, sRow, FI_sFI, FR_sFI, AI_sFI, AR_sFI, LN_sFI, CN_sFI, nC_sFI, nS_sFI, FI_sFR, FR_sFR, AI_sFR, AR_sFR, LN_sFR, CN_sFR, nC_sFR, nS_sFR, FI_nO, FR_nO, AI_nO, AR_nO, LN_nO, CN_nO, nC_nO, nS_nO, FI_nA, FR_nA, AI_nA, AR_nA, LN_nA, CN_nA, nC_nA, nS_nA]
theorem gI_n (σ : AS) (g : Nat) : nC (gI σ g) = nC σ + 6 ∧ nS (gI σ g) = nS σ + 80 + 2 * cF 6 := by
  simp [gI, sRow, FI_sFI, FR_sFI, AI_sFI, AR_sFI, LN_sFI, CN_sFI, nC_sFI, nS_sFI, FI_sFR, FR_sFR, AI_sFR, AR_sFR, LN_sFR, CN_sFR, nC_sFR, nS_sFR, FI_nO, FR_nO, AI_nO, AR_nO, LN_nO, CN_nO, nC_nO, nS_nO, FI_nA, FR_nA, AI_nA, AR_nA, LN_nA, CN_nA, nC_nA, nS_nA]
  omega
theorem gI_old {σ : AS} {g : Nat} (hg : g < CN σ 1) : oldX 1 g σ (gI σ g) := by
  refine ⟨fun f x w1 w2 => ?_, fun k x j w => ?_, fun k x w => ?_, fun k => ?_⟩
  · have e1 : ¬ (f = 100 ∧ x = g) := fun q => w2 ⟨by omega, q.2⟩
    have e2 : ¬ (f = 101 ∧ x = g) := fun q => w2 ⟨by omega, q.2⟩
    have e3 : ¬ (f = 102 ∧ x = g) := fun q => w2 ⟨by omega, q.2⟩
    have e4 : ¬ (f = 103 ∧ x = g) := fun q => w2 ⟨by omega, q.2⟩
    have e5 : ¬ (f = 104 ∧ x = g) := fun q => w2 ⟨by omega, q.2⟩
    have e6 : ¬ (f = 105 ∧ x = g) := fun q => w2 ⟨by omega, q.2⟩
    have e7 : ¬ (f = 106 ∧ x = g) := fun q => w2 ⟨by omega, q.2⟩
    have e8 : ¬ (f = 107 ∧ x = g) := fun q => w2 ⟨by omega, q.2⟩
    have r0 : f / 100 = 6 → x < CN σ 6 := fun q => by rw [q] at w1; exact w1
    have r1 : ¬ (f = 600 ∧ x = CN σ 6) := fun q => by have := r0 (by omega); omega
    have r2 : ¬ (f = 601 ∧ x = CN σ 6) := fun q => by have := r0 (by omega); omega
    have r3 : ¬ (f = 600 ∧ x = CN σ 6 + 1) := fun q => by have := r0 (by omega); omega
    have r4 : ¬ (f = 601 ∧ x = CN σ 6 + 1) := fun q => by have := r0 (by omega); omega
    have r5 : ¬ (f / 100 = 6 ∧ x = CN σ 6) := fun q => by have := r0 q.1; omega
    have r6 : ¬ (f / 100 = 6 ∧ x = CN σ 6 + 1) := fun q => by have := r0 q.1; omega
    simp [gI, sRow, FI_sFI, FR_sFI, AI_sFI, AR_sFI, LN_sFI, CN_sFI, nC_sFI, nS_sFI, FI_sFR, FR_sFR, AI_sFR, AR_sFR, LN_sFR, CN_sFR, nC_sFR, nS_sFR, FI_nO, FR_nO, AI_nO, AR_nO, LN_nO, CN_nO, nC_nO, nS_nO, FI_nA, FR_nA, AI_nA, AR_nA, LN_nA, CN_nA, nC_nA, nS_nA, e1, e2, e3, e4, e5, e6, e7, e8, r1, r2, r3, r4, r5, r6]
  · have c13 : ¬ (k = 13 ∧ x = CN σ 13) := fun q => by obtain ⟨rfl, q⟩ := q; omega
    have c14 : ¬ (k = 13 ∧ x = CN σ 13 + 1) := fun q => by obtain ⟨rfl, q⟩ := q; omega
    have c15 : ¬ (k = 15 ∧ x = CN σ 15) := fun q => by obtain ⟨rfl, q⟩ := q; omega
    have c16 : ¬ (k = 16 ∧ x = CN σ 16) := fun q => by obtain ⟨rfl, q⟩ := q; omega
    simp [gI, sRow, FI_sFI, FR_sFI, AI_sFI, AR_sFI, LN_sFI, CN_sFI, nC_sFI, nS_sFI, FI_sFR, FR_sFR, AI_sFR, AR_sFR, LN_sFR, CN_sFR, nC_sFR, nS_sFR, FI_nO, FR_nO, AI_nO, AR_nO, LN_nO, CN_nO, nC_nO, nS_nO, FI_nA, FR_nA, AI_nA, AR_nA, LN_nA, CN_nA, nC_nA, nS_nA, c13, c14, c15, c16]
  · have c13 : ¬ (k = 13 ∧ x = CN σ 13) := fun q => by obtain ⟨rfl, q⟩ := q; omega
    have c14 : ¬ (k = 13 ∧ x = CN σ 13 + 1) := fun q => by obtain ⟨rfl, q⟩ := q; omega
    have c15 : ¬ (k = 15 ∧ x = CN σ 15) := fun q => by obtain ⟨rfl, q⟩ := q; omega
    have c16 : ¬ (k = 16 ∧ x = CN σ 16) := fun q => by obtain ⟨rfl, q⟩ := q; omega
    simp [gI, sRow, FI_sFI, FR_sFI, AI_sFI, AR_sFI, LN_sFI, CN_sFI, nC_sFI, nS_sFI, FI_sFR, FR_sFR, AI_sFR, AR_sFR, LN_sFR, CN_sFR, nC_sFR, nS_sFR, FI_nO, FR_nO, AI_nO, AR_nO, LN_nO, CN_nO, nC_nO, nS_nO, FI_nA, FR_nA, AI_nA, AR_nA, LN_nA, CN_nA, nC_nA, nS_nA, c13, c14, c15, c16]
  · rw [gI_cn]
    split
    · omega
    · split <;> omega
section
variable {d : Nat} {Q : AQ} {σ : AS}
theorem c_G_init {g : Nat} (hg : g < CN σ 1) (kk : ∀ σ', oldX 1 g σ σ' → giR σ' g (CN σ 16) (CN σ 15) (CN σ 6) (CN σ 13) → (∀ k, CN σ' k = if k = 6 ∨ k = 13 then CN σ k + 2 else if k = 15 ∨ k = 16 then CN σ k + 1 else CN σ k) → nC σ' = nC σ + 6 → nS σ' = nS σ + 80 + 2 * cF 6 → Q none σ') : wp (d + 4) m_Grammar_init [vr 1 g] σ Q := by
  refine x_in (ls := [some _]) rfl rfl ?_
  refine x_aload_n i_Grammar_init_0 rfl ?_
  refine x_objInit i_Grammar_init_1 rfl ?_
  refine x_aload_n i_Grammar_init_4 rfl ?_
  refine x_bipush i_Grammar_init_5 ?_
  refine x_newq i_Grammar_init_7 (k := 8) rfl (by decide) ?_
  refine x_putO (c2 := 16) i_Grammar_init_10 rfl rfl ?_
  refine x_aload_n i_Grammar_init_13 rfl ?_
  refine x_new i_Grammar_init_14 ?_
  refine x_dup i_Grammar_init_17 ?_
  refine x_bipush i_Grammar_init_18 ?_
  refine x_ci1 i_Grammar_init_20 rfl rfl rfl ?_
  refine c_Row_init (cap := 8) (by decide) ?_
  refine x_putO (c2 := 6) i_Grammar_init_23 rfl rfl ?_
  refine x_aload_n i_Grammar_init_26 rfl ?_
  refine x_bipush i_Grammar_init_27 ?_
  refine x_newq i_Grammar_init_29 (k := 32) rfl (by decide) ?_
  refine x_putO (c2 := 15) i_Grammar_init_32 rfl rfl ?_
  refine x_aload_n i_Grammar_init_35 rfl ?_
  refine x_new i_Grammar_init_36 ?_
  refine x_dup i_Grammar_init_39 ?_
  refine x_bipush i_Grammar_init_40 ?_
  refine x_ci1 i_Grammar_init_42 rfl rfl rfl ?_
  refine c_Row_init (cap := 32) (by decide) ?_
  refine x_putO (c2 := 6) i_Grammar_init_45 rfl rfl ?_
  refine x_aload_n i_Grammar_init_48 rfl ?_
  refine x_iconst i_Grammar_init_49 ?_
  refine x_putI i_Grammar_init_50 rfl rfl ?_
  refine x_aload_n i_Grammar_init_53 rfl ?_
  refine x_iconst i_Grammar_init_54 ?_
  refine x_putI i_Grammar_init_55 rfl rfl ?_
  refine x_aload_n i_Grammar_init_58 rfl ?_
  refine x_iconst i_Grammar_init_59 ?_
  refine x_putI i_Grammar_init_60 rfl rfl ?_
  refine x_aload_n i_Grammar_init_63 rfl ?_
  refine x_iconst i_Grammar_init_64 ?_
  refine x_putI i_Grammar_init_65 rfl rfl ?_
  show Ex (wp (d + 3)) m_Grammar_init Q 68 [some (vr 1 g)] [] (gI σ g)
  have o1 := gI_old hg
  obtain ⟨a1, a2, a3, a4, a5, a6⟩ := gI_fr hg
  obtain ⟨b1, b2, b3, b4, b5, b6⟩ := gI_fi σ g
  obtain ⟨c1, c2, c3, c4⟩ := gI_ln σ g
  have ar := gI_ar σ g
  have cn := gI_cn σ g
  obtain ⟨n1, n2⟩ := gI_n σ g
  generalize gI σ g = σ1 at o1 a1 a2 a3 a4 a5 a6 b1 b2 b3 b4 b5 b6 c1 c2 c3 c4 ar cn n1 n2
  have r1 : rowF σ1 (CN σ 6) (CN σ 13) 8 0 (fun _ => 0) := ⟨a5, b1, c1, by decide, by decide, fun k hk => absurd hk (by omega)⟩
  have r2 : rowF σ1 (CN σ 6 + 1) (CN σ 13 + 1) 32 0 (fun _ => 0) := ⟨a6, b2, c2, by decide, by decide, fun k hk => absurd hk (by omega)⟩
  refine x_aload_n i_Grammar_init_68 rfl ?_
  refine x_getR (c2 := 6) i_Grammar_init_69 rfl rfl (by assumption) ?_
  refine x_bipush i_Grammar_init_72 ?_
  refine x_iconst i_Grammar_init_74 ?_
  refine x_cv2 i_Grammar_init_75 rfl rfl rfl ?_
  refine c_Row_fill r1 (j := 8) rfl (Nat.le_refl _) (fun σ2 y2 x2 => ?_)
  obtain ⟨z1, z2, z3, z4, z5, z6, z7, z8⟩ := id x2
  have fi : ∀ f x, f ≠ 601 → FI σ2 f x = FI σ1 f x := fun f x w => z1 f x (fun q => w q.1)
  refine x_vret i_Grammar_init_78 rfl ?_
  refine kk σ2 ⟨fun f x w1 w2 => ?_, fun k x j w => ?_, fun k x w => ?_, fun k => ?_⟩ ⟨by rw [z2]; exact a1, by rw [z2]; exact a2, by rw [z2]; exact a3, by rw [z2]; exact a4, y2, r2.keep x2 (by omega) (by omega), by rw [z5]; exact c3, by rw [z5]; exact c4, fun r => by rw [z4]; exact ar r, by rw [fi _ _ (by decide)]; exact b3, by rw [fi _ _ (by decide)]; exact b4, by rw [fi _ _ (by decide)]; exact b5, by rw [fi _ _ (by decide)]; exact b6⟩ (fun k => by rw [z6]; exact cn k) (by rw [z7]; exact n1) (by rw [z8]; exact n2)
  · rw [z2]
    have := o1.1 f x w1 w2
    exact ⟨by rw [z1 f x (fun q => by obtain ⟨rfl, rfl⟩ := q; exact absurd w1 (Nat.lt_irrefl _))]; exact this.1, this.2⟩
  · rw [z4]
    have := o1.2.1 k x j w
    exact ⟨by rw [z3 k x j (fun q => by obtain ⟨rfl, rfl⟩ := q; omega)]; exact this.1, this.2⟩
  · rw [z5]; exact o1.2.2.1 k x w
  · rw [z6]; exact o1.2.2.2 k
end


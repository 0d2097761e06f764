/-! THE CLASS's makers: Reader -/
def rdC (σ : AS) (sg : Nat) : Nat → Nat
  | 0 => CN σ 5 | 1 => CN σ 1 | 2 => CN σ 16 | 3 => CN σ 15 | 4 => CN σ 6 | 5 => CN σ 13 | 6 => CN σ 6 + 1 | 7 => CN σ 13 + 1 | 8 => CN σ 6 + 2 | 9 => CN σ 13 + 2 | _ => sg
def rI (σ : AS) (r g sg : Nat) : AS :=
  let s1 := sFR σ 501 r (some g)
  let s2 := sFR (sRow (nO s1 6) (CN s1 6) 8) 502 r (some (CN s1 6))
  sFR (sFI (sFI (sFI s2 503 r 0) 504 r 0) 505 r (-1)) 500 r (some sg)
theorem rI_f (σ : AS) (r g sg : Nat) : FR (rI σ r g sg) 500 r = some sg ∧ FR (rI σ r g sg) 501 r = some g ∧ FR (rI σ r g sg) 502 r = some (CN σ 6) ∧ FR (rI σ r g sg) 600 (CN σ 6) = some (CN σ 13) ∧ FI (rI σ r g sg) 503 r = 0 ∧ FI (rI σ r g sg) 504 r = 0 ∧ FI (rI σ r g sg) 505 r = -1 ∧ FI (rI σ r g sg) 601 (CN σ 6) = 0 ∧ LN (rI σ r g sg) 13 (CN σ 13) = 8 ∧ nC (rI σ r g sg) = nC σ + 2 ∧ nS (rI σ r g sg) = nS σ + cF 6 + 8 := by
  simp [rI, sRow, FI_sFI, FR_sFI, AI_sFI, AR_sFI, LN_sFI, CN_sFI, nC_sFI, nS_sFI, FI_sFR, FR_sFR, AI_sFR, AR_sFR, LN_sFR, CN_sFR, nC_sFR, nS_sFR, FI_nO, FR_nO, AI_nO, AR_nO, LN_nO, CN_nO, nC_nO, nS_nO, FI_nA, FR_nA, AI_nA, AR_nA, LN_nA, CN_nA, nC_nA, nS_nA]
theorem rI_cn (σ : AS) (r g sg k : Nat) : CN (rI σ r g sg) k = if k = 6 ∨ k = 13 then CN σ k + 1 else CN σ k := by
  simp [rI, sRow, FI_sFI, FR_sFI, AI_sFI, AR_sFI, LN_sFI, CN_sFI, nC_sFI, nS_sFI, FI_sFR, FR_sFR, AI_sFR, AR_sFR, LN_sFR, CN_sFR, nC_sFR, nS_sFR, FI_nO, FR_nO, AI_nO, AR_nO, LN_nO, CN_nO, nC_nO, nS_nO, FI_nA, FR_nA, AI_nA, AR_nA, LN_nA, CN_nA, nC_nA, nS_nA]
  by_cases h6 : k = 6
  · subst h6; simp
  · by_cases h13 : k = 13
    · subst h13; simp
    · simp [h6, h13]
theorem rI_old {σ : AS} {r g sg : Nat} : oldX 5 r σ (rI σ r g sg) := by
  refine ⟨fun f x w1 w2 => ?_, fun k x j w => ?_, fun k x w => ?_, fun k => ?_⟩
  · have e1 : ¬ (f = 500 ∧ x = r) := fun q => w2 ⟨by omega, q.2⟩
    have e2 : ¬ (f = 501 ∧ x = r) := fun q => w2 ⟨by omega, q.2⟩
    have e3 : ¬ (f = 502 ∧ x = r) := fun q => w2 ⟨by omega, q.2⟩
    have e4 : ¬ (f = 503 ∧ x = r) := fun q => w2 ⟨by omega, q.2⟩
    have e5 : ¬ (f = 504 ∧ x = r) := fun q => w2 ⟨by omega, q.2⟩
    have e6 : ¬ (f = 505 ∧ x = r) := fun q => w2 ⟨by omega, q.2⟩
    have r0 : f / 100 = 6 → x < CN σ 6 := fun q => by rw [q] at w1; exact w1
    have r1 : ¬ (f = 600 ∧ x = CN σ 6) := fun q => by have := r0 (by omega); omega
    have r2 : ¬ (f = 601 ∧ x = CN σ 6) := fun q => by have := r0 (by omega); omega
    have r5 : ¬ (f / 100 = 6 ∧ x = CN σ 6) := fun q => by have := r0 q.1; omega
    simp [rI, sRow, FI_sFI, FR_sFI, AI_sFI, AR_sFI, LN_sFI, CN_sFI, nC_sFI, nS_sFI, FI_sFR, FR_sFR, AI_sFR, AR_sFR, LN_sFR, CN_sFR, nC_sFR, nS_sFR, FI_nO, FR_nO, AI_nO, AR_nO, LN_nO, CN_nO, nC_nO, nS_nO, FI_nA, FR_nA, AI_nA, AR_nA, LN_nA, CN_nA, nC_nA, nS_nA, e1, e2, e3, e4, e5, e6, r1, r2, r5]
  · have c13 : ¬ (k = 13 ∧ x = CN σ 13) := fun q => by obtain ⟨rfl, q⟩ := q; omega
    simp [rI, sRow, FI_sFI, FR_sFI, AI_sFI, AR_sFI, LN_sFI, CN_sFI, nC_sFI, nS_sFI, FI_sFR, FR_sFR, AI_sFR, AR_sFR, LN_sFR, CN_sFR, nC_sFR, nS_sFR, FI_nO, FR_nO, AI_nO, AR_nO, LN_nO, CN_nO, nC_nO, nS_nO, FI_nA, FR_nA, AI_nA, AR_nA, LN_nA, CN_nA, nC_nA, nS_nA, c13]
  · have c13 : ¬ (k = 13 ∧ x = CN σ 13) := fun q => by obtain ⟨rfl, q⟩ := q; omega
    simp [rI, sRow, FI_sFI, FR_sFI, AI_sFI, AR_sFI, LN_sFI, CN_sFI, nC_sFI, nS_sFI, FI_sFR, FR_sFR, AI_sFR, AR_sFR, LN_sFR, CN_sFR, nC_sFR, nS_sFR, FI_nO, FR_nO, AI_nO, AR_nO, LN_nO, CN_nO, nC_nO, nS_nO, FI_nA, FR_nA, AI_nA, AR_nA, LN_nA, CN_nA, nC_nA, nS_nA, c13]
  · rw [rI_cn]
    split <;> omega
theorem oldX.row {c a : Nat} {σ σ' : AS} (hx : oldX c a σ σ') (hc : c ≠ 6) {r k cap n : Nat} {f : Nat → Int} (h : rowF σ r k cap n f) (w1 : r < CN σ 6) (w2 : k < CN σ 13) : rowF σ' r k cap n f := ⟨by rw [(hx.1 600 r w1 (fun q => by omega)).2]; exact h.1, by rw [(hx.1 601 r w1 (fun q => by omega)).1]; exact h.2.1, by rw [hx.2.2.1 13 k w2]; exact h.2.2.1, h.2.2.2.1, h.2.2.2.2.1, fun j hj => by rw [(hx.2.1 13 k j w2).1]; exact h.2.2.2.2.2 j hj⟩
theorem newX_nO (σ : AS) (c : Nat) : newX σ (nO σ c) := by
  refine ⟨fun f x w => ?_, fun _ _ _ _ => ⟨rfl, rfl⟩, fun _ _ _ => rfl, fun k => ?_⟩
  · have q : ¬ (f / 100 = c ∧ x = CN σ c) := fun q => by obtain ⟨rfl, rfl⟩ := q; exact absurd w (Nat.lt_irrefl _)
    rw [FI_nO, FR_nO, if_neg q, if_neg q]
    exact ⟨rfl, rfl⟩
  · rw [CN_nO]
    split
    · rename_i w; rw [w]; omega
    · exact Nat.le_refl _
/-- an object that is new does no harm -/
theorem newX.old {c a : Nat} {σ0 σ σ' : AS} (h : newX σ0 σ) (hx : oldX c a σ σ') (ha : CN σ0 c ≤ a) : newX σ0 σ' := by
  obtain ⟨h1, h2, h3, h4⟩ := h
  obtain ⟨g1, g2, g3, g4⟩ := hx
  have m : ∀ k x, x < CN σ0 k → x < CN σ k := fun k x w => Nat.lt_of_lt_of_le w (h4 k)
  exact ⟨fun f x w => by
    have := g1 f x (m _ _ w) (fun q => by obtain ⟨rfl, rfl⟩ := q; omega)
    exact ⟨this.1.trans (h1 f x w).1, this.2.trans (h1 f x w).2⟩, fun k x j w => ⟨(g2 k x j (m _ _ w)).1.trans (h2 k x j w).1, (g2 k x j (m _ _ w)).2.trans (h2 k x j w).2⟩, fun k x w => (g3 k x (m _ _ w)).trans (h3 k x w), fun k => Nat.le_trans (h4 k) (g4 k)⟩
theorem newX.rw' {r c : Nat} {σ0 σ σ' : AS} (h : newX σ0 σ) (hx : rowX r c σ σ') (hr : CN σ0 6 ≤ r) (hc : CN σ0 13 ≤ c) : newX σ0 σ' := by
  obtain ⟨h1, h2, h3, h4⟩ := h
  obtain ⟨g1, g2, g3, g4, g5, g6, g7, g8⟩ := hx
  exact ⟨fun f x w => by rw [g1 f x (fun q => by obtain ⟨rfl, rfl⟩ := q; have w : x < CN σ0 6 := w; omega), g2]; exact h1 f x w, fun k x j w => by rw [g3 k x j (fun q => by obtain ⟨rfl, rfl⟩ := q; omega), g4]; exact h2 k x j w, fun k x w => by rw [g5]; exact h3 k x w, fun k => by rw [g6]; exact h4 k⟩
theorem newX.row {σ0 σ : AS} (hx : newX σ0 σ) {r k cap n : Nat} {f : Nat → Int} (h : rowF σ0 r k cap n f) (w1 : r < CN σ0 6) (w2 : k < CN σ0 13) : rowF σ r k cap n f := ⟨by rw [(hx.1 600 r w1).2]; exact h.1, by rw [(hx.1 601 r w1).1]; exact h.2.1, by rw [hx.2.2.1 13 k w2]; exact h.2.2.1, h.2.2.2.1, h.2.2.2.2.1, fun j hj => by rw [(hx.2.1 13 k j w2).1]; exact h.2.2.2.2.2 j hj⟩
section
variable {d : Nat} {Q : AQ} {σ : AS} {t : TP}
theorem c_Rd_init {sg : Nat} (hsg : sg < 2) (ht : tpOK t) (hr : rowF σ sg sg 240 t.1 t.2) (n6 : 21 ≤ CN σ 6) (n13 : 77 ≤ CN σ 13) (kk : ∀ σ', newX σ σ' → RdS σ' (rdC σ sg) t (sk t 0, [], []) 0 → RdG σ' (rdC σ sg) (fun _ => none) (sk t 0, [], []) → nC σ' = nC σ + 10 → nS σ' ≤ nS σ + 200 → Q none σ') : wp (d + 5) m_Reader_init [vr 5 (CN σ 5), vr 6 sg] (nO σ 5) Q := by
  refine x_in (ls := [some _, some _]) rfl rfl ?_
  refine x_aload_n i_Reader_init_0 rfl ?_
  refine x_objInit i_Reader_init_1 rfl ?_
  refine x_aload_n i_Reader_init_4 rfl ?_
  refine x_new i_Reader_init_5 ?_
  refine x_dup i_Reader_init_8 ?_
  have hg : CN (nO σ 5) 1 < CN (nO (nO σ 5) 1) 1 := by rw [CN_nO (nO σ 5) 1 1, if_pos rfl]; omega
  refine x_ci0 i_Reader_init_9 rfl rfl rfl ?_
  refine c_G_init hg (fun σ2 x2 g2 cn2 n2 s2 => ?_)
  have e1 : CN (nO σ 5) 1 = CN σ 1 := by rw [CN_nO, if_neg (by decide)]
  have e5 : ∀ k, CN (nO (nO σ 5) 1) k = if k = 1 ∨ k = 5 then CN σ k + 1 else CN σ k := by
    intro k
    rw [CN_nO, CN_nO, CN_nO]
    by_cases w1 : k = 1
    · subst w1; simp
    · by_cases w5 : k = 5
      · subst w5; simp
      · simp [w1, w5]
  have X1 : newX σ (nO (nO σ 5) 1) := (newX_nO σ 5).tr (newX_nO _ 1)
  rw [e1] at x2 g2
  have X2 : newX σ σ2 := X1.old x2 (Nat.le_refl _)
  rw [e5 16, e5 15, e5 6, e5 13, if_neg (by decide), if_neg (by decide), if_neg (by decide), if_neg (by decide)] at g2
  have c2 : ∀ k, CN σ2 k = if k = 6 ∨ k = 13 then CN σ k + 2 else if k = 15 ∨ k = 16 ∨ k = 1 ∨ k = 5 then CN σ k + 1 else CN σ k := by
    intro k
    rw [cn2 k, e5 k]
    by_cases w6 : k = 6 ∨ k = 13
    · rw [if_pos w6, if_pos w6, if_neg (by omega)]
    · rw [if_neg w6, if_neg w6]
      by_cases w15 : k = 15 ∨ k = 16
      · rw [if_pos w15, if_neg (by omega), if_pos (by omega)]
      · rw [if_neg w15]
        by_cases w1 : k = 1 ∨ k = 5
        · rw [if_pos w1, if_pos (by omega)]
        · rw [if_neg w1, if_neg (by omega)]
  rw [e1]
  refine x_putO (c2 := 1) i_Reader_init_12 rfl rfl ?_
  refine x_aload_n i_Reader_init_15 rfl ?_
  refine x_new i_Reader_init_16 ?_
  refine x_dup i_Reader_init_19 ?_
  refine x_bipush i_Reader_init_20 ?_
  refine x_ci1 i_Reader_init_22 rfl rfl rfl ?_
  refine c_Row_init (cap := 8) (by decide) ?_
  refine x_putO (c2 := 6) i_Reader_init_25 rfl rfl ?_
  refine x_aload_n i_Reader_init_28 rfl ?_
  refine x_iconst i_Reader_init_29 ?_
  refine x_putI i_Reader_init_30 rfl rfl ?_
  refine x_aload_n i_Reader_init_33 rfl ?_
  refine x_iconst i_Reader_init_34 ?_
  refine x_putI i_Reader_init_35 rfl rfl ?_
  refine x_aload_n i_Reader_init_38 rfl ?_
  refine x_iconst i_Reader_init_39 ?_
  refine x_putI i_Reader_init_40 rfl rfl ?_
  refine x_aload_n i_Reader_init_43 rfl ?_
  refine x_aload_n i_Reader_init_44 rfl ?_
  refine x_putO (c2 := 6) i_Reader_init_45 rfl rfl ?_
  show Ex (wp (d + 4)) m_Reader_init Q 48 [some (vr 5 (CN σ 5)), some (vr 6 sg)] [] (rI σ2 (CN σ 5) (CN σ 1) sg)
  obtain ⟨f1, f2, f3, f4, f5, f6, f7, f8, f9, f10, f11⟩ := rI_f σ2 (CN σ 5) (CN σ 1) sg
  have cn := rI_cn σ2 (CN σ 5) (CN σ 1) sg
  have o3 : oldX 5 (CN σ 5) σ2 (rI σ2 (CN σ 5) (CN σ 1) sg) := rI_old
  generalize rI σ2 (CN σ 5) (CN σ 1) sg = σ3 at f1 f2 f3 f4 f5 f6 f7 f8 f9 f10 f11 cn o3
  have X3 : newX σ σ3 := X2.old o3 (Nat.le_refl _)
  have c26 : CN σ2 6 = CN σ 6 + 2 := c2 6
  have c213 : CN σ2 13 = CN σ 13 + 2 := c2 13
  rw [c26] at f3 f4 f8
  rw [c213] at f4 f9
  have r3 : rowF σ3 (CN σ 6 + 2) (CN σ 13 + 2) 8 0 (fun _ => 0) := ⟨f4, f8, f9, by decide, by decide, fun k hk => absurd hk (by omega)⟩
  refine x_aload_n i_Reader_init_48 rfl ?_
  refine x_getR (c2 := 6) i_Reader_init_49 rfl rfl (by assumption) ?_
  refine x_bipush i_Reader_init_52 ?_
  refine x_iconst i_Reader_init_54 ?_
  refine x_cv2 i_Reader_init_55 rfl rfl rfl ?_
  refine c_Row_fill r3 (j := 8) rfl (Nat.le_refl _) (fun σ4 y4 x4 => ?_)
  obtain ⟨z1, z2, z3, z4, z5, z6, z7, z8⟩ := id x4
  have X4 : newX σ σ4 := X3.rw' x4 (by omega) (by omega)
  obtain ⟨a1, a2, a3, a4, a5, a6, a7, a8, a9, a10, a11, a12, a13⟩ := g2
  have fi : ∀ f x, f ≠ 601 → FI σ4 f x = FI σ3 f x := fun f x w => z1 f x (fun q => w q.1)
  have g1 : CN σ 1 < CN σ2 1 := by have := c2 1; simp at this; omega
  have q16 : CN σ 16 < CN σ2 16 := by have := c2 16; simp at this; omega
  have q15 : CN σ 15 < CN σ2 15 := by have := c2 15; simp at this; omega
  have gf : ∀ f, f / 100 = 1 → FI σ3 f (CN σ 1) = FI σ2 f (CN σ 1) ∧ FR σ3 f (CN σ 1) = FR σ2 f (CN σ 1) := fun f w => o3.1 f _ (by rw [w]; exact g1) (fun q => by omega)
  have m4 : ∀ k, CN σ4 k = if k = 6 ∨ k = 13 then CN σ k + 3 else if k = 15 ∨ k = 16 ∨ k = 1 ∨ k = 5 then CN σ k + 1 else CN σ k := by
    intro k
    rw [z6, cn k, c2 k]
    by_cases w6 : k = 6 ∨ k = 13
    · rw [if_pos w6, if_pos w6, if_pos w6]
    · rw [if_neg w6, if_neg w6, if_neg w6]
  have n2' : nC σ2 = nC σ + 8 := by rw [n2]; rfl
  have s2' : nS σ2 = nS σ + cF 5 + cF 1 + 80 + 2 * cF 6 := by rw [s2]; rfl
  have k5 : cF 5 = 6 := rfl
  have k1 : cF 1 = 8 := rfl
  have k6 : cF 6 = 2 := rfl
  have hK : RdK σ4 (rdC σ sg) t := by
    refine ⟨⟨?_, ?_, ?_, ?_⟩, ⟨n6, ?_, Nat.le_trans n6 (Nat.le_succ _), ?_, Nat.le_trans n6 (Nat.le_add_right _ _), ?_, ?_, ?_, ?_⟩, ⟨n13, ?_, Nat.le_trans n13 (Nat.le_succ _), ?_, Nat.le_trans n13 (Nat.le_add_right _ _), ?_, ?_, ?_, ?_⟩, hsg, ⟨?_, ?_, ?_, ?_, ?_, ?_, ?_⟩, ?_, ?_, ht, ?_⟩
    · show CN σ 5 < CN σ4 5; rw [m4 5]; simp
    · show CN σ 1 < CN σ4 1; rw [m4 1]; simp
    · show CN σ 16 < CN σ4 16; rw [m4 16]; simp
    · show CN σ 15 < CN σ4 15; rw [m4 15]; simp
    · show CN σ 6 < CN σ4 6; rw [m4 6]; simp
    · show CN σ 6 + 1 < CN σ4 6; rw [m4 6]; simp
    · show CN σ 6 + 2 < CN σ4 6; rw [m4 6]; simp
    · show CN σ 6 ≠ CN σ 6 + 1; omega
    · show CN σ 6 ≠ CN σ 6 + 2; omega
    · show CN σ 6 + 1 ≠ CN σ 6 + 2; omega
    · show CN σ 13 < CN σ4 13; rw [m4 13]; simp
    · show CN σ 13 + 1 < CN σ4 13; rw [m4 13]; simp
    · show CN σ 13 + 2 < CN σ4 13; rw [m4 13]; simp
    · show CN σ 13 ≠ CN σ 13 + 1; omega
    · show CN σ 13 ≠ CN σ 13 + 2; omega
    · show CN σ 13 + 1 ≠ CN σ 13 + 2; omega
    · rw [z2]; exact f1
    · rw [z2]; exact f2
    · rw [z2]; exact f3
    · rw [z2]; exact (gf 100 rfl).2.trans a1
    · rw [z2]; exact (gf 101 rfl).2.trans a2
    · rw [z2]; exact (gf 102 rfl).2.trans a3
    · rw [z2]; exact (gf 103 rfl).2.trans a4
    · rw [z5]; exact (o3.2.2.1 16 _ q16).trans a7
    · rw [z5]; exact (o3.2.2.1 15 _ q15).trans a8
    · exact X4.row hr (by show sg < _; omega) (by show sg < _; omega)
  have r5 : rowF σ4 (CN σ 6) (CN σ 13) 8 8 (fun _ => 0) := (o3.row (by decide) a5 (by omega) (by omega)).keep x4 (by omega) (by omega)
  have r6 : rowF σ4 (CN σ 6 + 1) (CN σ 13 + 1) 32 0 (fun _ => 0) := (o3.row (by decide) a6 (by omega) (by omega)).keep x4 (by omega) (by omega)
  refine x_vret i_Reader_init_58 rfl ?_
  refine kk σ4 X4 ⟨hK, ⟨sk_le (Nat.zero_le _), sk_sk _ _, by show 0 ≤ 32; decide⟩, ⟨0, ?_, Nat.zero_le _, rfl⟩, ?_, ?_, ?_, (fun i a hi => by cases hi), ?_, ?_⟩ ⟨fun r hr => ?_, ?_, ⟨?_, ?_, ?_⟩, (fun a ha => by cases ha)⟩ ?_ ?_
  · rw [fi _ _ (by decide)]; exact f5
  · rw [fi _ _ (by decide)]; exact f6
  · rw [fi _ _ (by decide)]; exact f7
  · rw [fi _ _ (by decide)]; exact (gf 105 rfl).1.trans a11
  · exact ⟨r6.1, r6.2.1, r6.2.2.1, by show 0 ≤ 32; decide, by decide, fun k hk => absurd hk (by show ¬ k < 0; omega)⟩
  · exact ⟨y4.1, y4.2.1, y4.2.2.1, y4.2.2.2.1, y4.2.2.2.2.1, fun k hk => y4.2.2.2.2.2 k hk⟩
  · show AR σ4 16 (CN σ 16) r = none
    rw [z4]; exact (o3.2.1 16 _ r q16).2.trans (a9 r)
  · exact ⟨r5.1, r5.2.1, r5.2.2.1, r5.2.2.2.1, r5.2.2.2.2.1, fun k hk => r5.2.2.2.2.2 k hk⟩
  · show FI σ4 104 (CN σ 1) = _
    rw [fi _ _ (by decide), (gf 104 rfl).1, a10]; rfl
  · show FI σ4 106 (CN σ 1) = _
    rw [fi _ _ (by decide)]; exact (gf 106 rfl).1.trans a12
  · show FI σ4 107 (CN σ 1) = _
    rw [fi _ _ (by decide)]; exact (gf 107 rfl).1.trans a13
  · rw [z7, f10, n2']
  · rw [z8, f11, s2']; omega
end


/-! THE CLASS's makers: Run, Last, the class itself -/
theorem nO_old {σ : AS} {c : Nat} : (∀ k, CN (nO σ c) k = if k = c then CN σ c + 1 else CN σ k) ∧ nC (nO σ c) = nC σ + 1 ∧ nS (nO σ c) = nS σ + cF c := ⟨fun _ => rfl, rfl, rfl⟩
section
variable {d : Nat} {Q : AQ} {σ : AS}
theorem c_Run_init (h6 : CN σ 6 = 3) (h13 : CN σ 13 = 3) (h7 : 0 < CN σ 7) (h9 : CN σ 9 = 0) (hg1 : CN σ 1 = 0) (h15 : CN σ 15 = 0) (h16 : CN σ 16 = 0) (kk : ∀ τ, oldX 7 0 σ τ → runI τ 0 → CN τ 6 = 16 → CN τ 13 = 16 → CN τ 9 = 1 → CN τ 1 = 1 → CN τ 15 = 1 → CN τ 16 = 1 → (∀ k, k ≠ 6 → k ≠ 13 → k ≠ 9 → k ≠ 1 → k ≠ 15 → k ≠ 16 → CN τ k = CN σ k) → nC τ ≤ nC σ + 40 → nS τ ≤ nS σ + 120000 → Q none τ) : wp (d + 5) m_Run_init [vr 7 0] σ Q := by
  have h0 : rwI 700 3 (fun _ => 1928) 0 σ σ := rwI.st h6 h13
  refine x_in (ls := [some _]) rfl rfl ?_
  refine x_aload_n i_Run_init_0 rfl ?_
  refine x_objInit i_Run_init_1 rfl ?_
  refine x_aload_n i_Run_init_4 rfl ?_
  refine x_new i_Run_init_5 ?_
  refine x_dup i_Run_init_8 ?_
  refine x_sipush i_Run_init_9 ?_
  refine x_ci1 i_Run_init_12 rfl rfl rfl ?_
  refine c_Row_init (cap := 1928) (by decide) ?_
  refine x_putO (c2 := 6) i_Run_init_15 rfl rfl ?_
  generalize hτ : sFR (sRow (nO σ 6) (CN σ 6) 1928) 700 0 (some (CN σ 6)) = τ1
  have h1 : rwI 700 3 (fun _ => 1928) 1 σ τ1 := h0.step (m := 0) (c := 7) hτ (by decide) (by decide) (by decide) (fun i hi => by omega) h7
  clear hτ
  refine x_aload_n i_Run_init_18 rfl ?_
  refine x_new i_Run_init_19 ?_
  refine x_dup i_Run_init_22 ?_
  refine x_sipush i_Run_init_23 ?_
  refine x_ci1 i_Run_init_26 rfl rfl rfl ?_
  refine c_Row_init (cap := 1928) (by decide) ?_
  refine x_putO (c2 := 6) i_Run_init_29 rfl rfl ?_
  generalize hτ : sFR (sRow (nO τ1 6) (CN τ1 6) 1928) 701 0 (some (CN τ1 6)) = τ2
  have h2 : rwI 700 3 (fun _ => 1928) 2 σ τ2 := h1.step (m := 1) (c := 7) hτ (by decide) (by decide) (by decide) (fun i hi => by omega) h7
  clear hτ
  refine x_aload_n i_Run_init_32 rfl ?_
  refine x_new i_Run_init_33 ?_
  refine x_dup i_Run_init_36 ?_
  refine x_sipush i_Run_init_37 ?_
  refine x_ci1 i_Run_init_40 rfl rfl rfl ?_
  refine c_Row_init (cap := 1928) (by decide) ?_
  refine x_putO (c2 := 6) i_Run_init_43 rfl rfl ?_
  generalize hτ : sFR (sRow (nO τ2 6) (CN τ2 6) 1928) 702 0 (some (CN τ2 6)) = τ3
  have h3 : rwI 700 3 (fun _ => 1928) 3 σ τ3 := h2.step (m := 2) (c := 7) hτ (by decide) (by decide) (by decide) (fun i hi => by omega) h7
  clear hτ
  obtain ⟨a1, a2, a3, a4, a5, a6, a7⟩ := h3
  have k3 : kpX (fun g x => g / 100 = 7 ∧ x = 0) σ τ3 := a5.mono (fun g x _ w => by omega)
  have e9 : CN τ3 9 = 0 := (a4 9 (by decide) (by decide)).trans h9
  have e1 : CN τ3 1 = 0 := (a4 1 (by decide) (by decide)).trans hg1
  have e15 : CN τ3 15 = 0 := (a4 15 (by decide) (by decide)).trans h15
  have e16 : CN τ3 16 = 0 := (a4 16 (by decide) (by decide)).trans h16
  have e7 : CN τ3 7 = CN σ 7 := a4 7 (by decide) (by decide)
  have kn3 : kpX (fun g x => 703 ≤ g ∧ g ≤ 712 ∧ x = 0) τ3 (nO τ3 9) := (newX_nO τ3 9).kp
  obtain ⟨c4, n4, s4⟩ := @nO_old τ3 9
  refine x_aload_n i_Run_init_46 rfl ?_
  refine x_new i_Run_init_47 ?_
  refine x_dup i_Run_init_50 ?_
  rw [e9]
  generalize nO τ3 9 = τ4 at kn3 c4 n4 s4
  refine x_ci0 i_Run_init_51 rfl rfl rfl ?_
  refine c_T_init ((c4 6).trans a2) ((c4 13).trans a3) (by rw [c4 9, if_pos rfl]; omega) (fun τ5 o5 b6 b13 bk tr n5 s5 => ?_)
  have kn5 : kpX (fun g x => 703 ≤ g ∧ g ≤ 712 ∧ x = 0) τ3 τ5 := kn3.tr2 o5.kp (fun f x w v => by obtain ⟨v, rfl⟩ := v; rw [v, e9] at w; exact absurd w (Nat.lt_irrefl _))
  have d9 : CN τ5 9 = 1 := by rw [bk 9 (by decide) (by decide), c4 9, if_pos rfl, e9]
  have d1 : CN τ5 1 = 0 := by rw [bk 1 (by decide) (by decide), c4 1, if_neg (by decide)]; exact e1
  have d15 : CN τ5 15 = 0 := by rw [bk 15 (by decide) (by decide), c4 15, if_neg (by decide)]; exact e15
  have d16 : CN τ5 16 = 0 := by rw [bk 16 (by decide) (by decide), c4 16, if_neg (by decide)]; exact e16
  have d7 : CN τ5 7 = CN σ 7 := by rw [bk 7 (by decide) (by decide), c4 7, if_neg (by decide)]; exact e7
  have dk : ∀ k, k ≠ 6 → k ≠ 13 → k ≠ 9 → CN τ5 k = CN σ k := fun k k1 k2 k3 => by rw [bk k k1 k2, c4 k, if_neg k3]; exact a4 k k1 k2
  have k6 : kpX (fun g x => 703 ≤ g ∧ g ≤ 712 ∧ x = 0) τ5 (sFR τ5 703 0 (some 0)) := kpX_sFR ⟨by decide, by decide, rfl⟩
  have f703 : FR (sFR τ5 703 0 (some 0)) 703 0 = some 0 := by rw [FR_sFR, if_pos ⟨rfl, rfl⟩]
  have c6 : CN (sFR τ5 703 0 (some 0)) = CN τ5 := rfl
  have n6 : nC (sFR τ5 703 0 (some 0)) = nC τ5 := rfl
  have s6 : nS (sFR τ5 703 0 (some 0)) = nS τ5 := rfl
  refine x_putO (c2 := 9) i_Run_init_54 rfl rfl ?_
  generalize sFR τ5 703 0 (some 0) = τ6 at k6 f703 c6 n6 s6
  obtain ⟨c7, n7, s7⟩ := @nO_old τ6 1
  have k7 : kpX (fun g x => 703 ≤ g ∧ g ≤ 712 ∧ x = 0) τ5 (nO τ6 1) := k6.tr2 (P' := fun _ _ => False) (newX_nO τ6 1).kp (fun _ _ _ v => v.elim)
  have f703 : FR (nO τ6 1) 703 0 = some 0 := by rw [FR_nO, if_neg (fun v => absurd v.1 (by decide))]; exact f703
  have g1 : CN τ6 1 = 0 := by rw [c6]; exact d1
  have g6 : CN τ6 6 = 13 := by rw [c6]; exact b6
  have g13 : CN τ6 13 = 13 := by rw [c6]; exact b13
  refine x_aload_n i_Run_init_57 rfl ?_
  refine x_new i_Run_init_58 ?_
  refine x_dup i_Run_init_61 ?_
  rw [g1]
  generalize nO τ6 1 = τ7 at k7 c7 n7 s7 f703
  refine x_ci0 i_Run_init_62 rfl rfl rfl ?_
  refine c_G_init (g := 0) (by rw [c7 1, if_pos rfl]; omega) (fun τ8 o8 gi cn8 n8 s8 => ?_)
  have k8 : kpX (fun g x => 703 ≤ g ∧ g ≤ 712 ∧ x = 0) τ5 τ8 := k7.tr2 o8.kp (fun f x w v => by obtain ⟨v, rfl⟩ := v; rw [v, d1] at w; exact absurd w (Nat.lt_irrefl _))
  have f703 : FR τ8 703 0 = some 0 := (o8.1 703 0 (by show 0 < CN τ7 7; rw [c7 7, if_neg (by decide), c6, d7]; exact h7) (fun v => absurd v.1 (by decide))).2.trans f703
  have m8 : ∀ k, CN τ8 k = if k = 6 ∨ k = 13 then 15 else if k = 15 ∨ k = 16 ∨ k = 1 ∨ k = 9 then 1 else CN σ k := by
    intro k
    rw [cn8 k, c7 k, c6]
    by_cases w6 : k = 6
    · subst w6; simp [b6]
    · by_cases w13 : k = 13
      · subst w13; simp [b13]
      · by_cases w15 : k = 15
        · subst w15; simp [d15]
        · by_cases w16 : k = 16
          · subst w16; simp [d16]
          · by_cases w1 : k = 1
            · subst w1; simp [d1]
            · by_cases w9 : k = 9
              · subst w9; simp [d9]
              · simp [w6, w13, w15, w16, w1, w9]; exact dk k w6 w13 w9
  have k9 : kpX (fun g x => 703 ≤ g ∧ g ≤ 712 ∧ x = 0) τ8 (sFR τ8 704 0 (some 0)) := kpX_sFR ⟨by decide, by decide, rfl⟩
  have f703 : FR (sFR τ8 704 0 (some 0)) 703 0 = some 0 := by rw [FR_sFR, if_neg (by decide)]; exact f703
  have m9 : ∀ k, CN (sFR τ8 704 0 (some 0)) k = if k = 6 ∨ k = 13 then 15 else if k = 15 ∨ k = 16 ∨ k = 1 ∨ k = 9 then 1 else CN σ k := m8
  have n9 : nC (sFR τ8 704 0 (some 0)) = nC τ8 := rfl
  have s9 : nS (sFR τ8 704 0 (some 0)) = nS τ8 := rfl
  refine x_putO (c2 := 1) i_Run_init_65 rfl rfl ?_
  generalize sFR τ8 704 0 (some 0) = τ9 at k9 f703 m9 n9 s9
  refine x_aload_n i_Run_init_68 rfl ?_
  refine x_new i_Run_init_69 ?_
  refine x_dup i_Run_init_72 ?_
  refine x_iconst i_Run_init_73 ?_
  refine x_ci1 i_Run_init_74 rfl rfl rfl ?_
  refine c_Row_init (cap := 0) (by decide) ?_
  refine x_putO (c2 := 6) i_Run_init_77 rfl rfl ?_
  generalize hτ : sFR (sRow (nO τ9 6) (CN τ9 6) 0) 705 0 (some (CN τ9 6)) = τ10
  obtain ⟨k10, -, -, c10, n10, s10⟩ := row_new (by decide) hτ (by decide)
  clear hτ
  have f703 : FR τ10 703 0 = some 0 := (k10.1 703 0 (by show 0 < CN τ9 7; rw [m9 7]; exact h7) (fun v => absurd v.1 (by decide))).2.trans f703
  have k11 : kpX (fun g x => 703 ≤ g ∧ g ≤ 712 ∧ x = 0) τ10 (sFI (sFI (sFI (sFI (sFI (sFI (sFI τ10 706 0 (-1)) 707 0 0) 708 0 0) 709 0 0) 710 0 (-1)) 711 0 0) 712 0 0) := (((((( (kpX_sFI ⟨by decide, by decide, rfl⟩).tr2 (kpX_sFI ⟨by decide, by decide, rfl⟩) (fun _ _ _ v => v)).tr2 (kpX_sFI ⟨by decide, by decide, rfl⟩) (fun _ _ _ v => v)).tr2 (kpX_sFI ⟨by decide, by decide, rfl⟩) (fun _ _ _ v => v)).tr2 (kpX_sFI ⟨by decide, by decide, rfl⟩) (fun _ _ _ v => v)).tr2 (kpX_sFI ⟨by decide, by decide, rfl⟩) (fun _ _ _ v => v)).tr2 (kpX_sFI ⟨by decide, by decide, rfl⟩) (fun _ _ _ v => v))
  have f708 : FI (sFI (sFI (sFI (sFI (sFI (sFI (sFI τ10 706 0 (-1)) 707 0 0) 708 0 0) 709 0 0) 710 0 (-1)) 711 0 0) 712 0 0) 708 0 = 0 := by simp [FI_sFI]
  have f703 : FR (sFI (sFI (sFI (sFI (sFI (sFI (sFI τ10 706 0 (-1)) 707 0 0) 708 0 0) 709 0 0) 710 0 (-1)) 711 0 0) 712 0 0) 703 0 = some 0 := f703
  have c11 : CN (sFI (sFI (sFI (sFI (sFI (sFI (sFI τ10 706 0 (-1)) 707 0 0) 708 0 0) 709 0 0) 710 0 (-1)) 711 0 0) 712 0 0) = CN τ10 := rfl
  have n11 : nC (sFI (sFI (sFI (sFI (sFI (sFI (sFI τ10 706 0 (-1)) 707 0 0) 708 0 0) 709 0 0) 710 0 (-1)) 711 0 0) 712 0 0) = nC τ10 := rfl
  have s11 : nS (sFI (sFI (sFI (sFI (sFI (sFI (sFI τ10 706 0 (-1)) 707 0 0) 708 0 0) 709 0 0) 710 0 (-1)) 711 0 0) 712 0 0) = nS τ10 := rfl
  refine x_aload_n i_Run_init_80 rfl ?_
  refine x_iconst i_Run_init_81 ?_
  refine x_putI i_Run_init_82 rfl rfl ?_
  refine x_aload_n i_Run_init_85 rfl ?_
  refine x_iconst i_Run_init_86 ?_
  refine x_putI i_Run_init_87 rfl rfl ?_
  refine x_aload_n i_Run_init_90 rfl ?_
  refine x_iconst i_Run_init_91 ?_
  refine x_putI i_Run_init_92 rfl rfl ?_
  refine x_aload_n i_Run_init_95 rfl ?_
  refine x_iconst i_Run_init_96 ?_
  refine x_putI i_Run_init_97 rfl rfl ?_
  refine x_aload_n i_Run_init_100 rfl ?_
  refine x_iconst i_Run_init_101 ?_
  refine x_putI i_Run_init_102 rfl rfl ?_
  refine x_aload_n i_Run_init_105 rfl ?_
  refine x_iconst i_Run_init_106 ?_
  refine x_putI i_Run_init_107 rfl rfl ?_
  refine x_aload_n i_Run_init_110 rfl ?_
  refine x_iconst i_Run_init_111 ?_
  refine x_putZ i_Run_init_112 rfl rfl (by omega) ?_
  generalize sFI (sFI (sFI (sFI (sFI (sFI (sFI τ10 706 0 (-1)) 707 0 0) 708 0 0) 709 0 0) 710 0 (-1)) 711 0 0) 712 0 0 = τ11 at k11 f708 f703 c11 n11 s11
  have x5 : kpX (fun g x => 703 ≤ g ∧ g ≤ 712 ∧ x = 0) τ5 τ11 := ((k8.tr2 k9 (fun _ _ _ v => v)).tr2 k10 (fun g x _ v => by omega)).tr2 k11 (fun _ _ _ v => v)
  have x3 : kpX (fun g x => 703 ≤ g ∧ g ≤ 712 ∧ x = 0) τ3 τ11 := kn5.tr2 x5 (fun _ _ _ v => v)
  have x0 : kpX (fun g x => g / 100 = 7 ∧ x = 0) σ τ11 := k3.tr2 x3 (fun g x _ v => by omega)
  obtain ⟨N, K, tab, H, tr⟩ := tr
  have tr11 : TrS τ11 N K tab H := tr.kp x5 (by omega) (by omega) (by omega) (fun g v q => by omega) (fun r => ⟨fun q => by omega, fun q => by omega⟩)
  have rk : ∀ i, i < 3 → FR τ11 (700 + i) 0 = some (3 + i) ∧ rowF τ11 (3 + i) (3 + i) 1928 0 (fun _ => 0) := fun i hi => ⟨(x3.1 (700 + i) 0 (by rw [show (700 + i) / 100 = 7 by omega, e7]; exact h7) (fun q => by omega)).2.trans (a1 i hi).1, x3.row (a1 i hi).2 (by omega) (by omega) (fun q => by omega) (fun q => by omega)⟩
  have f700 : FR τ11 700 0 = some 3 := (rk 0 (by decide)).1
  have f701 : FR τ11 701 0 = some 4 := (rk 1 (by decide)).1
  have f702 : FR τ11 702 0 = some 5 := (rk 2 (by decide)).1
  have r3 : rowF τ11 3 3 1928 0 (fun _ => 0) := (rk 0 (by decide)).2
  have r4 : rowF τ11 4 4 1928 0 (fun _ => 0) := (rk 1 (by decide)).2
  have r5 : rowF τ11 5 5 1928 0 (fun _ => 0) := (rk 2 (by decide)).2
  have m11 : ∀ k, CN τ11 k = if k = 6 ∨ k = 13 then 16 else if k = 15 ∨ k = 16 ∨ k = 1 ∨ k = 9 then 1 else CN σ k := by
    intro k
    rw [c11, c10 k, m9 k]
    by_cases w : k = 6 ∨ k = 13
    · rw [if_pos w, if_pos w, if_pos w]
    · rw [if_neg w, if_neg w, if_neg w]
  have k5' : cF 6 = 2 := rfl
  have k9' : cF 9 = 7 := rfl
  have k1' : cF 1 = 8 := rfl
  have nn : nC τ11 ≤ nC σ + 40 := by omega
  have ss : nS τ11 ≤ nS σ + 120000 := by omega
  clear x5 k11 k10 k9 k8 k7 k6 a5 kn3 kn5 c10 c11 cn8 m9 m8 o8 gi o5 bk a1 rk tr x3
  refine x_aload_n i_Run_init_115 rfl ?_
  refine x_getR (c2 := 6) i_Run_init_116 rfl rfl (by assumption) ?_
  refine x_sipush i_Run_init_119 ?_
  refine x_iconst i_Run_init_122 ?_
  refine x_cv2 i_Run_init_123 rfl rfl rfl ?_
  refine c_Row_fill r4 (j := 1928) rfl (Nat.le_refl _) (fun τ12 y12 x12 => ?_)
  have t12 : tX (fun g a => g = 601 ∧ 4 ≤ a ∧ a ≤ 5) (fun a => 4 ≤ a ∧ a ≤ 5) τ11 τ12 := x12.tx ⟨rfl, by decide, by decide⟩ ⟨by decide, by decide⟩
  have f702 : FR τ12 702 0 = some 5 := by rw [t12.2.1]; exact f702
  refine x_aload_n i_Run_init_126 rfl ?_
  refine x_getR (c2 := 6) i_Run_init_127 rfl rfl (by assumption) ?_
  refine x_sipush i_Run_init_130 ?_
  refine x_iconst i_Run_init_133 ?_
  refine x_cv2 i_Run_init_134 rfl rfl rfl ?_
  refine c_Row_fill (r5.keep x12 (by decide) (by decide)) (j := 1928) rfl (Nat.le_refl _) (fun τ13 y13 x13 => ?_)
  have t13 : tX (fun g a => g = 601 ∧ 4 ≤ a ∧ a ≤ 5) (fun a => 4 ≤ a ∧ a ≤ 5) τ11 τ13 := t12.tr (x13.tx ⟨rfl, by decide, by decide⟩ ⟨by decide, by decide⟩)
  have y12 := y12.keep x13 (by decide) (by decide)
  have y3 : rowF τ13 3 3 1928 0 (fun _ => 0) := t13.row r3 (fun v => by omega) (fun v => by omega)
  have x13' : kpX (fun g x => g / 100 = 7 ∧ x = 0) σ τ13 := x0.tx t13 (fun f x w v => by obtain ⟨rfl, v1, v2⟩ := v; have w : x < CN σ 6 := w; omega) (fun x v => by omega)
  have tr13 : TrS τ13 N K tab H := tr11.keep t13 (fun r _ _ v => by omega) (fun r _ _ v => by omega)
  have cn : CN τ13 = CN τ11 := t13.2.2.2.2.2.1
  have fr : FR τ13 = FR τ11 := t13.2.1
  refine x_vret i_Run_init_137 rfl ?_
  refine kk τ13 x13'.old ⟨⟨by rw [fr]; exact f700, by rw [fr]; exact f701, by rw [fr, ← t12.2.1]; exact f702, by rw [fr]; exact f703⟩, ⟨_, _, y3⟩, ⟨_, y12⟩, ⟨_, y13⟩, ⟨N, K, tab, H, tr13⟩, ?_, Nat.zero_le _⟩ (by rw [cn]; exact m11 6) (by rw [cn]; exact m11 13) (by rw [cn]; exact m11 9) (by rw [cn]; exact m11 1) (by rw [cn]; exact m11 15) (by rw [cn]; exact m11 16) (fun k k1 k2 k3 k4 k5 k6 => by rw [cn, m11 k, if_neg (by omega), if_neg (by omega)]) (by rw [t13.2.2.2.2.2.2.1]; exact nn) (by rw [t13.2.2.2.2.2.2.2]; exact ss)
  rw [t13.1 708 0 (fun v => by omega)]
  exact f708
theorem c_Last_init (h6 : CN σ 6 = 16) (h13 : CN σ 13 = 16) (h2 : 0 < CN σ 2) (kk : ∀ τ, oldX 2 0 σ τ → lastC τ none → CN τ 6 = 21 → CN τ 13 = 21 → (∀ k, k ≠ 6 → k ≠ 13 → CN τ k = CN σ k) → nC τ ≤ nC σ + 10 → nS τ ≤ nS σ + 50000 → Q none τ) : wp (d + 2) m_Last_init [vr 2 0] σ Q := by
  have k0 : kpX (fun g x => g / 100 = 2 ∧ x = 0) σ (sFI (sFI (sFI (sFI (sFI (sFI (sFI σ 200 0 0) 201 0 (-1)) 202 0 0) 203 0 0) 204 0 0) 205 0 0) 206 0 0) := (((((((kpX_sFI ⟨by decide, rfl⟩).tr2 (kpX_sFI ⟨by decide, rfl⟩) (fun _ _ _ v => v)).tr2 (kpX_sFI ⟨by decide, rfl⟩) (fun _ _ _ v => v)).tr2 (kpX_sFI ⟨by decide, rfl⟩) (fun _ _ _ v => v)).tr2 (kpX_sFI ⟨by decide, rfl⟩) (fun _ _ _ v => v)).tr2 (kpX_sFI ⟨by decide, rfl⟩) (fun _ _ _ v => v)).tr2 (kpX_sFI ⟨by decide, rfl⟩) (fun _ _ _ v => v))
  have f200 : FI (sFI (sFI (sFI (sFI (sFI (sFI (sFI σ 200 0 0) 201 0 (-1)) 202 0 0) 203 0 0) 204 0 0) 205 0 0) 206 0 0) 200 0 = 0 := by simp [FI_sFI]
  have c0 : CN (sFI (sFI (sFI (sFI (sFI (sFI (sFI σ 200 0 0) 201 0 (-1)) 202 0 0) 203 0 0) 204 0 0) 205 0 0) 206 0 0) = CN σ := rfl
  have n0 : nC (sFI (sFI (sFI (sFI (sFI (sFI (sFI σ 200 0 0) 201 0 (-1)) 202 0 0) 203 0 0) 204 0 0) 205 0 0) 206 0 0) = nC σ := rfl
  have s0 : nS (sFI (sFI (sFI (sFI (sFI (sFI (sFI σ 200 0 0) 201 0 (-1)) 202 0 0) 203 0 0) 204 0 0) 205 0 0) 206 0 0) = nS σ := rfl
  refine x_in (ls := [some _]) rfl rfl ?_
  refine x_aload_n i_Last_init_0 rfl ?_
  refine x_objInit i_Last_init_1 rfl ?_
  refine x_aload_n i_Last_init_4 rfl ?_
  refine x_iconst i_Last_init_5 ?_
  refine x_putZ i_Last_init_6 rfl rfl (by omega) ?_
  refine x_aload_n i_Last_init_9 rfl ?_
  refine x_iconst i_Last_init_10 ?_
  refine x_putI i_Last_init_11 rfl rfl ?_
  refine x_aload_n i_Last_init_14 rfl ?_
  refine x_iconst i_Last_init_15 ?_
  refine x_putI i_Last_init_16 rfl rfl ?_
  refine x_aload_n i_Last_init_19 rfl ?_
  refine x_iconst i_Last_init_20 ?_
  refine x_putI i_Last_init_21 rfl rfl ?_
  refine x_aload_n i_Last_init_24 rfl ?_
  refine x_iconst i_Last_init_25 ?_
  refine x_putI i_Last_init_26 rfl rfl ?_
  refine x_aload_n i_Last_init_29 rfl ?_
  refine x_iconst i_Last_init_30 ?_
  refine x_putI i_Last_init_31 rfl rfl ?_
  refine x_aload_n i_Last_init_34 rfl ?_
  refine x_iconst i_Last_init_35 ?_
  refine x_putZ i_Last_init_36 rfl rfl (by omega) ?_
  generalize sFI (sFI (sFI (sFI (sFI (sFI (sFI σ 200 0 0) 201 0 (-1)) 202 0 0) 203 0 0) 204 0 0) 205 0 0) 206 0 0 = τ0 at k0 f200 c0 n0 s0
  have ho : 0 < CN τ0 2 := by rw [c0]; exact h2
  have h0 : rwI 207 16 (fun i => if i < 4 then 2000 else 8000) 0 τ0 τ0 := rwI.st (by rw [c0]; exact h6) (by rw [c0]; exact h13)
  refine x_aload_n i_Last_init_39 rfl ?_
  refine x_new i_Last_init_40 ?_
  refine x_dup i_Last_init_43 ?_
  refine x_sipush i_Last_init_44 ?_
  refine x_ci1 i_Last_init_47 rfl rfl rfl ?_
  refine c_Row_init (cap := 2000) (by decide) ?_
  refine x_putO (c2 := 6) i_Last_init_50 rfl rfl ?_
  generalize hτ : sFR (sRow (nO τ0 6) (CN τ0 6) 2000) 207 0 (some (CN τ0 6)) = τ1
  have h1 : rwI 207 16 (fun i => if i < 4 then 2000 else 8000) 1 τ0 τ1 := h0.step (m := 0) (c := 2) hτ (by decide) (by decide) (by decide) (fun i hi => by omega) ho
  clear hτ
  refine x_aload_n i_Last_init_53 rfl ?_
  refine x_new i_Last_init_54 ?_
  refine x_dup i_Last_init_57 ?_
  refine x_sipush i_Last_init_58 ?_
  refine x_ci1 i_Last_init_61 rfl rfl rfl ?_
  refine c_Row_init (cap := 2000) (by decide) ?_
  refine x_putO (c2 := 6) i_Last_init_64 rfl rfl ?_
  generalize hτ : sFR (sRow (nO τ1 6) (CN τ1 6) 2000) 208 0 (some (CN τ1 6)) = τ2
  have h2 : rwI 207 16 (fun i => if i < 4 then 2000 else 8000) 2 τ0 τ2 := h1.step (m := 1) (c := 2) hτ (by decide) (by decide) (by decide) (fun i hi => by omega) ho
  clear hτ
  refine x_aload_n i_Last_init_67 rfl ?_
  refine x_new i_Last_init_68 ?_
  refine x_dup i_Last_init_71 ?_
  refine x_sipush i_Last_init_72 ?_
  refine x_ci1 i_Last_init_75 rfl rfl rfl ?_
  refine c_Row_init (cap := 2000) (by decide) ?_
  refine x_putO (c2 := 6) i_Last_init_78 rfl rfl ?_
  generalize hτ : sFR (sRow (nO τ2 6) (CN τ2 6) 2000) 209 0 (some (CN τ2 6)) = τ3
  have h3 : rwI 207 16 (fun i => if i < 4 then 2000 else 8000) 3 τ0 τ3 := h2.step (m := 2) (c := 2) hτ (by decide) (by decide) (by decide) (fun i hi => by omega) ho
  clear hτ
  refine x_aload_n i_Last_init_81 rfl ?_
  refine x_new i_Last_init_82 ?_
  refine x_dup i_Last_init_85 ?_
  refine x_sipush i_Last_init_86 ?_
  refine x_ci1 i_Last_init_89 rfl rfl rfl ?_
  refine c_Row_init (cap := 2000) (by decide) ?_
  refine x_putO (c2 := 6) i_Last_init_92 rfl rfl ?_
  generalize hτ : sFR (sRow (nO τ3 6) (CN τ3 6) 2000) 210 0 (some (CN τ3 6)) = τ4
  have h4 : rwI 207 16 (fun i => if i < 4 then 2000 else 8000) 4 τ0 τ4 := h3.step (m := 3) (c := 2) hτ (by decide) (by decide) (by decide) (fun i hi => by omega) ho
  clear hτ
  refine x_aload_n i_Last_init_95 rfl ?_
  refine x_new i_Last_init_96 ?_
  refine x_dup i_Last_init_99 ?_
  refine x_sipush i_Last_init_100 ?_
  refine x_ci1 i_Last_init_103 rfl rfl rfl ?_
  refine c_Row_init (cap := 8000) (by decide) ?_
  refine x_putO (c2 := 6) i_Last_init_106 rfl rfl ?_
  generalize hτ : sFR (sRow (nO τ4 6) (CN τ4 6) 8000) 211 0 (some (CN τ4 6)) = τ5
  have h5 : rwI 207 16 (fun i => if i < 4 then 2000 else 8000) 5 τ0 τ5 := h4.step (m := 4) (c := 2) hτ (by decide) (by decide) (by decide) (fun i hi => by omega) ho
  clear hτ
  obtain ⟨a1, a2, a3, a4, a5, a6, a7⟩ := h5
  have k5 : kpX (fun g x => g / 100 = 2 ∧ x = 0) σ τ5 := k0.tr2 a5 (fun g x _ w => by omega)
  have k6 : kpX (fun g x => g / 100 = 2 ∧ x = 0) σ (sFI τ5 212 0 0) := k5.tr2 (kpX_sFI (P := fun g x => g / 100 = 2 ∧ x = 0) ⟨by decide, rfl⟩) (fun _ _ _ v => v)
  have f200 : FI τ5 200 0 = 0 := (a5.1 200 0 ho (fun v => by omega)).1.trans f200
  have rl : ∀ {r cap : Nat}, rowF τ5 r r cap 0 (fun _ => 0) → rowLs (sFI τ5 212 0 0) r cap [] := fun h => ⟨h.1, by rw [FI_sFI, if_neg (fun v => absurd v.1 (by decide))]; exact h.2.1, h.2.2.1, h.2.2.2.1, h.2.2.2.2.1, fun k hk => absurd hk (Nat.not_lt_zero _)⟩
  have rr : ∀ {r cap : Nat}, rowF τ5 r r cap 0 (fun _ => 0) → rowF (sFI τ5 212 0 0) r r cap 0 (fun _ => 0) := fun h => ⟨h.1, by rw [FI_sFI, if_neg (fun v => absurd v.1 (by decide))]; exact h.2.1, h.2.2.1, h.2.2.2.1, h.2.2.2.2.1, fun k hk => absurd hk (Nat.not_lt_zero _)⟩
  refine x_aload_n i_Last_init_109 rfl ?_
  refine x_iconst i_Last_init_110 ?_
  refine x_putZ i_Last_init_111 rfl rfl (by omega) ?_
  refine x_vret i_Last_init_114 rfl ?_
  refine kk (sFI τ5 212 0 0) k6.old ⟨⟨(a1 0 (by decide)).1, (a1 1 (by decide)).1, (a1 2 (by decide)).1, (a1 3 (by decide)).1, (a1 4 (by decide)).1⟩, ⟨_, _, rr (a1 0 (by decide)).2⟩, ⟨_, _, rr (a1 1 (by decide)).2⟩, ⟨_, _, rr (a1 2 (by decide)).2⟩, ⟨[], rl (a1 3 (by decide)).2⟩, ⟨[], rl (a1 4 (by decide)).2⟩, ?_⟩ a2 a3 (fun k k1 k2 => by rw [← c0]; exact a4 k k1 k2) (by show nC τ5 ≤ _; omega) (by show nS τ5 ≤ _; omega)
  show FI (sFI τ5 212 0 0) 200 0 = 0
  rw [FI_sFI, if_neg (by decide)]
  exact f200
/-- the class's object as it is made -/
def cpB (τ : AS) : Prop := (FR τ 1000 0 = some 0 ∧ FR τ 1001 0 = some 1 ∧ FR τ 1002 0 = some 2 ∧ FR τ 1003 0 = some 0 ∧ FR τ 1004 0 = some 0 ∧ FR τ 1005 0 = some 1) ∧ (rowF τ 0 0 240 0 (fun _ => 0) ∧ rowF τ 1 1 240 0 (fun _ => 0) ∧ rowF τ 2 2 20 0 (fun _ => 0)) ∧ runI τ 0 ∧ lastC τ none ∧ giR τ 1 1 1 21 21
def cpK (τ : AS) : Prop := CN τ 6 = 23 ∧ 23 ≤ CN τ 13 ∧ CN τ 1 = 2 ∧ CN τ 15 = 2 ∧ CN τ 16 = 2 ∧ CN τ 2 = 1 ∧ CN τ 7 = 1 ∧ CN τ 9 = 1 ∧ CN τ 10 = 1
theorem cpB.kp {P : Nat → Nat → Prop} {a b : AS} (h : cpB a) (hk : cpK a) (hx : kpX P a b) (n1 : ∀ g x, P g x → g / 100 = 11) : cpB b := by
  obtain ⟨⟨f0, f1, f2, f3, f4, f5⟩, ⟨r0, r1, r2⟩, hr, hl, hg⟩ := h
  obtain ⟨k6, k13, k1, k15, k16, k2, k7, k9, k10⟩ := hk
  have fr : ∀ g, g / 100 = 10 → FR b g 0 = FR a g 0 := fun g v => (hx.1 g 0 (by rw [v]; omega) (fun q => by have := n1 _ _ q; omega)).2
  have nr : ∀ r, ¬ P 600 r ∧ ¬ P 601 r := fun r => ⟨fun q => absurd (n1 _ _ q) (by decide), fun q => absurd (n1 _ _ q) (by decide)⟩
  exact ⟨⟨(fr _ rfl).trans f0, (fr _ rfl).trans f1, (fr _ rfl).trans f2, (fr _ rfl).trans f3, (fr _ rfl).trans f4, (fr _ rfl).trans f5⟩, ⟨hx.row r0 (by omega) (by omega) (nr _).1 (nr _).2, hx.row r1 (by omega) (by omega) (nr _).1 (nr _).2, hx.row r2 (by omega) (by omega) (nr _).1 (nr _).2⟩, hr.kp hx (by omega) (by omega) (by omega) (by omega) (fun g v q => by have := n1 _ _ q; omega) (fun g v q => by have := n1 _ _ q; omega) nr, hl.kp hx (by omega) (by omega) (by omega) (fun g v q => by have := n1 _ _ q; omega) nr, hg.kp hx (by omega) (by omega) (by omega) (by omega) (by omega) (fun g v q => by have := n1 _ _ q; omega) nr⟩
theorem c_CP_init (hz : ∀ k, CN σ k = if k = 10 ∨ k = 18 then 1 else 0) (kk : ∀ τ, oldX 10 0 σ τ → cpB τ → cpK τ → CN τ 13 = 23 → CN τ 11 = 0 → CN τ 14 = 0 → CN τ 17 = 0 → CN τ 18 = 1 → nC τ ≤ nC σ + 80 → nS τ ≤ nS σ + 400000 → Q none τ) : wp (d + 6) m_CP_init [vr 10 0] σ Q := by
  have ho : 0 < CN σ 10 := by rw [hz 10]; simp
  have h0 : rwI 1000 0 (fun i => if i < 2 then 240 else 20) 0 σ σ := rwI.st (by rw [hz 6]; simp) (by rw [hz 13]; simp)
  refine x_in (ls := [some _]) rfl rfl ?_
  refine x_aload_n i_CP_init_0 rfl ?_
  refine x_objInit i_CP_init_1 rfl ?_
  refine x_aload_n i_CP_init_4 rfl ?_
  refine x_new i_CP_init_5 ?_
  refine x_dup i_CP_init_8 ?_
  refine x_sipush i_CP_init_9 ?_
  refine x_ci1 i_CP_init_12 rfl rfl rfl ?_
  refine c_Row_init (cap := 240) (by decide) ?_
  refine x_putO (c2 := 6) i_CP_init_15 rfl rfl ?_
  generalize hτ : sFR (sRow (nO σ 6) (CN σ 6) 240) 1000 0 (some (CN σ 6)) = τ1
  have h1 : rwI 1000 0 (fun i => if i < 2 then 240 else 20) 1 σ τ1 := h0.step (m := 0) (c := 10) hτ (by decide) (by decide) (by decide) (fun i hi => by omega) ho
  clear hτ
  refine x_aload_n i_CP_init_18 rfl ?_
  refine x_new i_CP_init_19 ?_
  refine x_dup i_CP_init_22 ?_
  refine x_sipush i_CP_init_23 ?_
  refine x_ci1 i_CP_init_26 rfl rfl rfl ?_
  refine c_Row_init (cap := 240) (by decide) ?_
  refine x_putO (c2 := 6) i_CP_init_29 rfl rfl ?_
  generalize hτ : sFR (sRow (nO τ1 6) (CN τ1 6) 240) 1001 0 (some (CN τ1 6)) = τ2
  have h2 : rwI 1000 0 (fun i => if i < 2 then 240 else 20) 2 σ τ2 := h1.step (m := 1) (c := 10) hτ (by decide) (by decide) (by decide) (fun i hi => by omega) ho
  clear hτ
  refine x_aload_n i_CP_init_32 rfl ?_
  refine x_new i_CP_init_33 ?_
  refine x_dup i_CP_init_36 ?_
  refine x_bipush i_CP_init_37 ?_
  refine x_ci1 i_CP_init_39 rfl rfl rfl ?_
  refine c_Row_init (cap := 20) (by decide) ?_
  refine x_putO (c2 := 6) i_CP_init_42 rfl rfl ?_
  generalize hτ : sFR (sRow (nO τ2 6) (CN τ2 6) 20) 1002 0 (some (CN τ2 6)) = τ3
  have h3 : rwI 1000 0 (fun i => if i < 2 then 240 else 20) 3 σ τ3 := h2.step (m := 2) (c := 10) hτ (by decide) (by decide) (by decide) (fun i hi => by omega) ho
  clear hτ
  obtain ⟨a1, a2, a3, a4, a5, a6, a7⟩ := h3
  have m3 : ∀ k, CN τ3 k = if k = 6 ∨ k = 13 then 3 else if k = 10 ∨ k = 18 then 1 else 0 := by
    intro k
    by_cases w6 : k = 6
    · subst w6; simp [a2]
    · by_cases w13 : k = 13
      · subst w13; simp [a3]
      · rw [a4 k w6 w13, hz k]; simp [w6, w13]
  -- Run
  obtain ⟨c4, n4, s4⟩ := @nO_old τ3 7
  have x4 : newX τ3 (nO τ3 7) := newX_nO τ3 7
  have e7 : CN τ3 7 = 0 := by rw [m3 7]; simp
  refine x_aload_n i_CP_init_45 rfl ?_
  refine x_new i_CP_init_46 ?_
  refine x_dup i_CP_init_49 ?_
  rw [e7]
  generalize nO τ3 7 = τ4 at c4 n4 s4 x4
  refine x_ci0 i_CP_init_50 rfl rfl rfl ?_
  refine c_Run_init (by rw [c4 6, m3 6]; simp) (by rw [c4 13, m3 13]; simp) (by rw [c4 7, if_pos rfl]; omega) (by rw [c4 9, m3 9]; simp) (by rw [c4 1, m3 1]; simp) (by rw [c4 15, m3 15]; simp) (by rw [c4 16, m3 16]; simp) (fun τ5 o5 hr b6 b13 b9 b1 b15 b16 bk n5 s5 => ?_)
  have x5 : kpX (fun g x => 1003 ≤ g ∧ g ≤ 1005 ∧ x = 0) τ3 τ5 := x4.kp.tr2 o5.kp (fun f x w v => by obtain ⟨v, rfl⟩ := v; rw [v, e7] at w; exact absurd w (Nat.lt_irrefl _))
  have m5 : ∀ k, CN τ5 k = if k = 6 ∨ k = 13 then 16 else if k = 10 ∨ k = 18 ∨ k = 7 ∨ k = 9 ∨ k = 1 ∨ k = 15 ∨ k = 16 then 1 else 0 := by
    intro k
    by_cases w6 : k = 6
    · subst w6; simp [b6]
    · by_cases w13 : k = 13
      · subst w13; simp [b13]
      · by_cases w9 : k = 9
        · subst w9; simp [b9]
        · by_cases w1 : k = 1
          · subst w1; simp [b1]
          · by_cases w15 : k = 15
            · subst w15; simp [b15]
            · by_cases w16 : k = 16
              · subst w16; simp [b16]
              · rw [bk k w6 w13 w9 w1 w15 w16, c4 k]
                by_cases w7 : k = 7
                · subst w7; simp [e7]
                · rw [if_neg w7, m3 k]
                  simp [w6, w13, w9, w1, w15, w16, w7]
  have y6 : kpX (fun g x => 1003 ≤ g ∧ g ≤ 1005 ∧ x = 0) τ5 (sFR τ5 1003 0 (some 0)) := kpX_sFR ⟨by decide, by decide, rfl⟩
  have f6 : FR (sFR τ5 1003 0 (some 0)) 1003 0 = some 0 := by rw [FR_sFR, if_pos ⟨rfl, rfl⟩]
  have m6 : ∀ k, CN (sFR τ5 1003 0 (some 0)) k = if k = 6 ∨ k = 13 then 16 else if k = 10 ∨ k = 18 ∨ k = 7 ∨ k = 9 ∨ k = 1 ∨ k = 15 ∨ k = 16 then 1 else 0 := m5
  have n6 : nC (sFR τ5 1003 0 (some 0)) = nC τ5 := rfl
  have s6 : nS (sFR τ5 1003 0 (some 0)) = nS τ5 := rfl
  refine x_putO (c2 := 7) i_CP_init_53 rfl rfl ?_
  generalize sFR τ5 1003 0 (some 0) = τ6 at y6 f6 m6 n6 s6
  -- Last
  obtain ⟨c7, n7, s7⟩ := @nO_old τ6 2
  have x7 : newX τ6 (nO τ6 2) := newX_nO τ6 2
  have e2 : CN τ6 2 = 0 := by rw [m6 2]; simp
  refine x_aload_n i_CP_init_56 rfl ?_
  refine x_new i_CP_init_57 ?_
  refine x_dup i_CP_init_60 ?_
  rw [e2]
  generalize nO τ6 2 = τ7 at c7 n7 s7 x7
  refine x_ci0 i_CP_init_61 rfl rfl rfl ?_
  refine c_Last_init (by rw [c7 6, m6 6]; simp) (by rw [c7 13, m6 13]; simp) (by rw [c7 2, if_pos rfl]; omega) (fun τ8 o8 hl l6 l13 lk n8 s8 => ?_)
  have x8 : kpX (fun _ _ => False) τ6 τ8 := x7.kp.tr2 o8.kp (fun f x w v => by obtain ⟨v, rfl⟩ := v; rw [v, e2] at w; exact absurd w (Nat.lt_irrefl _))
  have m8 : ∀ k, CN τ8 k = if k = 6 ∨ k = 13 then 21 else if k = 10 ∨ k = 18 ∨ k = 7 ∨ k = 9 ∨ k = 1 ∨ k = 15 ∨ k = 16 ∨ k = 2 then 1 else 0 := by
    intro k
    by_cases w6 : k = 6
    · subst w6; simp [l6]
    · by_cases w13 : k = 13
      · subst w13; simp [l13]
      · rw [lk k w6 w13, c7 k]
        by_cases w2 : k = 2
        · subst w2; simp [e2]
        · rw [if_neg w2, m6 k]
          simp [w6, w13, w2]
  have y9 : kpX (fun g x => 1003 ≤ g ∧ g ≤ 1005 ∧ x = 0) τ8 (sFR τ8 1004 0 (some 0)) := kpX_sFR ⟨by decide, by decide, rfl⟩
  have f9 : FR (sFR τ8 1004 0 (some 0)) 1004 0 = some 0 := by rw [FR_sFR, if_pos ⟨rfl, rfl⟩]
  have f9' : FR (sFR τ8 1004 0 (some 0)) 1003 0 = FR τ8 1003 0 := by rw [FR_sFR, if_neg (by decide)]
  have m9 : ∀ k, CN (sFR τ8 1004 0 (some 0)) k = if k = 6 ∨ k = 13 then 21 else if k = 10 ∨ k = 18 ∨ k = 7 ∨ k = 9 ∨ k = 1 ∨ k = 15 ∨ k = 16 ∨ k = 2 then 1 else 0 := m8
  have n9 : nC (sFR τ8 1004 0 (some 0)) = nC τ8 := rfl
  have s9 : nS (sFR τ8 1004 0 (some 0)) = nS τ8 := rfl
  refine x_putO (c2 := 2) i_CP_init_64 rfl rfl ?_
  generalize sFR τ8 1004 0 (some 0) = τ9 at y9 f9 f9' m9 n9 s9
  -- Grammar
  obtain ⟨c10, n10, s10⟩ := @nO_old τ9 1
  have x10 : newX τ9 (nO τ9 1) := newX_nO τ9 1
  have e1 : CN τ9 1 = 1 := by rw [m9 1]; simp
  have e16 : CN (nO τ9 1) 16 = 1 := by rw [c10 16, m9 16]; simp
  have e15 : CN (nO τ9 1) 15 = 1 := by rw [c10 15, m9 15]; simp
  have e6 : CN (nO τ9 1) 6 = 21 := by rw [c10 6, m9 6]; simp
  have e13 : CN (nO τ9 1) 13 = 21 := by rw [c10 13, m9 13]; simp
  refine x_aload_n i_CP_init_67 rfl ?_
  refine x_new i_CP_init_68 ?_
  refine x_dup i_CP_init_71 ?_
  rw [e1]
  generalize nO τ9 1 = τ10 at c10 n10 s10 x10 e16 e15 e6 e13
  refine x_ci0 i_CP_init_72 rfl rfl rfl ?_
  refine c_G_init (g := 1) (by rw [c10 1, if_pos rfl]; omega) (fun τ11 o11 gi cn11 n11 s11 => ?_)
  rw [e16, e15, e6, e13] at gi
  have x11 : kpX (fun _ _ => False) τ9 τ11 := x10.kp.tr2 o11.kp (fun f x w v => by obtain ⟨v, rfl⟩ := v; rw [v, e1] at w; exact absurd w (Nat.lt_irrefl _))
  have m11 : ∀ k, CN τ11 k = if k = 6 ∨ k = 13 then 23 else if k = 1 ∨ k = 15 ∨ k = 16 then 2 else if k = 10 ∨ k = 18 ∨ k = 7 ∨ k = 9 ∨ k = 2 then 1 else 0 := by
    intro k
    rw [cn11 k, c10 k]
    by_cases w6 : k = 6
    · subst w6; simp [m9 6]
    · by_cases w13 : k = 13
      · subst w13; simp [m9 13]
      · by_cases w15 : k = 15
        · subst w15; simp [m9 15]
        · by_cases w16 : k = 16
          · subst w16; simp [m9 16]
          · by_cases w1 : k = 1
            · subst w1; simp [m9 1]
            · simp [w6, w13, w15, w16, w1, m9 k]
  have y12 : kpX (fun g x => 1003 ≤ g ∧ g ≤ 1005 ∧ x = 0) τ11 (sFR τ11 1005 0 (some 1)) := kpX_sFR ⟨by decide, by decide, rfl⟩
  have f12 : FR (sFR τ11 1005 0 (some 1)) 1005 0 = some 1 := by rw [FR_sFR, if_pos ⟨rfl, rfl⟩]
  have m12 : ∀ k, CN (sFR τ11 1005 0 (some 1)) k = if k = 6 ∨ k = 13 then 23 else if k = 1 ∨ k = 15 ∨ k = 16 then 2 else if k = 10 ∨ k = 18 ∨ k = 7 ∨ k = 9 ∨ k = 2 then 1 else 0 := m11
  have n12 : nC (sFR τ11 1005 0 (some 1)) = nC τ11 := rfl
  have s12 : nS (sFR τ11 1005 0 (some 1)) = nS τ11 := rfl
  have f12' : ∀ f, f ≠ 1005 → FR (sFR τ11 1005 0 (some 1)) f 0 = FR τ11 f 0 := fun f w => by rw [FR_sFR, if_neg (fun v => w v.1)]
  refine x_putO (c2 := 1) i_CP_init_75 rfl rfl ?_
  generalize sFR τ11 1005 0 (some 1) = τ12 at y12 f12 m12 n12 s12 f12'
  have z9 : kpX (fun g x => 1003 ≤ g ∧ g ≤ 1005 ∧ x = 0) τ9 τ12 := (x11.mono (fun _ _ _ v => v.elim)).tr2 y12 (fun _ _ _ v => v)
  have z8 : kpX (fun g x => 1003 ≤ g ∧ g ≤ 1005 ∧ x = 0) τ8 τ12 := y9.tr2 z9 (fun _ _ _ v => v)
  have z6 : kpX (fun g x => 1003 ≤ g ∧ g ≤ 1005 ∧ x = 0) τ6 τ12 := (x8.mono (fun _ _ _ v => v.elim)).tr2 z8 (fun _ _ _ v => v)
  have z5 : kpX (fun g x => 1003 ≤ g ∧ g ≤ 1005 ∧ x = 0) τ5 τ12 := y6.tr2 z6 (fun _ _ _ v => v)
  have z3 : kpX (fun g x => 1003 ≤ g ∧ g ≤ 1005 ∧ x = 0) τ3 τ12 := x5.tr2 z5 (fun _ _ _ v => v)
  have z0 : kpX (fun g x => g / 100 = 10 ∧ x = 0) σ τ12 := (a5.mono (P' := fun g x => g / 100 = 10 ∧ x = 0) (fun g x _ w => by omega)).tr2 z3 (fun g x _ v => by omega)
  have nr : ∀ r : Nat, ¬ (1003 ≤ 600 ∧ 600 ≤ 1005 ∧ r = 0) ∧ ¬ (1003 ≤ 601 ∧ 601 ≤ 1005 ∧ r = 0) := fun r => ⟨fun v => by omega, fun v => by omega⟩
  have hr12 : runI τ12 0 := hr.kp z5 (by rw [m5 6]; simp) (by rw [m5 13]; simp) (by rw [m5 7]; simp) (by rw [m5 9]; simp) (fun g v q => by omega) (fun g v q => by omega) nr
  have hl12 : lastC τ12 none := hl.kp z8 (by rw [m8 6]; simp) (by rw [m8 13]; simp) (by rw [m8 2]; simp) (fun g v q => by omega) nr
  have gi12 : giR τ12 1 1 1 21 21 := gi.kp y12 (by rw [m11 1]; simp) (by rw [m11 16]; simp) (by rw [m11 15]; simp) (by rw [m11 6]; simp) (by rw [m11 13]; simp) (fun g v q => by omega) nr
  have rk : ∀ i, i < 3 → FR τ12 (1000 + i) 0 = some (0 + i) ∧ rowF τ12 (0 + i) (0 + i) (if i < 2 then 240 else 20) 0 (fun _ => 0) := fun i hi => ⟨(z3.1 (1000 + i) 0 (by rw [show (1000 + i) / 100 = 10 by omega, m3 10]; simp) (fun q => by omega)).2.trans (a1 i hi).1, z3.row (a1 i hi).2 (by rw [m3 6]; simp; omega) (by rw [m3 13]; simp; omega) (fun q => by omega) (fun q => by omega)⟩
  have g3 : FR τ12 1003 0 = some 0 := by
    rw [f12' _ (by decide), (x11.1 1003 0 (by show 0 < CN τ9 10; rw [m9 10]; simp) (fun v => v)).2, f9', (x8.1 1003 0 (by show 0 < CN τ6 10; rw [m6 10]; simp) (fun v => v)).2]
    exact f6
  have g4 : FR τ12 1004 0 = some 0 := by
    rw [f12' _ (by decide), (x11.1 1004 0 (by show 0 < CN τ9 10; rw [m9 10]; simp) (fun v => v)).2]
    exact f9
  have k6' : cF 6 = 2 := rfl
  have k7' : cF 7 = 13 := rfl
  have k2' : cF 2 = 13 := rfl
  have k1' : cF 1 = 8 := rfl
  refine x_vret i_CP_init_78 rfl ?_
  refine kk τ12 z0.old ⟨⟨(rk 0 (by decide)).1, (rk 1 (by decide)).1, (rk 2 (by decide)).1, g3, g4, f12⟩, ⟨(rk 0 (by decide)).2, (rk 1 (by decide)).2, (rk 2 (by decide)).2⟩, hr12, hl12, gi12⟩ ⟨by rw [m12 6]; simp, by rw [m12 13]; simp, by rw [m12 1]; simp, by rw [m12 15]; simp, by rw [m12 16]; simp, by rw [m12 2]; simp, by rw [m12 7]; simp, by rw [m12 9]; simp, by rw [m12 10]; simp⟩ (by rw [m12 13]; simp) (by rw [m12 11]; simp) (by rw [m12 14]; simp) (by rw [m12 17]; simp) (by rw [m12 18]; simp) (by omega) (by omega)
end


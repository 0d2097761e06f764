/-! A RUN OF THE CLASS: through -/
def runI (σ : AS) (spent : Nat) : Prop := runR σ ∧ (∃ n f, rowF σ 3 3 1928 n f) ∧ (∃ f, rowF σ 4 4 1928 1928 f) ∧ (∃ f, rowF σ 5 5 1928 1928 f) ∧ (∃ N K tab H, TrS σ N K tab H) ∧ FI σ 708 0 = (spent : Int) ∧ spent ≤ 40000
/-- the tree that an answer gives -/
def treeE (r : RR) : Option TT := if 0 ≤ r.1 then r.2.1 else none
def sharpE (r : RR) : Bool := if r.1 < -5 then false else r.2.2.1
def ranR (σ : AS) (r : RR) : Prop := cntR σ r.2.2.2 ∧ (∃ N K tab H o, TrS σ N K tab H ∧ FI σ 706 0 = oI o ∧ oN N o ∧ o.map tab = treeE r) ∧ FI σ 712 0 = bI (sharpE r) ∧ (r.1 < -9 ∨ r.1 = -5 ∨ 0 ≤ r.1) ∧ runI σ r.2.2.2.1.2.1
theorem parseE_ruled (e : RE) (r p spent : Nat) : parseE e.2.1 (eZ e) e.2.2 r p spent = ruledE e 61 r p ((0, spent, 0), (-1, 0), fun _ => none) := rfl
section
variable {Q : AQ} {σ : AS}
theorem c_R_through {spent : Nat} (h : runI σ spent) {g b ov cap size : Nat} {inp : Nat → Int} {rules : Nat → PT 9} (hb : FR σ 100 g = some b) (hl : lawR σ b rules) (ho : rowF σ ov ov cap size inp) (ho3 : ov < 3) (hs : size ≤ 240) (hby : ∀ i, i < size → 0 ≤ inp i ∧ inp i ≤ 255) {r p : Nat} (hr : r < 8) (hd : dnR σ b r) (hp : p ≤ size)
    (kk : ∀ σ', tX runF runA (sFR (sFR σ 704 0 (some g)) 705 0 (some ov)) σ' → ranR σ' (parseE inp size rules r p spent) → Q (some (vi (parseE inp size rules r p spent).1)) σ') : wp 250 m_Run_through [vr 7 0, vr 1 g, vr 6 ov, vi (r : Nat), vi (p : Nat)] σ Q := by
  obtain ⟨⟨v1, v2, v3, v4⟩, ⟨n3, f3, m3⟩, ⟨f4, m4⟩, ⟨f5, m5⟩, ⟨N, K, tab, H, tr⟩, c2, bs⟩ := h
  refine x_in (ls := [some _, some _, some _, some _, some _, none]) rfl rfl ?_
  refine x_aload_n i_Run_through_0 rfl ?_
  refine x_aload_n i_Run_through_1 rfl ?_
  refine x_putO (c2 := 1) i_Run_through_2 rfl rfl ?_
  refine x_aload_n i_Run_through_5 rfl ?_
  refine x_aload_n i_Run_through_6 rfl ?_
  refine x_putO (c2 := 6) i_Run_through_7 rfl rfl ?_
  generalize hσ1 : sFR (sFR σ 704 0 (some g)) 705 0 (some ov) = σ1 at kk
  have w0 : FI σ1 = FI σ ∧ AI σ1 = AI σ ∧ AR σ1 = AR σ ∧ LN σ1 = LN σ := by rw [← hσ1]; exact ⟨rfl, rfl, rfl, rfl⟩
  have w1 : ∀ f a, f ≠ 704 → f ≠ 705 → FR σ1 f a = FR σ f a := by
    intro f a p q
    rw [← hσ1, FR_sFR, if_neg (fun w => q w.1), FR_sFR, if_neg (fun w => p w.1)]
  have w2 : FR σ1 704 0 = some g := by rw [← hσ1]; simp [FR_sFR]
  have w3 : FR σ1 705 0 = some ov := by rw [← hσ1]; simp [FR_sFR]
  have l1 : lawR σ1 b rules := by
    obtain ⟨l1, l2⟩ := hl
    have e : dnR σ1 b = dnR σ b := by unfold dnR; rw [w0.2.2.1]
    refine ⟨by rw [w0.2.2.2]; exact l1, fun r hr hn => ?_⟩
    rw [w0.2.2.1] at hn ⊢
    rw [e]
    exact (l2 r hr hn).keep (fun f a _ => by rw [w0.1]) (fun f a hf => w1 f a (by omega) (by omega))
  have rk : ∀ {r c cap n : Nat} {f : Nat → Int}, rowF σ r c cap n f → rowF σ1 r c cap n f := by
    intro r c cap n f ⟨a1, a2, a3, a4, a5, a6⟩
    exact ⟨by rw [w1 _ _ (by decide) (by decide)]; exact a1, by rw [w0.1]; exact a2, by rw [w0.2.2.2]; exact a3, a4, a5, fun k hk => by rw [w0.2.1]; exact a6 k hk⟩
  have tr1 : TrS σ1 N K tab H := by
    obtain ⟨so, nu, fk, sz, va, ki, he, ⟨q0, q1, q2, q3, q4, q5, q6⟩, r1, r2, r3, r4, r5, r6, r7, z⟩ := tr
    exact ⟨so, nu, fk, sz, va, ki, he, ⟨by rw [w1 _ _ (by decide) (by decide)]; exact q0, by rw [w1 _ _ (by decide) (by decide)]; exact q1, by rw [w1 _ _ (by decide) (by decide)]; exact q2, by rw [w1 _ _ (by decide) (by decide)]; exact q3, by rw [w1 _ _ (by decide) (by decide)]; exact q4, by rw [w1 _ _ (by decide) (by decide)]; exact q5, by rw [w1 _ _ (by decide) (by decide)]; exact q6⟩, rk r1, rk r2, rk r3, rk r4, rk r5, rk r6, rk r7, z⟩
  have m3 := rk m3
  have m4 := rk m4
  have m5 := rk m5
  have ho := rk ho
  have v1 : FR σ1 700 0 = some 3 := by rw [w1 _ _ (by decide) (by decide)]; exact v1
  have v2 : FR σ1 701 0 = some 4 := by rw [w1 _ _ (by decide) (by decide)]; exact v2
  have v3 : FR σ1 702 0 = some 5 := by rw [w1 _ _ (by decide) (by decide)]; exact v3
  have v4 : FR σ1 703 0 = some 0 := by rw [w1 _ _ (by decide) (by decide)]; exact v4
  have hb : FR σ1 100 g = some b := by rw [w1 _ _ (by decide) (by decide)]; exact hb
  have hd : dnR σ1 b r := by unfold dnR; rw [w0.2.2.1]; exact hd
  have c2 : FI σ1 708 0 = (spent : Int) := by rw [w0.1]; exact c2
  clear hσ1 w0 w1
  refine x_aload_n i_Run_through_10 rfl ?_
  refine x_iconst i_Run_through_11 ?_
  refine x_putI i_Run_through_12 rfl rfl ?_
  refine x_aload_n i_Run_through_15 rfl ?_
  refine x_iconst i_Run_through_16 ?_
  refine x_putI i_Run_through_17 rfl rfl ?_
  refine x_aload_n i_Run_through_20 rfl ?_
  refine x_iconst i_Run_through_21 ?_
  refine x_putI i_Run_through_22 rfl rfl ?_
  refine x_aload_n i_Run_through_25 rfl ?_
  refine x_iconst i_Run_through_26 ?_
  refine x_putI i_Run_through_27 rfl rfl ?_
  generalize hσ2 : sFI (sFI (sFI (sFI σ1 707 0 0) 709 0 0) 710 0 (-1)) 711 0 0 = σ2
  have x2 : rnX σ1 σ2 := by rw [← hσ2]; exact (((rnX_sFI (by omega) (by omega)).tr (rnX_sFI (by omega) (by omega))).tr (rnX_sFI (by omega) (by omega))).tr (rnX_sFI (by omega) (by omega))
  have y1 : FI σ2 707 0 = 0 := by rw [← hσ2]; simp [FI_sFI]
  have y2 : FI σ2 708 0 = (spent : Int) := by rw [← hσ2]; simp [FI_sFI, c2]
  have y3 : FI σ2 709 0 = 0 := by rw [← hσ2]; simp [FI_sFI]
  have y4 : FI σ2 710 0 = -1 := by rw [← hσ2]; simp [FI_sFI]
  have y5 : FI σ2 711 0 = 0 := by rw [← hσ2]; simp [FI_sFI]
  clear hσ2
  have k1 : ∀ r, ¬ rnF 601 r := fun r q => by have := q.1; omega
  have r2 := x2.2.1
  rw [← r2] at v1 v2 v3 v4 w2 w3 hb
  refine x_aload_n i_Run_through_30 rfl ?_
  refine x_getR (c2 := 6) i_Run_through_31 rfl rfl (by assumption) ?_
  refine x_sipush i_Run_through_34 ?_
  refine x_bipush i_Run_through_37 ?_
  refine x_cv2 i_Run_through_39 rfl rfl rfl ?_
  refine c_Row_fill (j := 1928) (x2.row m3 (k1 _) (fun q => q)) rfl (Nat.le_refl _) (fun σ3 g3 x3 => ?_)
  have t3 : tX (fun f a => f = 601 ∧ a = 3) (fun a => a = 3) σ2 σ3 := x3.tx ⟨rfl, rfl⟩ rfl
  have r3 := t3.2.1
  rw [← r3] at v1 v2 v3 v4 w2 w3 hb
  have f3' : ∀ f, f ≠ 601 → FI σ3 f 0 = FI σ2 f 0 := fun f q => t3.1 _ _ (fun w => q w.1)
  have tr3 : TrS σ3 N K tab H := (tr1.keep x2 (fun r _ _ => k1 r) (fun r _ _ q => q)).keep t3 (fun r _ _ q => by have := q.2; omega) (fun r _ _ q => by have : r = 3 := q; omega)
  refine x_aload_n i_Run_through_42 rfl ?_
  refine x_getR (c2 := 9) i_Run_through_43 rfl rfl (by assumption) ?_
  refine x_cv0 i_Run_through_46 rfl rfl rfl ?_
  refine c_T_clear tr3 (fun σ4 tab4 tr4 x4 => ?_)
  have f4' : ∀ f, f ≠ 601 → FI σ4 f 0 = FI σ3 f 0 := fun f q => x4.1 _ _ (fun w => q w.1)
  have r4 := x4.2.1
  have x14 : runX σ1 σ4 := (x2.run.tr (t3.mono (fun f a q => Or.inr ⟨q.1, by rw [q.2]; decide, by rw [q.2]; decide⟩) (fun a q => by rw [show a = 3 from q]; exact ⟨by decide, by decide⟩))).tr x4.run
  have k6 : ∀ r, r < 6 → ¬ trF 601 r := fun r hr q => by have := q.2.1; omega
  have k7 : ∀ r, r < 6 → ¬ trA r := fun r hr q => by have := q.1; omega
  have hov1 : ¬ runF 601 ov := fun q => by rcases q with q | q <;> have := q.2 <;> omega
  have hov2 : ¬ runA ov := fun q => by have := q.1; omega
  have S0 : RS σ4 ((g, b, ov, cap, size), inp, rules) ((0, spent, 0), (-1, 0), fun _ => none) 257 0 tab4 [] := by
    refine ⟨⟨⟨by rw [r4]; exact v1, by rw [r4]; exact v2, by rw [r4]; exact v3, by rw [r4]; exact v4⟩, by rw [r4]; exact w2, by rw [r4]; exact hb, by rw [r4]; exact w3, l1.keep x14 (fun f a hf q => by rcases q with q | q <;> have := q.1 <;> omega), x14.row ho hov1 hov2, ho3, hs, hby⟩, tr4, ⟨by rw [f4' _ (by decide), f3' _ (by decide)]; exact y1, by rw [f4' _ (by decide), f3' _ (by decide)]; exact y2, by rw [f4' _ (by decide), f3' _ (by decide)]; exact y3, by rw [f4' _ (by decide), f3' _ (by decide)]; exact y4, by rw [f4' _ (by decide), f3' _ (by decide)]; exact y5⟩, ⟨Nat.zero_le _, bs, Nat.le_refl _, Nat.le_refl _, Nat.le_refl _, Nat.le_refl _⟩, ⟨Int.le_refl _, by show (-1 : Int) ≤ 240; decide, fun _ => rfl⟩, (fun _ => -8), f4, f5, ?_, ?_, ?_, fun k hk => rfl⟩
    · exact x4.row g3 (k6 _ (by omega)) (k7 _ (by omega))
    · exact x4.row (t3.row (x2.row m4 (k1 _) (fun q => q)) (fun q => by have := q.2; omega) (fun q => by have : 4 = 3 := q; omega)) (k6 _ (by omega)) (k7 _ (by omega))
    · exact x4.row (t3.row (x2.row m5 (k1 _) (fun q => q)) (fun q => by have := q.2; omega) (fun q => by have : 5 = 3 := q; omega)) (k6 _ (by omega)) (k7 _ (by omega))
  refine x_aload_n i_Run_through_49 rfl ?_
  refine x_iload_n i_Run_through_50 rfl ?_
  refine x_iload i_Run_through_51 rfl ?_
  refine x_iconst i_Run_through_53 ?_
  refine x_cv3 i_Run_through_54 rfl rfl rfl ?_
  refine c_R_ruled (d := 246) (dep := 0) (altC_all _ 61 0 9 rfl (by decide)) S0 hr (by unfold dnR; rw [x14.2.2.2.1]; exact hd) hp ?_
  intro σ5 N5 K5 tab5 H5 ho5
  rw [show ruledE ((g, b, ov, cap, size), inp, rules) 61 r p ((0, spent, 0), (-1, 0), fun _ => none) = parseE inp size rules r p spent from rfl] at ho5 ⊢
  generalize parseE inp size rules r p spent = q at ho5 kk ⊢
  obtain ⟨u1, u2, u3, u4, u5, u6, u7, u8, u9⟩ := ho5
  have x15 := x14.tr u2
  have ran : ∀ σ6, tsX σ5 σ6 → FI σ6 712 0 = bI (sharpE q) → (∃ o, FI σ6 706 0 = oI o ∧ oN N5 o ∧ o.map tab5 = treeE q) → ranR σ6 q := by
    intro σ6 x6 s1 s2
    obtain ⟨o, s3, s4, s5⟩ := s2
    have u1' := u1.set x6
    obtain ⟨⟨a0, -⟩, a1, a2, a3, a4, ma, mt, ms, a5, a6, a7, -⟩ := u1'
    exact ⟨a2, ⟨N5, K5, tab5, H5, o, a1, s3, s4, s5⟩, s1, u9, a0, ⟨_, _, a5⟩, ⟨_, a6⟩, ⟨_, a7⟩, ⟨_, _, _, _, a1⟩, a2.2.1, a3.2.1⟩
  have tail : ∀ σ6, tsX σ5 σ6 → (∃ o, FI σ6 706 0 = oI o ∧ oN N5 o ∧ o.map tab5 = treeE q) → FI σ6 712 0 = FI σ5 712 0 → Ex (wp 249) m_Run_through Q 69 [some (vr 7 0), some (vr 1 g), some (vr 6 ov), some (vi (r : Nat)), some (vi (p : Nat)), some (vi q.1)] [] σ6 := by
    intro σ6 x6 s2 s1
    refine x_iload i_Run_through_69 rfl ?_
    refine x_bipush i_Run_through_71 ?_
    refine x_icmp_ge i_Run_through_73 (fun h1 => ?_) (fun h1 => ?_)
    · obtain ⟨-, -, t3, -⟩ := u7 h1
      refine x_iload i_Run_through_81 rfl ?_
      refine x_iret i_Run_through_83 rfl ?_
      exact kk σ6 (x15.tr x6.run) (ran σ6 x6 (by rw [s1, t3, sharpE, if_neg (by omega)]) s2)
    · refine x_aload_n i_Run_through_76 rfl ?_
      refine x_iconst i_Run_through_77 ?_
      refine x_putZ i_Run_through_78 rfl rfl (by omega) ?_
      refine x_iload i_Run_through_81 rfl ?_
      have x7 : tsX σ6 (sFI σ6 712 0 0) := tX_sFI ⟨Or.inr rfl, rfl⟩
      refine x_iret i_Run_through_83 rfl ?_
      exact kk _ (x15.tr (x6.run.tr x7.run)) (ran _ (x6.tr x7) (by rw [sharpE, if_pos (by omega)]; simp [FI_sFI, bI]) (by simp only [FI_sFI]; exact s2))
  refine x_istore (ls' := [_, _, _, _, _, _]) i_Run_through_57 rfl rfl ?_
  refine x_iload i_Run_through_59 rfl ?_
  refine x_if_ge i_Run_through_61 (fun h0 => ?_) (fun h0 => ?_)
  · obtain ⟨-, o, t1, t2, t3⟩ := u8 h0
    exact tail σ5 (tX.rf _ _ _) ⟨o, t1, t2, by rw [t3, treeE, if_pos h0]⟩ rfl
  · refine x_aload_n i_Run_through_64 rfl ?_
    refine x_iconst i_Run_through_65 ?_
    refine x_putI i_Run_through_66 rfl rfl ?_
    exact tail _ (tX_sFI ⟨Or.inl rfl, rfl⟩) ⟨none, by simp [FI_sFI, oI], fun i hi => (by cases hi), by rw [treeE, if_neg (by omega)]; rfl⟩ (by simp [FI_sFI])
end


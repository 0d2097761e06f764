/-! THE CLASS's Last: keep -/
def kpF (f a : Nat) : Prop := 200 ≤ f ∧ f ≤ 212 ∧ a = 0
theorem kpX_la {σ σ' : AS} (h : tX kpF noA σ σ') : tX laCF laCA σ σ' := h.mono (fun _ _ q => Or.inl q) (fun _ q => q.elim)
section
variable {d : Nat} {Q : AQ} {σ : AS}
theorem c_L_keep {o : Option RR} (h : lastC σ o) {r : RR} (hr : ranR σ r) (kk : ∀ σ', tX laCF laCA σ σ' → lastC σ' (some r) → Q none σ') : wp (d + 5) m_Last_keep [vr 2 0, vr 7 0] σ Q := by
  obtain ⟨pp, ⟨n1, f1, a2⟩, ⟨n2, f2, a3⟩, ⟨n3, f3, a4⟩, ⟨L4, a5⟩, ⟨L5, a6⟩, -⟩ := id h
  obtain ⟨⟨c1, c2, c3, c4, c5⟩, ⟨N, K, tab, H, ot, ht, g1, g2, g3⟩, g4, -, ⟨⟨v1, v2, v3, v4⟩, -⟩⟩ := id hr
  refine x_in (ls := [some _, some _]) rfl rfl ?_
  refine x_aload_n i_Last_keep_0 rfl ?_
  refine x_iconst i_Last_keep_1 ?_
  refine x_putZ i_Last_keep_2 rfl rfl (by omega) ?_
  refine x_aload_n i_Last_keep_5 rfl ?_
  refine x_aload_n i_Last_keep_6 rfl ?_
  refine x_getI i_Last_keep_7 rfl rfl ?_
  refine x_putI i_Last_keep_10 rfl rfl ?_
  refine x_aload_n i_Last_keep_13 rfl ?_
  refine x_aload_n i_Last_keep_14 rfl ?_
  refine x_getI i_Last_keep_15 rfl rfl ?_
  refine x_putI i_Last_keep_18 rfl rfl ?_
  refine x_aload_n i_Last_keep_21 rfl ?_
  refine x_aload_n i_Last_keep_22 rfl ?_
  refine x_getI i_Last_keep_23 rfl rfl ?_
  refine x_putI i_Last_keep_26 rfl rfl ?_
  refine x_aload_n i_Last_keep_29 rfl ?_
  refine x_aload_n i_Last_keep_30 rfl ?_
  refine x_getI i_Last_keep_31 rfl rfl ?_
  refine x_putI i_Last_keep_34 rfl rfl ?_
  refine x_aload_n i_Last_keep_37 rfl ?_
  refine x_aload_n i_Last_keep_38 rfl ?_
  refine x_getI i_Last_keep_39 rfl rfl ?_
  have e4 : FI (sFI (sFI (sFI (sFI (sFI σ 200 0 1) 201 0 (FI σ 710 0)) 202 0 (FI σ 711 0)) 203 0 (FI σ 707 0)) 204 0 (FI σ 709 0)) 712 0 = bI (sharpE r) := by simp [FI_sFI, g4]
  have e1 : FI (sFI σ 200 0 1) 710 0 = FI σ 710 0 := by simp [FI_sFI]
  have e2 : FI (sFI (sFI σ 200 0 1) 201 0 (FI σ 710 0)) 711 0 = FI σ 711 0 := by simp [FI_sFI]
  have e3 : FI (sFI (sFI (sFI σ 200 0 1) 201 0 (FI σ 710 0)) 202 0 (FI σ 711 0)) 707 0 = FI σ 707 0 := by simp [FI_sFI]
  have e5 : FI (sFI (sFI (sFI (sFI σ 200 0 1) 201 0 (FI σ 710 0)) 202 0 (FI σ 711 0)) 203 0 (FI σ 707 0)) 709 0 = FI σ 709 0 := by simp [FI_sFI]
  rw [e1, e2, e3, e5, e4]
  have hb := bI_01 (sharpE r)
  refine x_putZ i_Last_keep_42 rfl rfl (by omega) ?_
  generalize hσ1 : sFI (sFI (sFI (sFI (sFI (sFI σ 200 0 1) 201 0 (FI σ 710 0)) 202 0 (FI σ 711 0)) 203 0 (FI σ 707 0)) 204 0 (FI σ 709 0)) 206 0 (bI (sharpE r)) = σ1
  have lf : ∀ {s : AS} {f : Nat} {v : Int}, 200 ≤ f → f ≤ 212 → tX kpF noA s (sFI s f 0 v) := fun w1 w2 => tX_sFI ⟨w1, w2, rfl⟩
  have x1 : tX kpF noA σ σ1 := by rw [← hσ1]; exact (((((lf (by decide) (by decide)).tr (lf (by decide) (by decide))).tr (lf (by decide) (by decide))).tr (lf (by decide) (by decide))).tr (lf (by decide) (by decide))).tr (lf (by decide) (by decide))
  have w0 : FI σ1 200 0 = 1 := by rw [← hσ1]; simp [FI_sFI]
  have w1 : FI σ1 201 0 = r.2.2.2.2.1.1 := by rw [← hσ1]; simp [FI_sFI, c4]
  have w2 : FI σ1 202 0 = r.2.2.2.2.1.2 := by rw [← hσ1]; simp [FI_sFI, c5]
  have w3 : FI σ1 203 0 = (r.2.2.2.1.1 : Int) := by rw [← hσ1]; simp [FI_sFI, c1]
  have w4 : FI σ1 204 0 = (r.2.2.2.1.2.2 : Int) := by rw [← hσ1]; simp [FI_sFI, c3]
  have w6 : FI σ1 206 0 = bI (sharpE r) := by rw [← hσ1]; simp [FI_sFI]
  clear hσ1 e1 e2 e3 e4 e5
  have lat : ∀ {s s' : AS}, tX kpF noA s s' → TrS s N K tab H → TrS s' N K tab H := fun x h => h.keep x (fun r w1 w2 q => by have := q.2.1; omega) (fun r w1 w2 q => q)
  have ht1 := lat x1 ht
  have hfr : FR σ1 703 0 = some 0 := by rw [x1.2.1]; exact v4
  have htr : FI σ1 706 0 = oI ot := by rw [x1.1 _ _ (fun q => by have := q.2.1; omega)]; exact g1
  have rest : ∀ v : Int, v = worthO (treeE r) → Ex (wp (d + 4)) m_Last_keep Q 57 [some (vr 2 0), some (vr 7 0)] [vi v, vr 2 0] σ1 := by
    intro v hv
    refine x_putI i_Last_keep_57 rfl rfl ?_
    refine x_aload_n i_Last_keep_60 rfl ?_
    refine x_iconst i_Last_keep_61 ?_
    refine x_putZ i_Last_keep_62 rfl rfl (by omega) ?_
    generalize hσ2 : sFI (sFI σ1 205 0 v) 212 0 0 = σ2
    have x2 : tX kpF noA σ1 σ2 := by rw [← hσ2]; exact (lf (by decide) (by decide)).tr (lf (by decide) (by decide))
    have u : ∀ f a, f ≠ 205 → f ≠ 212 → FI σ2 f a = FI σ1 f a := by intro f a q1 q2; rw [← hσ2, FI_sFI, if_neg (fun w => q2 w.1), FI_sFI, if_neg (fun w => q1 w.1)]
    have u5 : FI σ2 205 0 = v := by rw [← hσ2]; simp [FI_sFI]
    have u12 : FI σ2 212 0 = 0 := by rw [← hσ2]; simp [FI_sFI]
    clear hσ2
    have x12 := x1.tr x2
    have ht2 := lat x2 ht1
    have pp2 : lsR σ2 := pp.fr x12.2.1
    obtain ⟨p1, p2, p3, p4, p5⟩ := id pp2
    have hfr : FR σ2 703 0 = some 0 := by rw [x12.2.1]; exact v4
    have k16 : ∀ {r cap n : Nat} {f : Nat → Int}, rowF σ r r cap n f → rowF σ2 r r cap n f := fun h => x12.row h (fun q => by have := q.2.1; omega) (fun q => q)
    refine x_aload_n i_Last_keep_65 rfl ?_
    refine x_aload_n i_Last_keep_66 rfl ?_
    refine x_getR (c2 := 9) i_Last_keep_67 rfl rfl (by assumption) ?_
    refine x_aload_n i_Last_keep_70 rfl ?_
    refine x_getI i_Last_keep_71 rfl rfl ?_
    rw [u _ _ (by decide) (by decide), htr]
    refine x_cv2 i_Last_keep_74 rfl rfl rfl ?_
    refine c_L_list pp2 ht2 (k16 a2) (k16 a3) (k16 a4) g2 (l := flatO (treeE r)) (by rw [← g3]; cases ot <;> rfl) (fun σ3 x3 y1 y2 y3 => ?_)
    have f3 : ∀ f, f < 600 → FI σ3 f 0 = FI σ2 f 0 := fun f hf => x3.1 _ _ (fun q => by have := q.1; omega)
    have gd : goodO (treeE r) := by
      intro t htt
      rw [← g3] at htt
      cases ot with
      | none => cases htt
      | some i =>
        simp only [Option.map_some, Option.some.injEq] at htt
        have hi := g2 i rfl
        obtain ⟨so, nu, fk, sz, va, ki, he, q, r1, r2, r3, r4, r5, r6, r7, z1, z2, z3⟩ := id ht
        rw [← htt]
        exact ⟨ht.good N i hi hi, (z1 i hi).2.2.2⟩
    refine x_vret i_Last_keep_77 rfl ?_
    refine kk σ3 ((kpX_la x12).tr (lsX_la x3)) ⟨pp2.fr x3.2.1, ⟨_, _, y1⟩, ⟨_, _, y2⟩, ⟨_, _, y3⟩, ⟨L4, x3.row (k16 a5) (fun q => by have := q.2.2; omega) (fun q => by have := q.2; omega)⟩, ⟨L5, x3.row (k16 a6) (fun q => by have := q.2.2; omega) (fun q => by have := q.2; omega)⟩, by rw [f3 _ (by decide), u _ _ (by decide) (by decide)]; exact w0, by rw [f3 _ (by decide), u _ _ (by decide) (by decide)]; exact w1, by rw [f3 _ (by decide), u _ _ (by decide) (by decide)]; exact w2, by rw [f3 _ (by decide), u _ _ (by decide) (by decide)]; exact w3, by rw [f3 _ (by decide), u _ _ (by decide) (by decide)]; exact w4, by rw [f3 _ (by decide), u _ _ (by decide) (by decide)]; exact w6, by rw [f3 _ (by decide), u5]; exact hv, gd, y1, y2, y3, Or.inl (by rw [f3 _ (by decide)]; exact u12)⟩
  refine x_aload_n i_Last_keep_45 rfl ?_
  refine x_aload_n i_Last_keep_46 rfl ?_
  refine x_getR (c2 := 9) i_Last_keep_47 rfl rfl (by assumption) ?_
  refine x_aload_n i_Last_keep_50 rfl ?_
  refine x_getI i_Last_keep_51 rfl rfl ?_
  rw [htr]
  cases ot with
  | none =>
    refine x_cv1 i_Last_keep_54 rfl rfl rfl ?_
    refine c_T_valueOfN ?_
    exact rest 0 (by rw [← g3]; rfl)
  | some i =>
    refine x_cv1 i_Last_keep_54 rfl rfl rfl ?_
    refine c_T_valueOf ht1 (g2 i rfl) ?_
    exact rest _ (by rw [← g3]; rfl)
end


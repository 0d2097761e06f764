/-! THE CLASS's grammar() -/
def doGrammar (S : SS) : Int × SS := match readE S.1.1 with
  | .inl p => (-100 - (p : Int), (((0, S.1.1.2), S.1.2), S.2))
  | .inr x => ((cnR x.1 : Int), (((0, S.1.1.2), S.1.2), (x.1, x.2, nulG x.1, slfG x.1), S.2.2.1, none))
theorem clS.gram {σ : AS} {S : SS} (h : clS σ S) {g : Nat} {G : GG} {b fa ra ca rq cq : Nat} (hg : grmC σ g G b fa ra ca rq cq) : clS (sFR σ 1005 0 (some g)) (S.1, G, S.2.2) := by
  obtain ⟨t, b', g', bo', fa', ra', ca', rq', cq', htb, f0, f1, f2, f3, f4, f5, o1, o2, r0, r1, ⟨n2, g2, r2⟩, -, hr, hl, k1, k2⟩ := h
  have fr : ∀ f a, f ≠ 1005 → FR (sFR σ 1005 0 (some g)) f a = FR σ f a := fun f a w => by rw [FR_sFR, if_neg (fun q => w q.1)]
  have rk : ∀ {r c cap n : Nat} {f : Nat → Int}, rowF σ r c cap n f → rowF (sFR σ 1005 0 (some g)) r c cap n f := fun h => ⟨by rw [fr _ _ (by decide)]; exact h.1, h.2⟩
  refine ⟨t, b', g, b, fa, ra, ca, rq, cq, htb, by rw [fr _ _ (by decide)]; exact f0, by rw [fr _ _ (by decide)]; exact f1, by rw [fr _ _ (by decide)]; exact f2, by rw [fr _ _ (by decide)]; exact f3, by rw [fr _ _ (by decide)]; exact f4, by rw [FR_sFR, if_pos ⟨rfl, rfl⟩], o1, o2, rk r0, rk r1, ⟨n2, g2, rk r2⟩, hg.keep ⟨fun f a w _ => ⟨rfl, fr _ _ (by omega)⟩, fun _ _ => Nat.le_refl _⟩ (fun f a w1 w2 _ => ⟨rfl, fr _ _ (by omega)⟩) (fun a _ _ => ⟨rfl, fr _ _ (by decide)⟩) (fun _ _ _ _ => ⟨rfl, rfl⟩) (fun _ _ _ => ⟨rfl, rfl⟩) (fun _ => Nat.le_refl _), ?_, ?_, k1, k2⟩
  · obtain ⟨⟨v1, v2, v3, v4⟩, ⟨n3, f3, m3⟩, ⟨f4, m4⟩, ⟨f5, m5⟩, ⟨N, K, tab, H, tr⟩, c2, bs⟩ := hr
    obtain ⟨so, nu, fk, sz, va, ki, he, ⟨q0, q1, q2, q3, q4, q5, q6⟩, t1, t2, t3, t4, t5, t6, t7, z⟩ := tr
    exact ⟨⟨by rw [fr _ _ (by decide)]; exact v1, by rw [fr _ _ (by decide)]; exact v2, by rw [fr _ _ (by decide)]; exact v3, by rw [fr _ _ (by decide)]; exact v4⟩, ⟨n3, f3, rk m3⟩, ⟨_, rk m4⟩, ⟨_, rk m5⟩, ⟨N, K, tab, H, so, nu, fk, sz, va, ki, he, ⟨by rw [fr _ _ (by decide)]; exact q0, by rw [fr _ _ (by decide)]; exact q1, by rw [fr _ _ (by decide)]; exact q2, by rw [fr _ _ (by decide)]; exact q3, by rw [fr _ _ (by decide)]; exact q4, by rw [fr _ _ (by decide)]; exact q5, by rw [fr _ _ (by decide)]; exact q6⟩, rk t1, rk t2, rk t3, rk t4, rk t5, rk t6, rk t7, z⟩, c2, bs⟩
  · obtain ⟨⟨p1, p2, p3, p4, p5⟩, ⟨n1, f1, a2⟩, ⟨n2, f2, a3⟩, ⟨n3, f3, a4⟩, ⟨L4, a5⟩, ⟨L5, a6⟩, a7⟩ := hl
    refine ⟨⟨by rw [fr _ _ (by decide)]; exact p1, by rw [fr _ _ (by decide)]; exact p2, by rw [fr _ _ (by decide)]; exact p3, by rw [fr _ _ (by decide)]; exact p4, by rw [fr _ _ (by decide)]; exact p5⟩, ⟨n1, f1, rk a2⟩, ⟨n2, f2, rk a3⟩, ⟨n3, f3, rk a4⟩, ⟨L4, rk a5⟩, ⟨L5, rk a6⟩, ?_⟩
    show (match S.2.2.2 with | none => FI (sFR σ 1005 0 (some g)) 200 0 = 0 | some r => FI (sFR σ 1005 0 (some g)) 200 0 = 1 ∧ lasC (sFR σ 1005 0 (some g)) r)
    revert a7
    cases S.2.2.2 with
    | none => exact id
    | some r => exact fun ⟨c0, c1, c2, c3, c4, c5, c6, c7, c8, c9, c10, c11⟩ => ⟨c0, c1, c2, c3, c4, c5, c6, c7, rk c8, rk c9, rk c10, c11.imp id (fun w => ⟨w.1, rk w.2⟩)⟩
/-- what the rest is told of a call of the class -/
def caX (σ σ' : AS) : Prop := (∀ S, moS σ S → moS σ' S) ∧ (∀ k, CN σ k ≤ CN σ' k) ∧ AI σ' 18 0 = AI σ 18 0 ∧ LN σ' 18 0 = LN σ 18 0
section
variable {d : Nat} {Q : AQ} {σ : AS} {S : SS}
theorem c_CP_grammar (h : clS σ S) (ho : occ σ) (kk : ∀ σ', caX σ σ' → clS σ' (doGrammar S).2 → (okG S.2.1 → okG (doGrammar S).2.2.1) → nC σ' ≤ nC σ + 1024 → nS σ' ≤ nS σ + 8192 → Q (some (vi (doGrammar S).1)) σ') : wp (d + 90) m_CP_grammar [vr 10 0] σ Q := by
  obtain ⟨t, b, g, bo, fa, ra, ca, rq, cq, htb, f0, f1, f2, f3, f4, f5, o1, o2, r0, r1, ⟨n2, g2, r2⟩, hg, hr, hl, k1, k2⟩ := id h
  have e0 : FR (nO σ 5) 1000 0 = some t := by rw [FR_nO, if_neg (by omega)]; exact f0
  have hC : newC (rdC σ t) σ := ⟨Nat.le_refl _, Nat.le_refl _, Nat.le_refl _, Nat.le_refl _, Nat.le_refl _, Nat.le_refl _, Nat.le_succ _, Nat.le_succ _, Nat.le_add_right _ _, Nat.le_add_right _ _⟩
  refine x_in (ls := [some _, none, none]) rfl rfl ?_
  refine x_new i_CP_grammar_0 ?_
  refine x_dup i_CP_grammar_3 ?_
  refine x_aload_n i_CP_grammar_4 rfl ?_
  refine x_getR (c2 := 6) i_CP_grammar_5 rfl rfl (by assumption) ?_
  refine x_ci1 i_CP_grammar_8 rfl rfl rfl ?_
  refine c_Rd_init (sg := t) (t := S.1.1) (by omega) o1 r0 (by omega) k2 (fun σ1 X1 h1 hG1 m1 s1 => ?_)
  refine x_astore_n (ls' := [_, _, _]) i_CP_grammar_11 rfl rfl ?_
  refine x_aload_n i_CP_grammar_12 rfl ?_
  have red := @c_Rd_read (d + 7) (fun r u => r = some (vr 1 (rdC σ t 1)) ∧ redPost (rdC σ t) S.1.1 σ σ1 u) σ1 (rdC σ t) S.1.1 σ hC X1 h1 hG1 (fun σ' p => ⟨rfl, p⟩)
  refine x_cv0 i_CP_grammar_13 rfl rfl rfl ?_
  refine red.mono ?_
  rintro r σ2 ⟨rfl, X2, p2, m2, s2⟩
  have h2 := h.keepN X2 ho
  have ho2 := ho.mono X2.2.2.2
  have hmo : ∀ S', moS σ S' → moS σ2 S' := fun S' w => w.keepN X2 ho k2
  have o18 : 1 ≤ CN σ 18 := ho.2.2.2.2.2.2.2
  have sc2 : AI σ2 18 0 = AI σ 18 0 ∧ LN σ2 18 0 = LN σ 18 0 := ⟨funext fun j => (X2.2.1 18 0 j o18).1, X2.2.2.1 18 0 o18⟩
  have g0 : FR σ2 1000 0 = some t := by rw [(X2.f0 ho (by decide)).2]; exact f0
  have r02 : rowF σ2 t t 240 S.1.1.1 S.1.1.2 := X2.row r0 (by omega) (by omega)
  refine x_astore_n (ls' := [_, _, _]) i_CP_grammar_16 rfl rfl ?_
  refine x_aload_n i_CP_grammar_17 rfl ?_
  refine x_getR (c2 := 6) i_CP_grammar_18 rfl rfl (by assumption) ?_
  refine x_iconst i_CP_grammar_21 ?_
  refine x_cv1 i_CP_grammar_22 rfl rfl rfl ?_
  refine c_shrink r02 (j := 0) rfl (Nat.zero_le _) (fun σ3 y3 x3 => ?_)
  have x3t : tX (tpF t) (fun a => a = t) σ2 σ3 := x3.tx ⟨rfl, rfl⟩ rfl
  have g1 : FR σ2 1001 0 = some b := by rw [(X2.f0 ho (by decide)).2]; exact f1
  have hs3 : clS σ3 (((0, S.1.1.2), S.1.2), S.2) := h2.tape (T' := (0, S.1.1.2)) htb g0 g1 x3t (y3.eq (fun k hk => absurd hk (Nat.not_lt_zero _))) ⟨Nat.zero_le _, fun i hi => absurd hi (Nat.not_lt_zero _)⟩
  have cl3 : clX σ2 σ3 := tpX_cl (by omega) x3t
  have e3 : FI σ3 505 (rdC σ t 0) = FI σ2 505 (rdC σ t 0) := x3.1 _ _ (fun q => by omega)
  have n3 : nC σ3 = nC σ2 := x3.2.2.2.2.2.2.1
  have s3 : nS σ3 = nS σ2 := x3.2.2.2.2.2.2.2
  have ca3 : caX σ σ3 := ⟨fun S' w => (hmo S' w).keepC cl3, fun k => by rw [x3.2.2.2.2.2.1]; exact X2.2.2.2 k, by rw [(cl3.2 18 0 (by omega)).1]; exact sc2.1, by rw [(cl3.2 18 0 (by omega)).2.2]; exact sc2.2⟩
  unfold doGrammar at kk
  revert p2 kk
  cases readE S.1.1 with
  | inl p =>
    intro kk p2
    obtain ⟨p21, p22⟩ := p2
    have := o1.1
    refine x_aload_n i_CP_grammar_25 rfl ?_
    refine x_getI i_CP_grammar_26 rfl rfl ?_
    have e4 : FI σ3 505 (CN σ 5) = (p : Int) := e3.trans p21
    rw [e4]
    refine x_iconst i_CP_grammar_29 ?_
    refine x_icmp_eq_f i_CP_grammar_30 (by omega) ?_
    refine x_bipush i_CP_grammar_33 ?_
    refine x_aload_n i_CP_grammar_35 rfl ?_
    refine x_getI i_CP_grammar_36 rfl rfl ?_
    rw [e4]
    refine x_isub i_CP_grammar_39 (by omega) ?_
    refine x_iret i_CP_grammar_40 rfl ?_
    exact kk σ3 ca3 hs3 (fun w => w) (by omega) (by omega)
  | inr x =>
    intro kk p2
    obtain ⟨p21, p22, p23⟩ := p2
    have hg3 : grmC σ3 (rdC σ t 1) (x.1, x.2, nulG x.1, slfG x.1) (rdC σ t 2) (rdC σ t 3) (rdC σ t 4) (rdC σ t 5) (rdC σ t 6) (rdC σ t 7) := p22.tx x3t (fun f a q w => by have := q.1; have := q.2; omega) (fun a q => by have : a = t := q; omega)
    have hs4 := hs3.gram hg3
    have cl4 : clX σ3 (sFR σ3 1005 0 (some (rdC σ t 1))) := ⟨fun f a w => ⟨rfl, by rw [FR_sFR, if_neg (fun q => by omega)]⟩, fun _ _ _ => ⟨rfl, rfl, rfl⟩⟩
    have e104 : FI (sFR σ3 1005 0 (some (rdC σ t 1))) 104 (rdC σ t 1) = (cnR x.1 : Int) := by
      obtain ⟨-, -, -, -, -, -, -, -, -, -, -, -, -, -, a21, -⟩ := id hg3
      exact a21
    have f1005 : FR (sFR σ3 1005 0 (some (rdC σ t 1))) 1005 0 = some (rdC σ t 1) := by rw [FR_sFR, if_pos ⟨rfl, rfl⟩]
    have n4 : nC (sFR σ3 1005 0 (some (rdC σ t 1))) = nC σ3 := rfl
    have s4 : nS (sFR σ3 1005 0 (some (rdC σ t 1))) = nS σ3 := rfl
    have c4 : CN (sFR σ3 1005 0 (some (rdC σ t 1))) = CN σ3 := rfl
    have cnr : cnR x.1 ≤ 8 := cnR_le x.1
    refine x_aload_n i_CP_grammar_25 rfl ?_
    refine x_getI i_CP_grammar_26 rfl rfl ?_
    have e4 : FI σ3 505 (CN σ 5) = -1 := e3.trans p21
    rw [e4]
    refine x_iconst i_CP_grammar_29 ?_
    refine x_icmp_eq_t i_CP_grammar_30 rfl ?_
    refine x_aload_n i_CP_grammar_41 rfl ?_
    refine x_aload_n i_CP_grammar_42 rfl ?_
    refine x_putO (c2 := 1) i_CP_grammar_43 rfl rfl ?_
    show Ex _ m_CP_grammar Q 46 _ _ (sFR σ3 1005 0 (some (rdC σ t 1)))
    generalize sFR σ3 1005 0 (some (rdC σ t 1)) = σ4 at hs4 cl4 e104 f1005 n4 s4 c4
    obtain ⟨t', b', g', bo', fa', ra', ca', rq', cq', -, -, -, -, -, h1004, -⟩ := id hs4
    refine x_aload_n i_CP_grammar_46 rfl ?_
    refine x_getR (c2 := 2) i_CP_grammar_47 rfl rfl (by assumption) ?_
    refine x_cv0 i_CP_grammar_50 rfl rfl rfl ?_
    refine c_L_forget ?_
    have x5 : tX laCF laCA σ4 (sFI σ4 200 0 0) := tX_sFI (Or.inl ⟨by decide, by decide, rfl⟩)
    have hs5 : clS (sFI σ4 200 0 0) (((0, S.1.1.2), S.1.2), (x.1, x.2, nulG x.1, slfG x.1), S.2.2.1, none) := by
      obtain ⟨-, -, -, -, -, -, -, -, -, -, -, -, -, -, -, -, -, -, -, -, -, -, -, hl2, -⟩ := id hs4
      exact hs4.last x5 hl2.none
    have cl5 := laX_cl x5
    have f5 : FR (sFI σ4 200 0 0) 1005 0 = some (rdC σ t 1) := f1005
    have e5 : FI (sFI σ4 200 0 0) 104 (rdC σ t 1) = (cnR x.1 : Int) := by rw [FI_sFI, if_neg (by omega)]; exact e104
    have ca5 : caX σ (sFI σ4 200 0 0) := ⟨fun S' w => ((ca3.1 S' w).keepC cl4).keepC cl5, fun k => by show CN σ k ≤ CN σ4 k; rw [c4]; exact ca3.2.1 k, by rw [(cl5.2 18 0 (by omega)).1, (cl4.2 18 0 (by omega)).1]; exact ca3.2.2.1, by rw [(cl5.2 18 0 (by omega)).2.2, (cl4.2 18 0 (by omega)).2.2]; exact ca3.2.2.2⟩
    have n5 : nC (sFI σ4 200 0 0) = nC σ4 := rfl
    have s5 : nS (sFI σ4 200 0 0) = nS σ4 := rfl
    refine x_aload_n i_CP_grammar_53 rfl ?_
    refine x_getR (c2 := 1) i_CP_grammar_54 rfl rfl (by assumption) ?_
    refine x_getI i_CP_grammar_57 rfl rfl ?_
    rw [e5]
    refine x_iret i_CP_grammar_60 rfl ?_
    exact kk _ ca5 hs5 (fun _ => p23) (by omega) (by omega)
end


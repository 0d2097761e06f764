/-! THE CLASS's grammar() -/
def doGrammar (S : SS) : Int × SS := match readE S.1.1 with
  | .inl p => (-100 - (p : Int), (((0, S.1.1.2), S.1.2), S.2))
  | .inr x => ((cnR x.1 : Int), (((0, S.1.1.2), S.1.2), (x.1, x.2, nulG x.1, slfG x.1), S.2.2.1, none))
theorem clS.gram {σ : AS} {S : SS} (h : clS σ S) {g : Nat} {G : GG} {b fa ra ca rq cq : Nat} (hg : grmC σ g G b fa ra ca rq cq) : clS (sFR σ 1005 0 (some g)) (S.1, G, S.2.2) := by
  obtain ⟨t, b', g', bo', fa', ra', ca', rq', cq', htb, f0, f1, f2, f3, f4, f5, o1, o2, r0, r1, ⟨n2, g2, r2⟩, -, hr, hl, k1, k2⟩ := h
  have fr : ∀ f a, f ≠ 1005 → FR (sFR σ 1005 0 (some g)) f a = FR σ f a := fun f a w => by rw [FR_sFR, if_neg (fun q => w q.1)]
  have rk : ∀ {r c cap n : Nat} {f : Nat → Int}, rowF σ r c cap n f → rowF (sFR σ 1005 0 (some g)) r c cap n f := fun h => ⟨by rw [fr _ _ (by decide)]; exact h.1, h.2⟩
  refine ⟨t, b', g, b, fa, ra, ca, rq, cq, htb, by rw [fr _ _ (by decide)]; exact f0, by rw [fr _ _ (by decide)]; exact f1, by rw [fr _ _ (by decide)]; exact f2, by rw [fr _ _ (by decide)]; exact f3, by rw [fr _ _ (by decide)]; exact f4, by rw [FR_sFR, if_pos ⟨rfl, rfl⟩], o1, o2, rk r0, rk r1, ⟨n2, g2, rk r2⟩, hg.keep ⟨fun f a w _ => ⟨rfl, fr _ _ (by omega)⟩, fun _ _ => Nat.le_refl _⟩ (fun f a w1 w2 _ => ⟨rfl, fr _ _ (by omega)⟩) (fun a _ _ => ⟨rfl, fr _ _ (by decide)⟩) (fun _ _ _ _ => ⟨rfl, rfl⟩) (fun _ _ _ => ⟨rfl, rfl⟩) (fun _ => Nat.le_refl _), ?_, ?_, k1, k2⟩
  · obtain ⟨⟨v1, v2, v3, v4⟩, ⟨n3, f3, m3⟩, ⟨f4, m4⟩, ⟨f5, m5⟩, ⟨N, K, tab, H, tr⟩, c2, bs⟩ := hr
    obtain ⟨so, nu, fk, sz, va, ki, he, ⟨q0, q1, q2, q3, q4, q5, q6⟩, t1, t2, t3, t4, t5, t6, t7, z⟩ := tr
    exact ⟨⟨by rw [fr _ _ (by decide)]; exact v1, by rw [fr _ _ (by decide)]; exact v2, by rw [fr _ _ (by decide)]; exact v3, by rw [fr _ _ (by decide)]; exact v4⟩, ⟨n3, f3, rk m3⟩, ⟨_, rk m4⟩, ⟨_, rk m5⟩, ⟨N, K, tab, H, so, nu, fk, sz, va, ki, he, ⟨by rw [fr _ _ (by decide)]; exact q0, by rw [fr _ _ (by decide)]; exact q1, by rw [fr _ _ (by decide)]; exact q2, by rw [fr _ _ (by decide)]; exact q3, by rw [fr _ _ (by decide)]; exact q4, by rw [fr _ _ (by decide)]; exact q5, by rw [fr _ _ (by decide)]; exact q6⟩, rk t1, rk t2, rk t3, rk t4, rk t5, rk t6, rk t7, z⟩, c2, bs⟩
  · obtain ⟨⟨p1, p2, p3, p4, p5⟩, ⟨n1, f1, a2⟩, ⟨n2, f2, a3⟩, ⟨n3, f3, a4⟩, ⟨L4, a5⟩, ⟨L5, a6⟩, a7⟩ := hl
    refine ⟨⟨by rw [fr _ _ (by decide)]; exact p1, by rw [fr _ _ (by decide)]; exact p2, by rw [fr _ _ (by decide)]; exact p3, by rw [fr _ _ (by decide)]; exact p4, by rw [fr _ _ (by decide)]; exact p5⟩, ⟨n1, f1, rk a2⟩, ⟨n2, f2, rk a3⟩, ⟨n3, f3, rk a4⟩, ⟨L4, rk a5⟩, ⟨L5, rk a6⟩, ?_⟩
    show (match S.2.2.2 with | none => FI (sFR σ 1005 0 (some g)) 200 0 = 0 | some r => FI (sFR σ 1005 0 (some g)) 200 0 = 1 ∧ lasC (sFR σ 1005 0 (some g)) r)
    revert a7
    cases S.2.2.2 with
    | none => exact id
    | some r => exact fun ⟨c0, c1, c2, c3, c4, c5, c6, c7, c8, c9, c10, c11⟩ => ⟨c0, c1, c2, c3, c4, c5, c6, c7, rk c8, rk c9, rk c10, c11.imp id (fun w => ⟨w.1, rk w.2⟩)⟩
/-- what the rest is told of a call of the class -/
def caX (σ σ' : AS) : Prop := (∀ S, moS σ S → moS σ' S) ∧ (∀ k, CN σ k ≤ CN σ' k) ∧ AI σ' 18 0 = AI σ 18 0 ∧ LN σ' 18 0 = LN σ 18 0
section
variable {d : Nat} {Q : AQ} {σ : AS} {S : SS}
theorem c_CP_grammar (h : clS σ S) (ho : occ σ) (kk : ∀ σ', caX σ σ' → clS σ' (doGrammar S).2 → (okG S.2.1 → okG (doGrammar S).2.2.1) → nC σ' ≤ nC σ + 1024 → nS σ' ≤ nS σ + 8192 → Q (some (vi (doGrammar S).1)) σ') : wp (d + 90) m_CP_grammar [vr 10 0] σ Q := by
  obtain ⟨t, b, g, bo, fa, ra, ca, rq, cq, htb, f0, f1, f2, f3, f4, f5, o1, o2, r0, r1, ⟨n2, g2, r2⟩, hg, hr, hl, k1, k2⟩ := id h
  have e0 : FR (nO σ 5) 1000 0 = some t := by rw [FR_nO, if_neg (by omega)]; exact f0
  have hC : newC (rdC σ t) σ := ⟨Nat.le_refl _, Nat.le_refl _, Nat.le_refl _, Nat.le_refl _, Nat.le_refl _, Nat.le_refl _, Nat.le_succ _, Nat.le_succ _, Nat.le_add_right _ _, Nat.le_add_right _ _⟩
  refine x_in (ls := [some _, none, none]) rfl rfl ?_
  refine x_new i_CP_grammar_0 ?_
  refine x_dup i_CP_grammar_3 ?_
  refine x_aload_n i_CP_grammar_4 rfl ?_
  refine x_getR (c2 := 6) i_CP_grammar_5 rfl rfl (by assumption) ?_
  refine x_ci1 i_CP_grammar_8 rfl rfl rfl ?_
  refine c_Rd_init (sg := t) (t := S.1.1) (by omega) o1 r0 (by omega) k2 (fun σ1 X1 h1 hG1 m1 s1 => ?_)
  refine x_astore_n (ls' := [_, _, _]) i_CP_grammar_11 rfl rfl ?_
  refine x_aload_n i_CP_grammar_12 rfl ?_
  have red := @c_Rd_read (d + 7) (fun r u => r = some (vr 1 (rdC σ t 1)) ∧ redPost (rdC σ t) S.1.1 σ σ1 u) σ1 (rdC σ t) S.1.1 σ hC X1 h1 hG1 (fun σ' p => ⟨rfl, p⟩)
  refine x_cv0 i_CP_grammar_13 rfl rfl rfl ?_
  refine red.mono ?_
  rintro r σ2 ⟨rfl, X2, p2, m2, s2⟩
  have h2 := h.keepN X2 ho
  have ho2 := ho.mono X2.2.2.2
  have hmo : ∀ S', moS σ S' → moS σ2 S' := fun S' w => w.keepN X2 ho k2
  have o18 : 1 ≤ CN σ 18 := ho.2.2.2.2.2.2.2
  have sc2 : AI σ2 18 0 = AI σ 18 0 ∧ LN σ2 18 0 = LN σ 18 0 := ⟨funext fun j => (X2.2.1 18 0 j o18).1, X2.2.2.1 18 0 o18⟩
  have g0 : FR σ2 1000 0 = some t := by rw [(X2.f0 ho (by decide)).2]; exact f0
  have r02 : rowF σ2 t t 240 S.1.1.1 S.1.1.2 := X2.row r0 (by omega) (by omega)
  refine x_astore_n (ls' := [_, _, _]) i_CP_grammar_16 rfl rfl ?_
  refine x_aload_n i_CP_grammar_17 rfl ?_
  refine x_getR (c2 := 6) i_CP_grammar_18 rfl rfl (by assumption) ?_
  refine x_iconst i_CP_grammar_21 ?_
  refine x_cv1 i_CP_grammar_22 rfl rfl rfl ?_
  refine c_shrink r02 (j := 0) rfl (Nat.zero_le _) (fun σ3 y3 x3 => ?_)
  sorry
end


/-! THE CLASS's calls: feed, input, parse -/
section
variable {Q : AQ} {σ : AS} {S : SS}
def tpF (t : Nat) (f a : Nat) : Prop := f = 601 ∧ a = t
theorem tpX_cl {t : Nat} {σ' : AS} (ht : t < 2) (hx : tX (tpF t) (fun a => a = t) σ σ') : clX σ σ' := hx.cl (fun f a q => by have := q.1; omega) (fun a q => by have : a = t := q; omega)
theorem clS.tape {t b : Nat} {σ' : AS} {T' : TP} (h : clS σ S) (ht : (t = 0 ∧ b = 1) ∨ (t = 1 ∧ b = 0)) (f0 : FR σ 1000 0 = some t) (f1 : FR σ 1001 0 = some b) (hx : tX (tpF t) (fun a => a = t) σ σ') (r : rowF σ' t t 240 T'.1 T'.2) (ho : tpOK T') : clS σ' ((T', S.1.2), S.2) := by
  obtain ⟨t', b', g, bo, fa, ra, ca, rq, cq, htb, f0', f1', f2, f3, f4, f5, o1, o2, r0, r1, ⟨n2, g2, r2⟩, hg, hr, hl, k1, k2⟩ := h
  have et : t' = t := by rw [f0] at f0'; injection f0' with f0'; exact f0'.symm
  have eb : b' = b := by rw [f1] at f1'; injection f1' with f1'; exact f1'.symm
  subst et eb
  have e2 := hx.2.1
  have rk : ∀ {r cap n : Nat} {f : Nat → Int}, rowF σ r r cap n f → r ≠ t' → rowF σ' r r cap n f := fun h hr => hx.row h (fun q => hr q.2) (fun q => hr q)
  exact ⟨t', b', g, bo, fa, ra, ca, rq, cq, htb, by rw [e2]; exact f0, by rw [e2]; exact f1, by rw [e2]; exact f2, by rw [e2]; exact f3, by rw [e2]; exact f4, by rw [e2]; exact f5, ho, o2, r, rk r1 (by omega), ⟨n2, g2, rk r2 (by omega)⟩, hg.tx hx (fun f a q w => by obtain ⟨q1, q2⟩ := q; omega) (fun a q => by have : a = t' := q; omega), hr.tx hx (fun f a q w => by obtain ⟨q1, q2⟩ := q; omega) (fun a q w => by have : a = t' := q; omega), hl.keep hx (fun f a q w => by obtain ⟨q1, q2⟩ := q; rcases w with w | w <;> omega) (fun a q w => by have : a = t' := q; have := w.1; omega), by rw [hx.2.2.2.2.2.1]; exact k1, by rw [hx.2.2.2.2.2.1]; exact k2⟩
theorem c_CP_feed {d : Nat} (h : clS σ S) {n w : Int} (kk : ∀ σ', clX σ σ' → noN σ σ' → clS σ' (doFeed S n w).2 → Q (some (vi (doFeed S n w).1)) σ') : wp (d + 2) m_CP_feed [vr 10 0, vi n, vi w] σ Q := by
  obtain ⟨t, b, g, bo, fa, ra, ca, rq, cq, htb, f0, f1, f2, f3, f4, f5, o1, o2, r0, r1, ⟨n2, g2, r2⟩, hg, hr, hl, k1, k2⟩ := id h
  have hz1 : S.1.1.1 ≤ 240 := o1.1
  have bad : (n < 1 ∨ 4 < n) → Ex (wp (d + 1)) m_CP_feed Q 10 [some (vr 10 0), some (vi n), some (vi w), none] [] σ := by
    intro q
    have := kk σ (clX.rf σ) (noN.rf σ)
    unfold doFeed at this
    rw [if_pos q] at this
    refine x_bipush i_CP_feed_10 ?_
    refine x_iret i_CP_feed_12 rfl ?_
    exact this h
  refine x_in (ls := [some _, some _, some _, none]) rfl rfl ?_
  refine x_iload_n i_CP_feed_0 rfl ?_
  refine x_iconst i_CP_feed_1 ?_
  refine x_icmp_lt i_CP_feed_2 (fun g1 => ?_) (fun g1 => ?_)
  · exact bad (Or.inl g1)
  · refine x_iload_n i_CP_feed_5 rfl ?_
    refine x_iconst i_CP_feed_6 ?_
    refine x_icmp_le i_CP_feed_7 (fun g2 => ?_) (fun g2 => ?_)
    · refine x_aload_n i_CP_feed_13 rfl ?_
      refine x_getR (c2 := 6) i_CP_feed_14 rfl rfl (by assumption) ?_
      refine x_cv0 i_CP_feed_17 rfl rfl rfl ?_
      refine c_Row_size r0 ?_
      refine x_iload_n i_CP_feed_20 rfl ?_
      refine x_iadd i_CP_feed_21 (by omega) ?_
      refine x_sipush i_CP_feed_22 ?_
      refine x_icmp_le i_CP_feed_25 (fun g3 => ?_) (fun g3 => ?_)
      · obtain ⟨m, rfl⟩ : ∃ m : Nat, n = (m : Int) := ⟨n.toNat, by omega⟩
        have kk : ∀ σ', clX σ σ' → noN σ σ' → clS σ' ((feedT S.1.1 m w, S.1.2), S.2) → Q (some (vi ((S.1.1.1 : Int) + m))) σ' := by
          unfold doFeed at kk
          rw [if_neg (by omega), if_neg (by omega)] at kk
          exact kk
        have ha0 : S.1.1.1 + m ≤ 240 := by omega
        have loop : ∀ (f i : Nat) (σ1 : AS), i + f = m → tX (tpF t) (fun a => a = t) σ σ1 → rowF σ1 t t 240 (feedT S.1.1 i w).1 (feedT S.1.1 i w).2 → Ex (wp (d + 1)) m_CP_feed Q 33 [some (vr 10 0), some (vi (m : Nat)), some (vi w), some (vi (i : Nat))] [] σ1 := by
          intro f
          induction f with
          | zero =>
            intro i σ1 hi x1 t1
            have e : i = m := by omega
            subst e
            have f0 : FR σ1 1000 0 = some t := by rw [x1.2.1]; exact f0
            refine x_iload_n i_CP_feed_33 rfl ?_
            refine x_iload_n i_CP_feed_34 rfl ?_
            refine x_icmp_ge_t i_CP_feed_35 (by omega) ?_
            refine x_aload_n i_CP_feed_61 rfl ?_
            refine x_getR (c2 := 6) i_CP_feed_62 rfl rfl (by assumption) ?_
            refine x_cv0 i_CP_feed_65 rfl rfl rfl ?_
            refine c_Row_size t1 ?_
            refine x_iret i_CP_feed_68 rfl ?_
            exact kk σ1 (tpX_cl (by omega) x1) x1.no (h.tape htb ‹_› f1 x1 t1 (feedT_ok o1 ha0))
          | succ f ih =>
            intro i σ1 hi x1 t1
            have f0 : FR σ1 1000 0 = some t := by rw [x1.2.1]; exact f0
            refine x_iload_n i_CP_feed_33 rfl ?_
            refine x_iload_n i_CP_feed_34 rfl ?_
            refine x_icmp_ge_f i_CP_feed_35 (by omega) ?_
            refine x_aload_n i_CP_feed_38 rfl ?_
            refine x_getR (c2 := 6) i_CP_feed_39 rfl rfl (by assumption) ?_
            refine x_iload_n i_CP_feed_42 rfl ?_
            refine x_bipush i_CP_feed_43 ?_
            refine x_iload_n i_CP_feed_45 rfl ?_
            refine x_imul i_CP_feed_46 (by omega) ?_
            refine x_iushr i_CP_feed_47 ?_
            refine x_sipush i_CP_feed_48 ?_
            refine x_iand i_CP_feed_51 ?_
            refine x_cv1 i_CP_feed_52 rfl rfl rfl ?_
            refine c_add t1 (by show S.1.1.1 + i < 240; omega) (fun σ2 y2 x2 => ?_)
            refine x_iinc (ls' := [_, _, _, _]) i_CP_feed_55 rfl (by omega) rfl ?_
            refine x_goto i_CP_feed_58 ?_
            refine ih (i + 1) σ2 (by omega) (x1.tr (x2.tx ⟨rfl, rfl⟩ rfl)) (rowF.eq y2 (fun k hk => ?_))
            show up (feedT S.1.1 i w).2 (S.1.1.1 + i) (byteF w i) k = if k < S.1.1.1 then S.1.1.2 k else byteF w (k - S.1.1.1)
            by_cases q : k = S.1.1.1 + i
            · subst q
              rw [up_eq, if_neg (by omega), show S.1.1.1 + i - S.1.1.1 = i by omega]
            · rw [up_ne q]
              rfl
        refine x_iconst i_CP_feed_31 ?_
        refine x_istore_n (ls' := [_, _, _, _]) i_CP_feed_32 rfl rfl ?_
        refine loop m 0 σ (by omega) (tX.rf _ _ _) (rowF.eq r0 (fun k hk => ?_))
        show S.1.1.2 k = if k < S.1.1.1 then S.1.1.2 k else _
        rw [if_pos (show k < S.1.1.1 from hk)]
      · have := kk σ (clX.rf σ) (noN.rf σ)
        unfold doFeed at this
        rw [if_neg (by omega), if_pos (by omega)] at this
        refine x_bipush i_CP_feed_28 ?_
        refine x_iret i_CP_feed_30 rfl ?_
        exact this h
    · exact bad (Or.inr (by omega))
theorem c_CP_input {d : Nat} (h : clS σ S) (kk : ∀ σ', clX σ σ' → noN σ σ' → clS σ' (doInput S).2 → Q (some (vi (doInput S).1)) σ') : wp (d + 2) m_CP_input [vr 10 0] σ Q := by
  obtain ⟨t, b, g, bo, fa, ra, ca, rq, cq, htb, f0, f1, f2, f3, f4, f5, o1, o2, r0, r1, ⟨n2, g2, r2⟩, hg, hr, hl, k1, k2⟩ := id h
  refine x_in (ls := [some _, none]) rfl rfl ?_
  refine x_aload_n i_CP_input_0 rfl ?_
  refine x_getR (c2 := 6) i_CP_input_1 rfl rfl (by assumption) ?_
  refine x_astore_n (ls' := [_, _]) i_CP_input_4 rfl rfl ?_
  refine x_aload_n i_CP_input_5 rfl ?_
  refine x_aload_n i_CP_input_6 rfl ?_
  refine x_getR (c2 := 6) i_CP_input_7 rfl rfl (by assumption) ?_
  refine x_putO (c2 := 6) i_CP_input_10 rfl rfl ?_
  have e1 : FR (sFR σ 1001 0 (some t)) 1000 0 = some t := by rw [FR_sFR, if_neg (by omega)]; exact f0
  refine x_aload_n i_CP_input_13 rfl ?_
  refine x_aload_n i_CP_input_14 rfl ?_
  refine x_putO (c2 := 6) i_CP_input_15 rfl rfl ?_
  generalize hσ1 : sFR (sFR σ 1001 0 (some t)) 1000 0 (some b) = σ1
  have fr : ∀ f a, f ≠ 1000 → f ≠ 1001 → FR σ1 f a = FR σ f a := by intro f a w1 w2; rw [← hσ1, FR_sFR, if_neg (fun q => w1 q.1), FR_sFR, if_neg (fun q => w2 q.1)]
  have g0 : FR σ1 1000 0 = some b := by rw [← hσ1]; simp [FR_sFR]
  have g1 : FR σ1 1001 0 = some t := by rw [← hσ1]; simp [FR_sFR]
  have same : FI σ1 = FI σ ∧ AI σ1 = AI σ ∧ AR σ1 = AR σ ∧ LN σ1 = LN σ ∧ CN σ1 = CN σ ∧ nC σ1 = nC σ ∧ nS σ1 = nS σ := by rw [← hσ1]; exact ⟨rfl, rfl, rfl, rfl, rfl, rfl, rfl⟩
  clear hσ1 e1
  obtain ⟨s1, s2, s3, s4, s5, s6, s7⟩ := same
  have rk : ∀ {r c cap n : Nat} {f : Nat → Int}, rowF σ r c cap n f → rowF σ1 r c cap n f := fun h => ⟨by rw [fr _ _ (by decide) (by decide)]; exact h.1, by rw [s1]; exact h.2.1, by rw [s4]; exact h.2.2.1, h.2.2.2.1, h.2.2.2.2.1, fun k hk => by rw [s2]; exact h.2.2.2.2.2 k hk⟩
  have f4 : FR σ1 1004 0 = some 0 := by rw [fr _ _ (by decide) (by decide)]; exact f4
  refine x_aload_n i_CP_input_18 rfl ?_
  refine x_getR (c2 := 6) i_CP_input_19 rfl rfl (by assumption) ?_
  refine x_iconst i_CP_input_22 ?_
  refine x_cv1 i_CP_input_23 rfl rfl rfl ?_
  refine c_shrink (rk r1) (j := 0) rfl (Nat.zero_le _) (fun σ2 y2 x2 => ?_)
  have e2 := x2.2.1
  have x2' : tX (tpF b) (fun a => a = b) σ1 σ2 := x2.tx ⟨rfl, rfl⟩ rfl
  rw [← e2] at f4
  refine x_aload_n i_CP_input_26 rfl ?_
  refine x_getR (c2 := 2) i_CP_input_27 rfl rfl (by assumption) ?_
  refine x_cv0 i_CP_input_30 rfl rfl rfl ?_
  refine c_L_forget ?_
  have hs1 : clS σ1 ((S.1.2, S.1.1), S.2) := by
    refine ⟨b, t, g, bo, fa, ra, ca, rq, cq, by omega, g0, g1, by rw [fr _ _ (by decide) (by decide)]; exact f2, by rw [fr _ _ (by decide) (by decide)]; exact f3, by rw [fr _ _ (by decide) (by decide)]; exact ‹FR σ 1004 0 = some 0›, by rw [fr _ _ (by decide) (by decide)]; exact f5, o2, o1, rk r1, rk r0, ⟨n2, g2, rk r2⟩, hg.keep ⟨fun f a w _ => ⟨by rw [s1], fr f a (by omega) (by omega)⟩, fun k _ => by rw [s5]; exact Nat.le_refl _⟩ (fun f a w1 w2 _ => ⟨by rw [s1], fr f a (by omega) (by omega)⟩) (fun a _ _ => ⟨by rw [s1], fr _ _ (by decide) (by decide)⟩) (fun k a _ _ => by rw [s3, s4]; exact ⟨rfl, rfl⟩) (fun a w _ => by rw [s2, s4]; exact ⟨rfl, rfl⟩) (fun k => by rw [s5]; exact Nat.le_refl _), ?_, ?_, by rw [s5]; exact k1, by rw [s5]; exact k2⟩
    · obtain ⟨⟨v1, v2, v3, v4⟩, ⟨n3, f3, m3⟩, ⟨f4, m4⟩, ⟨f5, m5⟩, ⟨N, K, tab, H, tr⟩, c2, bs⟩ := hr
      obtain ⟨so, nu, fk, sz, va, ki, he, ⟨q0, q1, q2, q3, q4, q5, q6⟩, t1, t2, t3, t4, t5, t6, t7, z⟩ := tr
      exact ⟨⟨by rw [fr _ _ (by decide) (by decide)]; exact v1, by rw [fr _ _ (by decide) (by decide)]; exact v2, by rw [fr _ _ (by decide) (by decide)]; exact v3, by rw [fr _ _ (by decide) (by decide)]; exact v4⟩, ⟨n3, f3, rk m3⟩, ⟨_, rk m4⟩, ⟨_, rk m5⟩, ⟨N, K, tab, H, so, nu, fk, sz, va, ki, he, ⟨by rw [fr _ _ (by decide) (by decide)]; exact q0, by rw [fr _ _ (by decide) (by decide)]; exact q1, by rw [fr _ _ (by decide) (by decide)]; exact q2, by rw [fr _ _ (by decide) (by decide)]; exact q3, by rw [fr _ _ (by decide) (by decide)]; exact q4, by rw [fr _ _ (by decide) (by decide)]; exact q5, by rw [fr _ _ (by decide) (by decide)]; exact q6⟩, rk t1, rk t2, rk t3, rk t4, rk t5, rk t6, rk t7, z⟩, by rw [s1]; exact c2, bs⟩
    · obtain ⟨⟨p1, p2, p3, p4, p5⟩, ⟨n1, h1, a2⟩, ⟨n2, h2, a3⟩, ⟨n3, h3, a4⟩, ⟨L4, a5⟩, ⟨L5, a6⟩, a7⟩ := hl
      refine ⟨⟨by rw [fr _ _ (by decide) (by decide)]; exact p1, by rw [fr _ _ (by decide) (by decide)]; exact p2, by rw [fr _ _ (by decide) (by decide)]; exact p3, by rw [fr _ _ (by decide) (by decide)]; exact p4, by rw [fr _ _ (by decide) (by decide)]; exact p5⟩, ⟨n1, h1, rk a2⟩, ⟨n2, h2, rk a3⟩, ⟨n3, h3, rk a4⟩, ⟨L4, rk a5⟩, ⟨L5, rk a6⟩, ?_⟩
      show (match S.2.2.2 with | none => FI σ1 200 0 = 0 | some r => FI σ1 200 0 = 1 ∧ lasC σ1 r)
      unfold lasC
      rw [s1]
      revert a7
      cases S.2.2.2 with
      | none => exact id
      | some r => exact fun ⟨c0, c1, c2, c3, c4, c5, c6, c7, c8, c9, c10, c11⟩ => ⟨c0, c1, c2, c3, c4, c5, c6, c7, rk c8, rk c9, rk c10, c11.imp id (fun w => ⟨w.1, rk w.2⟩)⟩
  have hs2 : clS σ2 (((0, S.1.1.2), S.1.1), S.2) := hs1.tape (T' := (0, S.1.1.2)) (by omega) g0 g1 x2' (y2.eq (fun k hk => absurd hk (Nat.not_lt_zero _))) ⟨Nat.zero_le _, fun i hi => absurd hi (Nat.not_lt_zero _)⟩
  have x3 : tX laCF laCA σ2 (sFI σ2 200 0 0) := tX_sFI (Or.inl ⟨by decide, by decide, rfl⟩)
  have hs3 : clS (sFI σ2 200 0 0) (((0, S.1.1.2), S.1.1), S.2.1, S.2.2.1, none) := by
    obtain ⟨-, -, -, -, -, -, -, -, -, -, -, -, -, -, -, -, -, -, -, -, -, -, -, hl2, -⟩ := id hs2
    exact hs2.last x3 hl2.none
  generalize sFI σ2 200 0 0 = σ3 at x3 hs3
  have e3 := x3.2.1
  have g1 : FR σ3 1001 0 = some t := by rw [e3, e2]; exact g1
  refine x_aload_n i_CP_input_33 rfl ?_
  refine x_getR (c2 := 6) i_CP_input_34 rfl rfl (by assumption) ?_
  have y3 : rowF σ3 t t 240 S.1.1.1 S.1.1.2 := x3.row (x2'.row (rk r0) (fun q => by have := q.2; omega) (fun q => by have : t = b := q; omega)) (fun q => by rcases q with q | q <;> omega) (fun q => by have := q.1; omega)
  refine x_cv0 i_CP_input_37 rfl rfl rfl ?_
  refine c_Row_size y3 ?_
  refine x_iret i_CP_input_40 rfl ?_
  refine kk σ3 ((clX.tr ⟨fun f a w => ⟨by rw [s1], fr f a (by omega) (by omega)⟩, fun k a w => ⟨by rw [s2], by rw [s3], by rw [s4]⟩⟩ (tpX_cl (by omega) x2')).tr (laX_cl x3)) ⟨?_, ?_, ?_⟩ hs3
  · rw [x3.no.1, x2'.no.1, s5]
  · rw [x3.no.2.1, x2'.no.2.1, s6]
  · rw [x3.no.2.2, x2'.no.2.2, s7]
end


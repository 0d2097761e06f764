/-! rule and atom, on both sides -/
def doRule (S : SS) (r w : Int) : Int := if r < 0 ∨ 7 < r ∨ w < 0 ∨ 3 < w then -2 else if w = 0 then bI (hasG S.2.1 r) else if hasG S.2.1 r = false then -1 else if w = 1 then bI (S.2.1.2.2.1 r.toNat) else if w = 2 then bI (S.2.1.2.2.2 r.toNat) else (cntA S.2.1 r.toNat : Int)
def doAtom (S : SS) (a w : Int) : Int := if w < 0 ∨ 3 < w then -2 else if a < 0 ∨ (S.2.1.2.1.length : Int) ≤ a then -1 else
  let x := S.2.1.2.1.getD a.toNat (0, 0, 0, 0, 0)
  if w = 0 then (x.2.1 : Int) else if w = 1 then (x.2.2.1 : Int) else if w = 2 then x.2.2.2.1 else x.2.2.2.2
theorem hasG_n {G : GG} {r : Int} (h : 0 ≤ r ∧ r < 8) : hasG G r = (G.1 r.toNat).isSome := by unfold hasG; rw [decide_eq_true h, Bool.true_and]
theorem getD_some {α : Type} {l : List α} {i : Nat} {d : α} (h : i < l.length) : l[i]? = some (l.getD i d) := by rw [List.getElem?_eq_getElem h, List.getD_eq_getElem?_getD, List.getElem?_eq_getElem h]; rfl
section
variable {d : Nat} {Q : AQ} {σ : AS} {S : SS}
theorem c_G_atomsWithin {g ra ca : Nat} {f : Nat → Int} (g4 : FR σ 101 g = some ra) (r16 : rowF σ ra ca 8 8 f) {r : Int} {n : Nat} (hn : n < 8) (e : r = (n : Int)) (kk : Q (some (vi (f n))) σ) : wp (d + 3) m_Grammar_atomsWithin [vr 1 g, vi r] σ Q := by
  refine x_in (ls := [some _, some _]) rfl rfl ?_
  refine x_aload_n i_Grammar_atomsWithin_0 rfl ?_
  refine x_getR (c2 := 6) i_Grammar_atomsWithin_1 rfl rfl (by assumption) ?_
  refine x_iload_n i_Grammar_atomsWithin_4 rfl ?_
  refine x_cv1 i_Grammar_atomsWithin_5 rfl rfl rfl ?_
  refine c_at_in r16 e hn ?_
  refine x_iret i_Grammar_atomsWithin_8 rfl ?_
  exact kk
theorem c_CP_rule (h : clS σ S) {r w : Int} (kk : Q (some (vi (doRule S r w))) σ) : wp (d + 4) m_CP_rule [vr 10 0, vi r, vi w] σ Q := by
  obtain ⟨t, b, g, bo, fa, ra, ca, rq, cq, htb, f0, f1, f2, f3, f4, f5, o1, o2, r0, r1, ⟨n2, g2, r2⟩, hg, hr, hl, k1, k2⟩ := id h
  obtain ⟨-, -, -, g4, -, -, -, -, -, g16, -, -, -, -, -, -, -, -, g25, g26⟩ := id hg
  unfold doRule at kk
  have bad : (r < 0 ∨ 7 < r ∨ w < 0 ∨ 3 < w) → Ex (wp (d + 3)) m_CP_rule Q 19 [some (vr 10 0), some (vi r), some (vi w), none] [] σ := by
    intro q
    rw [if_pos q] at kk
    refine x_bipush i_CP_rule_19 ?_
    refine x_iret i_CP_rule_21 rfl ?_
    exact kk
  refine x_in (ls := [some _, some _, some _, none]) rfl rfl ?_
  refine x_iload_n i_CP_rule_0 rfl ?_
  refine x_if_lt i_CP_rule_1 (fun c1 => ?_) (fun c1 => ?_)
  · exact bad (Or.inl c1)
  · refine x_iload_n i_CP_rule_4 rfl ?_
    refine x_bipush i_CP_rule_5 ?_
    refine x_icmp_ge i_CP_rule_7 (fun c2 => ?_) (fun c2 => ?_)
    · exact bad (Or.inr (Or.inl (by omega)))
    · refine x_iload_n i_CP_rule_10 rfl ?_
      refine x_if_lt i_CP_rule_11 (fun c3 => ?_) (fun c3 => ?_)
      · exact bad (Or.inr (Or.inr (Or.inl c3)))
      · refine x_iload_n i_CP_rule_14 rfl ?_
        refine x_iconst i_CP_rule_15 ?_
        refine x_icmp_le i_CP_rule_16 (fun c4 => ?_) (fun c4 => ?_)
        · rw [if_neg (by omega)] at kk
          have hr8 : r.toNat < 8 := by omega
          have er : r = ((r.toNat : Nat) : Int) := by omega
          have rest : ∀ x : Bool, x = hasG S.2.1 r → Ex (wp (d + 3)) m_CP_rule Q 31 [some (vr 10 0), some (vi r), some (vi w), some (vi (bI x))] [] σ := by
            intro x hx
            rw [← hx] at kk
            refine x_iload_n i_CP_rule_31 rfl ?_
            refine x_if_ne i_CP_rule_32 (fun c5 => ?_) (fun c5 => ?_)
            · rw [if_neg c5] at kk
              refine x_iload_n i_CP_rule_45 rfl ?_
              refine x_if_ne i_CP_rule_46 (fun c6 => ?_) (fun c6 => ?_)
              · have hx1 := bI_t c6
                rw [hx1, if_neg (by decide)] at kk
                refine x_iload_n i_CP_rule_51 rfl ?_
                refine x_iconst i_CP_rule_52 ?_
                refine x_icmp_ne i_CP_rule_53 (fun c7 => ?_) (fun c7 => ?_)
                · refine x_iload_n i_CP_rule_65 rfl ?_
                  refine x_iconst i_CP_rule_66 ?_
                  refine x_icmp_ne i_CP_rule_67 (fun c8 => ?_) (fun c8 => ?_)
                  · rw [if_neg c8, if_pos (by omega)] at kk
                    refine x_aload_n i_CP_rule_80 rfl ?_
                    refine x_getR (c2 := 1) i_CP_rule_81 rfl rfl (by assumption) ?_
                    refine x_getI i_CP_rule_84 rfl rfl ?_
                    have e2 := g26 r.toNat hr8
                    rw [← er] at e2
                    refine x_iload_n i_CP_rule_87 rfl ?_
                    refine x_iushr i_CP_rule_88 ?_
                    refine x_iconst i_CP_rule_89 ?_
                    refine x_iand i_CP_rule_90 ?_
                    rw [e2]
                    refine x_iret i_CP_rule_91 rfl ?_
                    exact kk
                  · rw [if_pos (by omega)] at kk
                    have e1 := g25 r.toNat hr8
                    rw [← er] at e1
                    refine x_aload_n i_CP_rule_70 rfl ?_
                    refine x_getR (c2 := 1) i_CP_rule_71 rfl rfl (by assumption) ?_
                    refine x_getI i_CP_rule_74 rfl rfl ?_
                    refine x_goto i_CP_rule_77 ?_
                    refine x_iload_n i_CP_rule_87 rfl ?_
                    refine x_iushr i_CP_rule_88 ?_
                    refine x_iconst i_CP_rule_89 ?_
                    refine x_iand i_CP_rule_90 ?_
                    rw [e1]
                    refine x_iret i_CP_rule_91 rfl ?_
                    exact kk
                · rw [if_neg (by omega), if_neg (by omega)] at kk
                  refine x_aload_n i_CP_rule_56 rfl ?_
                  refine x_getR (c2 := 1) i_CP_rule_57 rfl rfl (by assumption) ?_
                  refine x_iload_n i_CP_rule_60 rfl ?_
                  refine x_cv1 i_CP_rule_61 rfl rfl rfl ?_
                  refine c_G_atomsWithin g4 g16 hr8 er ?_
                  refine x_iret i_CP_rule_64 rfl ?_
                  exact kk
              · have hx0 := bI_f c6
                rw [hx0, if_pos rfl] at kk
                refine x_iconst i_CP_rule_49 ?_
                refine x_iret i_CP_rule_50 rfl ?_
                exact kk
            · rw [if_pos (by omega)] at kk
              refine x_iload_n i_CP_rule_35 rfl ?_
              refine x_if_eq i_CP_rule_36 (fun c6 => ?_) (fun c6 => ?_)
              · rw [c6] at kk
                refine x_iconst i_CP_rule_43 ?_
                refine x_iret i_CP_rule_44 rfl ?_
                exact kk
              · rw [bI_t c6] at kk
                refine x_iconst i_CP_rule_39 ?_
                refine x_goto i_CP_rule_40 ?_
                refine x_iret i_CP_rule_44 rfl ?_
                exact kk
          refine x_aload_n i_CP_rule_22 rfl ?_
          refine x_getR (c2 := 1) i_CP_rule_23 rfl rfl (by assumption) ?_
          refine x_iload_n i_CP_rule_26 rfl ?_
          refine x_cv1 i_CP_rule_27 rfl rfl rfl ?_
          refine c_G_has hg (fun w1 => ?_) (fun w1 => ?_)
          · refine x_istore_n (ls' := [_, _, _, _]) i_CP_rule_30 rfl rfl ?_
            exact rest true w1.symm
          · refine x_istore_n (ls' := [_, _, _, _]) i_CP_rule_30 rfl rfl ?_
            exact rest false w1.symm
        · exact bad (Or.inr (Or.inr (Or.inr (by omega))))
theorem c_CP_atom (h : clS σ S) {a w : Int} (kk : Q (some (vi (doAtom S a w))) σ) : wp (d + 2) m_CP_atom [vr 10 0, vi a, vi w] σ Q := by
  obtain ⟨t, b, g, bo, fa, ra, ca, rq, cq, htb, f0, f1, f2, f3, f4, f5, o1, o2, r0, r1, ⟨n2, g2, r2⟩, hg, hr, hl, k1, k2⟩ := id h
  obtain ⟨-, -, -, -, g5, -, -, -, -, -, -, -, g19, -, -, g22, g23, g24, -⟩ := id hg
  unfold doAtom at kk
  have bad : (w < 0 ∨ 3 < w) → Ex (wp (d + 1)) m_CP_atom Q 9 [some (vr 10 0), some (vi a), some (vi w), none] [] σ := by
    intro q
    rw [if_pos q] at kk
    refine x_bipush i_CP_atom_9 ?_
    refine x_iret i_CP_atom_11 rfl ?_
    exact kk
  refine x_in (ls := [some _, some _, some _, none]) rfl rfl ?_
  refine x_iload_n i_CP_atom_0 rfl ?_
  refine x_if_lt i_CP_atom_1 (fun c1 => ?_) (fun c1 => ?_)
  · exact bad (Or.inl c1)
  · refine x_iload_n i_CP_atom_4 rfl ?_
    refine x_iconst i_CP_atom_5 ?_
    refine x_icmp_le i_CP_atom_6 (fun c2 => ?_) (fun c2 => ?_)
    · rw [if_neg (by omega)] at kk
      refine x_aload_n i_CP_atom_12 rfl ?_
      refine x_getR (c2 := 1) i_CP_atom_13 rfl rfl (by assumption) ?_
      refine x_iload_n i_CP_atom_16 rfl ?_
      have at_ : wp (d + 1) m_Grammar_atomAt [vr 1 g, vi a] σ (fun r u => u = σ ∧ ((∃ n t : Nat, a = (n : Int) ∧ n < S.2.1.2.1.length ∧ AR σ 15 fa n = some t ∧ r = some (vr 0 t)) ∨ ((a < 0 ∨ (S.2.1.2.1.length : Int) ≤ a) ∧ r = some (vn 0)))) := by
        refine x_in (ls := [some _, some _]) rfl rfl ?_
        refine x_iload_n i_Grammar_atomAt_0 rfl ?_
        refine x_if_lt i_Grammar_atomAt_1 (fun c3 => ?_) (fun c3 => ?_)
        · refine x_null i_Grammar_atomAt_30 ?_
          refine x_aretN (c := 0) i_Grammar_atomAt_31 rfl ?_
          exact ⟨rfl, Or.inr ⟨Or.inl c3, rfl⟩⟩
        · refine x_iload_n i_Grammar_atomAt_4 rfl ?_
          refine x_aload_n i_Grammar_atomAt_5 rfl ?_
          refine x_getI i_Grammar_atomAt_6 rfl rfl ?_
          rw [g22]
          refine x_icmp_ge i_Grammar_atomAt_9 (fun c4 => ?_) (fun c4 => ?_)
          · refine x_null i_Grammar_atomAt_30 ?_
            refine x_aretN (c := 0) i_Grammar_atomAt_31 rfl ?_
            exact ⟨rfl, Or.inr ⟨Or.inr c4, rfl⟩⟩
          · obtain ⟨n, rfl⟩ : ∃ n : Nat, a = (n : Int) := ⟨a.toNat, by omega⟩
            obtain ⟨t, b1, b2⟩ := g24 n _ (getD_some (d := (0, 0, 0, 0, 0)) (by omega))
            refine x_iload_n i_Grammar_atomAt_12 rfl ?_
            refine x_aload_n i_Grammar_atomAt_13 rfl ?_
            refine x_getR (c2 := 15) i_Grammar_atomAt_14 rfl rfl (by assumption) ?_
            refine x_alen i_Grammar_atomAt_17 (by omega) ?_
            rw [g19]
            refine x_icmp_ge_f i_Grammar_atomAt_18 (by omega) ?_
            refine x_aload_n i_Grammar_atomAt_21 rfl ?_
            refine x_getR (c2 := 15) i_Grammar_atomAt_22 rfl rfl (by assumption) ?_
            refine x_iload_n i_Grammar_atomAt_25 rfl ?_
            refine x_aaload i_Grammar_atomAt_26 (by omega) (k := n) rfl (by rw [g19]; omega) ?_
            rw [b1]
            refine x_goto i_Grammar_atomAt_27 ?_
            refine x_aret (c := 0) i_Grammar_atomAt_31 rfl ?_
            exact ⟨rfl, Or.inl ⟨n, t, rfl, by omega, b1, rfl⟩⟩
      refine x_cv1 i_CP_atom_17 rfl rfl rfl ?_
      refine at_.mono ?_
      rintro r u ⟨rfl, q⟩
      rcases q with ⟨n, t, rfl, hn, ht, rfl⟩ | ⟨hb, rfl⟩
      · obtain ⟨t', b1, b2, b3, b4, b5, b6⟩ := g24 n _ (getD_some (d := (0, 0, 0, 0, 0)) hn)
        have et : t' = t := by rw [ht] at b1; injection b1 with b1; exact b1.symm
        subst et
        rw [if_neg (by omega), Int.toNat_natCast] at kk
        simp only [] at kk
        generalize S.2.1.2.1.getD n (0, 0, 0, 0, 0) = x at kk b3 b4 b5 b6
        refine x_astore_n (ls' := [_, _, _, _]) i_CP_atom_20 rfl rfl ?_
        refine x_aload_n i_CP_atom_21 rfl ?_
        refine x_ifnonnull_t i_CP_atom_22 (by intro q; cases q) ?_
        refine x_iload_n i_CP_atom_27 rfl ?_
        have hc : w = 0 ∨ w = 1 ∨ w = 2 ∨ w = 3 := by omega
        rcases hc with rfl | rfl | rfl | rfl
        · rw [if_pos rfl] at kk
          refine x_switch (off := 28) (tg := 56) i_CP_atom_28 (by omega) rfl (by decide) ?_
          refine x_aload_n i_CP_atom_56 rfl ?_
          refine x_getI i_CP_atom_57 rfl rfl ?_
          rw [b3]
          refine x_iret i_CP_atom_60 rfl ?_
          exact kk
        · rw [if_neg (by decide), if_pos rfl] at kk
          refine x_switch (off := 33) (tg := 61) i_CP_atom_28 (by omega) rfl (by decide) ?_
          refine x_aload_n i_CP_atom_61 rfl ?_
          refine x_getI i_CP_atom_62 rfl rfl ?_
          rw [b4]
          refine x_iret i_CP_atom_65 rfl ?_
          exact kk
        · rw [if_neg (by decide), if_neg (by decide), if_pos rfl] at kk
          refine x_switch (off := 38) (tg := 66) i_CP_atom_28 (by omega) rfl (by decide) ?_
          refine x_aload_n i_CP_atom_66 rfl ?_
          refine x_getI i_CP_atom_67 rfl rfl ?_
          rw [b5]
          refine x_iret i_CP_atom_70 rfl ?_
          exact kk
        · rw [if_neg (by decide), if_neg (by decide), if_neg (by decide)] at kk
          refine x_switchD (tg := 71) i_CP_atom_28 (by omega) (by decide) ?_
          refine x_aload_n i_CP_atom_71 rfl ?_
          refine x_getI i_CP_atom_72 rfl rfl ?_
          rw [b6]
          refine x_iret i_CP_atom_75 rfl ?_
          exact kk
      · rw [if_pos hb] at kk
        refine x_astore_n (ls' := [_, _, _, _]) i_CP_atom_20 rfl rfl ?_
        refine x_aload_n i_CP_atom_21 rfl ?_
        refine x_ifnonnull_f i_CP_atom_22 rfl ?_
        refine x_iconst i_CP_atom_25 ?_
        refine x_iret i_CP_atom_26 rfl ?_
        exact kk
    · exact bad (Or.inr (by omega))
theorem c_M_rule (h : moS σ S) {r w : Int} (kk : Q (some (vi (doRule S r w))) σ) : wp (d + 1) m_M_rule [vr 11 0, vi r, vi w] σ Q := by
  obtain ⟨hmr, hbes, ht1, ht2, htp, hti, hg, hsp, hsp2, hla⟩ := id h
  obtain ⟨hm, hl, hlb1, -, -⟩ := id hmr
  obtain ⟨-, g2, -, g4, g5, g6, g7, g8⟩ := hg
  unfold doRule at kk
  have bad : (r < 0 ∨ 7 < r ∨ w < 0 ∨ 3 < w) → Ex (wp d) m_M_rule Q 19 [some (vr 11 0), some (vi r), some (vi w), none, none] [] σ := by
    intro q
    rw [if_pos q] at kk
    refine x_bipush i_M_rule_19 ?_
    refine x_iret i_M_rule_21 rfl ?_
    exact kk
  refine x_in (ls := [some _, some _, some _, none, none]) rfl rfl ?_
  refine x_iload_n i_M_rule_0 rfl ?_
  refine x_if_lt i_M_rule_1 (fun c1 => ?_) (fun c1 => ?_)
  · exact bad (Or.inl c1)
  · refine x_iload_n i_M_rule_4 rfl ?_
    refine x_bipush i_M_rule_5 ?_
    refine x_icmp_gt i_M_rule_7 (fun c2 => ?_) (fun c2 => ?_)
    · exact bad (Or.inr (Or.inl (by omega)))
    · refine x_iload_n i_M_rule_10 rfl ?_
      refine x_if_lt i_M_rule_11 (fun c3 => ?_) (fun c3 => ?_)
      · exact bad (Or.inr (Or.inr (Or.inl c3)))
      · refine x_iload_n i_M_rule_14 rfl ?_
        refine x_iconst i_M_rule_15 ?_
        refine x_icmp_le i_M_rule_16 (fun c4 => ?_) (fun c4 => ?_)
        · rw [if_neg (by omega)] at kk
          have hr8 : r.toNat < 8 := by omega
          obtain ⟨rn, rfl⟩ : ∃ n : Nat, r = (n : Int) := ⟨r.toNat, by omega⟩
          rw [Int.toNat_natCast] at kk hr8
          have hh : hasG S.2.1 (rn : Int) = (S.2.1.1 rn).isSome := hasG_n ⟨by omega, by omega⟩
          have g2 := g2 rn hr8
          refine x_iload_n i_M_rule_22 rfl ?_
          refine x_if_ne i_M_rule_23 (fun c5 => ?_) (fun c5 => ?_)
          · rw [if_neg c5] at kk
            refine x_aload_n i_M_rule_42 rfl ?_
            refine x_getR (c2 := 13) i_M_rule_43 rfl rfl (hm _ _ rfl) ?_
            refine x_iload_n i_M_rule_46 rfl ?_
            refine x_iaload i_M_rule_47 (k := rn) rfl (lt_len hl rfl hr8) ?_
            refine x_iconst i_M_rule_48 ?_
            refine x_icmp_ne i_M_rule_49 (fun c6 => ?_) (fun c6 => ?_)
            · rw [hh, g2.mp c6, if_neg (by decide)] at kk
              refine x_iload_n i_M_rule_54 rfl ?_
              refine x_iconst i_M_rule_55 ?_
              refine x_icmp_ne i_M_rule_56 (fun c7 => ?_) (fun c7 => ?_)
              · rw [if_neg (by omega)] at kk
                refine x_iload_n i_M_rule_74 rfl ?_
                refine x_iconst i_M_rule_75 ?_
                refine x_icmp_ne i_M_rule_76 (fun c8 => ?_) (fun c8 => ?_)
                · rw [if_neg (by omega)] at kk
                  refine x_iconst i_M_rule_90 ?_
                  refine x_istore_n (ls' := [_, _, _, _, _]) i_M_rule_91 rfl rfl ?_
                  refine x_iconst i_M_rule_92 ?_
                  refine x_istore (ls' := [_, _, _, _, _]) i_M_rule_93 rfl rfl ?_
                  have loop : ∀ (f j : Nat), j + f = S.2.1.2.1.length → Ex (wp d) m_M_rule Q 95 [some (vr 11 0), some (vi (rn : Nat)), some (vi w), some (vi (((S.2.1.2.1.take j).filter (fun a => a.1 == rn)).length : Nat)), some (vi (j : Nat))] [] σ := by
                    intro f
                    induction f with
                    | zero =>
                      intro j hj
                      refine x_iload i_M_rule_95 rfl ?_
                      refine x_aload_n i_M_rule_97 rfl ?_
                      refine x_getI i_M_rule_98 rfl rfl ?_
                      rw [g4]
                      refine x_icmp_ge_t i_M_rule_101 (by omega) ?_
                      refine x_iload_n i_M_rule_129 rfl ?_
                      rw [List.take_of_length_le (by omega)]
                      refine x_iret i_M_rule_130 rfl ?_
                      exact kk
                    | succ f ih =>
                      intro j hj
                      have hj2 : j < S.2.1.2.1.length := by omega
                      have ge := g6 j _ (getD_some (d := (0, 0, 0, 0, 0)) hj2)
                      have et : S.2.1.2.1.take (j + 1) = S.2.1.2.1.take j ++ [S.2.1.2.1.getD j (0, 0, 0, 0, 0)] := by
                        rw [take_snoc _ _ hj2, List.getD_eq_getElem?_getD, List.getElem?_eq_getElem hj2]
                        rfl
                      have next := ih (j + 1) (by omega)
                      rw [et, List.filter_append, List.length_append] at next
                      generalize S.2.1.2.1.getD j (0, 0, 0, 0, 0) = x at ge next
                      have hlen : ((S.2.1.2.1.take j).filter (fun a => a.1 == rn)).length ≤ 32 := Nat.le_trans (List.length_filter_le _ _) (by rw [List.length_take]; omega)
                      generalize ((S.2.1.2.1.take j).filter (fun a => a.1 == rn)).length = q at next hlen
                      have put : ∀ z : Nat, z ≤ 1 → z = ([x].filter (fun a => a.1 == rn)).length → Ex (wp d) m_M_rule Q 121 [some (vr 11 0), some (vi (rn : Nat)), some (vi w), some (vi (q : Nat)), some (vi (j : Nat))] [vi (z : Nat), vi (q : Nat)] σ := by
                        intro z hz1 hz
                        rw [← hz] at next
                        refine x_iadd i_M_rule_121 (by omega) ?_
                        refine x_istore_n (ls' := [_, _, _, _, _]) i_M_rule_122 rfl rfl ?_
                        refine x_iinc (ls' := [_, _, _, _, _]) i_M_rule_123 rfl (by omega) rfl ?_
                        refine x_goto i_M_rule_126 ?_
                        exact next
                      refine x_iload i_M_rule_95 rfl ?_
                      refine x_aload_n i_M_rule_97 rfl ?_
                      refine x_getI i_M_rule_98 rfl rfl ?_
                      rw [g4]
                      refine x_icmp_ge_f i_M_rule_101 (by omega) ?_
                      refine x_iload_n i_M_rule_104 rfl ?_
                      refine x_aload_n i_M_rule_105 rfl ?_
                      refine x_getR (c2 := 13) i_M_rule_106 rfl rfl (hm _ _ rfl) ?_
                      refine x_iload i_M_rule_109 rfl ?_
                      refine x_iaload i_M_rule_111 (k := j) rfl (lt_len hl rfl (by omega)) ?_
                      rw [ge.1]
                      refine x_iload_n i_M_rule_112 rfl ?_
                      refine x_icmp_ne i_M_rule_113 (fun c9 => ?_) (fun c9 => ?_)
                      · refine x_iconst i_M_rule_120 ?_
                        exact put 0 (by decide) (by rw [List.filter_cons, if_neg (by simp; omega)]; rfl)
                      · refine x_iconst i_M_rule_116 ?_
                        refine x_goto i_M_rule_117 ?_
                        exact put 1 (by decide) (by rw [List.filter_cons, if_pos (by simp; omega)]; rfl)
                  have := loop S.2.1.2.1.length 0 (by omega)
                  exact this
                · rw [if_pos (by omega)] at kk
                  refine x_aload_n i_M_rule_79 rfl ?_
                  refine x_getR (c2 := 13) i_M_rule_80 rfl rfl (hm _ _ rfl) ?_
                  refine x_iload_n i_M_rule_83 rfl ?_
                  refine x_iaload i_M_rule_84 (k := rn) rfl (lt_len hl rfl hr8) ?_
                  refine x_iload_n i_M_rule_85 rfl ?_
                  refine x_ishr i_M_rule_86 ?_
                  refine x_iconst i_M_rule_87 ?_
                  refine x_iand i_M_rule_88 ?_
                  rw [g8 rn hr8]
                  refine x_iret i_M_rule_89 rfl ?_
                  exact kk
              · rw [if_pos (by omega)] at kk
                have g7 := g7 rn hr8
                refine x_aload_n i_M_rule_59 rfl ?_
                refine x_getR (c2 := 14) i_M_rule_60 rfl rfl (hm _ _ rfl) ?_
                refine x_iload_n i_M_rule_63 rfl ?_
                refine x_baload i_M_rule_64 (k := rn) rfl (by show rn < LN σ 14 0; rw [hlb1]; exact hr8) ?_
                rw [g7]
                refine x_if_eq i_M_rule_65 (fun c8 => ?_) (fun c8 => ?_)
                · rw [c8] at kk
                  refine x_iconst i_M_rule_72 ?_
                  refine x_iret i_M_rule_73 rfl ?_
                  exact kk
                · rw [bI_t c8] at kk
                  refine x_iconst i_M_rule_68 ?_
                  refine x_goto i_M_rule_69 ?_
                  refine x_iret i_M_rule_73 rfl ?_
                  exact kk
            · rw [hh, if_pos (Bool.eq_false_iff.mpr (fun q => (g2.mpr q) c6))] at kk
              refine x_iconst i_M_rule_52 ?_
              refine x_iret i_M_rule_53 rfl ?_
              exact kk
          · rw [if_pos (by omega), hh] at kk
            refine x_aload_n i_M_rule_26 rfl ?_
            refine x_getR (c2 := 13) i_M_rule_27 rfl rfl (hm _ _ rfl) ?_
            refine x_iload_n i_M_rule_30 rfl ?_
            refine x_iaload i_M_rule_31 (k := rn) rfl (lt_len hl rfl hr8) ?_
            refine x_iconst i_M_rule_32 ?_
            refine x_icmp_eq i_M_rule_33 (fun c6 => ?_) (fun c6 => ?_)
            · rw [Bool.eq_false_iff.mpr (fun q => (g2.mpr q) c6)] at kk
              refine x_iconst i_M_rule_40 ?_
              refine x_iret i_M_rule_41 rfl ?_
              exact kk
            · rw [g2.mp c6] at kk
              refine x_iconst i_M_rule_36 ?_
              refine x_goto i_M_rule_37 ?_
              refine x_iret i_M_rule_41 rfl ?_
              exact kk
        · exact bad (Or.inr (Or.inr (Or.inr (by omega))))
theorem c_M_atom_ (h : moS σ S) {a w : Int} (kk : Q (some (vi (doAtom S a w))) σ) : wp (d + 1) m_M_atom_ [vr 11 0, vi a, vi w] σ Q := by
  obtain ⟨hmr, hbes, ht1, ht2, htp, hti, hg, hsp, hsp2, hla⟩ := id h
  obtain ⟨hm, hl, hlb1, -, -⟩ := id hmr
  obtain ⟨-, g2, -, g4, g5, g6, g7, g8⟩ := hg
  unfold doAtom at kk
  have bad : (w < 0 ∨ 3 < w) → Ex (wp d) m_M_atom_ Q 9 [some (vr 11 0), some (vi a), some (vi w)] [] σ := by
    intro q
    rw [if_pos q] at kk
    refine x_bipush i_M_atom__9 ?_
    refine x_iret i_M_atom__11 rfl ?_
    exact kk
  refine x_in (ls := [some _, some _, some _]) rfl rfl ?_
  refine x_iload_n i_M_atom__0 rfl ?_
  refine x_if_lt i_M_atom__1 (fun c1 => ?_) (fun c1 => ?_)
  · exact bad (Or.inl c1)
  · refine x_iload_n i_M_atom__4 rfl ?_
    refine x_iconst i_M_atom__5 ?_
    refine x_icmp_le i_M_atom__6 (fun c2 => ?_) (fun c2 => ?_)
    · rw [if_neg (by omega)] at kk
      have none_ : (a < 0 ∨ (S.2.1.2.1.length : Int) ≤ a) → Ex (wp d) m_M_atom_ Q 24 [some (vr 11 0), some (vi a), some (vi w)] [] σ := by
        intro q
        rw [if_pos q] at kk
        refine x_iconst i_M_atom__24 ?_
        refine x_iret i_M_atom__25 rfl ?_
        exact kk
      refine x_iload_n i_M_atom__12 rfl ?_
      refine x_if_lt i_M_atom__13 (fun c3 => ?_) (fun c3 => ?_)
      · exact none_ (Or.inl c3)
      · refine x_iload_n i_M_atom__16 rfl ?_
        refine x_aload_n i_M_atom__17 rfl ?_
        refine x_getI i_M_atom__18 rfl rfl ?_
        rw [g4]
        refine x_icmp_lt i_M_atom__21 (fun c4 => ?_) (fun c4 => ?_)
        · obtain ⟨n, rfl⟩ : ∃ n : Nat, a = (n : Int) := ⟨a.toNat, by omega⟩
          obtain ⟨b1, b2, b3, b4, b5⟩ := g6 n _ (getD_some (d := (0, 0, 0, 0, 0)) (by omega))
          have hn : n < 32 := by omega
          rw [if_neg (by omega), Int.toNat_natCast] at kk
          simp only [] at kk
          generalize S.2.1.2.1.getD n (0, 0, 0, 0, 0) = x at kk b1 b2 b3 b4 b5
          refine x_iload_n i_M_atom__26 rfl ?_
          refine x_if_ne i_M_atom__27 (fun c5 => ?_) (fun c5 => ?_)
          · rw [if_neg c5] at kk
            refine x_iload_n i_M_atom__39 rfl ?_
            refine x_iconst i_M_atom__40 ?_
            refine x_icmp_ne i_M_atom__41 (fun c6 => ?_) (fun c6 => ?_)
            · rw [if_neg c6] at kk
              refine x_iload_n i_M_atom__53 rfl ?_
              refine x_iconst i_M_atom__54 ?_
              refine x_icmp_ne i_M_atom__55 (fun c7 => ?_) (fun c7 => ?_)
              · rw [if_neg c7] at kk
                refine x_aload_n i_M_atom__67 rfl ?_
                refine x_getR (c2 := 13) i_M_atom__68 rfl rfl (hm _ _ rfl) ?_
                refine x_iload_n i_M_atom__71 rfl ?_
                refine x_iaload i_M_atom__72 (k := n) rfl (lt_len hl rfl hn) ?_
                rw [b5]
                refine x_iret i_M_atom__73 rfl ?_
                exact kk
              · rw [if_pos (by omega)] at kk
                refine x_aload_n i_M_atom__58 rfl ?_
                refine x_getR (c2 := 13) i_M_atom__59 rfl rfl (hm _ _ rfl) ?_
                refine x_iload_n i_M_atom__62 rfl ?_
                refine x_iaload i_M_atom__63 (k := n) rfl (lt_len hl rfl hn) ?_
                rw [b4]
                refine x_goto i_M_atom__64 ?_
                refine x_iret i_M_atom__73 rfl ?_
                exact kk
            · rw [if_pos (by omega)] at kk
              refine x_aload_n i_M_atom__44 rfl ?_
              refine x_getR (c2 := 13) i_M_atom__45 rfl rfl (hm _ _ rfl) ?_
              refine x_iload_n i_M_atom__48 rfl ?_
              refine x_iaload i_M_atom__49 (k := n) rfl (lt_len hl rfl hn) ?_
              rw [b3]
              refine x_goto i_M_atom__50 ?_
              refine x_iret i_M_atom__73 rfl ?_
              exact kk
          · rw [if_pos (by omega)] at kk
            refine x_aload_n i_M_atom__30 rfl ?_
            refine x_getR (c2 := 13) i_M_atom__31 rfl rfl (hm _ _ rfl) ?_
            refine x_iload_n i_M_atom__34 rfl ?_
            refine x_iaload i_M_atom__35 (k := n) rfl (lt_len hl rfl hn) ?_
            rw [b2]
            refine x_goto i_M_atom__36 ?_
            refine x_iret i_M_atom__73 rfl ?_
            exact kk
        · exact none_ (Or.inr (by omega))
    · exact bad (Or.inr (by omega))
end


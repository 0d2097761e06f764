/-! A RUN OF THE CLASS: chains -/
def forkE (c : Option TT) (a b : Option TT) : TT := forkT (codeT c) (a.getD (boughT [])) (b.getD (boughT []))
theorem chainE_f {a b : Nat → ES → RR} {f p : Nat} {whole : Option TT} {cut : Bool} {st : ES} (h : (b p st).1 < 0) : chainE a b (f + 1) p whole cut st = if (b p st).1 = -5 ∧ (b p st).2.2.1 = false then ((p : Int), whole, cut, (b p st).2.2.2) else b p st := by
  simp only [chainE]
  rw [if_pos h]
theorem chainE_t {a b : Nat → ES → RR} {f p : Nat} {whole : Option TT} {cut : Bool} {st : ES} {r q : RR} (hr : b p st = r) (h : ¬ r.1 < 0) (hq : a r.1.toNat r.2.2.2 = q) : chainE a b (f + 1) p whole cut st =
    if q.1 < 0 then (if q.1 = -5 ∧ (q.2.2.1 || r.2.2.1) = false then ((p : Int), whole, cut, q.2.2.2) else (q.1, none, (q.2.2.1 || r.2.2.1), q.2.2.2))
    else if q.1 = (p : Int) then (-15, none, false, q.2.2.2)
    else if 2000 < sizeT (forkE r.2.1 whole q.2.1) then (-19, none, false, q.2.2.2) else chainE a b f q.1.toNat (some (forkE r.2.1 whole q.2.1)) (cut || (q.2.2.1 || r.2.2.1)) q.2.2.2 := by
  simp only [chainE]
  rw [hr, if_neg h, hq]
  rfl
section
variable {d : Nat} {Q : AQ} {σ : AS} {e : RE} {st : ES} {N K : Nat} {tab : Nat → TT} {H : List Nat}
theorem c_R_chained {k dep n : Nat} (ha : AltC e (d + 3) k dep n) (h : RS σ e st N K tab H) {it : Item (PT n)} {a : Nat} (hi : itR σ e.1.2.1 n it a) (hk : it.1.1 = 10) {p : Nat} (hp : p ≤ eZ e) {A B : Nat → ES → RR} (hA : A = fun p st => altE e.2.1 (eZ e) e.2.2 k n it.2.2.1 p st) (hB : B = fun p st => altE e.2.1 (eZ e) e.2.2 k n it.2.2.2 p st) (kk : PostR e Q (-5) 2 σ st.1.1 N K tab H (if (A p st).1 < 0 then A p st else chainE A B 1001 (A p st).1.toNat (A p st).2.1 (A p st).2.2.1 (A p st).2.2.2)) : wp (d + 4) m_Run_chained [vr 7 0, vr 4 a, vi (p : Nat), vi (dep : Nat)] σ Q := by
  have cA : ∀ (Q : AQ) (σ1 : AS) (st1 : ES) (N1 K1 : Nat) (tab1 : Nat → TT) (p1 : Nat), RS σ1 e st1 N1 K1 tab1 H → runX σ σ1 → p1 ≤ eZ e → PostR e Q (-5) 2 σ1 st1.1.1 N1 K1 tab1 H (A p1 st1) → wp (d + 3) m_Run_alternatives [vr 7 0, vo 8 (FR σ1 404 a), vi (p1 : Nat), vi (dep : Nat)] σ1 Q := by
    intro Q σ1 st1 N1 K1 tab1 p1 h1 x1 hp1 k1
    rw [hA] at k1
    exact ha it.2.2.1 _ Q σ1 st1 N1 K1 tab1 H p1 h1 ((hi.run x1).2.2.2.2.2.2.1 (by rw [hk]; decide)) hp1 k1
  have cB : ∀ (Q : AQ) (σ1 : AS) (st1 : ES) (N1 K1 : Nat) (tab1 : Nat → TT) (p1 : Nat), RS σ1 e st1 N1 K1 tab1 H → runX σ σ1 → p1 ≤ eZ e → PostR e Q (-5) 2 σ1 st1.1.1 N1 K1 tab1 H (B p1 st1) → wp (d + 3) m_Run_alternatives [vr 7 0, vo 8 (FR σ1 405 a), vi (p1 : Nat), vi (dep : Nat)] σ1 Q := by
    intro Q σ1 st1 N1 K1 tab1 p1 h1 x1 hp1 k1
    rw [hB] at k1
    exact ha it.2.2.2 _ Q σ1 st1 N1 K1 tab1 H p1 h1 ((hi.run x1).2.2.2.2.2.2.2 hk) hp1 k1
  clear hA hB ha
  have loop : ∀ (f : Nat) (round : Nat) (σ1 : AS) (st1 : ES) (N1 K1 : Nat) (tab1 : Nat → TT) (p1 : Nat) (ow : Option Nat) (cut : Bool), f + round = 1001 → RS σ1 e st1 N1 K1 tab1 H → runX σ σ1 → p1 ≤ eZ e → N ≤ N1 → (∀ j, j < N → tab1 j = tab j) → N1 + 2 + 2 * st.1.1 ≤ N + 2 * st1.1.1 → K1 + 2 + 3 * st.1.1 ≤ K + 3 * st1.1.1 → round ≤ st1.1.1 → oN N1 ow → PostR e Q (-5) 2 σ st.1.1 N K tab H (chainE A B f p1 (ow.map tab1) cut st1) → Ex (wp (d + 3)) m_Run_chained Q 27 [some (vr 7 0), some (vr 4 a), some (vi (p : Nat)), some (vi (dep : Nat)), some (vi (p1 : Nat)), some (vi (oI ow)), some (vi (bI cut)), some (vi (round : Nat)), none, none, none] [] σ1 := by
    intro f
    induction f with
    | zero =>
      intro round σ1 st1 N1 K1 tab1 p1 ow cut hf h1 x1 hp1 hN ht b1 b2 b3 how kk
      exfalso
      have := h1.2.2.2.1.1
      omega
    | succ f ih =>
      intro round σ1 st1 N1 K1 tab1 p1 ow cut hf h1 x1 hp1 hN ht b1 b2 b3 how kk
      have hz : eZ e ≤ 240 := h1.1.2.2.2.2.2.2.2.1
      have hcut := bI_01 cut
      -- the chain's answer so far
      have settle : ∀ (x8 : Option AV) (x9 : Option AV) (x10 : Option AV) (pc : Nat) (σ2 : AS) (st2 : ES) (N2 K2 : Nat) (tab2 : Nat → TT), RS σ2 e st2 N2 K2 tab2 H → runX σ σ2 → N1 ≤ N2 → (∀ j, j < N1 → tab2 j = tab1 j) → N2 + 2 * st1.1.1 ≤ N1 + 2 * st2.1.1 → K2 + 3 * st1.1.1 ≤ K1 + 3 * st2.1.1 → PostR e Q (-5) 2 σ st.1.1 N K tab H ((p1 : Int), ow.map tab1, cut, st2) → (∀ (v : Int) σ3, Q (some (vi v)) σ3 → Ex (wp (d + 3)) m_Run_chained Q pc [some (vr 7 0), some (vr 4 a), some (vi (p : Nat)), some (vi (dep : Nat)), some (vi (p1 : Nat)), some (vi (oI ow)), some (vi (bI cut)), some (vi (round : Nat)), x8, x9, x10] [vi v] σ3) → wp (d + 3) m_Run_settled [vr 7 0, vi (oI ow), vi (bI cut), vi (p1 : Nat)] σ2 (fun r u => Ex (wp (d + 3)) m_Run_chained Q pc [some (vr 7 0), some (vr 4 a), some (vi (p : Nat)), some (vi (dep : Nat)), some (vi (p1 : Nat)), some (vi (oI ow)), some (vi (bI cut)), some (vi (round : Nat)), x8, x9, x10] (r.toList ++ []) u) := by
        intro x8 x9 x10 pc σ2 st2 N2 K2 tab2 z1 z2 z3 z4 z5 z6 k2 ret
        refine c_R_settled hcut (fun σ3 w1 w2 w3 => ?_)
        have w1 : tsX σ2 σ3 := w1
        refine ret _ σ3 ?_
        rw [if_neg (by have := oI_ge ow; omega)]
        exact k2 σ3 N2 K2 tab2 H ⟨z1.set w1, z2.tr w1.run, by omega, fun j hj => by rw [z4 j (by omega), ht j hj], ⟨[], by simp⟩, by show st.1.1 ≤ st2.1.1; omega, fun _ => ⟨by show N2 + 2 + 2 * st.1.1 ≤ N + 2 * st2.1.1; omega, by show K2 + 2 + 3 * st.1.1 ≤ K + 3 * st2.1.1; omega, w3, fun _ => rfl⟩, fun _ => ⟨by show (p1 : Int) ≤ _; omega, ow, w2, how.up z3, oN_map how z4⟩, Or.inr (Or.inr (by show 0 ≤ (p1 : Int); omega))⟩
      refine x_iload i_Run_chained_27 rfl ?_
      refine x_sipush i_Run_chained_29 ?_
      refine x_icmp_gt_f i_Run_chained_32 (by omega) ?_
      refine x_iload i_Run_chained_35 rfl ?_
      refine x_if_lt_f i_Run_chained_37 (by omega) ?_
      refine x_aload_n i_Run_chained_40 rfl ?_
      refine x_aload_n i_Run_chained_41 rfl ?_
      refine x_getO (c2 := 8) i_Run_chained_42 rfl rfl ?_
      refine x_iload i_Run_chained_45 rfl ?_
      refine x_iload_n i_Run_chained_47 rfl ?_
      refine x_cv3 i_Run_chained_48 rfl rfl rfl ?_
      refine cB _ σ1 st1 N1 K1 tab1 p1 h1 x1 hp1 ?_
      intro σ2 N2 K2 tab2 H2 ho
      generalize hr : B p1 st1 = r at ho
      obtain ⟨u1, u2, u3, u4, u5, u6, u7, u8, u9⟩ := ho
      refine x_istore (ls' := [_, _, _, _, _, _, _, _, _, _, _]) i_Run_chained_51 rfl rfl ?_
      refine x_iload i_Run_chained_53 rfl ?_
      refine x_if_ge i_Run_chained_55 (fun h5 => ?_) (fun h5 => ?_)
      · obtain ⟨t1, t2, t3, t4⟩ := u7 (by omega)
        obtain ⟨y1, os, y2, y3, y4⟩ := u8 h5
        have t4 := t4 (by omega)
        subst t4
        have e1 : ((r.1.toNat : Nat) : Int) = r.1 := by omega
        refine x_aload_n i_Run_chained_88 rfl ?_
        refine x_getI i_Run_chained_89 rfl rfl ?_
        refine x_istore (ls' := [_, _, _, _, _, _, _, _, _, _, _]) i_Run_chained_92 rfl rfl ?_
        rw [y2]
        refine x_aload_n i_Run_chained_94 rfl ?_
        refine x_getI i_Run_chained_95 rfl rfl ?_
        refine x_istore (ls' := [_, _, _, _, _, _, _, _, _, _, _]) i_Run_chained_98 rfl rfl ?_
        rw [t3]
        refine x_aload_n i_Run_chained_100 rfl ?_
        refine x_aload_n i_Run_chained_101 rfl ?_
        refine x_getO (c2 := 8) i_Run_chained_102 rfl rfl ?_
        refine x_iload i_Run_chained_105 rfl ?_
        refine x_iload_n i_Run_chained_107 rfl ?_
        rw [← e1]
        refine x_cv3 i_Run_chained_108 rfl rfl rfl ?_
        refine cA _ σ2 _ N2 K2 tab2 r.1.toNat u1 (x1.tr u2) (by omega) ?_
        intro σ3 N3 K3 tab3 H3 ho
        generalize hq : A r.1.toNat r.2.2.2 = q at ho
        rw [chainE_t hr (by omega) hq] at kk
        obtain ⟨w1, w2, w3, w4, w5, w6, w7, w8, w9⟩ := ho
        have hrs := bI_01 r.2.2.1
        refine x_istore (ls' := [_, _, _, _, _, _, _, _, _, _, _]) i_Run_chained_111 rfl rfl ?_
        have put : ∀ y : Int, y = 0 ∨ y = 1 → (∀ b, FI σ3 712 0 = bI b → y = bI (b || r.2.2.1)) → Ex (wp (d + 3)) m_Run_chained Q 131 [some (vr 7 0), some (vr 4 a), some (vi (p : Nat)), some (vi (dep : Nat)), some (vi (p1 : Nat)), some (vi (oI ow)), some (vi (bI cut)), some (vi (round : Nat)), some (vi q.1), some (vi (oI os)), some (vi (bI r.2.2.1))] [vi y, vr 7 0] σ3 := by
          intro y hy hyb
          refine x_putZ i_Run_chained_131 rfl rfl (by omega) ?_
          have s1 : tsX σ3 (sFI σ3 712 0 y) := tX_sFI ⟨Or.inr rfl, rfl⟩
          have g1 : ∀ b, FI σ3 712 0 = bI b → FI (sFI σ3 712 0 y) 712 0 = bI (b || r.2.2.1) := fun b w => by rw [FI_sFI, if_pos ⟨rfl, rfl⟩]; exact hyb b w
          have g2 : FI (sFI σ3 712 0 y) 706 0 = FI σ3 706 0 := by simp [FI_sFI]
          generalize sFI σ3 712 0 y = σ4 at s1 g1 g2
          have v1 := w1.set s1
          have x4 : runX σ σ4 := ((x1.tr u2).tr w2).tr s1.run
          have ext3 : ∀ j, j < N1 → tab3 j = tab1 j := fun j hj => by rw [w4 j (by omega), u4 j hj]
          refine x_iload i_Run_chained_134 rfl ?_
          refine x_if_ge i_Run_chained_136 (fun h6 => ?_) (fun h6 => ?_)
          · rw [if_neg (by omega)] at kk
            obtain ⟨i1, i2, i3, i4⟩ := w7 (by omega)
            obtain ⟨j1, oq, j2, j3, j4⟩ := w8 h6
            have i4 := i4 (by omega)
            subst i4
            have g1 := g1 _ i3
            have g2 := g2.trans j2
            have e2 : ((q.1.toNat : Nat) : Int) = q.1 := by omega
            refine x_iload i_Run_chained_169 rfl ?_
            refine x_iload i_Run_chained_171 rfl ?_
            refine x_icmp_ne i_Run_chained_173 (fun h7 => ?_) (fun h7 => ?_)
            · rw [if_neg h7] at kk
              obtain ⟨⟨⟨m1, m2, m3, m4⟩, -⟩, tr4, -, ⟨c1, c2, c3, c4, c5, c6⟩, -⟩ := id v1
              have b0 := h.2.2.2.1
              obtain ⟨b01, b02, b03, b04, b05, b06⟩ := b0
              have ef : forkE r.2.1 (ow.map tab1) q.2.1 = forkT (codeT (os.map tab3)) ((ow.map tab3).getD (boughT [])) ((oq.map tab3).getD (boughT [])) := by
                unfold forkE
                rw [oN_map y3 w4, y4, oN_map how ext3, j4]
              rw [ef] at kk
              refine x_aload_n i_Run_chained_179 rfl ?_
              refine x_getR (c2 := 9) i_Run_chained_180 rfl rfl (by assumption) ?_
              refine x_iload i_Run_chained_183 rfl ?_
              refine x_iload i_Run_chained_185 rfl ?_
              refine x_aload_n i_Run_chained_187 rfl ?_
              refine x_getI i_Run_chained_188 rfl rfl ?_
              rw [g2]
              refine x_cv3 i_Run_chained_191 rfl rfl rfl ?_
              refine c_T_fork tr4 (s := os) (l := ow) (r := oq) (y3.up w3) (how.up (by omega)) j3 (by omega) (by omega) (fun k1 => ?_) (fun k1 σ5 tab5 k2 k3 k4 k5 => ?_)
              · rw [if_pos k1] at kk
                refine x_istore (ls' := [_, _, _, _, _, _, _, _, _, _, _]) i_Run_chained_194 rfl rfl ?_
                refine x_iload i_Run_chained_196 rfl ?_
                refine x_bipush i_Run_chained_198 ?_
                refine x_icmp_ne_f i_Run_chained_200 rfl ?_
                refine x_bipush i_Run_chained_203 ?_
                refine x_iret i_Run_chained_205 rfl ?_
                exact kk σ4 N3 K3 tab3 _ (OutR.err v1 x4 (by omega) (fun j hj => by rw [ext3 j (by omega), ht j hj]) ⟨[], by simp⟩ (by show st.1.1 ≤ q.2.2.2.1.1; omega) (by show (-19 : Int) < -9; decide))
              · rw [if_neg (by omega)] at kk
                have v2 : RS σ5 e q.2.2.2 (N3 + 1) (K3 + 2) tab5 _ := v1.tr k5 k2 (by omega) k4 ⟨c1, c2, c3, by omega, by omega, c6⟩
                have next := ih (round + 1) σ5 q.2.2.2 (N3 + 1) (K3 + 2) tab5 q.1.toNat (some N3) (cut || (q.2.2.1 || r.2.2.1)) (by omega) v2 (x4.tr k5.run) (by omega) (by omega) (fun j hj => by rw [k4 j (by omega), ext3 j (by omega), ht j hj]) (by omega) (by omega) (by omega) (fun i hi => by cases hi; omega) (by rw [show (some N3).map tab5 = some (tab5 N3) from rfl, k3]; exact kk)
                have g5 : FI σ5 712 0 = bI (q.2.2.1 || r.2.2.1) := (k5.1 _ _ (fun w => by have := w.1; omega)).trans g1
                have fin : ∀ z : Int, z = bI (cut || (q.2.2.1 || r.2.2.1)) → Ex (wp (d + 3)) m_Run_chained Q 223 [some (vr 7 0), some (vr 4 a), some (vi (p : Nat)), some (vi (dep : Nat)), some (vi (p1 : Nat)), some (vi (N3 : Nat)), some (vi (bI cut)), some (vi (round : Nat)), some (vi q.1), some (vi (oI os)), some (vi (bI r.2.2.1))] [vi z] σ5 := by
                  intro z hz
                  rw [hz]
                  refine x_istore (ls' := [_, _, _, _, _, _, _, _, _, _, _]) i_Run_chained_223 rfl rfl ?_
                  refine x_iload i_Run_chained_225 rfl ?_
                  refine x_istore (ls' := [_, _, _, _, _, _, _, _, _, _, _]) i_Run_chained_227 rfl rfl ?_
                  refine x_iinc (ls' := [_, _, _, _, _, _, _, _, _, _, _]) i_Run_chained_229 rfl (by omega) rfl ?_
                  refine x_goto i_Run_chained_232 ?_
                  refine Ex.weak (ls := [_, _, _, _, _, _, _, _, none, none, none]) ⟨Or.inr rfl, Or.inr rfl, Or.inr rfl, Or.inr rfl, Or.inr rfl, Or.inr rfl, Or.inr rfl, Or.inr rfl, Or.inl rfl, Or.inl rfl, Or.inl rfl, trivial⟩ ?_
                  rw [e2] at next
                  exact next
                refine x_istore (ls' := [_, _, _, _, _, _, _, _, _, _, _]) i_Run_chained_194 rfl rfl ?_
                refine x_iload i_Run_chained_196 rfl ?_
                refine x_bipush i_Run_chained_198 ?_
                refine x_icmp_ne_t i_Run_chained_200 (by omega) ?_
                refine x_iload i_Run_chained_206 rfl ?_
                refine x_if_ne i_Run_chained_208 (fun h8 => ?_) (fun h8 => ?_)
                · refine x_iconst i_Run_chained_218 ?_
                  refine x_goto i_Run_chained_219 ?_
                  exact fin 1 (by rw [bI_t h8]; rfl)
                · refine x_aload_n i_Run_chained_211 rfl ?_
                  refine x_getI i_Run_chained_212 rfl rfl ?_
                  rw [g5]
                  refine x_if_eq i_Run_chained_215 (fun h9 => ?_) (fun h9 => ?_)
                  · refine x_iconst i_Run_chained_222 ?_
                    exact fin 0 (by rw [bI_f h8, Bool.false_or]; exact h9.symm)
                  · refine x_iconst i_Run_chained_218 ?_
                    refine x_goto i_Run_chained_219 ?_
                    exact fin 1 (by rw [bI_t h9, Bool.or_true]; rfl)
            · rw [if_pos h7] at kk
              refine x_bipush i_Run_chained_176 ?_
              refine x_iret i_Run_chained_178 rfl ?_
              exact kk σ4 N3 K3 tab3 _ (OutR.err v1 x4 (by omega) (fun j hj => by rw [ext3 j (by omega), ht j hj]) ⟨[], by simp⟩ (by show st.1.1 ≤ q.2.2.2.1.1; omega) (by show (-15 : Int) < -9; decide))
          · rw [if_pos h6] at kk
            have back : ¬ (q.1 = -5 ∧ (q.2.2.1 || r.2.2.1) = false) → Ex (wp (d + 3)) m_Run_chained Q 166 [some (vr 7 0), some (vr 4 a), some (vi (p : Nat)), some (vi (dep : Nat)), some (vi (p1 : Nat)), some (vi (oI ow)), some (vi (bI cut)), some (vi (round : Nat)), some (vi q.1), some (vi (oI os)), some (vi (bI r.2.2.1))] [] σ4 := by
              intro hn
              rw [if_neg hn] at kk
              refine x_iload i_Run_chained_166 rfl ?_
              refine x_iret i_Run_chained_168 rfl ?_
              refine kk σ4 N3 K3 tab3 H3 ⟨v1, x4, by omega, fun j hj => by rw [ext3 j (by omega), ht j hj], w5, by show st.1.1 ≤ q.2.2.2.1.1; omega, fun w => ?_, fun w => absurd w (Int.not_le.mpr h6), w9⟩
              have w : -5 ≤ q.1 := w
              obtain ⟨i1, i2, i3, i4⟩ := w7 w
              exact ⟨by show N3 + 2 + 2 * st.1.1 ≤ N + 2 * q.2.2.2.1.1; omega, by show K3 + 2 + 3 * st.1.1 ≤ K + 3 * q.2.2.2.1.1; omega, g1 _ i3, i4⟩
            refine x_iload i_Run_chained_139 rfl ?_
            refine x_bipush i_Run_chained_141 ?_
            refine x_icmp_ne i_Run_chained_143 (fun h7 => ?_) (fun h7 => ?_)
            · exact back (fun w => h7 w.1)
            · obtain ⟨i1, i2, i3, i4⟩ := w7 (by omega)
              have i4 := i4 (by omega)
              subst i4
              have g1 := g1 _ i3
              refine x_aload_n i_Run_chained_146 rfl ?_
              refine x_getI i_Run_chained_147 rfl rfl ?_
              rw [g1]
              refine x_if_ne i_Run_chained_150 (fun h8 => ?_) (fun h8 => ?_)
              · exact back (fun w => by rw [w.2] at h8; exact h8 rfl)
              · rw [if_pos ⟨h7, bI_f h8⟩] at kk
                refine x_aload_n i_Run_chained_153 rfl ?_
                refine x_iload i_Run_chained_154 rfl ?_
                refine x_iload i_Run_chained_156 rfl ?_
                refine x_iload i_Run_chained_158 rfl ?_
                refine x_cv3 i_Run_chained_160 rfl rfl rfl ?_
                refine settle _ _ _ _ σ4 q.2.2.2 N3 K3 tab3 v1 x4 (by omega) ext3 (by omega) (by omega) kk (fun v σ5 k5 => ?_)
                refine x_goto i_Run_chained_163 ?_
                refine x_iret i_Run_chained_168 rfl ?_
                exact k5
        refine x_aload_n i_Run_chained_113 rfl ?_
        refine x_aload_n i_Run_chained_114 rfl ?_
        refine x_getI i_Run_chained_115 rfl rfl ?_
        refine x_if_ne i_Run_chained_118 (fun h6 => ?_) (fun h6 => ?_)
        · refine x_iconst i_Run_chained_126 ?_
          refine x_goto i_Run_chained_127 ?_
          exact put 1 (Or.inr rfl) (fun b w => by rw [bI_t (fun u => h6 (w.trans u))]; rfl)
        · refine x_iload i_Run_chained_121 rfl ?_
          refine x_if_eq i_Run_chained_123 (fun h7 => ?_) (fun h7 => ?_)
          · refine x_iconst i_Run_chained_130 ?_
            exact put 0 (Or.inl rfl) (fun b w => by rw [bI_f (w.symm.trans h6), Bool.false_or]; exact h7.symm)
          · refine x_iconst i_Run_chained_126 ?_
            refine x_goto i_Run_chained_127 ?_
            exact put 1 (Or.inr rfl) (fun b w => by rw [bI_t h7, Bool.or_true]; rfl)
      · rw [chainE_f (by rw [hr]; exact h5), hr] at kk
        have back : ¬ (r.1 = -5 ∧ r.2.2.1 = false) → Ex (wp (d + 3)) m_Run_chained Q 85 [some (vr 7 0), some (vr 4 a), some (vi (p : Nat)), some (vi (dep : Nat)), some (vi (p1 : Nat)), some (vi (oI ow)), some (vi (bI cut)), some (vi (round : Nat)), some (vi r.1), none, none] [] σ2 := by
          intro hn
          rw [if_neg hn] at kk
          refine x_iload i_Run_chained_85 rfl ?_
          refine x_iret i_Run_chained_87 rfl ?_
          refine kk σ2 N2 K2 tab2 H2 ⟨u1, x1.tr u2, by omega, fun j hj => by rw [u4 j (by omega), ht j hj], u5, by omega, fun w => ?_, fun w => absurd w (Int.not_le.mpr h5), u9⟩
          obtain ⟨i1, i2, i3, i4⟩ := u7 w
          exact ⟨by omega, by omega, i3, i4⟩
        refine x_iload i_Run_chained_58 rfl ?_
        refine x_bipush i_Run_chained_60 ?_
        refine x_icmp_ne i_Run_chained_62 (fun h7 => ?_) (fun h7 => ?_)
        · exact back (fun w => h7 w.1)
        · obtain ⟨i1, i2, i3, i4⟩ := u7 (by omega)
          have i4 := i4 (by omega)
          subst i4
          refine x_aload_n i_Run_chained_65 rfl ?_
          refine x_getI i_Run_chained_66 rfl rfl ?_
          rw [i3]
          refine x_if_ne i_Run_chained_69 (fun h8 => ?_) (fun h8 => ?_)
          · exact back (fun w => by rw [w.2] at h8; exact h8 rfl)
          · rw [if_pos ⟨h7, bI_f h8⟩] at kk
            refine x_aload_n i_Run_chained_72 rfl ?_
            refine x_iload i_Run_chained_73 rfl ?_
            refine x_iload i_Run_chained_75 rfl ?_
            refine x_iload i_Run_chained_77 rfl ?_
            refine x_cv3 i_Run_chained_79 rfl rfl rfl ?_
            refine settle _ _ _ _ σ2 r.2.2.2 N2 K2 tab2 u1 (x1.tr u2) u3 u4 (by omega) (by omega) kk (fun v σ5 k5 => ?_)
            refine x_goto i_Run_chained_82 ?_
            refine x_iret i_Run_chained_87 rfl ?_
            exact k5
  refine x_in (ls := [some _, some _, some _, some _, none, none, none, none, none, none, none]) rfl rfl ?_
  refine x_aload_n i_Run_chained_0 rfl ?_
  refine x_aload_n i_Run_chained_1 rfl ?_
  refine x_getO (c2 := 8) i_Run_chained_2 rfl rfl ?_
  refine x_iload_n i_Run_chained_5 rfl ?_
  refine x_iload_n i_Run_chained_6 rfl ?_
  refine x_cv3 i_Run_chained_7 rfl rfl rfl ?_
  refine cA _ σ st N K tab p h (tX.rf _ _ _) hp ?_
  intro σ1 N1 K1 tab1 H1 ho
  generalize hq : A p st = r at ho kk
  refine x_istore (ls' := [_, _, _, _, _, _, _, _, _, _, _]) i_Run_chained_10 rfl rfl ?_
  refine x_aload_n i_Run_chained_12 rfl ?_
  refine x_getI i_Run_chained_13 rfl rfl ?_
  refine x_istore (ls' := [_, _, _, _, _, _, _, _, _, _, _]) i_Run_chained_16 rfl rfl ?_
  refine x_aload_n i_Run_chained_18 rfl ?_
  refine x_getI i_Run_chained_19 rfl rfl ?_
  refine x_istore (ls' := [_, _, _, _, _, _, _, _, _, _, _]) i_Run_chained_22 rfl rfl ?_
  refine x_iconst i_Run_chained_24 ?_
  refine x_istore (ls' := [_, _, _, _, _, _, _, _, _, _, _]) i_Run_chained_25 rfl rfl ?_
  by_cases hr : r.1 < 0
  · rw [if_pos hr] at kk
    refine x_iload i_Run_chained_27 rfl ?_
    refine x_sipush i_Run_chained_29 ?_
    refine x_icmp_gt_f i_Run_chained_32 (by decide) ?_
    refine x_iload i_Run_chained_35 rfl ?_
    refine x_if_lt_t i_Run_chained_37 hr ?_
    refine x_iload i_Run_chained_235 rfl ?_
    refine x_iret i_Run_chained_237 rfl ?_
    exact kk σ1 N1 K1 tab1 H1 ho
  · rw [if_neg hr] at kk
    obtain ⟨u1, u2, u3, u4, u5, u6, u7, u8, u9⟩ := ho
    obtain ⟨t1, t2, t3, t4⟩ := u7 (by omega)
    obtain ⟨y1, ow, y2, y3, y4⟩ := u8 (by omega)
    have t4 := t4 (by omega)
    subst t4
    have := loop 1001 0 σ1 r.2.2.2 N1 K1 tab1 r.1.toNat ow r.2.2.1 rfl u1 u2 (by omega) u3 u4 t1 t2 (Nat.zero_le _) y3 (by rw [y4]; exact kk)
    rw [show ((r.1.toNat : Nat) : Int) = r.1 by omega] at this
    rw [y2, t3]
    exact this
end


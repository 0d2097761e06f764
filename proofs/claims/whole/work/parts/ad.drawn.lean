/-! drawn, pure; the class's -/
theorem iUshr_9 (z : Int) : 0 ≤ iUshr z 9 ∧ iUshr z 9 ≤ 8388607 := by
  unfold iUshr
  rw [show ((Int32.ofInt 9).toUInt32 &&& Int32.toUInt32 31) = 9 from by decide]
  generalize (Int32.ofInt z).toUInt32 = u
  have h1 : (u >>> 9).toNat ≤ 8388607 := by
    rw [UInt32.toNat_shiftRight]
    have := u.toNat_lt
    rw [show (9 : UInt32).toNat % 32 = 9 from rfl, Nat.shiftRight_eq_div_pow]
    omega
  generalize u >>> 9 = v at h1
  have h2 : v.toInt32.toInt = v.toBitVec.toInt := rfl
  have h3 : v.toBitVec.toNat = v.toNat := rfl
  rw [h2, BitVec.toInt_eq_toNat_of_lt (by omega)]
  omega
def nxZ (z : Int) : Int := wr (wr (z * 1103515245) + 12345)
def zN (z : Int) : Nat → Int
  | 0 => z
  | k + 1 => nxZ (zN z k)
def byteG (G : GG) (z : Int) : Int := if (litsG G).length = 0 then ((48 + (iUshr z 9).toNat % 10 : Nat) : Int) else (litsG G).getD ((iUshr z 9).toNat % (litsG G).length) 0
def inpG (G : GG) (z : Int) : Nat → Int := fun i => byteG G (zN z (i + 1))
def drawE (G : GG) (r n : Nat) : Nat → Int → Nat → Nat → Nat × Nat
  | 0, _, sp, c => (sp, c)
  | m + 1, z, sp, c => drawE G r n m (zN z n) (parseE (inpG G z) n (rulG G) r 0 sp).2.2.2.1.2.1 (if (parseE (inpG G z) n (rulG G) r 0 sp).1 = (n : Int) then c + 1 else c)
def drawS (S : SS) (r z n m : Int) : Nat × Nat := drawE S.2.1 r.toNat n.toNat m.toNat z S.2.2.1 0
def doDrawn (S : SS) (r z n m : Int) : Int × SS := if hasG S.2.1 r = false ∨ n < 1 ∨ 20 < n ∨ m < 1 ∨ 20 < m then (-2, S) else (((drawS S r z n m).2 : Int), (S.1, S.2.1, (drawS S r z n m).1, S.2.2.2))
/-- the bytes between ' ' are bytes -/
def okG (G : GG) : Prop := ∀ a ∈ G.2.1, a.2.2.1 = 0 → 0 ≤ a.2.2.2.1 ∧ a.2.2.2.1 ≤ 255
theorem okG.byte {G : GG} (h : okG G) (z : Int) : 0 ≤ byteG G z ∧ byteG G z ≤ 255 := by
  unfold byteG
  split
  · omega
  · rename_i q
    have hlt : (iUshr z 9).toNat % (litsG G).length < (litsG G).length := Nat.mod_lt _ (by omega)
    have hm : (litsG G).getD ((iUshr z 9).toNat % (litsG G).length) 0 ∈ litsG G := by
      rw [List.getD_eq_getElem?_getD, List.getElem?_eq_getElem hlt]
      exact List.getElem_mem hlt
    generalize (litsG G).getD ((iUshr z 9).toNat % (litsG G).length) 0 = v at hm
    unfold litsG at hm
    obtain ⟨a, ha, rfl⟩ := List.mem_map.mp hm
    obtain ⟨ha1, ha2⟩ := List.mem_filter.mp ha
    exact h a ha1 (by simpa using ha2)
section
variable {d : Nat} {Q : AQ} {σ : AS} {S : SS}
theorem c_G_drawnByte {g rq cq : Nat} {G : GG} (g7 : FR σ 103 g = some rq) (r17 : rowF σ rq cq 32 (litsG G).length (fun i => (litsG G).getD i 0)) {z : Int} (kk : Q (some (vi (byteG G z))) σ) : wp (d + 3) m_Grammar_drawnByte [vr 1 g, vi (iUshr z 9)] σ Q := by
  obtain ⟨b1, b2⟩ := iUshr_9 z
  unfold byteG at kk
  obtain ⟨u, hu⟩ : ∃ u : Nat, iUshr z 9 = (u : Int) := ⟨(iUshr z 9).toNat, by omega⟩
  rw [hu] at kk b1 b2 ⊢
  rw [Int.toNat_natCast] at kk
  have hl32 : (litsG G).length ≤ 32 := r17.2.2.2.1
  refine x_in (ls := [some _, some _, none]) rfl rfl ?_
  refine x_aload_n i_Grammar_drawnByte_0 rfl ?_
  refine x_getR (c2 := 6) i_Grammar_drawnByte_1 rfl rfl (by assumption) ?_
  refine x_cv0 i_Grammar_drawnByte_4 rfl rfl rfl ?_
  refine c_Row_size r17 ?_
  refine x_istore_n (ls' := [_, _, _]) i_Grammar_drawnByte_7 rfl rfl ?_
  refine x_iload_n i_Grammar_drawnByte_8 rfl ?_
  refine x_if_le i_Grammar_drawnByte_9 (fun c1 => ?_) (fun c1 => ?_)
  · rw [if_pos (by omega)] at kk
    refine x_bipush i_Grammar_drawnByte_25 ?_
    refine x_iload_n i_Grammar_drawnByte_27 rfl ?_
    refine x_bipush i_Grammar_drawnByte_28 ?_
    refine x_irem i_Grammar_drawnByte_30 (by omega) ?_
    rw [show iRem (u : Int) 10 = ((u % 10 : Nat) : Int) from iRem_nn (b := 10) (by omega) (by decide)]
    refine x_iadd i_Grammar_drawnByte_31 (by omega) ?_
    rw [show (48 : Int) + ((u % 10 : Nat) : Int) = ((48 + u % 10 : Nat) : Int) by omega]
    refine x_iret i_Grammar_drawnByte_32 rfl ?_
    exact kk
  · rw [if_neg (by omega)] at kk
    refine x_aload_n i_Grammar_drawnByte_12 rfl ?_
    refine x_getR (c2 := 6) i_Grammar_drawnByte_13 rfl rfl (by assumption) ?_
    refine x_iload_n i_Grammar_drawnByte_16 rfl ?_
    refine x_iload_n i_Grammar_drawnByte_17 rfl ?_
    refine x_irem i_Grammar_drawnByte_18 (by omega) ?_
    rw [iRem_nn (by omega) (by omega)]
    refine x_cv1 i_Grammar_drawnByte_19 rfl rfl rfl ?_
    refine c_at_in r17 (j := u % (litsG G).length) rfl (Nat.mod_lt _ (by omega)) ?_
    refine x_goto i_Grammar_drawnByte_22 ?_
    refine x_iret i_Grammar_drawnByte_32 rfl ?_
    exact kk
theorem clS.draft {σ' : AS} (h : clS σ S) (hx : tX (tpF 2) (fun a => a = 2) σ σ') {n : Nat} {f : Nat → Int} (r : rowF σ' 2 2 20 n f) : clS σ' S := by
  obtain ⟨t, b, g, bo, fa, ra, ca, rq, cq, htb, f0, f1, f2, f3, f4, f5, o1, o2, r0, r1, -, hg, hr, hl, k1, k2⟩ := h
  have e2 := hx.2.1
  have rk : ∀ {r cap n : Nat} {f : Nat → Int}, rowF σ r r cap n f → r ≠ 2 → rowF σ' r r cap n f := fun h hr => hx.row h (fun q => hr q.2) (fun q => hr q)
  exact ⟨t, b, g, bo, fa, ra, ca, rq, cq, htb, by rw [e2]; exact f0, by rw [e2]; exact f1, by rw [e2]; exact f2, by rw [e2]; exact f3, by rw [e2]; exact f4, by rw [e2]; exact f5, o1, o2, rk r0 (by omega), rk r1 (by omega), ⟨n, f, r⟩, hg.tx hx (fun f a q w => by obtain ⟨q1, q2⟩ := q; omega) (fun a q => by have : a = 2 := q; omega), hr.tx hx (fun f a q w => by obtain ⟨q1, q2⟩ := q; omega) (fun a q w => by have : a = 2 := q; omega), hl.keep hx (fun f a q w => by obtain ⟨q1, q2⟩ := q; rcases w with w | w <;> omega) (fun a q w => by have : a = 2 := q; have := w.1; omega), by rw [hx.2.2.2.2.2.1]; exact k1, by rw [hx.2.2.2.2.2.1]; exact k2⟩
theorem drX_cl {σ' : AS} (hx : tX (tpF 2) (fun a => a = 2) σ σ') : clX σ σ' := hx.cl (fun f a q => by have := q.1; omega) (fun a q => by have : a = 2 := q; omega)
theorem c_CP_drawn (h : clS σ S) (hok : okG S.2.1) {r z n m : Int} (kk : ∀ σ', clX σ σ' → noN σ σ' → clS σ' (doDrawn S r z n m).2 → Q (some (vi (doDrawn S r z n m).1)) σ') : wp 251 m_CP_drawn [vr 10 0, vi r, vi z, vi n, vi m] σ Q := by
  obtain ⟨t, b, g, bo, fa, ra, ca, rq, cq, htb, f0, f1, f2, f3, f4, f5, o1, o2, r0, r1, ⟨n2, g2, r2⟩, hg, hr, hl, k1, k2⟩ := id h
  have bad : (hasG S.2.1 r = false ∨ n < 1 ∨ 20 < n ∨ m < 1 ∨ 20 < m) → Ex (wp 250) m_CP_drawn Q 35 [some (vr 10 0), some (vi r), some (vi z), some (vi n), some (vi m), none, none, none, none] [] σ := by
    intro w
    have := kk σ (clX.rf σ) (noN.rf σ)
    unfold doDrawn at this
    rw [if_pos w] at this
    refine x_bipush i_CP_drawn_35 ?_
    refine x_iret i_CP_drawn_37 rfl ?_
    exact this h
  refine x_in (ls := [some _, some _, some _, some _, some _, none, none, none, none]) rfl rfl ?_
  refine x_aload_n i_CP_drawn_0 rfl ?_
  refine x_getR (c2 := 1) i_CP_drawn_1 rfl rfl (by assumption) ?_
  refine x_iload_n i_CP_drawn_4 rfl ?_
  refine x_cv1 i_CP_drawn_5 rfl rfl rfl ?_
  refine c_G_has hg (fun w1 => ?_) (fun w1 => ?_)
  · refine x_if_eq_f i_CP_drawn_8 (by decide) ?_
    refine x_iload_n i_CP_drawn_11 rfl ?_
    refine x_iconst i_CP_drawn_12 ?_
    refine x_icmp_lt i_CP_drawn_13 (fun w2 => ?_) (fun w2 => ?_)
    · exact bad (Or.inr (Or.inl w2))
    · refine x_iload_n i_CP_drawn_16 rfl ?_
      refine x_bipush i_CP_drawn_17 ?_
      refine x_icmp_gt i_CP_drawn_19 (fun w3 => ?_) (fun w3 => ?_)
      · exact bad (Or.inr (Or.inr (Or.inl w3)))
      · refine x_iload i_CP_drawn_22 rfl ?_
        refine x_iconst i_CP_drawn_24 ?_
        refine x_icmp_lt i_CP_drawn_25 (fun w4 => ?_) (fun w4 => ?_)
        · exact bad (Or.inr (Or.inr (Or.inr (Or.inl w4))))
        · refine x_iload i_CP_drawn_28 rfl ?_
          refine x_bipush i_CP_drawn_30 ?_
          refine x_icmp_le i_CP_drawn_32 (fun w5 => ?_) (fun w5 => ?_)
          · have w1' := w1
            unfold hasG at w1'
            rw [Bool.and_eq_true, decide_eq_true_eq] at w1'
            obtain ⟨hr8, hsome⟩ := w1'
            have kk : ∀ σ', clX σ σ' → noN σ σ' → clS σ' (S.1, S.2.1, (drawS S r z n m).1, S.2.2.2) → Q (some (vi ((drawS S r z n m).2 : Int))) σ' := by
              unfold doDrawn at kk
              rw [if_neg (fun w => by rcases w with w | w | w | w | w
                                      · rw [w1] at w; cases w
                                      · omega
                                      · omega
                                      · omega
                                      · omega)] at kk
              exact kk
            unfold drawS at kk
            obtain ⟨rn, rfl⟩ : ∃ k : Nat, r = (k : Int) := ⟨r.toNat, by omega⟩
            obtain ⟨nn, rfl⟩ : ∃ k : Nat, n = (k : Int) := ⟨n.toNat, by omega⟩
            obtain ⟨mn, rfl⟩ : ∃ k : Nat, m = (k : Int) := ⟨m.toNat, by omega⟩
            rw [Int.toNat_natCast, Int.toNat_natCast, Int.toNat_natCast] at kk
            rw [Int.toNat_natCast] at hsome
            have loop : ∀ (f k : Nat) (z1 : Int) (sp c : Nat) (σ1 : AS), k + f = mn → c ≤ k → clS σ1 (S.1, S.2.1, sp, S.2.2.2) → clX σ σ1 → noN σ σ1 → drawE S.2.1 rn nn f z1 sp c = drawE S.2.1 rn nn mn z S.2.2.1 0 → Ex (wp 250) m_CP_drawn Q 47 [some (vr 10 0), some (vi (rn : Nat)), some (vi z), some (vi (nn : Nat)), some (vi (mn : Nat)), some (vi z1), some (vi (c : Nat)), some (vi (k : Nat)), none] [] σ1 := by
              intro f
              induction f with
              | zero =>
                intro k z1 sp c σ1 hk hc h1 x1 y1 e
                simp only [drawE] at e
                refine x_iload i_CP_drawn_47 rfl ?_
                refine x_iload i_CP_drawn_49 rfl ?_
                refine x_icmp_ge_t i_CP_drawn_51 (by omega) ?_
                refine x_iload i_CP_drawn_137 rfl ?_
                have := kk σ1 x1 y1
                rw [← e] at this
                refine x_iret i_CP_drawn_139 rfl ?_
                exact this h1
              | succ f ih =>
                intro k z1 sp c σ1 hk hc h1 x1 y1 e
                simp only [drawE] at e
                obtain ⟨t, b, g, bo, fa, ra, ca, rq, cq, htb, f0, f1, f2, f3, f4, f5, o1, o2, r0, r1, ⟨n2, g2, r2⟩, hg, hr, hl, k1, k2⟩ := id h1
                obtain ⟨-, ga2, -, -, -, -, ga7, -, -, -, ga17, -⟩ := id hg
                refine x_iload i_CP_drawn_47 rfl ?_
                refine x_iload i_CP_drawn_49 rfl ?_
                refine x_icmp_ge_f i_CP_drawn_51 (by omega) ?_
                refine x_aload_n i_CP_drawn_54 rfl ?_
                refine x_getR (c2 := 6) i_CP_drawn_55 rfl rfl (by assumption) ?_
                refine x_iconst i_CP_drawn_58 ?_
                refine x_cv1 i_CP_drawn_59 rfl rfl rfl ?_
                refine c_shrink r2 (j := 0) rfl (Nat.zero_le _) (fun σ2 y2 x2 => ?_)
                have x2' : tX (tpF 2) (fun a => a = 2) σ1 σ2 := x2.tx ⟨rfl, rfl⟩ rfl
                have inner : ∀ (fu i : Nat) (σ3 : AS), i + fu = nn → tX (tpF 2) (fun a => a = 2) σ1 σ3 → rowF σ3 2 2 20 i (inpG S.2.1 z1) → Ex (wp 250) m_CP_drawn Q 65 [some (vr 10 0), some (vi (rn : Nat)), some (vi z), some (vi (nn : Nat)), some (vi (mn : Nat)), some (vi (zN z1 i)), some (vi (c : Nat)), some (vi (k : Nat)), some (vi (i : Nat))] [] σ3 := by
                  intro fu
                  induction fu with
                  | zero =>
                    intro i σ3 hi x3 y3
                    have ei : i = nn := by omega
                    subst ei
                    have e3 := x3.2.1
                    have h3 : clS σ3 (S.1, S.2.1, sp, S.2.2.2) := h1.draft x3 y3
                    have f1 : FR σ3 1003 0 = some 0 := by rw [e3]; exact ‹FR σ1 1003 0 = some 0›
                    have f2 : FR σ3 1002 0 = some 2 := by rw [e3]; exact ‹FR σ1 1002 0 = some 2›
                    have f5 : FR σ3 1005 0 = some g := by rw [e3]; exact f5
                    have hg3 : grmC σ3 g S.2.1 bo fa ra ca rq cq := hg.tx x3 (fun f a q w => by obtain ⟨q1, q2⟩ := q; omega) (fun a q => by have : a = 2 := q; omega)
                    have hr3 : runI σ3 sp := hr.tx x3 (fun f a q w => by obtain ⟨q1, q2⟩ := q; omega) (fun a q w => by have : a = 2 := q; omega)
                    obtain ⟨hlaw, hdn⟩ := hg3.law
                    refine x_iload i_CP_drawn_65 rfl ?_
                    refine x_iload_n i_CP_drawn_67 rfl ?_
                    refine x_icmp_ge_t i_CP_drawn_68 (by omega) ?_
                    refine x_aload_n i_CP_drawn_107 rfl ?_
                    refine x_getR (c2 := 7) i_CP_drawn_108 rfl rfl (by assumption) ?_
                    refine x_aload_n i_CP_drawn_111 rfl ?_
                    refine x_getR (c2 := 1) i_CP_drawn_112 rfl rfl (by assumption) ?_
                    refine x_aload_n i_CP_drawn_115 rfl ?_
                    refine x_getR (c2 := 6) i_CP_drawn_116 rfl rfl (by assumption) ?_
                    refine x_iload_n i_CP_drawn_119 rfl ?_
                    refine x_iconst i_CP_drawn_120 ?_
                    refine x_cv4 i_CP_drawn_121 rfl rfl rfl ?_
                    refine c_R_through hr3 hg3.2.1 hlaw y3 (by decide) (by omega) (fun i _ => okG.byte hok _) (by omega : rn < 8) ((hdn rn (by omega)).mpr hsome) (Nat.zero_le _) (fun σ4 x4 ran => ?_)
                    have y4 := rX.of x4
                    generalize hq : parseE (inpG S.2.1 z1) i (rulG S.2.1) rn 0 sp = q at e ran ⊢
                    have h4 := h3.run y4 ran.2.2.2.2
                    have fin : ∀ c' : Nat, c' = (if q.1 = (i : Int) then c + 1 else c) → Ex (wp 250) m_CP_drawn Q 131 [some (vr 10 0), some (vi (rn : Nat)), some (vi z), some (vi (i : Nat)), some (vi (mn : Nat)), some (vi (zN z1 i)), some (vi (c' : Nat)), some (vi (k : Nat)), some (vi (i : Nat))] [] σ4 := by
                      intro c' hc'
                      rw [← hc'] at e
                      refine x_iinc (ls' := [_, _, _, _, _, _, _, _, _]) i_CP_drawn_131 rfl (by omega) rfl ?_
                      refine x_goto i_CP_drawn_134 ?_
                      refine Ex.weak (ls := [_, _, _, _, _, _, _, _, none]) ⟨Or.inr rfl, Or.inr rfl, Or.inr rfl, Or.inr rfl, Or.inr rfl, Or.inr rfl, Or.inr rfl, Or.inr rfl, Or.inl rfl, trivial⟩ ?_
                      refine ih (k + 1) (zN z1 i) _ c' σ4 (by omega) (by rw [hc']; split <;> omega) h4 ((x1.tr (drX_cl x3)).tr y4.cl) ((y1.tr x3.no).tr y4.no) e
                    refine x_iload_n i_CP_drawn_124 rfl ?_
                    refine x_icmp_ne i_CP_drawn_125 (fun w6 => ?_) (fun w6 => ?_)
                    · exact fin c (by rw [if_neg w6])
                    · refine x_iinc (ls' := [_, _, _, _, _, _, _, _, _]) i_CP_drawn_128 rfl (by omega) rfl ?_
                      exact fin (c + 1) (by rw [if_pos (by omega)])
                  | succ fu ihf =>
                    intro i σ3 hi x3 y3
                    have e3 := x3.2.1
                    have f2 : FR σ3 1002 0 = some 2 := by rw [e3]; exact ‹FR σ1 1002 0 = some 2›
                    have f5 : FR σ3 1005 0 = some g := by rw [e3]; exact f5
                    have hg3 : grmC σ3 g S.2.1 bo fa ra ca rq cq := hg.tx x3 (fun f a q w => by obtain ⟨q1, q2⟩ := q; omega) (fun a q => by have : a = 2 := q; omega)
                    obtain ⟨-, -, -, -, -, -, ga7, -, -, -, ga17, -⟩ := id hg3
                    refine x_iload i_CP_drawn_65 rfl ?_
                    refine x_iload_n i_CP_drawn_67 rfl ?_
                    refine x_icmp_ge_f i_CP_drawn_68 (by omega) ?_
                    refine x_iload i_CP_drawn_71 rfl ?_
                    refine x_ldcI i_CP_drawn_73 ?_
                    refine x_imulW i_CP_drawn_75 ?_
                    refine x_sipush i_CP_drawn_76 ?_
                    refine x_iaddW i_CP_drawn_79 ?_
                    refine x_istore (ls' := [_, _, _, _, _, _, _, _, _]) i_CP_drawn_80 rfl rfl ?_
                    refine x_aload_n i_CP_drawn_82 rfl ?_
                    refine x_getR (c2 := 6) i_CP_drawn_83 rfl rfl (by assumption) ?_
                    refine x_aload_n i_CP_drawn_86 rfl ?_
                    refine x_getR (c2 := 1) i_CP_drawn_87 rfl rfl (by assumption) ?_
                    refine x_iload i_CP_drawn_90 rfl ?_
                    refine x_bipush i_CP_drawn_92 ?_
                    refine x_iushr i_CP_drawn_94 ?_
                    refine x_cv1 i_CP_drawn_95 rfl rfl rfl ?_
                    refine c_G_drawnByte ga7 ga17 ?_
                    refine x_cv1 i_CP_drawn_98 rfl rfl rfl ?_
                    refine c_add y3 (by omega) (fun σ4 y4 x4 => ?_)
                    refine x_iinc (ls' := [_, _, _, _, _, _, _, _, _]) i_CP_drawn_101 rfl (by omega) rfl ?_
                    refine x_goto i_CP_drawn_104 ?_
                    refine ihf (i + 1) σ4 (by omega) (x3.tr (x4.tx ⟨rfl, rfl⟩ rfl)) (rowF.eq y4 (fun j hj => ?_))
                    by_cases q : j = i
                    · subst q
                      rw [up_eq]
                      rfl
                    · rw [up_ne q]
                refine x_iconst i_CP_drawn_62 ?_
                refine x_istore (ls' := [_, _, _, _, _, _, _, _, _]) i_CP_drawn_63 rfl rfl ?_
                exact inner nn 0 σ2 (by omega) x2' (y2.eq (fun j hj => absurd hj (Nat.not_lt_zero _)))
            refine x_iload_n i_CP_drawn_38 rfl ?_
            refine x_istore (ls' := [_, _, _, _, _, _, _, _, _]) i_CP_drawn_39 rfl rfl ?_
            refine x_iconst i_CP_drawn_41 ?_
            refine x_istore (ls' := [_, _, _, _, _, _, _, _, _]) i_CP_drawn_42 rfl rfl ?_
            refine x_iconst i_CP_drawn_44 ?_
            refine x_istore (ls' := [_, _, _, _, _, _, _, _, _]) i_CP_drawn_45 rfl rfl ?_
            exact loop mn 0 z S.2.2.1 0 σ (by omega) (Nat.le_refl _) h (clX.rf σ) (noN.rf σ) rfl
          · exact bad (Or.inr (Or.inr (Or.inr (Or.inr (by omega)))))
  · refine x_if_eq_t i_CP_drawn_8 rfl ?_
    exact bad (Or.inl w1)
end


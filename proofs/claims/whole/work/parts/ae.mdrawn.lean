/-! THE MODEL's drawn -/
theorem mpX_mo {σ σ' : AS} (hx : mpX σ σ') : moX σ σ' := hx.mo (fun f a q => by have := q.1; omega) (fun k a q => by rcases q with q | q; exact Or.inl ⟨q.1, by omega, by omega⟩; exact Or.inr q.1)
theorem moS.par {σ σ' : AS} {S : SS} {sp : Nat} (h : moS σ S) (hx : mpX σ σ') (h1 : FI σ' 1144 0 = (sp : Int)) (h2 : sp ≤ 40000) : moS σ' (S.1, S.2.1, sp, S.2.2.2) := by
  obtain ⟨hmr, hbes, ht1, ht2, htp, hti, hg, hsp, hsp2, hla⟩ := h
  have fi : ∀ f, f < 1142 ∨ 1152 < f → FI σ' f 0 = FI σ f 0 := fun f w => hx.1 _ _ (fun q => by obtain ⟨q1, q2, -⟩ := q; omega)
  have ai : ∀ a j, a < 45 ∨ 58 < a → AI σ' 13 a j = AI σ 13 a j := fun a j w => hx.2.2.1 _ _ _ (fun q => by rcases q with q | q <;> omega)
  exact ⟨hmr.keep hx, hbes.keep (by rw [hx.2.1]) hx.2.2.2.1 hx.2.2.2.2.1, ht1, ht2, htp.keep (fi _ (by decide)) (fun j => ai _ _ (by decide)), hti.keep (fi _ (by decide)) (fun j => ai _ _ (by decide)), hg.keep (fun a j w1 w2 => ai _ _ (by omega)) (fun j => hx.2.2.1 _ _ _ (fun q => by rcases q with q | q <;> omega)) (fi _ (by decide)) (fi _ (by decide)), h1, h2, lasM_keep hla (fun f w1 w2 => fi _ (by omega)) (fun a j w1 w2 => ai _ _ (by omega))⟩
/-- the input that is drawn, its size, its bytes -/
def diX (σ σ' : AS) : Prop := (∀ f a, f ≠ 1141 → FI σ' f a = FI σ f a) ∧ (∀ f a, f ≠ 1140 → FR σ' f a = FR σ f a) ∧ (∀ k a j, ¬ (k = 13 ∧ a = 25) → AI σ' k a j = AI σ k a j) ∧ AR σ' = AR σ ∧ LN σ' = LN σ ∧ CN σ' = CN σ ∧ nC σ' = nC σ ∧ nS σ' = nS σ
theorem diX.rf (σ : AS) : diX σ σ := ⟨fun _ _ _ => rfl, fun _ _ _ => rfl, fun _ _ _ _ => rfl, rfl, rfl, rfl, rfl, rfl⟩
theorem diX.tr {a b c : AS} (h : diX a b) (g : diX b c) : diX a c := by
  obtain ⟨h1, h2, h3, h4, h5, h6, h7, h8⟩ := h
  obtain ⟨g1, g2, g3, g4, g5, g6, g7, g8⟩ := g
  exact ⟨fun f x w => by rw [g1 f x w, h1 f x w], fun f x w => by rw [g2 f x w, h2 f x w], fun k x j w => by rw [g3 k x j w, h3 k x j w], by rw [g4, h4], by rw [g5, h5], by rw [g6, h6], by rw [g7, h7], by rw [g8, h8]⟩
theorem diX.mo {σ σ' : AS} (h : diX σ σ') : moX σ σ' := by
  obtain ⟨h1, h2, h3, h4, h5, h6, h7, h8⟩ := h
  exact ⟨fun f a w => h1 f a (by omega), fun f a w => h2 f a (by omega), fun a j w => h3 _ _ _ (fun q => by omega), fun k a j w1 w2 => h3 _ _ _ (fun q => w1 q.1), h4, h5, h6, h7, h8⟩
theorem moS.di {σ σ' : AS} {S : SS} (h : moS σ S) (hx : diX σ σ') : moS σ' S := by
  obtain ⟨hmr, hbes, ht1, ht2, htp, hti, hg, hsp, hsp2, hla⟩ := h
  obtain ⟨h1, h2, h3, h4, h5, h6, h7, h8⟩ := hx
  have fi : ∀ f, f ≠ 1141 → FI σ' f 0 = FI σ f 0 := fun f w => h1 f 0 w
  have ai : ∀ a j, a ≠ 25 → AI σ' 13 a j = AI σ 13 a j := fun a j w => h3 _ _ _ (fun q => w q.2)
  exact ⟨hmr.rf (fun f w => h2 f 0 w) h5, hbes.keep (h2 _ _ (by decide)) h4 h5, ht1, ht2, htp.keep (fi _ (by decide)) (fun j => ai _ _ (by decide)), hti.keep (fi _ (by decide)) (fun j => ai _ _ (by decide)), hg.keep (fun a j w1 w2 => ai _ _ (by omega)) (fun j => h3 _ _ _ (fun q => by have := q.1; omega)) (fi _ (by decide)) (fi _ (by decide)), by rw [fi _ (by decide)]; exact hsp, hsp2, lasM_keep hla (fun f w1 w2 => fi _ (by omega)) (fun a j w1 w2 => ai _ _ (by omega))⟩
def litT (l : List (Nat × Nat × Nat × Int × Int)) : List Int := (l.filter (fun a => a.2.2.1 == 0)).map (fun a => a.2.2.2.1)
theorem litT_snoc (l : List (Nat × Nat × Nat × Int × Int)) (x : Nat × Nat × Nat × Int × Int) : litT (l ++ [x]) = litT l ++ (if x.2.2.1 = 0 then [x.2.2.2.1] else []) := by
  unfold litT
  rw [List.filter_append, List.map_append]
  congr 1
  rw [List.filter_cons]
  by_cases w : x.2.2.1 = 0
  · rw [if_pos w, if_pos (by simp [w])]; rfl
  · rw [if_neg w, if_neg (by simp [w])]; rfl
section
variable {Q : AQ} {σ : AS} {S : SS}
theorem c_M_drawn (h : moS σ S) (hok : okG S.2.1) {r z n m : Int} (kk : ∀ σ', moX σ σ' → moS σ' (doDrawn S r z n m).2 → Q (some (vi (doDrawn S r z n m).1)) σ') : wp 373 m_M_drawn [vr 11 0, vi r, vi z, vi n, vi m] σ Q := by
  obtain ⟨hmr, hbes, ht1, ht2, htp, hti, hg, hsp, hsp2, hla⟩ := id h
  obtain ⟨hm, hl, hlb⟩ := id hmr
  obtain ⟨-, -, -, ga4, ga5, ga6, -⟩ := id hg
  have bad : (hasG S.2.1 r = false ∨ n < 1 ∨ 20 < n ∨ m < 1 ∨ 20 < m) → Ex (wp 372) m_M_drawn Q 32 [some (vr 11 0), some (vi r), some (vi z), some (vi n), some (vi m), none, none, none, none, none, none, none, none] [] σ := by
    intro w
    have := kk σ (moX.rf σ)
    unfold doDrawn at this
    rw [if_pos w] at this
    refine x_bipush i_M_drawn_32 ?_
    refine x_iret i_M_drawn_34 rfl ?_
    exact this h
  have goods : ∀ j, j < S.2.1.2.1.length → ∀ σ1, (∀ a i, 26 ≤ a → a ≤ 42 → AI σ1 13 a i = AI σ 13 a i) → AI σ1 13 38 j = ((S.2.1.2.1.getD j (0, 0, 0, 0, 0)).2.2.1 : Int) ∧ AI σ1 13 39 j = (S.2.1.2.1.getD j (0, 0, 0, 0, 0)).2.2.2.1 ∧ S.2.1.2.1.take (j + 1) = S.2.1.2.1.take j ++ [S.2.1.2.1.getD j (0, 0, 0, 0, 0)] := by
    intro j hj σ1 ha
    have := ga6 j _ (getD_some (d := (0, 0, 0, 0, 0)) hj)
    refine ⟨by rw [ha _ _ (by decide) (by decide)]; exact this.2.2.1, by rw [ha _ _ (by decide) (by decide)]; exact this.2.2.2.1, ?_⟩
    rw [take_snoc _ _ hj, List.getD_eq_getElem?_getD, List.getElem?_eq_getElem hj]
    rfl
  have llen : ∀ j, (litT (S.2.1.2.1.take j)).length ≤ 32 := fun j => by
    unfold litT
    rw [List.length_map]
    exact Nat.le_trans (List.length_filter_le _ _) (by rw [List.length_take]; omega)
  refine x_in (ls := [some _, some _, some _, some _, some _, none, none, none, none, none, none, none, none]) rfl rfl ?_
  refine x_aload_n i_M_drawn_0 rfl ?_
  refine x_iload_n i_M_drawn_1 rfl ?_
  refine x_cv1 i_M_drawn_2 rfl rfl rfl ?_
  refine c_M_isRule hmr hg (fun w1 => ?_) (fun w1 => ?_)
  · refine x_if_eq_f i_M_drawn_5 (by decide) ?_
    refine x_iload_n i_M_drawn_8 rfl ?_
    refine x_iconst i_M_drawn_9 ?_
    refine x_icmp_lt i_M_drawn_10 (fun w2 => ?_) (fun w2 => ?_)
    · exact bad (Or.inr (Or.inl w2))
    · refine x_iload_n i_M_drawn_13 rfl ?_
      refine x_bipush i_M_drawn_14 ?_
      refine x_icmp_gt i_M_drawn_16 (fun w3 => ?_) (fun w3 => ?_)
      · exact bad (Or.inr (Or.inr (Or.inl w3)))
      · refine x_iload i_M_drawn_19 rfl ?_
        refine x_iconst i_M_drawn_21 ?_
        refine x_icmp_lt i_M_drawn_22 (fun w4 => ?_) (fun w4 => ?_)
        · exact bad (Or.inr (Or.inr (Or.inr (Or.inl w4))))
        · refine x_iload i_M_drawn_25 rfl ?_
          refine x_bipush i_M_drawn_27 ?_
          refine x_icmp_le i_M_drawn_29 (fun w5 => ?_) (fun w5 => ?_)
          · have w1' := w1
            unfold hasG at w1'
            rw [Bool.and_eq_true, decide_eq_true_eq] at w1'
            obtain ⟨hr8, hsome⟩ := w1'
            have kk : ∀ σ', moX σ σ' → moS σ' (S.1, S.2.1, (drawS S r z n m).1, S.2.2.2) → Q (some (vi ((drawS S r z n m).2 : Int))) σ' := by
              unfold doDrawn at kk
              rw [if_neg (fun w => by rcases w with w | w | w | w | w
                                      · rw [w1] at w; cases w
                                      · omega
                                      · omega
                                      · omega
                                      · omega)] at kk
              exact kk
            unfold drawS at kk
            obtain ⟨rn, rfl⟩ : ∃ k : Nat, r = (k : Int) := ⟨r.toNat, by omega⟩
            obtain ⟨nn, rfl⟩ : ∃ k : Nat, n = (k : Int) := ⟨n.toNat, by omega⟩
            obtain ⟨mn, rfl⟩ : ∃ k : Nat, m = (k : Int) := ⟨m.toNat, by omega⟩
            rw [Int.toNat_natCast, Int.toNat_natCast, Int.toNat_natCast] at kk
            rw [Int.toNat_natCast] at hsome
            have hrn : rn < 8 := by omega
            generalize hL : (litsG S.2.1).length = L
            have hL32 : L ≤ 32 := by
              have := llen S.2.1.2.1.length
              rw [List.take_length] at this
              rw [← hL]
              exact this
            -- all inputs
            have loop : ∀ (f k : Nat) (z1 : Int) (sp c : Nat) (σ1 : AS), k + f = mn → c ≤ k → moS σ1 (S.1, S.2.1, sp, S.2.2.2) → moX σ σ1 → FR σ1 1140 0 = some 25 → FI σ1 1141 0 = (nn : Int) → (∀ a i, 26 ≤ a → a ≤ 42 → AI σ1 13 a i = AI σ 13 a i) → drawE S.2.1 rn nn f z1 sp c = drawE S.2.1 rn nn mn z S.2.2.1 0 → Ex (wp 372) m_M_drawn Q 98 [some (vr 11 0), some (vi (rn : Nat)), some (vi z), some (vi (nn : Nat)), some (vi (mn : Nat)), some (vi (L : Nat)), some (vi z1), some (vi (c : Nat)), some (vi (k : Nat)), none, none, none, none] [] σ1 := by
              intro f
              induction f with
              | zero =>
                intro k z1 sp c σ1 hk hc h1 x1 fr1 fi1 ag1 e
                simp only [drawE] at e
                have := kk σ1 x1
                rw [← e] at this
                refine x_iload i_M_drawn_98 rfl ?_
                refine x_iload i_M_drawn_100 rfl ?_
                refine x_icmp_ge_t i_M_drawn_102 (by omega) ?_
                refine x_iload i_M_drawn_240 rfl ?_
                refine x_iret i_M_drawn_242 rfl ?_
                exact this h1
              | succ f ih =>
                intro k z1 sp c σ1 hk hc h1 x1 fr1 fi1 ag1 e
                simp only [drawE] at e
                have inner : ∀ (fu i : Nat) (σ2 : AS), i + fu = nn → diX σ1 σ2 → FR σ2 1140 0 = some 25 → FI σ2 1141 0 = (nn : Int) → (∀ j, j < i → AI σ2 13 25 j = inpG S.2.1 z1 j) → Ex (wp 372) m_M_drawn Q 108 [some (vr 11 0), some (vi (rn : Nat)), some (vi z), some (vi (nn : Nat)), some (vi (mn : Nat)), some (vi (L : Nat)), some (vi (zN z1 i)), some (vi (c : Nat)), some (vi (k : Nat)), some (vi (i : Nat)), none, none, none] [] σ2 := by
                  intro fu
                  induction fu with
                  | zero =>
                    intro i σ2 hi x2 fr2 fi2 hin
                    have ei : i = nn := by omega
                    subst ei
                    have h2 := h1.di x2
                    obtain ⟨hmr2, -, -, -, -, -, hg2, hsp2, hsp3, -⟩ := id h2
                    have he : envM σ2 ((25, i), inpG S.2.1 z1, rulG S.2.1) := ⟨hmr2, hg2.1, fr2, hmr2.2.1 25 240 rfl, fi2, by show i ≤ 240; omega, by show 25 < 26; decide, fun j hj => ⟨hin j hj, okG.byte hok _⟩⟩
                    refine x_iload i_M_drawn_108 rfl ?_
                    refine x_iload_n i_M_drawn_110 rfl ?_
                    refine x_icmp_ge_t i_M_drawn_111 (by omega) ?_
                    refine x_aload_n i_M_drawn_221 rfl ?_
                    refine x_iload_n i_M_drawn_222 rfl ?_
                    refine x_iconst i_M_drawn_223 ?_
                    refine x_cv2 i_M_drawn_224 rfl rfl rfl ?_
                    refine c_M_parses (p := 0) he hrn ((hg2.2.1 rn hrn).mpr hsome) (Nat.zero_le _) hsp2 hsp3 (fun σ3 x3 ran => ?_)
                    have ran : ranM σ3 ((25, i), inpG S.2.1 z1, rulG S.2.1) (parseE (inpG S.2.1 z1) i (rulG S.2.1) rn 0 sp) := ran
                    show Ex (wp 372) m_M_drawn Q 227 _ [vi (resM (parseE (inpG S.2.1 z1) i (rulG S.2.1) rn 0 sp))] σ3
                    generalize hq : parseE (inpG S.2.1 z1) i (rulG S.2.1) rn 0 sp = q at e ran ⊢
                    have h3 := h2.par x3 ran.2.1.2.1 ran.2.1.2.2.2.2.1
                    have hres : resM q = (i : Int) ↔ q.1 = (i : Int) := by
                      unfold resM
                      split
                      · rename_i w; constructor <;> intro v <;> omega
                      · exact Iff.rfl
                    have fin : ∀ c' : Nat, c' = (if q.1 = (i : Int) then c + 1 else c) → Ex (wp 372) m_M_drawn Q 234 [some (vr 11 0), some (vi (rn : Nat)), some (vi z), some (vi (i : Nat)), some (vi (mn : Nat)), some (vi (L : Nat)), some (vi (zN z1 i)), some (vi (c' : Nat)), some (vi (k : Nat)), some (vi (i : Nat)), none, none, none] [] σ3 := by
                      intro c' hc'
                      rw [← hc'] at e
                      refine x_iinc (ls' := [_, _, _, _, _, _, _, _, _, _, _, _, _]) i_M_drawn_234 rfl (by omega) rfl ?_
                      refine x_goto i_M_drawn_237 ?_
                      refine Ex.weak (ls := [_, _, _, _, _, _, _, _, _, none, _, _, _]) ⟨Or.inr rfl, Or.inr rfl, Or.inr rfl, Or.inr rfl, Or.inr rfl, Or.inr rfl, Or.inr rfl, Or.inr rfl, Or.inr rfl, Or.inl rfl, Or.inr rfl, Or.inr rfl, Or.inr rfl, trivial⟩ ?_
                      refine ih (k + 1) (zN z1 i) _ c' σ3 (by omega) (by rw [hc']; split <;> omega) h3 ((x1.tr x2.mo).tr (mpX_mo x3)) ?_ ?_ (fun a j w1 w2 => ?_) e
                      · rw [x3.2.1]; exact fr2
                      · rw [x3.1 _ _ (fun q => by have := q.1; omega)]; exact fi2
                      · rw [x3.lo (by omega), x2.2.2.1 _ _ _ (fun q => by omega)]; exact ag1 a j w1 w2
                    refine x_iload_n i_M_drawn_227 rfl ?_
                    refine x_icmp_ne i_M_drawn_228 (fun w6 => ?_) (fun w6 => ?_)
                    · exact fin c (by rw [if_neg (fun w => w6 (hres.mpr w))])
                    · refine x_iinc (ls' := [_, _, _, _, _, _, _, _, _, _, _, _, _]) i_M_drawn_231 rfl (by omega) rfl ?_
                      exact fin (c + 1) (by rw [if_pos (hres.mp (by omega))])
                  | succ fu ihf =>
                    intro i σ2 hi x2 fr2 fi2 hin
                    have h2 := h1.di x2
                    obtain ⟨hmr2, -, -, -, -, -, hg2, -⟩ := id h2
                    obtain ⟨hm, hl, -⟩ := id hmr2
                    have ga4 : FI σ2 1106 0 = (S.2.1.2.1.length : Int) := hg2.2.2.2.1
                    have ag2 : ∀ a j, 26 ≤ a → a ≤ 42 → AI σ2 13 a j = AI σ 13 a j := fun a j w1 w2 => by rw [x2.2.2.1 _ _ _ (fun q => by omega)]; exact ag1 a j w1 w2
                    obtain ⟨b1, b2⟩ := iUshr_9 (zN z1 (i + 1))
                    have finP : ∀ (v : Int) (l10 l12 : Option AV), v = inpG S.2.1 z1 i → Ex (wp 372) m_M_drawn Q 206 [some (vr 11 0), some (vi (rn : Nat)), some (vi z), some (vi (nn : Nat)), some (vi (mn : Nat)), some (vi (L : Nat)), some (vi (zN z1 (i + 1))), some (vi (c : Nat)), some (vi (k : Nat)), some (vi (i : Nat)), l10, some (vi v), l12] [] σ2 := by
                      intro v l10 l12 hv
                      refine x_aload_n i_M_drawn_206 rfl ?_
                      refine x_getR (c2 := 13) i_M_drawn_207 rfl rfl (hm _ _ rfl) ?_
                      refine x_iload i_M_drawn_210 rfl ?_
                      refine x_iload i_M_drawn_212 rfl ?_
                      refine x_iastore i_M_drawn_214 (k := i) rfl (lt_len hl rfl (by omega)) ?_
                      refine x_iinc (ls' := [_, _, _, _, _, _, _, _, _, _, _, _, _]) i_M_drawn_215 rfl (by omega) rfl ?_
                      refine x_goto i_M_drawn_218 ?_
                      refine Ex.weak (ls := [_, _, _, _, _, _, _, _, _, _, none, none, none]) ⟨Or.inr rfl, Or.inr rfl, Or.inr rfl, Or.inr rfl, Or.inr rfl, Or.inr rfl, Or.inr rfl, Or.inr rfl, Or.inr rfl, Or.inr rfl, Or.inl rfl, Or.inl rfl, Or.inl rfl, trivial⟩ ?_
                      refine ihf (i + 1) _ (by omega) (x2.tr ⟨fun _ _ _ => rfl, fun _ _ _ => rfl, fun k' a' j' w => by rw [AI_sAI, if_neg (fun q => w ⟨q.1, q.2.1⟩)], rfl, rfl, rfl, rfl, rfl⟩) fr2 fi2 (fun j hj => ?_)
                      rw [AI_sAI]
                      by_cases q : j = i
                      · rw [if_pos ⟨rfl, rfl, q⟩, hv, q]
                      · rw [if_neg (fun w => q w.2.2)]; exact hin j (by omega)
                    have rem : ∀ q : Nat, q = (if L = 0 then 10 else L) → Ex (wp 372) m_M_drawn Q 143 [some (vr 11 0), some (vi (rn : Nat)), some (vi z), some (vi (nn : Nat)), some (vi (mn : Nat)), some (vi (L : Nat)), some (vi (zN z1 (i + 1))), some (vi (c : Nat)), some (vi (k : Nat)), some (vi (i : Nat)), none, none, none] [vi (q : Nat), vi (iUshr (zN z1 (i + 1)) 9)] σ2 := by
                      intro q hq
                      have hq0 : 0 < q := by rw [hq]; split <;> omega
                      have hq32 : q ≤ 32 := by rw [hq]; split <;> omega
                      obtain ⟨u, hu⟩ : ∃ u : Nat, iUshr (zN z1 (i + 1)) 9 = (u : Int) := ⟨(iUshr (zN z1 (i + 1)) 9).toNat, by omega⟩
                      rw [hu] at b1 b2 ⊢
                      have hmod : u % q < q := Nat.mod_lt _ hq0
                      have hv : inpG S.2.1 z1 i = if L = 0 then ((48 + u % q : Nat) : Int) else (litsG S.2.1).getD (u % q) 0 := by
                        unfold inpG byteG
                        rw [hu, Int.toNat_natCast, hL]
                        by_cases w : L = 0
                        · rw [if_pos w, if_pos w, hq, if_pos w]
                        · rw [if_neg w, if_neg w, hq, if_neg w]
                      refine x_irem i_M_drawn_143 (by omega) ?_
                      rw [iRem_nn (by omega) (by omega)]
                      generalize u % q = pk at hmod hv
                      refine x_istore (ls' := [_, _, _, _, _, _, _, _, _, _, _, _, _]) i_M_drawn_144 rfl rfl ?_
                      refine x_bipush i_M_drawn_146 ?_
                      refine x_iload i_M_drawn_148 rfl ?_
                      refine x_iadd i_M_drawn_150 (by omega) ?_
                      refine x_istore (ls' := [_, _, _, _, _, _, _, _, _, _, _, _, _]) i_M_drawn_151 rfl rfl ?_
                      refine x_iconst i_M_drawn_153 ?_
                      refine x_istore (ls' := [_, _, _, _, _, _, _, _, _, _, _, _, _]) i_M_drawn_154 rfl rfl ?_
                      by_cases hL0 : L = 0
                      · rw [if_pos hL0] at hv
                        have done : Ex (wp 372) m_M_drawn Q 206 [some (vr 11 0), some (vi (rn : Nat)), some (vi z), some (vi (nn : Nat)), some (vi (mn : Nat)), some (vi (L : Nat)), some (vi (zN z1 (i + 1))), some (vi (c : Nat)), some (vi (k : Nat)), some (vi (i : Nat)), some (vi (pk : Nat)), some (vi (48 + (pk : Int))), some (vi 0)] [] σ2 := finP _ _ _ (by rw [hv]; omega)
                        refine x_iload i_M_drawn_156 rfl ?_
                        refine x_aload_n i_M_drawn_158 rfl ?_
                        refine x_getI i_M_drawn_159 rfl rfl ?_
                        rw [ga4]
                        refine x_icmp_ge i_M_drawn_162 (fun w7 => ?_) (fun w7 => ?_)
                        · exact done
                        · refine x_iload i_M_drawn_165 rfl ?_
                          refine x_if_le_t i_M_drawn_167 (by omega) ?_
                          exact done
                      · rw [if_neg hL0] at hv
                        have hqL : q = L := by rw [hq, if_neg hL0]
                        have search : ∀ (fa a : Nat), a + fa = S.2.1.2.1.length → Ex (wp 372) m_M_drawn Q 156 [some (vr 11 0), some (vi (rn : Nat)), some (vi z), some (vi (nn : Nat)), some (vi (mn : Nat)), some (vi (L : Nat)), some (vi (zN z1 (i + 1))), some (vi (c : Nat)), some (vi (k : Nat)), some (vi (i : Nat)), some (vi ((pk : Int) - ((litT (S.2.1.2.1.take a)).length : Int))), some (vi (if pk < (litT (S.2.1.2.1.take a)).length then (litT (S.2.1.2.1.take a)).getD pk 0 else 48 + (pk : Int))), some (vi (a : Nat))] [] σ2 := by
                          intro fa
                          induction fa with
                          | zero =>
                            intro a ha
                            have et : S.2.1.2.1.take a = S.2.1.2.1 := List.take_of_length_le (by omega)
                            rw [et]
                            have hlt : litT S.2.1.2.1 = litsG S.2.1 := rfl
                            rw [hlt, hL, if_pos (by omega)]
                            refine x_iload i_M_drawn_156 rfl ?_
                            refine x_aload_n i_M_drawn_158 rfl ?_
                            refine x_getI i_M_drawn_159 rfl rfl ?_
                            rw [ga4]
                            refine x_icmp_ge_t i_M_drawn_162 (by omega) ?_
                            exact finP _ _ _ hv.symm
                          | succ fa iha =>
                            intro a ha
                            have ha2 : a < S.2.1.2.1.length := by omega
                            obtain ⟨g1, g2, g3⟩ := goods a ha2 σ2 ag2
                            have next := iha (a + 1) (by omega)
                            rw [g3, litT_snoc] at next
                            have hl32 := llen a
                            generalize S.2.1.2.1.getD a (0, 0, 0, 0, 0) = x at g1 g2 next
                            generalize litT (S.2.1.2.1.take a) = T at next hl32
                            refine x_iload i_M_drawn_156 rfl ?_
                            refine x_aload_n i_M_drawn_158 rfl ?_
                            refine x_getI i_M_drawn_159 rfl rfl ?_
                            rw [ga4]
                            refine x_icmp_ge_f i_M_drawn_162 (by omega) ?_
                            refine x_iload i_M_drawn_165 rfl ?_
                            refine x_if_le_f i_M_drawn_167 (by omega) ?_
                            refine x_aload_n i_M_drawn_170 rfl ?_
                            refine x_getR (c2 := 13) i_M_drawn_171 rfl rfl (hm _ _ rfl) ?_
                            refine x_iload i_M_drawn_174 rfl ?_
                            refine x_iaload i_M_drawn_176 (k := a) rfl (lt_len hl rfl (by omega)) ?_
                            rw [g1]
                            by_cases hx0 : x.2.2.1 = 0
                            · rw [if_pos hx0, List.length_append, List.length_singleton] at next
                              refine x_if_eq_t i_M_drawn_177 (by omega) ?_
                              have tail : ∀ v : Int, v = (if pk < T.length + 1 then (T ++ [x.2.2.2.1]).getD pk 0 else 48 + (pk : Int)) → Ex (wp 372) m_M_drawn Q 197 [some (vr 11 0), some (vi (rn : Nat)), some (vi z), some (vi (nn : Nat)), some (vi (mn : Nat)), some (vi (L : Nat)), some (vi (zN z1 (i + 1))), some (vi (c : Nat)), some (vi (k : Nat)), some (vi (i : Nat)), some (vi ((pk : Int) - (T.length : Int))), some (vi v), some (vi (a : Nat))] [] σ2 := by
                                intro v hv2
                                rw [← hv2, show (pk : Int) - ((T.length + 1 : Nat) : Int) = (pk : Int) - (T.length : Int) + (-1) by omega] at next
                                refine x_iinc (ls' := [_, _, _, _, _, _, _, _, _, _, _, _, _]) i_M_drawn_197 rfl (by omega) rfl ?_
                                refine x_iinc (ls' := [_, _, _, _, _, _, _, _, _, _, _, _, _]) i_M_drawn_200 rfl (by omega) rfl ?_
                                refine x_goto i_M_drawn_203 ?_
                                exact next
                              refine x_iload i_M_drawn_183 rfl ?_
                              refine x_if_ne i_M_drawn_185 (fun w8 => ?_) (fun w8 => ?_)
                              · refine tail _ ?_
                                by_cases w9 : pk < T.length
                                · rw [if_pos w9, if_pos (by omega), List.getD_eq_getElem?_getD, List.getD_eq_getElem?_getD, List.getElem?_append_left w9]
                                · rw [if_neg w9, if_neg (by omega)]
                              · have epk : pk = T.length := by omega
                                refine x_aload_n i_M_drawn_188 rfl ?_
                                refine x_getR (c2 := 13) i_M_drawn_189 rfl rfl (hm _ _ rfl) ?_
                                refine x_iload i_M_drawn_192 rfl ?_
                                refine x_iaload i_M_drawn_194 (k := a) rfl (lt_len hl rfl (by omega)) ?_
                                rw [g2]
                                refine x_istore (ls' := [_, _, _, _, _, _, _, _, _, _, _, _, _]) i_M_drawn_195 rfl rfl ?_
                                refine tail _ ?_
                                rw [if_pos (by omega), epk]
                                simp
                            · rw [if_neg hx0, List.append_nil] at next
                              refine x_if_eq_f i_M_drawn_177 (by omega) ?_
                              refine x_goto i_M_drawn_180 ?_
                              refine x_iinc (ls' := [_, _, _, _, _, _, _, _, _, _, _, _, _]) i_M_drawn_200 rfl (by omega) rfl ?_
                              refine x_goto i_M_drawn_203 ?_
                              exact next
                        have := search S.2.1.2.1.length 0 (by omega)
                        simpa [litT] using this
                    refine x_iload i_M_drawn_108 rfl ?_
                    refine x_iload_n i_M_drawn_110 rfl ?_
                    refine x_icmp_ge_f i_M_drawn_111 (by omega) ?_
                    refine x_iload i_M_drawn_114 rfl ?_
                    refine x_ldcW i_M_drawn_116 ?_
                    refine x_imulW i_M_drawn_119 ?_
                    refine x_sipush i_M_drawn_120 ?_
                    refine x_iaddW i_M_drawn_123 ?_
                    refine x_istore (ls' := [_, _, _, _, _, _, _, _, _, _, _, _, _]) i_M_drawn_124 rfl rfl ?_
                    refine x_iload i_M_drawn_126 rfl ?_
                    refine x_bipush i_M_drawn_128 ?_
                    refine x_iushr i_M_drawn_130 ?_
                    refine x_iload i_M_drawn_131 rfl ?_
                    refine x_if_ne i_M_drawn_133 (fun w6 => ?_) (fun w6 => ?_)
                    · refine x_iload i_M_drawn_141 rfl ?_
                      exact rem L (by rw [if_neg (by omega)])
                    · refine x_bipush i_M_drawn_136 ?_
                      refine x_goto i_M_drawn_138 ?_
                      exact rem 10 (by rw [if_pos (by omega)])
                refine x_iload i_M_drawn_98 rfl ?_
                refine x_iload i_M_drawn_100 rfl ?_
                refine x_icmp_ge_f i_M_drawn_102 (by omega) ?_
                refine x_iconst i_M_drawn_105 ?_
                refine x_istore (ls' := [_, _, _, _, _, _, _, _, _, _, _, _, _]) i_M_drawn_106 rfl rfl ?_
                exact inner nn 0 σ1 (by omega) (diX.rf σ1) fr1 fi1 (fun j hj => absurd hj (Nat.not_lt_zero _))
            -- how many ' ' there are
            have count : ∀ (fa a : Nat), a + fa = S.2.1.2.1.length → Ex (wp 372) m_M_drawn Q 41 [some (vr 11 0), some (vi (rn : Nat)), some (vi z), some (vi (nn : Nat)), some (vi (mn : Nat)), some (vi ((litT (S.2.1.2.1.take a)).length : Nat)), some (vi (a : Nat)), none, none, none, none, none, none] [] σ := by
              intro fa
              induction fa with
              | zero =>
                intro a ha
                have et : S.2.1.2.1.take a = S.2.1.2.1 := List.take_of_length_le (by omega)
                have hlt : (litT (S.2.1.2.1.take a)).length = L := by rw [et]; exact hL
                rw [hlt]
                refine x_iload i_M_drawn_41 rfl ?_
                refine x_aload_n i_M_drawn_43 rfl ?_
                refine x_getI i_M_drawn_44 rfl rfl ?_
                rw [ga4]
                refine x_icmp_ge_t i_M_drawn_47 (by omega) ?_
                refine x_iload_n i_M_drawn_76 rfl ?_
                refine x_istore (ls' := [_, _, _, _, _, _, _, _, _, _, _, _, _]) i_M_drawn_77 rfl rfl ?_
                refine x_iconst i_M_drawn_79 ?_
                refine x_istore (ls' := [_, _, _, _, _, _, _, _, _, _, _, _, _]) i_M_drawn_80 rfl rfl ?_
                refine x_aload_n i_M_drawn_82 rfl ?_
                refine x_aload_n i_M_drawn_83 rfl ?_
                refine x_getR (c2 := 13) i_M_drawn_84 rfl rfl (hm _ _ rfl) ?_
                refine x_putO (c2 := 13) i_M_drawn_87 rfl rfl ?_
                refine x_aload_n i_M_drawn_90 rfl ?_
                refine x_iload_n i_M_drawn_91 rfl ?_
                refine x_putI i_M_drawn_92 rfl rfl ?_
                refine x_iconst i_M_drawn_95 ?_
                refine x_istore (ls' := [_, _, _, _, _, _, _, _, _, _, _, _, _]) i_M_drawn_96 rfl rfl ?_
                have d0 : diX σ (sFI (sFR σ 1140 0 (some 25)) 1141 0 (nn : Int)) := ⟨fun f a w => by rw [FI_sFI, if_neg (fun q => w q.1)]; rfl, fun f a w => by rw [FR_sFI, FR_sFR, if_neg (fun q => w q.1)], fun _ _ _ _ => rfl, rfl, rfl, rfl, rfl, rfl⟩
                exact loop mn 0 z S.2.2.1 0 _ (by omega) (Nat.le_refl _) (h.di d0) d0.mo (by simp [FR_sFI, FR_sFR]) (by simp [FI_sFI]) (fun a i w1 w2 => d0.2.2.1 _ _ _ (fun q => by omega)) rfl
              | succ fa iha =>
                intro a ha
                have ha2 : a < S.2.1.2.1.length := by omega
                obtain ⟨g1, g2, g3⟩ := goods a ha2 σ (fun _ _ _ _ => rfl)
                have next := iha (a + 1) (by omega)
                rw [g3, litT_snoc] at next
                have hl32 := llen a
                generalize S.2.1.2.1.getD a (0, 0, 0, 0, 0) = x at g1 g2 next
                generalize litT (S.2.1.2.1.take a) = T at next hl32
                have put : ∀ q : Nat, q ≤ 1 → T.length + q = (T ++ (if x.2.2.1 = 0 then [x.2.2.2.1] else [])).length → Ex (wp 372) m_M_drawn Q 67 [some (vr 11 0), some (vi (rn : Nat)), some (vi z), some (vi (nn : Nat)), some (vi (mn : Nat)), some (vi (T.length : Nat)), some (vi (a : Nat)), none, none, none, none, none, none] [vi (q : Nat), vi (T.length : Nat)] σ := by
                  intro q hq1 hq
                  rw [← hq] at next
                  refine x_iadd i_M_drawn_67 (by omega) ?_
                  refine x_istore (ls' := [_, _, _, _, _, _, _, _, _, _, _, _, _]) i_M_drawn_68 rfl rfl ?_
                  refine x_iinc (ls' := [_, _, _, _, _, _, _, _, _, _, _, _, _]) i_M_drawn_70 rfl (by omega) rfl ?_
                  refine x_goto i_M_drawn_73 ?_
                  exact next
                refine x_iload i_M_drawn_41 rfl ?_
                refine x_aload_n i_M_drawn_43 rfl ?_
                refine x_getI i_M_drawn_44 rfl rfl ?_
                rw [ga4]
                refine x_icmp_ge_f i_M_drawn_47 (by omega) ?_
                refine x_iload i_M_drawn_50 rfl ?_
                refine x_aload_n i_M_drawn_52 rfl ?_
                refine x_getR (c2 := 13) i_M_drawn_53 rfl rfl (hm _ _ rfl) ?_
                refine x_iload i_M_drawn_56 rfl ?_
                refine x_iaload i_M_drawn_58 (k := a) rfl (lt_len hl rfl (by omega)) ?_
                rw [g1]
                refine x_if_ne i_M_drawn_59 (fun w6 => ?_) (fun w6 => ?_)
                · refine x_iconst i_M_drawn_66 ?_
                  exact put 0 (by decide) (by rw [if_neg (by omega)]; simp)
                · refine x_iconst i_M_drawn_62 ?_
                  refine x_goto i_M_drawn_63 ?_
                  exact put 1 (by decide) (by rw [if_pos (by omega)]; simp)
            refine x_iconst i_M_drawn_35 ?_
            refine x_istore (ls' := [_, _, _, _, _, _, _, _, _, _, _, _, _]) i_M_drawn_36 rfl rfl ?_
            refine x_iconst i_M_drawn_38 ?_
            refine x_istore (ls' := [_, _, _, _, _, _, _, _, _, _, _, _, _]) i_M_drawn_39 rfl rfl ?_
            have := count S.2.1.2.1.length 0 (by omega)
            exact this
          · exact bad (Or.inr (Or.inr (Or.inr (Or.inr (by omega)))))
  · refine x_if_eq_t i_M_drawn_5 rfl ?_
    exact bad (Or.inl w1)
end


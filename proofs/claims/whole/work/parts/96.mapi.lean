/-! WHAT THE SMALLER CALLS DO, pure; the MODEL's smaller calls -/
def byteF (w : Int) (k : Nat) : Int := iAnd (iUshr w (8 * (k : Int))) 255
theorem byteF_in (w : Int) (k : Nat) : 0 ≤ byteF w k ∧ byteF w k ≤ 255 := by
  unfold byteF iAnd
  generalize Int32.ofInt (iUshr w (8 * (k : Int))) = x
  rw [show Int32.ofInt 255 = (255 : Int32) from rfl]
  have h1 : (x &&& 255).toBitVec = x.toBitVec &&& 255#32 := rfl
  have h2 : (x &&& 255).toInt = (x.toBitVec &&& 255#32).toInt := by rw [← h1]; rfl
  have h3 : (x.toBitVec &&& 255#32).toNat ≤ 255 := by
    rw [BitVec.toNat_and]
    exact Nat.and_le_right
  rw [h2, BitVec.toInt_eq_toNat_of_lt (by omega)]
  omega
def feedT (t : TP) (n : Nat) (w : Int) : TP := (t.1 + n, fun j => if j < t.1 then t.2 j else byteF w (j - t.1))
def doFeed (S : SS) (n w : Int) : Int × SS := if n < 1 ∨ 4 < n then (-2, S) else if 240 < (S.1.1.1 : Int) + n then (-4, S) else ((S.1.1.1 : Int) + n, ((feedT S.1.1 n.toNat w, S.1.2), S.2))
def doInput (S : SS) : Int × SS := ((S.1.1.1 : Int), (((0, S.1.1.2), S.1.1), S.2.1, S.2.2.1, none))
def toldE (r : RR) (w : Int) : Int := if w = 0 then r.2.2.2.2.1.1 else if w = 1 then r.2.2.2.2.1.2 else if w = 2 then (r.2.2.2.1.1 : Int) else if w = 3 then (r.2.2.2.1.2.2 : Int) else if w = 4 then bI (sharpE r) else (match treeE r with | none => 0 | some t => (sizeT t : Int))
def doTold (S : SS) (w : Int) : Int := if w < 0 ∨ 5 < w then -2 else match S.2.2.2 with | none => -3 | some r => toldE r w
def nodeE (o : Option TT) (k w : Int) : Int := match o with
  | none => -1
  | some t => if k < 0 ∨ (sizeT t : Int) ≤ k then -1 else
    let x := (flatT t 0).getD k.toNat (0, 0, 0, 0)
    if w = 0 then (x.1 : Int) else if w = 2 then (x.2.2.2 : Int) else if x.1 = 1 then (x.2.2.1 : Int) else (x.2.1 : Int)
def doNode (S : SS) (k w : Int) : Int := if w < 0 ∨ 2 < w then -2 else match S.2.2.2 with | none => -3 | some r => nodeE (treeE r) k w
def doWorth (S : SS) : Int := match S.2.2.2 with | none => -3 | some r => (match treeE r with | none => 0 | some t => worthT t)
def textE (o : Option TT) (k : Int) : Int := match o with
  | none => -1
  | some t => if k < 0 ∨ ((textT t).length : Int) ≤ k then -1 else (textT t).getD k.toNat 0
def doText (S : SS) (k : Int) : Int := match S.2.2.2 with | none => -3 | some r => textE (treeE r) k
def doCount (S : SS) (w : Int) : Int := if w = 0 then (cntG S.2.1 : Int) else if w = 1 then (S.2.1.2.1.length : Int) else if w = 2 then (S.1.2.1 : Int) else if w = 3 then (S.1.1.1 : Int) else if w = 4 then (S.2.2.1 : Int) else -2
theorem feedT_ok {t : TP} (h : tpOK t) {n : Nat} {w : Int} (hn : t.1 + n ≤ 240) : tpOK (feedT t n w) := by
  refine ⟨hn, fun i _ => ?_⟩
  show 0 ≤ (if i < t.1 then t.2 i else byteF w (i - t.1)) ∧ (if i < t.1 then t.2 i else byteF w (i - t.1)) ≤ 255
  split
  · rename_i q; exact h.2 i q
  · exact byteF_in _ _
theorem flM_get {σ : AS} : ∀ (l : List (Nat × Nat × Nat × Nat)) (k i : Nat), flM σ k l → i < l.length → AI σ 13 59 (k + i) = ((l.getD i (0, 0, 0, 0)).1 : Int) ∧ AI σ 13 60 (k + i) = ((l.getD i (0, 0, 0, 0)).2.1 : Int) ∧ AI σ 13 61 (k + i) = ((l.getD i (0, 0, 0, 0)).2.2.1 : Int) ∧ AI σ 13 62 (k + i) = ((l.getD i (0, 0, 0, 0)).2.2.2 : Int)
  | [], _, _, _, h => absurd h (Nat.not_lt_zero _)
  | x :: l, k, 0, h, _ => ⟨h.1, h.2.1, h.2.2.1, h.2.2.2.1⟩
  | x :: l, k, i + 1, h, hi => by
    have := flM_get l (k + 1) i h.2.2.2.2 (by simpa using hi)
    rw [show k + (i + 1) = k + 1 + i by omega]
    simpa using this
def lastM (σ : AS) (o : Option RR) : Prop := match o with | none => FI σ 1169 0 = 0 | some r => FI σ 1169 0 = 1 ∧ lasM σ r
theorem lasM_keep {σ σ' : AS} {o : Option RR} (h : lastM σ o) (fi : ∀ f, 1169 ≤ f → f ≤ 1181 → FI σ' f 0 = FI σ f 0) (ai : ∀ a j, 59 ≤ a → a ≤ 63 → AI σ' 13 a j = AI σ 13 a j) : lastM σ' o := by
  match o, h with
  | none, h => show FI σ' 1169 0 = 0; rw [fi _ (by decide) (by decide)]; exact h
  | some r, ⟨h1, a1, a2, a3, a4, a5, a6⟩ =>
    refine ⟨by rw [fi _ (by decide) (by decide)]; exact h1, by rw [fi _ (by decide) (by decide)]; exact a1, by rw [fi _ (by decide) (by decide)]; exact a2, by rw [fi _ (by decide) (by decide)]; exact a3, by rw [fi _ (by decide) (by decide)]; exact a4, by rw [fi _ (by decide) (by decide)]; exact a5, ?_⟩
    revert a6
    generalize treeE r = o
    intro a6
    match o, a6 with
    | none, a6 => exact ⟨by rw [fi _ (by decide) (by decide)]; exact a6.1, by rw [fi _ (by decide) (by decide)]; exact a6.2⟩
    | some t, ⟨b1, b2, b3, b4, b5, b6⟩ => exact ⟨b1, b2, by rw [fi _ (by decide) (by decide)]; exact b3, b4.keep _ _ (fun a j w1 w2 _ _ => ai a j (by omega) (by omega)), by rw [fi _ (by decide) (by decide)]; exact b5, fun i v hi => by rw [ai _ _ (by decide) (by decide)]; exact b6 i v hi⟩
section
variable {d : Nat} {Q : AQ} {σ : AS} {S : SS}
theorem c_M_feed (h : moS σ S) {n w : Int} (kk : ∀ σ', moX σ σ' → moS σ' (doFeed S n w).2 → Q (some (vi (doFeed S n w).1)) σ') : wp (d + 1) m_M_feed [vr 11 0, vi n, vi w] σ Q := by
  obtain ⟨hmr, hbes, ht1, ht2, htp, hti, hg, hsp, hsp2, hla⟩ := id h
  obtain ⟨hm, hl, hlb⟩ := id hmr
  have hz1 : S.1.1.1 ≤ 240 := ht1.1
  have bad : (n < 1 ∨ 4 < n) → Ex (wp d) m_M_feed Q 10 [some (vr 11 0), some (vi n), some (vi w), none] [] σ := by
    intro q
    have := kk σ (moX.rf σ)
    unfold doFeed at this
    rw [if_pos q] at this
    refine x_bipush i_M_feed_10 ?_
    refine x_iret i_M_feed_12 rfl ?_
    exact this h
  refine x_in (ls := [some _, some _, some _, none]) rfl rfl ?_
  refine x_iload_n i_M_feed_0 rfl ?_
  refine x_iconst i_M_feed_1 ?_
  refine x_icmp_lt i_M_feed_2 (fun g1 => ?_) (fun g1 => ?_)
  · exact bad (Or.inl g1)
  · refine x_iload_n i_M_feed_5 rfl ?_
    refine x_iconst i_M_feed_6 ?_
    refine x_icmp_le i_M_feed_7 (fun g2 => ?_) (fun g2 => ?_)
    · refine x_aload_n i_M_feed_13 rfl ?_
      refine x_getI i_M_feed_14 rfl rfl ?_
      rw [htp.1]
      refine x_iload_n i_M_feed_17 rfl ?_
      refine x_iadd i_M_feed_18 (by omega) ?_
      refine x_sipush i_M_feed_19 ?_
      refine x_icmp_le i_M_feed_22 (fun g3 => ?_) (fun g3 => ?_)
      · obtain ⟨m, rfl⟩ : ∃ m : Nat, n = (m : Int) := ⟨n.toNat, by omega⟩
        have hm4 : m ≤ 4 := by omega
        have kk : ∀ σ', moX σ σ' → moS σ' ((feedT S.1.1 m w, S.1.2), S.2) → Q (some (vi ((S.1.1.1 : Int) + m))) σ' := by
          unfold doFeed at kk
          rw [if_neg (by omega), if_neg (by omega)] at kk
          exact kk
        have ha0 : S.1.1.1 + m ≤ 240 := by omega
        have loop : ∀ (f i : Nat) (σ1 : AS), i + f = m → fX (fun f a => f = 1103 ∧ a = 0) (fun k a => k = 13 ∧ a = 23) σ σ1 → tapM σ1 1103 23 (feedT S.1.1 i w) → Ex (wp d) m_M_feed Q 30 [some (vr 11 0), some (vi (m : Nat)), some (vi w), some (vi (i : Nat))] [] σ1 := by
          intro f
          induction f with
          | zero =>
            intro i σ1 hi x1 t1
            have e : i = m := by omega
            subst e
            have fi : ∀ f, f ≠ 1103 → FI σ1 f 0 = FI σ f 0 := fun f hf => x1.1 _ _ (fun q => hf q.1)
            have ai : ∀ a j, a ≠ 23 → AI σ1 13 a j = AI σ 13 a j := fun a j ha => x1.2.2.1 _ _ _ (fun q => ha q.2)
            have bi : ∀ j, AI σ1 14 0 j = AI σ 14 0 j := fun j => x1.2.2.1 _ _ _ (fun q => by have := q.1; omega)
            have y1 : moX σ σ1 := x1.mo (fun f a q => by have := q.1; omega) (fun k a q => Or.inl ⟨q.1, by have := q.2; omega, by have := q.2; omega⟩)
            refine x_iload_n i_M_feed_30 rfl ?_
            refine x_iload_n i_M_feed_31 rfl ?_
            refine x_icmp_ge_t i_M_feed_32 (by omega) ?_
            refine x_aload_n i_M_feed_70 rfl ?_
            refine x_getI i_M_feed_71 rfl rfl ?_
            rw [t1.1]
            refine x_iret i_M_feed_74 rfl ?_
            refine kk σ1 y1 ⟨hmr.keep x1, hbes.keep (by rw [x1.2.1]) x1.2.2.2.1 x1.2.2.2.2.1, feedT_ok ht1 ha0, ht2, t1, hti.keep (fi _ (by decide)) (fun j => ai _ _ (by decide)), hg.keep (fun a j v1 v2 => ai _ _ (by omega)) bi (fi _ (by decide)) (fi _ (by decide)), by rw [fi _ (by decide)]; exact hsp, hsp2, ?_⟩
            exact lasM_keep hla (fun f w1 w2 => fi _ (by omega)) (fun a j w1 w2 => ai _ _ (by omega))
          | succ f ih =>
            intro i σ1 hi x1 t1
            obtain ⟨hm, hl, -⟩ := hmr.keep x1
            have e23 : (feedT S.1.1 i w).1 = S.1.1.1 + i := rfl
            have htl : S.1.1.1 + i < 240 := by omega
            refine x_iload_n i_M_feed_30 rfl ?_
            refine x_iload_n i_M_feed_31 rfl ?_
            refine x_icmp_ge_f i_M_feed_32 (by omega) ?_
            refine x_aload_n i_M_feed_35 rfl ?_
            refine x_getR (c2 := 13) i_M_feed_36 rfl rfl (hm _ _ rfl) ?_
            refine x_aload_n i_M_feed_39 rfl ?_
            refine x_getI i_M_feed_40 rfl rfl ?_
            refine x_iload_n i_M_feed_43 rfl ?_
            refine x_bipush i_M_feed_44 ?_
            refine x_iload_n i_M_feed_46 rfl ?_
            refine x_imul i_M_feed_47 (by omega) ?_
            refine x_iushr i_M_feed_48 ?_
            refine x_sipush i_M_feed_49 ?_
            refine x_iand i_M_feed_52 ?_
            rw [t1.1, e23]
            refine x_iastore i_M_feed_53 (k := S.1.1.1 + i) rfl (lt_len hl rfl htl) ?_
            refine x_aload_n i_M_feed_54 rfl ?_
            refine x_dup i_M_feed_55 ?_
            refine x_getI i_M_feed_56 rfl rfl ?_
            rw [show FI (sAI σ1 13 23 (S.1.1.1 + i) (iAnd (iUshr w (8 * (i : Int))) 255)) 1103 0 = ((S.1.1.1 + i : Nat) : Int) from t1.1]
            refine x_iconst i_M_feed_59 ?_
            refine x_iadd i_M_feed_60 (by omega) ?_
            refine x_putI i_M_feed_61 rfl rfl ?_
            refine x_iinc (ls' := [_, _, _, _]) i_M_feed_64 rfl (by omega) rfl ?_
            refine x_goto i_M_feed_67 ?_
            refine ih (i + 1) _ (by omega) (x1.tr ((fX_sAI ⟨rfl, rfl⟩).tr (fX_sFI ⟨rfl, rfl⟩))) ⟨by simp [FI_sFI, feedT]; omega, fun j hj => ?_⟩
            have hj : j < S.1.1.1 + (i + 1) := hj
            rw [AI_sFI, AI_sAI]
            by_cases q : j = S.1.1.1 + i
            · rw [if_pos ⟨rfl, rfl, q⟩]
              show _ = if j < S.1.1.1 then S.1.1.2 j else byteF w (j - S.1.1.1)
              rw [if_neg (by omega), show j - S.1.1.1 = i by omega]
              rfl
            · rw [if_neg (fun u => q u.2.2)]
              exact t1.2 j (by show j < S.1.1.1 + i; omega)
        refine x_iconst i_M_feed_28 ?_
        refine x_istore_n (ls' := [_, _, _, _]) i_M_feed_29 rfl rfl ?_
        refine loop m 0 σ (by omega) (fX.rf _ _ _) ⟨by rw [htp.1]; simp [feedT], fun j hj => ?_⟩
        have hj : j < S.1.1.1 + 0 := hj
        rw [htp.2 j hj]
        show _ = if j < S.1.1.1 then S.1.1.2 j else _
        rw [if_pos (by omega)]
      · have := kk σ (moX.rf σ)
        unfold doFeed at this
        rw [if_neg (by omega), if_pos (by omega)] at this
        refine x_bipush i_M_feed_25 ?_
        refine x_iret i_M_feed_27 rfl ?_
        exact this h
    · exact bad (Or.inr (by omega))
theorem c_M_input (h : moS σ S) (kk : ∀ σ', moX σ σ' → moS σ' (doInput S).2 → Q (some (vi (doInput S).1)) σ') : wp (d + 1) m_M_input [vr 11 0] σ Q := by
  obtain ⟨hmr, hbes, ht1, ht2, htp, hti, hg, hsp, hsp2, hla⟩ := id h
  obtain ⟨hm, hl, hlb⟩ := id hmr
  have hz1 : S.1.1.1 ≤ 240 := ht1.1
  have loop : ∀ (f i : Nat) (σ1 : AS), i + f = S.1.1.1 → fX (fun _ _ => False) (fun k a => k = 13 ∧ a = 24) σ σ1 → (∀ j, j < i → AI σ1 13 24 j = S.1.1.2 j) → Ex (wp d) m_M_input Q 2 [some (vr 11 0), some (vi (i : Nat))] [] σ1 := by
    intro f
    induction f with
    | zero =>
      intro i σ1 hi x1 t1
      have e : i = S.1.1.1 := by omega
      subst e
      have fi1 : ∀ f, FI σ1 f 0 = FI σ f 0 := fun f => x1.1 _ _ (fun q => q)
      refine x_iload_n i_M_input_2 rfl ?_
      refine x_aload_n i_M_input_3 rfl ?_
      refine x_getI i_M_input_4 rfl rfl ?_
      rw [fi1, htp.1]
      refine x_icmp_ge_t i_M_input_7 (by omega) ?_
      refine x_aload_n i_M_input_28 rfl ?_
      refine x_aload_n i_M_input_29 rfl ?_
      refine x_getI i_M_input_30 rfl rfl ?_
      rw [fi1, htp.1]
      refine x_putI i_M_input_33 rfl rfl ?_
      refine x_aload_n i_M_input_36 rfl ?_
      refine x_iconst i_M_input_37 ?_
      refine x_putI i_M_input_38 rfl rfl ?_
      refine x_aload_n i_M_input_41 rfl ?_
      refine x_iconst i_M_input_42 ?_
      refine x_putZ i_M_input_43 rfl rfl (by omega) ?_
      refine x_aload_n i_M_input_46 rfl ?_
      refine x_getI i_M_input_47 rfl rfl ?_
      generalize hσ2 : sFI (sFI (sFI σ1 1104 0 (S.1.1.1 : Int)) 1103 0 0) 1169 0 0 = σ2
      have x2 : fX (fun f a => (f = 1103 ∨ f = 1104 ∨ f = 1169) ∧ a = 0) (fun k a => k = 13 ∧ a = 24) σ1 σ2 := by rw [← hσ2]; exact ((fX_sFI ⟨by decide, rfl⟩).tr (fX_sFI ⟨by decide, rfl⟩)).tr (fX_sFI ⟨by decide, rfl⟩)
      have g1 : FI σ2 1104 0 = (S.1.1.1 : Int) := by rw [← hσ2]; simp [FI_sFI]
      have g2 : FI σ2 1103 0 = 0 := by rw [← hσ2]; simp [FI_sFI]
      have g3 : FI σ2 1169 0 = 0 := by rw [← hσ2]; simp [FI_sFI]
      have ai2 : ∀ k a j, AI σ2 k a j = AI σ1 k a j := by intro k a j; rw [← hσ2]; rfl
      clear hσ2
      have x3 : fX (fun f a => (f = 1103 ∨ f = 1104 ∨ f = 1169) ∧ a = 0) (fun k a => k = 13 ∧ a = 24) σ σ2 := (x1.mono (fun _ _ q => q.elim) (fun _ _ q => q)).tr x2
      have fi : ∀ f, f ≠ 1103 → f ≠ 1104 → f ≠ 1169 → FI σ2 f 0 = FI σ f 0 := fun f w1 w2 w3 => x3.1 _ _ (fun q => by rcases q.1 with q | q | q <;> omega)
      have ai : ∀ a j, a ≠ 24 → AI σ2 13 a j = AI σ 13 a j := fun a j ha => x3.2.2.1 _ _ _ (fun q => ha q.2)
      have bi : ∀ j, AI σ2 14 0 j = AI σ 14 0 j := fun j => x3.2.2.1 _ _ _ (fun q => by have := q.1; omega)
      have y1 : moX σ σ2 := x3.mo (fun f a q => by rcases q.1 with q | q | q <;> omega) (fun k a q => Or.inl ⟨q.1, by have := q.2; omega, by have := q.2; omega⟩)
      rw [g1]
      refine x_iret i_M_input_50 rfl ?_
      refine kk σ2 y1 ⟨hmr.keep x3, hbes.keep (by rw [x3.2.1]) x3.2.2.2.1 x3.2.2.2.2.1, ⟨Nat.zero_le _, fun i hi => absurd hi (Nat.not_lt_zero _)⟩, ht1, ⟨g2, fun i hi => absurd hi (Nat.not_lt_zero _)⟩, ⟨g1, fun i hi => by rw [ai2]; exact t1 i hi⟩, hg.keep (fun a j v1 v2 => ai _ _ (by omega)) bi (fi _ (by decide) (by decide) (by decide)) (fi _ (by decide) (by decide) (by decide)), by rw [fi _ (by decide) (by decide) (by decide)]; exact hsp, hsp2, g3⟩
    | succ f ih =>
      intro i σ1 hi x1 t1
      have fi1 : ∀ f, FI σ1 f 0 = FI σ f 0 := fun f => x1.1 _ _ (fun q => q)
      have ai : ∀ a j, a ≠ 24 → AI σ1 13 a j = AI σ 13 a j := fun a j ha => x1.2.2.1 _ _ _ (fun q => ha q.2)
      obtain ⟨hm, hl, -⟩ := hmr.keep x1
      refine x_iload_n i_M_input_2 rfl ?_
      refine x_aload_n i_M_input_3 rfl ?_
      refine x_getI i_M_input_4 rfl rfl ?_
      rw [fi1, htp.1]
      refine x_icmp_ge_f i_M_input_7 (by omega) ?_
      refine x_aload_n i_M_input_10 rfl ?_
      refine x_getR (c2 := 13) i_M_input_11 rfl rfl (hm _ _ rfl) ?_
      refine x_iload_n i_M_input_14 rfl ?_
      refine x_aload_n i_M_input_15 rfl ?_
      refine x_getR (c2 := 13) i_M_input_16 rfl rfl (hm _ _ rfl) ?_
      refine x_iload_n i_M_input_19 rfl ?_
      refine x_iaload i_M_input_20 (k := i) rfl (lt_len hl rfl (by omega)) ?_
      rw [ai _ _ (by decide), htp.2 i (by omega)]
      refine x_iastore i_M_input_21 (k := i) rfl (lt_len hl rfl (by omega)) ?_
      refine x_iinc (ls' := [_, _]) i_M_input_22 rfl (by omega) rfl ?_
      refine x_goto i_M_input_25 ?_
      refine ih (i + 1) _ (by omega) (x1.tr (fX_sAI ⟨rfl, rfl⟩)) (fun j hj => ?_)
      rw [AI_sAI]
      by_cases q : j = i
      · rw [if_pos ⟨rfl, rfl, q⟩, q]
      · rw [if_neg (fun u => q u.2.2)]; exact t1 j (by omega)
  refine x_in (ls := [some _, none]) rfl rfl ?_
  refine x_iconst i_M_input_0 ?_
  refine x_istore_n (ls' := [_, _]) i_M_input_1 rfl rfl ?_
  exact loop S.1.1.1 0 σ (by omega) (fX.rf _ _ _) (fun j hj => absurd hj (Nat.not_lt_zero _))
theorem c_M_count (h : moS σ S) {w : Int} (kk : Q (some (vi (doCount S w))) σ) : wp (d + 1) m_M_count [vr 11 0, vi w] σ Q := by
  obtain ⟨hmr, hbes, ht1, ht2, htp, hti, hg, hsp, hsp2, hla⟩ := id h
  unfold doCount at kk
  refine x_in (ls := [some _, some _]) rfl rfl ?_
  refine x_iload_n i_M_count_0 rfl ?_
  refine x_if_ne i_M_count_1 (fun g0 => ?_) (fun g0 => ?_)
  · rw [if_neg g0] at kk
    refine x_iload_n i_M_count_11 rfl ?_
    refine x_iconst i_M_count_12 ?_
    refine x_icmp_ne i_M_count_13 (fun g1 => ?_) (fun g1 => ?_)
    · rw [if_neg g1] at kk
      refine x_iload_n i_M_count_23 rfl ?_
      refine x_iconst i_M_count_24 ?_
      refine x_icmp_ne i_M_count_25 (fun g2 => ?_) (fun g2 => ?_)
      · rw [if_neg g2] at kk
        refine x_iload_n i_M_count_35 rfl ?_
        refine x_iconst i_M_count_36 ?_
        refine x_icmp_ne i_M_count_37 (fun g3 => ?_) (fun g3 => ?_)
        · rw [if_neg g3] at kk
          refine x_iload_n i_M_count_47 rfl ?_
          refine x_iconst i_M_count_48 ?_
          refine x_icmp_ne i_M_count_49 (fun g4 => ?_) (fun g4 => ?_)
          · rw [if_neg g4] at kk
            refine x_bipush i_M_count_59 ?_
            refine x_iret i_M_count_61 rfl ?_
            exact kk
          · rw [if_pos (by omega)] at kk
            refine x_aload_n i_M_count_52 rfl ?_
            refine x_getI i_M_count_53 rfl rfl ?_
            rw [hsp]
            refine x_goto i_M_count_56 ?_
            refine x_iret i_M_count_61 rfl ?_
            exact kk
        · rw [if_pos (by omega)] at kk
          refine x_aload_n i_M_count_40 rfl ?_
          refine x_getI i_M_count_41 rfl rfl ?_
          rw [htp.1]
          refine x_goto i_M_count_44 ?_
          refine x_iret i_M_count_61 rfl ?_
          exact kk
      · rw [if_pos (by omega)] at kk
        refine x_aload_n i_M_count_28 rfl ?_
        refine x_getI i_M_count_29 rfl rfl ?_
        rw [hti.1]
        refine x_goto i_M_count_32 ?_
        refine x_iret i_M_count_61 rfl ?_
        exact kk
    · rw [if_pos (by omega)] at kk
      refine x_aload_n i_M_count_16 rfl ?_
      refine x_getI i_M_count_17 rfl rfl ?_
      rw [hg.2.2.2.1]
      refine x_goto i_M_count_20 ?_
      refine x_iret i_M_count_61 rfl ?_
      exact kk
  · rw [if_pos (by omega)] at kk
    refine x_aload_n i_M_count_4 rfl ?_
    refine x_getI i_M_count_5 rfl rfl ?_
    rw [hg.2.2.1]
    refine x_goto i_M_count_8 ?_
    refine x_iret i_M_count_61 rfl ?_
    exact kk
end


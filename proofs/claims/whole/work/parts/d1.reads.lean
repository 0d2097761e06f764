/-! THE MODEL's reading: all of it -/
theorem rulP_cn {t : TP} {R : Nat → Option (PT 9)} {st : RT} {x : (Nat → Option (PT 9)) × RT} (hx : rulP t R st = .inr x) : cnR x.1 = cnR R + 1 := by
  unfold rulP at hx
  split at hx
  · rename_i w
    have hn := isNm_in w.1
    simp only [] at hx
    split at hx
    · revert hx
      generalize altD t _ 8 _ = RR
      cases RR with
      | inl q => intro hx; cases hx
      | inr y =>
        intro hx
        simp only [] at hx
        split at hx
        · injection hx with hx
          subst hx
          exact cnR_set (r := (chT t st.1 - 65).toNat) w.2 (by omega)
        · cases hx
    · cases hx
  · cases hx
/-- what is read, if it is stored too -/
def stoM (σ : AS) (R : Nat → Option (PT 9)) (l : List AT) : Prop := (∀ r, r < 8 → match R r with | none => AI σ 13 26 r = -1 | some alt => ∃ a : Nat, AI σ 13 26 r = (a : Int) ∧ altM σ (fun k => k < 8 ∧ (R k).isSome = true) 9 alt a) ∧ ∀ (i : Nat) a, l[i]? = some a → AI σ 13 41 i = (a.1 : Int) ∧ AI σ 13 37 i = (a.2.1 : Int) ∧ AI σ 13 38 i = (a.2.2.1 : Int) ∧ AI σ 13 39 i = a.2.2.2.1 ∧ AI σ 13 40 i = a.2.2.2.2
def rdsQ (b : Bool) (t : TP) (σ σ' : AS) : Prop := rlM (b = true) σ σ' ∧ match readE t with
  | .inl p => FI σ' 1126 0 = (p : Int)
  | .inr x => FI σ' 1126 0 = -1 ∧ FI σ' 1128 0 = (cnR x.1 : Int) ∧ (FI σ' 1129 0 = (x.2.length : Int) ∧ x.2.length ≤ 32) ∧ (b = true → stoM σ' x.1 x.2)
section
variable {d : Nat} {Q : AQ} {σ : AS} {t : TP} {st : RT} {b : Bool}
theorem M_namesLoop {R : Nat → Option (PT 9)} {has : Int} (h : MdS σ t st 0 0) (hh : bN has (fun r => (R r).isSome)) (hn : ∀ y ∈ st.2.2, y.1 ≤ t.1 ∧ y.2 < 8) : ∀ (suf pre : List (Nat × Nat)), st.2.2 = pre ++ suf → (unkN R suf = none → Q none σ) → (∀ y, unkN R suf = some y → ∀ σ', atX σ σ' → FI σ' 1126 0 = (y.1 : Int) → Q none σ') → Ex (wp (d + 41)) m_M_reads Q 220 [some (vr 11 0), some (vi (bI b)), some (vi has), some (vi 0), some (vi (pre.length : Nat))] [] σ := by
  obtain ⟨b1, b2, b3, b4, b5, b6, ⟨⟨n1, n2⟩, n3⟩, b8⟩ := id h
  obtain ⟨hmr, ht, htp⟩ := id b1
  obtain ⟨hm, hl, -⟩ := id hmr
  have ht1 := ht.1
  have hle := b2.1
  intro suf
  induction suf with
  | nil =>
    intro pre he k1 k2
    rw [List.append_nil] at he
    refine x_iload i_M_reads_220 rfl ?_
    refine x_aload_n i_M_reads_222 rfl ?_
    refine x_getI i_M_reads_223 rfl rfl ?_
    rw [n1, he]
    refine x_icmp_ge_t i_M_reads_226 (by omega) ?_
    refine x_vret i_M_reads_261 rfl ?_
    exact k1 rfl
  | cons y suf ih =>
    intro pre he k1 k2
    have hlen : pre.length < st.2.2.length := by rw [he, List.length_append, List.length_cons]; omega
    have hg : st.2.2[pre.length]? = some y := by rw [he, List.getElem?_append_right (Nat.le_refl _), Nat.sub_self]; rfl
    have hy := hn y (by rw [he]; exact List.mem_append_right _ List.mem_cons_self)
    obtain ⟨a1, a2⟩ := n2 _ _ hg
    unfold unkN at k1 k2
    rw [List.find?_cons] at k1 k2
    refine x_iload i_M_reads_220 rfl ?_
    refine x_aload_n i_M_reads_222 rfl ?_
    refine x_getI i_M_reads_223 rfl rfl ?_
    rw [n1]
    refine x_icmp_ge_f i_M_reads_226 (by omega) ?_
    refine x_iload_n i_M_reads_229 rfl ?_
    refine x_aload_n i_M_reads_230 rfl ?_
    refine x_getR (c2 := 13) i_M_reads_231 rfl rfl (hm _ _ rfl) ?_
    refine x_iload i_M_reads_234 rfl ?_
    refine x_iaload i_M_reads_236 (k := pre.length) rfl (lt_len hl rfl (by omega)) ?_
    rw [a2]
    refine x_ishr i_M_reads_237 ?_
    refine x_iconst i_M_reads_238 ?_
    refine x_iand i_M_reads_239 ?_
    rw [bN_bit2 hh hy.2]
    cases hR : (R y.2).isSome with
    | true =>
      rw [hR] at k1 k2
      refine x_if_ne_t i_M_reads_240 (by decide) ?_
      refine x_iinc (ls' := [_, _, _, _, _]) i_M_reads_255 rfl (by omega) rfl ?_
      refine x_goto i_M_reads_258 ?_
      have := ih (pre ++ [y]) (by rw [he]; simp) k1 k2
      rw [List.length_append] at this
      exact this
    | false =>
      rw [hR] at k2
      refine x_if_ne_f i_M_reads_240 (by decide) ?_
      refine x_aload_n i_M_reads_243 rfl ?_
      refine x_aload_n i_M_reads_244 rfl ?_
      refine x_getR (c2 := 13) i_M_reads_245 rfl rfl (hm _ _ rfl) ?_
      refine x_iload i_M_reads_248 rfl ?_
      refine x_iaload i_M_reads_250 (k := pre.length) rfl (lt_len hl rfl (by omega)) ?_
      rw [a1]
      refine x_cv1 i_M_reads_251 rfl rfl rfl ?_
      refine c_M_wrongS (u := 0) h (by decide) hy.1 (fun σ2 x2 h2 f2 => ?_)
      refine x_vret i_M_reads_254 rfl ?_
      exact k2 y rfl σ2 x2 h2.2.2.2.1
theorem M_readEnd {R : Nat → Option (PT 9)} {has : Int} (h : MdR b σ t R st) (hh : bN has (fun r => (R r).isSome)) (nm : exN 0 st.1 [] st.2.2) (kk : ∀ σ', rlM (b = true) σ σ' → (match unkN R st.2.2 with | some y => FI σ' 1126 0 = (y.1 : Int) | none => FI σ' 1126 0 = -1 ∧ FI σ' 1128 0 = (cnR R : Int) ∧ (FI σ' 1129 0 = (st.2.1.length : Int) ∧ st.2.1.length ≤ 32) ∧ (b = true → stoM σ' R st.2.1)) → Q none σ') : Ex (wp (d + 41)) m_M_reads Q 59 [some (vr 11 0), some (vi (bI b)), some (vi has), some (vi 0), none] [] σ := by
  obtain ⟨hb, hS, h28, hru⟩ := h
  obtain ⟨b1, ⟨o1, o2, o3⟩, b3, b4, b5, ⟨n1, n2, n3⟩, b7, b8⟩ := id hS
  have ht1 := b1.2.1.1
  obtain ⟨e, e1, e2, e3⟩ := nm
  rw [List.nil_append] at e1
  have hn : ∀ y ∈ st.2.2, y.1 ≤ t.1 ∧ y.2 < 8 := fun y hy => by
    have := e3 y (by rw [← e1]; exact hy)
    exact ⟨by omega, this.2.2⟩
  have hb1 : FI σ 1136 0 = 1 → b = true := fun w => bI_1 (hb.symm.trans w)
  have cs := MdS_cts hS
  refine x_iload_n i_M_reads_59 rfl ?_
  refine x_if_eq_t i_M_reads_60 rfl ?_
  refine x_iconst i_M_reads_217 ?_
  refine x_istore (ls' := [_, _, _, _, _]) i_M_reads_218 rfl rfl ?_
  refine M_namesLoop hS hh hn st.2.2 [] rfl (fun hu => ?_) (fun y hu σ' x' f' => ?_)
  · rw [hu] at kk
    refine kk σ (fX.rf _ _ _) ⟨b4, h28, ⟨n1, o3⟩, fun w => ⟨fun r hr => ?_, n3 (by rw [hb, w]; rfl)⟩⟩
    have := hru w r hr
    revert this
    unfold rulV
    cases R r with
    | none => exact id
    | some alt =>
      rintro ⟨a, h1, h2⟩
      refine ⟨a, h1, ?_⟩
      have h3 := altB.M 9 _ _ _ _ _ _ _ _ _ (by omega) (by omega) (by omega) (by omega) h2
      refine altM.keep (fun _ _ _ _ => rfl) (fun k hk => ?_) 9 alt a h3
      obtain ⟨p, hp⟩ := hk
      exact ⟨(hn _ hp).2, unk_none hu _ hp⟩
  · rw [hu] at kk
    exact kk σ' (x'.rd.rl hb1) f'
theorem M_readRules : ∀ (f : Nat) (R : Nat → Option (PT 9)) (st : RT) (σ1 : AS) (has : Int), 9 ≤ f + cnR R → rlM (b = true) σ σ1 → MdR b σ1 t R st → bN has (fun r => (R r).isSome) → exN 0 st.1 [] st.2.2 → (∀ σ', rlM (b = true) σ σ' → (match rulLP t f R st with | .inl p => FI σ' 1126 0 = (p : Int) | .inr x => (match unkN x.1 x.2.2.2 with | some y => FI σ' 1126 0 = (y.1 : Int) | none => FI σ' 1126 0 = -1 ∧ FI σ' 1128 0 = (cnR x.1 : Int) ∧ (FI σ' 1129 0 = (x.2.2.1.length : Int) ∧ x.2.2.1.length ≤ 32) ∧ (b = true → stoM σ' x.1 x.2.2.1))) → Q none σ') → Ex (wp (d + 41)) m_M_reads Q 59 [some (vr 11 0), some (vi (bI b)), some (vi has), some (vi (bI (decide (st.1 < t.1)))), none] [] σ1 := by
  intro f
  induction f with
  | zero =>
    intro R st σ1 has hf
    have := cnR_le R
    omega
  | succ f ih =>
    intro R st σ1 has hf hl h hh nm kk
    simp only [rulLP] at kk
    have hS := h.2.1
    have ht := hS.1.2.1
    by_cases w : st.1 < t.1
    · rw [if_pos w] at kk
      rw [decide_eq_true w]
      refine M_rule h hh (fun p hp σ' l' f' => ?_) (fun x hx σ' has' l' h' hh' => ?_)
      · rw [hp] at kk
        exact kk σ' (hl.tr l') f'
      · rw [hx] at kk
        have h3 := rulP_names ht hS.2.1 hx
        exact ih x.1 x.2 σ' has' (by rw [rulP_cn hx]; omega) (hl.tr l') h' hh' (nm.tr h3.2.2 (Nat.zero_le _) (Nat.le_of_lt h3.1)) kk
    · rw [if_neg w] at kk
      rw [decide_eq_false w]
      exact M_readEnd h hh nm (fun σ' l' p => kk σ' (hl.tr l') p)
theorem c_M_reads (hB : rmB σ t) (h26 : b = true → ∀ r, r < 8 → AI σ 13 26 r = -1) (kk : ∀ σ', rdsQ b t σ σ' → Q none σ') : wp (d + 42) m_M_reads [vr 11 0, vi (bI b)] σ Q := by
  have ht := hB.2.1
  have hs0 : sk t 0 ≤ t.1 := sk_le (Nat.zero_le _)
  have x0 : fX rlF (fun _ _ => False) σ (sFI (sFI (sFI (sFI (sFI (sFI (sFI (sFI (sFI (sFI (sFI σ 1136 0 (bI b)) 1125 0 0) 1126 0 (-1)) 1127 0 0) 1128 0 0) 1129 0 0) 1130 0 0) 1131 0 0) 1132 0 0) 1133 0 0) 1134 0 0) := by
    refine ((((((((((fX_sFI ?_).tr (fX_sFI ?_)).tr (fX_sFI ?_)).tr (fX_sFI ?_)).tr (fX_sFI ?_)).tr (fX_sFI ?_)).tr (fX_sFI ?_)).tr (fX_sFI ?_)).tr (fX_sFI ?_)).tr (fX_sFI ?_)).tr (fX_sFI ?_) <;> exact ⟨by decide, by decide, rfl⟩
  have ff : FI (sFI (sFI (sFI (sFI (sFI (sFI (sFI (sFI (sFI (sFI (sFI σ 1136 0 (bI b)) 1125 0 0) 1126 0 (-1)) 1127 0 0) 1128 0 0) 1129 0 0) 1130 0 0) 1131 0 0) 1132 0 0) 1133 0 0) 1134 0 0) 1136 0 = bI b ∧ FI (sFI (sFI (sFI (sFI (sFI (sFI (sFI (sFI (sFI (sFI (sFI σ 1136 0 (bI b)) 1125 0 0) 1126 0 (-1)) 1127 0 0) 1128 0 0) 1129 0 0) 1130 0 0) 1131 0 0) 1132 0 0) 1133 0 0) 1134 0 0) 1126 0 = -1 ∧ ∀ f, f = 1125 ∨ (1127 ≤ f ∧ f ≤ 1134) → FI (sFI (sFI (sFI (sFI (sFI (sFI (sFI (sFI (sFI (sFI (sFI σ 1136 0 (bI b)) 1125 0 0) 1126 0 (-1)) 1127 0 0) 1128 0 0) 1129 0 0) 1130 0 0) 1131 0 0) 1132 0 0) 1133 0 0) 1134 0 0) f 0 = 0 := by
    refine ⟨by simp [FI_sFI], by simp [FI_sFI], fun f w => ?_⟩
    have : f = 1125 ∨ f = 1127 ∨ f = 1128 ∨ f = 1129 ∨ f = 1130 ∨ f = 1131 ∨ f = 1132 ∨ f = 1133 ∨ f = 1134 := by omega
    rcases this with rfl | rfl | rfl | rfl | rfl | rfl | rfl | rfl | rfl <;> simp [FI_sFI]
  have hb01 := bI_01 b
  refine x_in (ls := [some _, some _, none, none, none]) rfl rfl ?_
  refine x_aload_n i_M_reads_0 rfl ?_
  refine x_iload_n i_M_reads_1 rfl ?_
  refine x_putZ i_M_reads_2 rfl rfl (by omega) ?_
  refine x_aload_n i_M_reads_5 rfl ?_
  refine x_iconst i_M_reads_6 ?_
  refine x_putI i_M_reads_7 rfl rfl ?_
  refine x_aload_n i_M_reads_10 rfl ?_
  refine x_iconst i_M_reads_11 ?_
  refine x_putI i_M_reads_12 rfl rfl ?_
  refine x_aload_n i_M_reads_15 rfl ?_
  refine x_iconst i_M_reads_16 ?_
  refine x_putI i_M_reads_17 rfl rfl ?_
  refine x_aload_n i_M_reads_20 rfl ?_
  refine x_iconst i_M_reads_21 ?_
  refine x_putI i_M_reads_22 rfl rfl ?_
  refine x_aload_n i_M_reads_25 rfl ?_
  refine x_iconst i_M_reads_26 ?_
  refine x_putI i_M_reads_27 rfl rfl ?_
  refine x_aload_n i_M_reads_30 rfl ?_
  refine x_iconst i_M_reads_31 ?_
  refine x_putI i_M_reads_32 rfl rfl ?_
  refine x_aload_n i_M_reads_35 rfl ?_
  refine x_iconst i_M_reads_36 ?_
  refine x_putI i_M_reads_37 rfl rfl ?_
  refine x_aload_n i_M_reads_40 rfl ?_
  refine x_iconst i_M_reads_41 ?_
  refine x_putI i_M_reads_42 rfl rfl ?_
  refine x_aload_n i_M_reads_45 rfl ?_
  refine x_iconst i_M_reads_46 ?_
  refine x_putI i_M_reads_47 rfl rfl ?_
  refine x_aload_n i_M_reads_50 rfl ?_
  refine x_iconst i_M_reads_51 ?_
  refine x_putI i_M_reads_52 rfl rfl ?_
  show Ex _ m_M_reads Q 55 _ _ (sFI (sFI (sFI (sFI (sFI (sFI (sFI (sFI (sFI (sFI (sFI σ 1136 0 (bI b)) 1125 0 0) 1126 0 (-1)) 1127 0 0) 1128 0 0) 1129 0 0) 1130 0 0) 1131 0 0) 1132 0 0) 1133 0 0) 1134 0 0)
  generalize sFI (sFI (sFI (sFI (sFI (sFI (sFI (sFI (sFI (sFI (sFI σ 1136 0 (bI b)) 1125 0 0) 1126 0 (-1)) 1127 0 0) 1128 0 0) 1129 0 0) 1130 0 0) 1131 0 0) 1132 0 0) 1133 0 0) 1134 0 0 = σ1 at x0 ff
  obtain ⟨f36, f26, ff⟩ := ff
  have ai : ∀ a j, AI σ1 13 a j = AI σ 13 a j := fun a j => x0.2.2.1 _ _ _ (fun q => q)
  have c0 : ∀ f, 1130 ≤ f → f ≤ 1133 → ct σ1 f = 0 := fun f w1 w2 => by unfold ct; rw [ff f (by omega)]; rfl
  have hS : MdS σ1 t (sk t 0, [], []) 0 0 := by
    refine ⟨hB.keep x0 (fun q => absurd q.1 (by decide)) (fun q => q), ⟨hs0, sk_sk t 0, Nat.zero_le _⟩, ⟨0, ff _ (by decide), Nat.zero_le _, rfl⟩, f26, ff _ (by decide), ⟨ff _ (by decide), ?_, fun _ i a hi => by cases hi⟩, ⟨⟨ff _ (by decide), fun i y hi => by cases hi⟩, Nat.zero_le _⟩, ⟨?_, ?_⟩, ⟨?_, ?_⟩, ⟨?_, ?_⟩, ?_, ?_⟩
    · rw [f36]
      cases b
      · exact Or.inl rfl
      · exact Or.inr rfl
    all_goals (rw [c0 _ (by decide) (by decide)]; first | exact Nat.zero_le _ | exact ff _ (by decide))
  have l1 : rlM (b = true) σ σ1 := x0.mono (fun _ _ q => q) (fun _ _ q => q.elim)
  have hR : MdR b σ1 t (fun _ => none) (sk t 0, [], []) := ⟨f36, hS, ff _ (by decide), fun w r hr => (ai 26 r).trans (h26 w r hr)⟩
  have h0 : bN 0 (fun r => ((fun _ => none : Nat → Option (PT 9)) r).isSome) := bN_0
  refine x_iconst i_M_reads_55 ?_
  refine x_istore_n (ls' := [_, _, _, _, _]) i_M_reads_56 rfl rfl ?_
  refine x_iconst i_M_reads_57 ?_
  refine x_istore_n (ls' := [_, _, _, _, _]) i_M_reads_58 rfl rfl ?_
  refine M_rule hR h0 (fun p hp σ' l' f' => ?_) (fun x hx σ' has' l' h' hh' => ?_)
  · refine kk σ' ⟨l1.tr l', ?_⟩
    unfold readE rulsP
    rw [hp]
    exact f'
  · have h3 := rulP_names ht hS.2.1 hx
    have hc : cnR x.1 = 1 := rulP_cn hx
    have nm : exN 0 x.2.1 [] x.2.2.2 := exN.tr (exN.rf 0 (sk t 0) []) h3.2.2 (Nat.zero_le _) (Nat.le_of_lt h3.1)
    refine M_readRules (σ := σ) 8 x.1 x.2 σ' has' (by omega) (l1.tr l') h' hh' nm (fun σ2 l2 p2 => kk σ2 ⟨l2, ?_⟩)
    unfold readE rulsP
    rw [hx]
    simp only []
    revert p2
    cases rulLP t 8 x.1 x.2 with
    | inl p => exact id
    | inr y =>
      simp only []
      unfold unkN
      cases y.2.2.2.find? (fun z => (y.1 z.2).isSome == false) with
      | none => exact id
      | some z => exact id
end


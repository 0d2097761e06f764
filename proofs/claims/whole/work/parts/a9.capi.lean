/-! THE CLASS's calls: feed, input, count, told, node, worth, text -/
/-- nothing comes -/
def noN (σ σ' : AS) : Prop := CN σ' = CN σ ∧ nC σ' = nC σ ∧ nS σ' = nS σ
theorem noN.rf (σ : AS) : noN σ σ := ⟨rfl, rfl, rfl⟩
theorem noN.tr {a b c : AS} (h : noN a b) (g : noN b c) : noN a c := ⟨g.1.trans h.1, g.2.1.trans h.2.1, g.2.2.trans h.2.2⟩
theorem tX.no {F : Nat → Nat → Prop} {A : Nat → Prop} {σ σ' : AS} (h : tX F A σ σ') : noN σ σ' := ⟨h.2.2.2.2.2.1, h.2.2.2.2.2.2.1, h.2.2.2.2.2.2.2⟩
section
variable {d : Nat} {Q : AQ} {σ : AS} {S : SS}
theorem c_G_bodyI {g b : Nat} (hb : FR σ 100 g = some b) (hl : LN σ 16 b = 8) {r : Int} (kt : ∀ n : Nat, r = (n : Int) → n < 8 → Q (some (vo 8 (AR σ 16 b n))) σ) (kf : ¬ (0 ≤ r ∧ r < 8) → Q (some (vn 8)) σ) : wp (d + 1) m_Grammar_body [vr 1 g, vi r] σ Q := by
  refine x_in (ls := [some _, some _]) rfl rfl ?_
  refine x_iload_n i_Grammar_body_0 rfl ?_
  refine x_if_lt i_Grammar_body_1 (fun h1 => ?_) (fun h1 => ?_)
  · refine x_null i_Grammar_body_28 ?_
    refine x_aretN (c := 8) i_Grammar_body_29 rfl ?_
    exact kf (by omega)
  · refine x_iload_n i_Grammar_body_4 rfl ?_
    refine x_bipush i_Grammar_body_5 ?_
    refine x_icmp_ge i_Grammar_body_7 (fun h2 => ?_) (fun h2 => ?_)
    · refine x_null i_Grammar_body_28 ?_
      refine x_aretN (c := 8) i_Grammar_body_29 rfl ?_
      exact kf (by omega)
    · obtain ⟨n, rfl⟩ : ∃ n : Nat, r = (n : Int) := ⟨r.toNat, by omega⟩
      refine x_iload_n i_Grammar_body_10 rfl ?_
      refine x_aload_n i_Grammar_body_11 rfl ?_
      refine x_getR (c2 := 16) i_Grammar_body_12 rfl rfl (by assumption) ?_
      refine x_alen i_Grammar_body_15 (by omega) ?_
      rw [hl]
      refine x_icmp_ge_f i_Grammar_body_16 (by omega) ?_
      refine x_aload_n i_Grammar_body_19 rfl ?_
      refine x_getR (c2 := 16) i_Grammar_body_20 rfl rfl (by assumption) ?_
      refine x_iload_n i_Grammar_body_23 rfl ?_
      refine x_aaload i_Grammar_body_24 (by omega) (k := n) rfl (by rw [hl]; omega) ?_
      refine x_goto i_Grammar_body_25 ?_
      refine x_aret (c := 8) i_Grammar_body_29 rfl ?_
      exact kt n rfl (by omega)
theorem c_G_has {g : Nat} {G : GG} {b fa ra ca rq cq : Nat} (hg : grmC σ g G b fa ra ca rq cq) {r : Int} (kt : hasG G r = true → Q (some (vi 1)) σ) (kf : hasG G r = false → Q (some (vi 0)) σ) : wp (d + 2) m_Grammar_has [vr 1 g, vi r] σ Q := by
  obtain ⟨-, g2⟩ := hg.law
  obtain ⟨a1, a2, a3, a4, a5, a6, a7, a8, a12, a16, a17, a18, a19, a20, -⟩ := hg
  refine x_in (ls := [some _, some _]) rfl rfl ?_
  refine x_aload_n i_Grammar_has_0 rfl ?_
  refine x_iload_n i_Grammar_has_1 rfl ?_
  refine x_cv1 i_Grammar_has_2 rfl rfl rfl ?_
  refine c_G_bodyI a2 a18 (fun n e hn => ?_) (fun w => ?_)
  · subst e
    have := g2 n hn
    have hh : hasG G (n : Int) = (G.1 n).isSome := by unfold hasG; rw [decide_eq_true ⟨by omega, by omega⟩, Bool.true_and, Int.toNat_natCast]
    by_cases w : AR σ 16 b n = none
    · refine x_ifnull_t i_Grammar_has_5 w ?_
      refine x_iconst i_Grammar_has_12 ?_
      refine x_zret i_Grammar_has_13 rfl (by omega) ?_
      exact kf (by rw [hh]; exact Bool.eq_false_iff.mpr (fun q => this.mpr q w))
    · refine x_ifnull_f i_Grammar_has_5 w ?_
      refine x_iconst i_Grammar_has_8 ?_
      refine x_goto i_Grammar_has_9 ?_
      refine x_zret i_Grammar_has_13 rfl (by omega) ?_
      exact kt (by rw [hh]; exact this.mp w)
  · refine x_ifnull_t i_Grammar_has_5 rfl ?_
    refine x_iconst i_Grammar_has_12 ?_
    refine x_zret i_Grammar_has_13 rfl (by omega) ?_
    exact kf (by unfold hasG; rw [decide_eq_false w, Bool.false_and])
theorem c_CP_told (h : clS σ S) {w : Int} (kk : Q (some (vi (doTold S w))) σ) : wp (d + 4) m_CP_told [vr 10 0, vi w] σ Q := by
  obtain ⟨t, b, g, bo, fa, ra, ca, rq, cq, htb, f0, f1, f2, f3, f4, f5, o1, o2, r0, r1, ⟨n2, g2, r2⟩, hg, hr, hl, k1, k2⟩ := id h
  unfold doTold at kk
  refine x_in (ls := [some _, some _]) rfl rfl ?_
  refine x_iload_n i_CP_told_0 rfl ?_
  refine x_if_lt i_CP_told_1 (fun g0 => ?_) (fun g0 => ?_)
  · rw [if_pos (Or.inl g0)] at kk
    refine x_bipush i_CP_told_9 ?_
    refine x_iret i_CP_told_11 rfl ?_
    exact kk
  · refine x_iload_n i_CP_told_4 rfl ?_
    refine x_iconst i_CP_told_5 ?_
    refine x_icmp_le i_CP_told_6 (fun g1 => ?_) (fun g1 => ?_)
    · rw [if_neg (by omega)] at kk
      cases hS : S.2.2.2 with
      | none =>
        rw [hS] at hl kk
        have hl0 : FI σ 200 0 = 0 := hl.2.2.2.2.2.2
        refine x_aload_n i_CP_told_12 rfl ?_
        refine x_getR (c2 := 2) i_CP_told_13 rfl rfl (by assumption) ?_
        refine x_getI i_CP_told_16 rfl rfl ?_
        rw [hl0]
        refine x_if_ne_f i_CP_told_19 (by decide) ?_
        refine x_bipush i_CP_told_22 ?_
        refine x_iret i_CP_told_24 rfl ?_
        exact kk
      | some r =>
        rw [hS] at hl kk
        have kk : Q (some (vi (toldE r w))) σ := kk
        obtain ⟨-, -, -, -, -, -, b0, b1, b2, b3, b4, b5, -⟩ := id hl
        unfold toldE at kk
        refine x_aload_n i_CP_told_12 rfl ?_
        refine x_getR (c2 := 2) i_CP_told_13 rfl rfl (by assumption) ?_
        refine x_getI i_CP_told_16 rfl rfl ?_
        rw [b0]
        refine x_if_ne_t i_CP_told_19 (by decide) ?_
        have hc : w = 0 ∨ w = 1 ∨ w = 2 ∨ w = 3 ∨ w = 4 ∨ w = 5 := by omega
        refine x_iload_n i_CP_told_25 rfl ?_
        rcases hc with rfl | rfl | rfl | rfl | rfl | rfl
        · refine x_switch (off := 34) (tg := 60) i_CP_told_26 (by omega) rfl (by decide) ?_
          refine x_aload_n i_CP_told_60 rfl ?_
          refine x_getR (c2 := 2) i_CP_told_61 rfl rfl (by assumption) ?_
          refine x_getI i_CP_told_64 rfl rfl ?_
          rw [b1]
          refine x_iret i_CP_told_67 rfl ?_
          exact kk
        · refine x_switch (off := 42) (tg := 68) i_CP_told_26 (by omega) rfl (by decide) ?_
          refine x_aload_n i_CP_told_68 rfl ?_
          refine x_getR (c2 := 2) i_CP_told_69 rfl rfl (by assumption) ?_
          refine x_getI i_CP_told_72 rfl rfl ?_
          rw [b2]
          refine x_iret i_CP_told_75 rfl ?_
          exact kk
        · refine x_switch (off := 50) (tg := 76) i_CP_told_26 (by omega) rfl (by decide) ?_
          refine x_aload_n i_CP_told_76 rfl ?_
          refine x_getR (c2 := 2) i_CP_told_77 rfl rfl (by assumption) ?_
          refine x_getI i_CP_told_80 rfl rfl ?_
          rw [b3]
          refine x_iret i_CP_told_83 rfl ?_
          exact kk
        · refine x_switch (off := 58) (tg := 84) i_CP_told_26 (by omega) rfl (by decide) ?_
          refine x_aload_n i_CP_told_84 rfl ?_
          refine x_getR (c2 := 2) i_CP_told_85 rfl rfl (by assumption) ?_
          refine x_getI i_CP_told_88 rfl rfl ?_
          rw [b4]
          refine x_iret i_CP_told_91 rfl ?_
          exact kk
        · have kk : Q (some (vi (bI (sharpE r)))) σ := kk
          refine x_switch (off := 66) (tg := 92) i_CP_told_26 (by omega) rfl (by decide) ?_
          refine x_aload_n i_CP_told_92 rfl ?_
          refine x_getR (c2 := 2) i_CP_told_93 rfl rfl (by assumption) ?_
          refine x_getI i_CP_told_96 rfl rfl ?_
          rw [b5]
          refine x_if_eq i_CP_told_99 (fun c5 => ?_) (fun c5 => ?_)
          · rw [c5] at kk
            refine x_iconst i_CP_told_106 ?_
            refine x_iret i_CP_told_107 rfl ?_
            exact kk
          · rw [bI_t c5] at kk
            refine x_iconst i_CP_told_102 ?_
            refine x_goto i_CP_told_103 ?_
            refine x_iret i_CP_told_107 rfl ?_
            exact kk
        · refine x_switchD (tg := 108) i_CP_told_26 (by omega) (by decide) ?_
          refine x_aload_n i_CP_told_108 rfl ?_
          refine x_getR (c2 := 2) i_CP_told_109 rfl rfl (by assumption) ?_
          refine x_cv0 i_CP_told_112 rfl rfl rfl ?_
          refine c_L_nodes hl ?_
          refine x_iret i_CP_told_115 rfl ?_
          exact kk
    · rw [if_pos (by omega)] at kk
      refine x_bipush i_CP_told_9 ?_
      refine x_iret i_CP_told_11 rfl ?_
      exact kk
theorem c_CP_node (h : clS σ S) {k w : Int} (kk : Q (some (vi (doNode S k w))) σ) : wp (d + 4) m_CP_node [vr 10 0, vi k, vi w] σ Q := by
  obtain ⟨t, b, g, bo, fa, ra, ca, rq, cq, htb, f0, f1, f2, f3, f4, f5, o1, o2, r0, r1, ⟨n2, g2, r2⟩, hg, hr, hl, k1, k2⟩ := id h
  unfold doNode at kk
  refine x_in (ls := [some _, some _, some _]) rfl rfl ?_
  refine x_iload_n i_CP_node_0 rfl ?_
  refine x_if_lt i_CP_node_1 (fun g0 => ?_) (fun g0 => ?_)
  · rw [if_pos (Or.inl g0)] at kk
    refine x_bipush i_CP_node_9 ?_
    refine x_iret i_CP_node_11 rfl ?_
    exact kk
  · refine x_iload_n i_CP_node_4 rfl ?_
    refine x_iconst i_CP_node_5 ?_
    refine x_icmp_le i_CP_node_6 (fun g1 => ?_) (fun g1 => ?_)
    · rw [if_neg (by omega)] at kk
      cases hS : S.2.2.2 with
      | none =>
        rw [hS] at hl kk
        have hl0 : FI σ 200 0 = 0 := hl.2.2.2.2.2.2
        refine x_aload_n i_CP_node_12 rfl ?_
        refine x_getR (c2 := 2) i_CP_node_13 rfl rfl (by assumption) ?_
        refine x_getI i_CP_node_16 rfl rfl ?_
        rw [hl0]
        refine x_if_eq_t i_CP_node_19 rfl ?_
        refine x_bipush i_CP_node_34 ?_
        refine x_iret i_CP_node_36 rfl ?_
        exact kk
      | some r =>
        rw [hS] at hl kk
        have kk : Q (some (vi (nodeE (treeE r) k w))) σ := kk
        have b0 : FI σ 200 0 = 1 := hl.2.2.2.2.2.2.1
        refine x_aload_n i_CP_node_12 rfl ?_
        refine x_getR (c2 := 2) i_CP_node_13 rfl rfl (by assumption) ?_
        refine x_getI i_CP_node_16 rfl rfl ?_
        rw [b0]
        refine x_if_eq_f i_CP_node_19 (by decide) ?_
        refine x_aload_n i_CP_node_22 rfl ?_
        refine x_getR (c2 := 2) i_CP_node_23 rfl rfl (by assumption) ?_
        refine x_iload_n i_CP_node_26 rfl ?_
        refine x_iload_n i_CP_node_27 rfl ?_
        refine x_cv2 i_CP_node_28 rfl rfl rfl ?_
        refine c_L_about hl ⟨by omega, by omega⟩ ?_
        refine x_goto i_CP_node_31 ?_
        refine x_iret i_CP_node_36 rfl ?_
        exact kk
    · rw [if_pos (by omega)] at kk
      refine x_bipush i_CP_node_9 ?_
      refine x_iret i_CP_node_11 rfl ?_
      exact kk
theorem c_CP_worth (h : clS σ S) (kk : Q (some (vi (doWorth S))) σ) : wp (d + 1) m_CP_worth [vr 10 0] σ Q := by
  obtain ⟨t, b, g, bo, fa, ra, ca, rq, cq, htb, f0, f1, f2, f3, f4, f5, o1, o2, r0, r1, ⟨n2, g2, r2⟩, hg, hr, hl, k1, k2⟩ := id h
  unfold doWorth at kk
  refine x_in (ls := [some _]) rfl rfl ?_
  cases hS : S.2.2.2 with
  | none =>
    rw [hS] at hl kk
    have hl0 : FI σ 200 0 = 0 := hl.2.2.2.2.2.2
    refine x_aload_n i_CP_worth_0 rfl ?_
    refine x_getR (c2 := 2) i_CP_worth_1 rfl rfl (by assumption) ?_
    refine x_getI i_CP_worth_4 rfl rfl ?_
    rw [hl0]
    refine x_if_eq_t i_CP_worth_7 rfl ?_
    refine x_bipush i_CP_worth_20 ?_
    refine x_iret i_CP_worth_22 rfl ?_
    exact kk
  | some r =>
    rw [hS] at hl kk
    have kk : Q (some (vi (worthO (treeE r)))) σ := kk
    obtain ⟨-, -, -, -, -, -, b0, b1, b2, b3, b4, b5, b6, -⟩ := id hl
    refine x_aload_n i_CP_worth_0 rfl ?_
    refine x_getR (c2 := 2) i_CP_worth_1 rfl rfl (by assumption) ?_
    refine x_getI i_CP_worth_4 rfl rfl ?_
    rw [b0]
    refine x_if_eq_f i_CP_worth_7 (by decide) ?_
    refine x_aload_n i_CP_worth_10 rfl ?_
    refine x_getR (c2 := 2) i_CP_worth_11 rfl rfl (by assumption) ?_
    refine x_getI i_CP_worth_14 rfl rfl ?_
    rw [b6]
    refine x_goto i_CP_worth_17 ?_
    refine x_iret i_CP_worth_22 rfl ?_
    exact kk
theorem clS.last {σ' : AS} (h : clS σ S) (hx : tX laCF laCA σ σ') {o : Option RR} (hl : lastC σ' o) : clS σ' (S.1, S.2.1, S.2.2.1, o) := by
  obtain ⟨t, b, g, bo, fa, ra, ca, rq, cq, htb, f0, f1, f2, f3, f4, f5, o1, o2, r0, r1, ⟨n2, g2, r2⟩, hg, hr, -, k1, k2⟩ := h
  have e2 := hx.2.1
  have rk : ∀ {r cap n : Nat} {f : Nat → Int}, rowF σ r r cap n f → r < 16 → rowF σ' r r cap n f := fun h hr => hx.row h (fun q => by rcases q with q | q <;> omega) (fun q => by have := q.1; omega)
  exact ⟨t, b, g, bo, fa, ra, ca, rq, cq, htb, by rw [e2]; exact f0, by rw [e2]; exact f1, by rw [e2]; exact f2, by rw [e2]; exact f3, by rw [e2]; exact f4, by rw [e2]; exact f5, o1, o2, rk r0 (by omega), rk r1 (by omega), ⟨n2, g2, rk r2 (by decide)⟩, hg.tx hx (fun f a q w => by rcases q with q | q <;> omega) (fun a q => by have := q.2; omega), hr.tx hx (fun f a q w => by rcases q with q | q <;> omega) (fun a q w => by have := q.1; omega), hl, by rw [hx.2.2.2.2.2.1]; exact k1, by rw [hx.2.2.2.2.2.1]; exact k2⟩
theorem laX_cl {σ' : AS} (hx : tX laCF laCA σ σ') : clX σ σ' := hx.cl (fun f a q => by rcases q with q | q <;> omega) (fun a q => by have := q.2; omega)
theorem c_CP_text (h : clS σ S) {k : Int} (kk : ∀ σ', clX σ σ' → noN σ σ' → clS σ' S → Q (some (vi (doText S k))) σ') : wp (d + 6) m_CP_text [vr 10 0, vi k] σ Q := by
  obtain ⟨t, b, g, bo, fa, ra, ca, rq, cq, htb, f0, f1, f2, f3, f4, f5, o1, o2, r0, r1, ⟨n2, g2, r2⟩, hg, hr, hl, k1, k2⟩ := id h
  unfold doText at kk
  refine x_in (ls := [some _, some _]) rfl rfl ?_
  cases hS : S.2.2.2 with
  | none =>
    rw [hS] at hl kk
    have hl0 : FI σ 200 0 = 0 := hl.2.2.2.2.2.2
    have := kk σ (clX.rf σ) (noN.rf σ) h
    refine x_aload_n i_CP_text_0 rfl ?_
    refine x_getR (c2 := 2) i_CP_text_1 rfl rfl (by assumption) ?_
    refine x_getI i_CP_text_4 rfl rfl ?_
    rw [hl0]
    refine x_if_eq_t i_CP_text_7 rfl ?_
    refine x_bipush i_CP_text_21 ?_
    refine x_iret i_CP_text_23 rfl ?_
    exact this
  | some r =>
    rw [hS] at hl kk
    have b0 : FI σ 200 0 = 1 := hl.2.2.2.2.2.2.1
    refine x_aload_n i_CP_text_0 rfl ?_
    refine x_getR (c2 := 2) i_CP_text_1 rfl rfl (by assumption) ?_
    refine x_getI i_CP_text_4 rfl rfl ?_
    rw [b0]
    refine x_if_eq_f i_CP_text_7 (by decide) ?_
    refine x_aload_n i_CP_text_10 rfl ?_
    refine x_getR (c2 := 2) i_CP_text_11 rfl rfl (by assumption) ?_
    refine x_iload_n i_CP_text_14 rfl ?_
    refine x_cv1 i_CP_text_15 rfl rfl rfl ?_
    refine c_L_sign hl (fun σ1 x1 h1 => ?_)
    have := kk σ1 (laX_cl x1) x1.no (by
      have := h.last x1 h1
      rw [← hS] at this
      exact this)
    refine x_goto i_CP_text_18 ?_
    refine x_iret i_CP_text_23 rfl ?_
    exact this
theorem c_CP_count (h : clS σ S) {w : Int} (kk : Q (some (vi (doCount S w))) σ) : wp (d + 2) m_CP_count [vr 10 0, vi w] σ Q := by
  obtain ⟨t, b, g, bo, fa, ra, ca, rq, cq, htb, f0, f1, f2, f3, f4, f5, o1, o2, r0, r1, ⟨n2, g2, r2⟩, hg, hr, hl, k1, k2⟩ := id h
  obtain ⟨-, -, -, -, -, -, -, -, -, -, -, -, -, -, g21, g22, -⟩ := hg
  unfold doCount at kk
  refine x_in (ls := [some _, some _]) rfl rfl ?_
  refine x_iload_n i_CP_count_0 rfl ?_
  by_cases hw : 0 ≤ w ∧ w ≤ 4
  · have hc : w = 0 ∨ w = 1 ∨ w = 2 ∨ w = 3 ∨ w = 4 := by omega
    rcases hc with rfl | rfl | rfl | rfl | rfl
    · refine x_switch (off := 35) (tg := 36) i_CP_count_1 (by omega) rfl (by decide) ?_
      refine x_aload_n i_CP_count_36 rfl ?_
      refine x_getR (c2 := 1) i_CP_count_37 rfl rfl (by assumption) ?_
      refine x_getI i_CP_count_40 rfl rfl ?_
      rw [g21]
      refine x_iret i_CP_count_43 rfl ?_
      exact kk
    · refine x_switch (off := 43) (tg := 44) i_CP_count_1 (by omega) rfl (by decide) ?_
      refine x_aload_n i_CP_count_44 rfl ?_
      refine x_getR (c2 := 1) i_CP_count_45 rfl rfl (by assumption) ?_
      refine x_getI i_CP_count_48 rfl rfl ?_
      rw [g22]
      refine x_iret i_CP_count_51 rfl ?_
      exact kk
    · refine x_switch (off := 51) (tg := 52) i_CP_count_1 (by omega) rfl (by decide) ?_
      refine x_aload_n i_CP_count_52 rfl ?_
      refine x_getR (c2 := 6) i_CP_count_53 rfl rfl (by assumption) ?_
      refine x_cv0 i_CP_count_56 rfl rfl rfl ?_
      refine c_Row_size r1 ?_
      refine x_iret i_CP_count_59 rfl ?_
      exact kk
    · refine x_switch (off := 59) (tg := 60) i_CP_count_1 (by omega) rfl (by decide) ?_
      refine x_aload_n i_CP_count_60 rfl ?_
      refine x_getR (c2 := 6) i_CP_count_61 rfl rfl (by assumption) ?_
      refine x_cv0 i_CP_count_64 rfl rfl rfl ?_
      refine c_Row_size r0 ?_
      refine x_iret i_CP_count_67 rfl ?_
      exact kk
    · refine x_switch (off := 67) (tg := 68) i_CP_count_1 (by omega) rfl (by decide) ?_
      refine x_aload_n i_CP_count_68 rfl ?_
      refine x_getR (c2 := 7) i_CP_count_69 rfl rfl (by assumption) ?_
      refine x_getI i_CP_count_72 rfl rfl ?_
      rw [hr.2.2.2.2.2.1]
      refine x_iret i_CP_count_75 rfl ?_
      exact kk
  · rw [if_neg (by omega), if_neg (by omega), if_neg (by omega), if_neg (by omega), if_neg (by omega)] at kk
    refine x_switchD (tg := 76) i_CP_count_1 (by omega) (by decide) ?_
    refine x_bipush i_CP_count_76 ?_
    refine x_iret i_CP_count_78 rfl ?_
    exact kk
end


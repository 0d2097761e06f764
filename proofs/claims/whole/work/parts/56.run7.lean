/-! A RUN OF THE CLASS: brackets, whole -/
section
variable {d m pc len x y nx : Nat} {ls ls' : List (Option AV)} {st t : List AV} {σ : AS} {Q : AQ}
theorem x_cv5 {j c a : Nat} {a0 a1 a2 a3 a4 : AV} (hi : ins m pc = some (.invokevirtual j, len, x, 5, nx)) (hx : Nat.blt x 9000 = true) (hc : mC x = c) (ht : Nat.ble t.length 8 = true) (kk : wp d x [vr c a, a0, a1, a2, a3, a4] σ (fun r u => Ex (wp d) m Q nx ls (r.toList ++ t) u)) : Ex (wp d) m Q pc ls (a4 :: a3 :: a2 :: a1 :: a0 :: vr c a :: t) σ := by subst hc; exact xc hi ⟨Nat.le_of_ble_eq_true hx, Nat.le_of_ble_eq_true ht, a, [a0, a1, a2, a3, a4], rfl, rfl, rfl⟩ kk
end
theorem veil_lo {kind atom p : Nat} {fw : Int × Int} {r : RR} (h : r.1 < -5) : veilE kind atom p fw r = (r.1, none, false, (r.2.2.2.1, fw, r.2.2.2.2.2)) := by
  unfold veilE
  by_cases w : kind = 5
  · rw [if_pos w, if_pos h]
  · rw [if_neg w, if_pos h]
theorem veil_st1 (kind atom p : Nat) (fw : Int × Int) (r : RR) : (veilE kind atom p fw r).2.2.2.1 = r.2.2.2.1 := by
  unfold veilE
  simp only []
  repeat' split
  all_goals rfl
theorem veil_5f {atom p : Nat} {fw : Int × Int} {r : RR} (h : r.1 = -5) : veilE 5 atom p fw r = ((p : Int), none, false, (r.2.2.2.1, fw, r.2.2.2.2.2)) := by
  unfold veilE
  rw [if_pos rfl, if_neg (by omega), if_pos h]
theorem veil_5t {atom p : Nat} {fw : Int × Int} {r : RR} (h : 0 ≤ r.1) : ∃ s, veilE 5 atom p fw r = (-5, none, false, s) := by
  unfold veilE
  rw [if_pos rfl, if_neg (by omega), if_neg (by omega)]
  exact ⟨_, rfl⟩
theorem veil_6f {atom p : Nat} {fw : Int × Int} {r : RR} (h : r.1 = -5) : ∃ s, veilE 6 atom p fw r = (-5, none, r.2.2.1, s) := by
  unfold veilE
  rw [if_neg (by decide), if_neg (by omega)]
  simp only []
  rw [if_pos h]
  exact ⟨_, rfl⟩
theorem veil_6t {atom p : Nat} {fw : Int × Int} {r : RR} (h : 0 ≤ r.1) : ∃ s, veilE 6 atom p fw r = (r.1, r.2.1, r.2.2.1, s) := by
  unfold veilE
  rw [if_neg (by decide), if_neg (by omega)]
  simp only []
  rw [if_neg (by omega)]
  exact ⟨_, rfl⟩
section
variable {d : Nat} {Q : AQ} {σ : AS} {e : RE} {st : ES} {N K : Nat} {tab : Nat → TT} {H : List Nat}
theorem c_R_bracketed {k dep n : Nat} (ha : AltC e (d + 3) k dep n) (h : RS σ e st N K tab H) {it : Item (PT n)} {a : Nat} (hi : itR σ e.1.2.1 n it a) (hk : it.1.1 = 5 ∨ it.1.1 = 6 ∨ it.1.1 = 8 ∨ it.1.1 = 9 ∨ it.1.1 = 11) {p : Nat} (hp : p ≤ eZ e) (kk : PostR e Q (-5) 2 σ st.1.1 N K tab H (brackE (fun p st => altE e.2.1 (eZ e) e.2.2 k n it.2.2.1 p st) it.1.1 it.1.2.2 p st)) : wp (d + 4) m_Run_bracketed [vr 7 0, vr 4 a, vi (p : Nat), vi (dep : Nat)] σ Q := by
  obtain ⟨a1, a2, ⟨c1, c2, c3, c4, c5⟩, a4, a5, a6⟩ := id h
  obtain ⟨i1, -, -, -, -, -, i7, -⟩ := id hi
  have i7 := i7 (by rcases hk with w | w | w | w | w <;> rw [w] <;> decide)
  -- the end
  have fin : ∀ (σ3 : AS) (x4 x5 x6 : Int) (v : Int), FI σ3 400 a = (it.1.1 : Int) → (∀ σ4, tsX σ3 σ4 → FI σ4 706 0 = FI σ3 706 0 → (∀ b, FI σ3 712 0 = bI b → FI σ4 712 0 = bI (b && (decide (it.1.1 = 11) || decide (it.1.1 = 6)))) → Q (some (vi (if it.1.1 = 9 ∧ 0 ≤ v then (p : Int) else v))) σ4) → Ex (wp (d + 3)) m_Run_bracketed Q 82 [some (vr 7 0), some (vr 4 a), some (vi (p : Nat)), some (vi (dep : Nat)), some (vi x4), some (vi x5), some (vi x6), some (vi v)] [] σ3 := by
    intro σ3 x4 x5 x6 v j1 k3
    have put : ∀ y : Int, y = 0 ∨ y = 1 → (∀ b, FI σ3 712 0 = bI b → y = bI (b && (decide (it.1.1 = 11) || decide (it.1.1 = 6)))) → Ex (wp (d + 3)) m_Run_bracketed Q 113 [some (vr 7 0), some (vr 4 a), some (vi (p : Nat)), some (vi (dep : Nat)), some (vi x4), some (vi x5), some (vi x6), some (vi v)] [vi y, vr 7 0] σ3 := by
      intro y hy hb
      refine x_putZ i_Run_bracketed_113 rfl rfl (by omega) ?_
      refine x_aload_n i_Run_bracketed_116 rfl ?_
      refine x_getI i_Run_bracketed_117 rfl rfl ?_
      refine x_bipush i_Run_bracketed_120 ?_
      have y4 : tsX σ3 (sFI σ3 712 0 y) := tX_sFI ⟨Or.inr rfl, rfl⟩
      have k4 := k3 _ y4 (by simp [FI_sFI]) (fun b w => by rw [FI_sFI, if_pos ⟨rfl, rfl⟩]; exact hb b w)
      rw [show FI (sFI σ3 712 0 y) 400 a = (it.1.1 : Int) from (FI_sFI σ3 712 0 y 400 a).trans ((if_neg (by omega)).trans j1)]
      refine x_icmp_ne i_Run_bracketed_122 (fun h6 => ?_) (fun h6 => ?_)
      · rw [if_neg (by omega)] at k4
        refine x_iload i_Run_bracketed_134 rfl ?_
        refine x_iret i_Run_bracketed_136 rfl ?_
        exact k4
      · refine x_iload i_Run_bracketed_125 rfl ?_
        refine x_if_lt i_Run_bracketed_127 (fun h7 => ?_) (fun h7 => ?_)
        · rw [if_neg (by omega)] at k4
          refine x_iload i_Run_bracketed_134 rfl ?_
          refine x_iret i_Run_bracketed_136 rfl ?_
          exact k4
        · rw [if_pos (by omega)] at k4
          refine x_iload_n i_Run_bracketed_130 rfl ?_
          refine x_goto i_Run_bracketed_131 ?_
          refine x_iret i_Run_bracketed_136 rfl ?_
          exact k4
    refine x_aload_n i_Run_bracketed_82 rfl ?_
    refine x_aload_n i_Run_bracketed_83 rfl ?_
    refine x_getI i_Run_bracketed_84 rfl rfl ?_
    refine x_if_eq i_Run_bracketed_87 (fun h6 => ?_) (fun h6 => ?_)
    · refine x_iconst i_Run_bracketed_112 ?_
      exact put 0 (Or.inl rfl) (fun b w => by rw [bI_f (w.symm.trans h6)]; rfl)
    · have ht : ∀ b, FI σ3 712 0 = bI b → b = true := fun b w => bI_t (fun u => h6 (w.trans u))
      refine x_aload_n i_Run_bracketed_90 rfl ?_
      refine x_getI i_Run_bracketed_91 rfl rfl ?_
      refine x_bipush i_Run_bracketed_94 ?_
      rw [j1]
      refine x_icmp_eq i_Run_bracketed_96 (fun h7 => ?_) (fun h7 => ?_)
      · refine x_iconst i_Run_bracketed_108 ?_
        refine x_goto i_Run_bracketed_109 ?_
        exact put 1 (Or.inr rfl) (fun b w => by rw [ht b w, decide_eq_true (show it.1.1 = 11 by omega)]; rfl)
      · refine x_aload_n i_Run_bracketed_99 rfl ?_
        refine x_getI i_Run_bracketed_100 rfl rfl ?_
        refine x_bipush i_Run_bracketed_103 ?_
        rw [j1]
        refine x_icmp_ne i_Run_bracketed_105 (fun h8 => ?_) (fun h8 => ?_)
        · refine x_iconst i_Run_bracketed_112 ?_
          exact put 0 (Or.inl rfl) (fun b w => by rw [ht b w, decide_eq_false (show ¬ it.1.1 = 11 by omega), decide_eq_false (show ¬ it.1.1 = 6 by omega)]; rfl)
        · refine x_iconst i_Run_bracketed_108 ?_
          refine x_goto i_Run_bracketed_109 ?_
          exact put 1 (Or.inr rfl) (fun b w => by rw [ht b w, decide_eq_true (show it.1.1 = 6 by omega), Bool.or_true]; rfl)
  by_cases hv : it.1.1 = 5 ∨ it.1.1 = 6
  · rw [brackE_veil hv] at kk
    have n9 : ¬ it.1.1 = 9 := by omega
    have veil : Ex (wp (d + 3)) m_Run_bracketed Q 29 [some (vr 7 0), some (vr 4 a), some (vi (p : Nat)), some (vi (dep : Nat)), some (vi st.2.1.1), some (vi st.2.1.2), none, none] [] σ := by
      refine x_iconst i_Run_bracketed_29 ?_
      refine x_goto i_Run_bracketed_30 ?_
      refine x_istore (ls' := [_, _, _, _, _, _, _, _]) i_Run_bracketed_34 rfl rfl ?_
      refine x_iload i_Run_bracketed_36 rfl ?_
      refine x_if_eq_f i_Run_bracketed_38 (by decide) ?_
      refine x_aload_n i_Run_bracketed_41 rfl ?_
      refine x_iconst i_Run_bracketed_42 ?_
      refine x_putI i_Run_bracketed_43 rfl rfl ?_
      refine x_aload_n i_Run_bracketed_46 rfl ?_
      refine x_iconst i_Run_bracketed_47 ?_
      refine x_putI i_Run_bracketed_48 rfl rfl ?_
      have x1 : tX (fun f a => (f = 710 ∨ f = 711) ∧ a = 0) noA σ (sFI (sFI σ 710 0 (-1)) 711 0 0) := (tX_sFI ⟨Or.inl rfl, rfl⟩).tr (tX_sFI ⟨Or.inr rfl, rfl⟩)
      have h1 : RS (sFI (sFI σ 710 0 (-1)) 711 0 0) e (st.1, (-1, 0), st.2.2) N K tab H := h.upd ((rnX_sFI (by omega) (by omega)).tr (rnX_sFI (by omega) (by omega))) ⟨c1, c2, c3, by simp [FI_sFI], by simp [FI_sFI]⟩ a4 ⟨Int.le_refl _, by show (-1 : Int) ≤ 240; decide, fun _ => rfl⟩ rfl
      generalize sFI (sFI σ 710 0 (-1)) 711 0 0 = σ1 at x1 h1
      have r1 := (fwX_tf x1).run
      refine x_aload_n i_Run_bracketed_51 rfl ?_
      refine x_aload_n i_Run_bracketed_52 rfl ?_
      refine x_getO (c2 := 8) i_Run_bracketed_53 rfl rfl ?_
      refine x_iload_n i_Run_bracketed_56 rfl ?_
      refine x_iload_n i_Run_bracketed_57 rfl ?_
      refine x_cv3 i_Run_bracketed_58 rfl rfl rfl ?_
      refine ha it.2.2.1 _ _ σ1 _ N K tab H p h1 (by rw [r1.2.1]; exact i7.run r1) hp ?_
      intro σ2 N2 K2 tab2 H2 ho
      have ho := ho.from r1 (Nat.le_refl _) (fun _ _ => rfl) (Nat.le_refl _) (Nat.le_refl _) (Nat.le_refl _)
      generalize altE e.2.1 (eZ e) e.2.2 k n it.2.2.1 p (st.1, (-1, 0), st.2.2) = r at ho kk
      obtain ⟨u1, u2, u3, u4, u5, u6, u7, u8, u9⟩ := ho
      have hi2 := hi.run u2
      refine x_istore (ls' := [_, _, _, _, _, _, _, _]) i_Run_bracketed_61 rfl rfl ?_
      refine x_iload i_Run_bracketed_63 rfl ?_
      refine x_if_eq_f i_Run_bracketed_65 (by decide) ?_
      refine x_aload_n i_Run_bracketed_68 rfl ?_
      refine x_aload_n i_Run_bracketed_69 rfl ?_
      refine x_iload_n i_Run_bracketed_70 rfl ?_
      refine x_iload i_Run_bracketed_71 rfl ?_
      refine x_iload i_Run_bracketed_73 rfl ?_
      refine x_iload i_Run_bracketed_75 rfl ?_
      refine x_cv5 i_Run_bracketed_77 rfl rfl rfl ?_
      refine c_R_unveiled u1 hi2 hv a5 hp u9 (fun σ3 z1 z2 z3 z4 => ?_)
      refine x_istore (ls' := [_, _, _, _, _, _, _, _]) i_Run_bracketed_80 rfl rfl ?_
      refine fin σ3 _ _ _ _ (by rw [z2.run.lo (by decide)]; exact hi2.1) (fun σ4 w1 w2 w3 => ?_)
      rw [if_neg (fun q => n9 q.1)]
      have g12 : FI σ3 712 0 = FI σ2 712 0 := z2.1 _ _ (fun q => by rcases q.1 with w | w | w <;> omega)
      have s1 := veil_st1 it.1.1 it.1.2.2 p st.2.1 r
      have x4 : runX σ σ4 := (u2.tr z2.run).tr w1.run
      have z1 := z1.set w1
      refine kk σ4 N2 K2 tab2 H2 ?_
      rcases u9 with w | w | w
      · rw [veil_lo (Int.lt_trans w (by decide))] at z1 ⊢
        exact OutR.err z1 x4 u3 u4 u5 u6 w
      · obtain ⟨t1, t2, t3, t4⟩ := u7 (by omega)
        have w3 := w3 _ (g12.trans t3)
        rcases hv with v | v
        · rw [v] at z1 w3 ⊢
          rw [veil_5f w] at z1 ⊢
          exact ⟨z1, x4, u3, u4, u5, u6, fun _ => ⟨t1, t2, by rw [w3]; simp [bI], fun _ => t4 (by omega)⟩, fun _ => ⟨by show (p : Int) ≤ _; omega, none, w2.trans (z3 v (by rw [w]; decide)), fun i hi => (by cases hi), rfl⟩, Or.inr (Or.inr (by show 0 ≤ (p : Int); omega))⟩
        · obtain ⟨s, es⟩ := veil_6f (atom := it.1.2.2) (p := p) (fw := st.2.1) w
          rw [v, es] at s1
          rw [v] at z1 w3 ⊢
          rw [es] at z1 ⊢
          have s1 : s.1 = r.2.2.2.1 := s1
          exact ⟨z1, x4, u3, u4, u5, by show st.1.1 ≤ s.1.1; rw [s1]; exact u6, fun _ => ⟨by show N2 + 2 + 2 * st.1.1 ≤ N + 2 * s.1.1; rw [s1]; exact t1, by show K2 + 2 + 3 * st.1.1 ≤ K + 3 * s.1.1; rw [s1]; exact t2, by rw [w3]; simp, fun _ => t4 (by omega)⟩, fun w => absurd w n50, Or.inr (Or.inl rfl)⟩
      · obtain ⟨t1, t2, t3, t4⟩ := u7 (by omega)
        obtain ⟨y1, o2, y2, y3, y4⟩ := u8 w
        have w3 := w3 _ (g12.trans t3)
        rcases hv with v | v
        · obtain ⟨s, es⟩ := veil_5t (atom := it.1.2.2) (p := p) (fw := st.2.1) w
          rw [v, es] at s1
          rw [v] at z1 w3 ⊢
          rw [es] at z1 ⊢
          have s1 : s.1 = r.2.2.2.1 := s1
          exact ⟨z1, x4, u3, u4, u5, by show st.1.1 ≤ s.1.1; rw [s1]; exact u6, fun _ => ⟨by show N2 + 2 + 2 * st.1.1 ≤ N + 2 * s.1.1; rw [s1]; exact t1, by show K2 + 2 + 3 * st.1.1 ≤ K + 3 * s.1.1; rw [s1]; exact t2, by rw [w3]; simp [bI], fun _ => t4 (by omega)⟩, fun w => absurd w n50, Or.inr (Or.inl rfl)⟩
        · obtain ⟨s, es⟩ := veil_6t (atom := it.1.2.2) (p := p) (fw := st.2.1) w
          rw [v, es] at s1
          rw [v] at z1 w3 z4 ⊢
          rw [es] at z1 ⊢
          have s1 : s.1 = r.2.2.2.1 := s1
          exact ⟨z1, x4, u3, u4, u5, by show st.1.1 ≤ s.1.1; rw [s1]; exact u6, fun _ => ⟨by show N2 + 2 + 2 * st.1.1 ≤ N + 2 * s.1.1; rw [s1]; exact t1, by show K2 + 2 + 3 * st.1.1 ≤ K + 3 * s.1.1; rw [s1]; exact t2, by rw [w3]; simp, fun _ => t4 (by omega)⟩, fun _ => ⟨y1, o2, (w2.trans (z4 rfl)).trans y2, y3, y4⟩, Or.inr (Or.inr w)⟩
    refine x_in (ls := [some _, some _, some _, some _, none, none, none, none]) rfl rfl ?_
    refine x_aload_n i_Run_bracketed_0 rfl ?_
    refine x_getI i_Run_bracketed_1 rfl rfl ?_
    refine x_istore (ls' := [_, _, _, _, _, _, _, _]) i_Run_bracketed_4 rfl rfl ?_
    refine x_aload_n i_Run_bracketed_6 rfl ?_
    refine x_getI i_Run_bracketed_7 rfl rfl ?_
    refine x_istore (ls' := [_, _, _, _, _, _, _, _]) i_Run_bracketed_10 rfl rfl ?_
    rw [c4, c5]
    refine x_aload_n i_Run_bracketed_12 rfl ?_
    refine x_getI i_Run_bracketed_13 rfl rfl ?_
    refine x_iconst i_Run_bracketed_16 ?_
    rw [i1]
    refine x_icmp_eq i_Run_bracketed_17 (fun h5 => ?_) (fun h5 => ?_)
    · exact veil
    · refine x_aload_n i_Run_bracketed_20 rfl ?_
      refine x_getI i_Run_bracketed_21 rfl rfl ?_
      refine x_bipush i_Run_bracketed_24 ?_
      rw [i1]
      refine x_icmp_ne_f i_Run_bracketed_26 (by omega) ?_
      exact veil
  · rw [brackE_bare (by omega) (by omega)] at kk
    refine x_in (ls := [some _, some _, some _, some _, none, none, none, none]) rfl rfl ?_
    refine x_aload_n i_Run_bracketed_0 rfl ?_
    refine x_getI i_Run_bracketed_1 rfl rfl ?_
    refine x_istore (ls' := [_, _, _, _, _, _, _, _]) i_Run_bracketed_4 rfl rfl ?_
    refine x_aload_n i_Run_bracketed_6 rfl ?_
    refine x_getI i_Run_bracketed_7 rfl rfl ?_
    refine x_istore (ls' := [_, _, _, _, _, _, _, _]) i_Run_bracketed_10 rfl rfl ?_
    rw [c4, c5]
    refine x_aload_n i_Run_bracketed_12 rfl ?_
    refine x_getI i_Run_bracketed_13 rfl rfl ?_
    refine x_iconst i_Run_bracketed_16 ?_
    rw [i1]
    refine x_icmp_eq_f i_Run_bracketed_17 (by omega) ?_
    refine x_aload_n i_Run_bracketed_20 rfl ?_
    refine x_getI i_Run_bracketed_21 rfl rfl ?_
    refine x_bipush i_Run_bracketed_24 ?_
    rw [i1]
    refine x_icmp_ne_t i_Run_bracketed_26 (by omega) ?_
    refine x_iconst i_Run_bracketed_33 ?_
    refine x_istore (ls' := [_, _, _, _, _, _, _, _]) i_Run_bracketed_34 rfl rfl ?_
    refine x_iload i_Run_bracketed_36 rfl ?_
    refine x_if_eq_t i_Run_bracketed_38 rfl ?_
    refine x_aload_n i_Run_bracketed_51 rfl ?_
    refine x_aload_n i_Run_bracketed_52 rfl ?_
    refine x_getO (c2 := 8) i_Run_bracketed_53 rfl rfl ?_
    refine x_iload_n i_Run_bracketed_56 rfl ?_
    refine x_iload_n i_Run_bracketed_57 rfl ?_
    refine x_cv3 i_Run_bracketed_58 rfl rfl rfl ?_
    refine ha it.2.2.1 _ _ σ _ N K tab H p h i7 hp ?_
    intro σ2 N2 K2 tab2 H2 ho
    generalize altE e.2.1 (eZ e) e.2.2 k n it.2.2.1 p st = r at ho kk
    obtain ⟨u1, u2, u3, u4, u5, u6, u7, u8, u9⟩ := ho
    have hi2 := hi.run u2
    refine x_istore (ls' := [_, _, _, _, _, _, _, _]) i_Run_bracketed_61 rfl rfl ?_
    refine x_iload i_Run_bracketed_63 rfl ?_
    refine x_if_eq_t i_Run_bracketed_65 rfl ?_
    refine fin σ2 _ _ _ _ hi2.1 (fun σ4 w1 w2 w3 => ?_)
    have x4 : runX σ σ4 := u2.tr w1.run
    have z1 := u1.set w1
    by_cases hc : it.1.1 = 9 ∧ 0 ≤ r.1
    · rw [if_pos hc] at kk ⊢
      obtain ⟨t1, t2, t3, t4⟩ := u7 (by omega)
      obtain ⟨y1, o2, y2, y3, y4⟩ := u8 hc.2
      exact kk σ4 N2 K2 tab2 H2 ⟨z1, x4, u3, u4, u5, u6, fun _ => ⟨t1, t2, by rw [w3 _ t3, hc.1]; simp [bI], fun _ => t4 (by omega)⟩, fun _ => ⟨by show (p : Int) ≤ _; omega, o2, w2.trans y2, y3, y4⟩, Or.inr (Or.inr (by show 0 ≤ (p : Int); omega))⟩
    · rw [if_neg hc] at kk ⊢
      refine kk σ4 N2 K2 tab2 H2 ⟨z1, x4, u3, u4, u5, u6, fun w => ?_, fun w => ?_, u9⟩
      · have w : -5 ≤ r.1 := w
        obtain ⟨t1, t2, t3, t4⟩ := u7 w
        clear u8
        exact ⟨t1, t2, by rw [w3 _ t3, decide_eq_false (show ¬ it.1.1 = 6 by omega), Bool.or_false], t4⟩
      · obtain ⟨y1, o2, y2, y3, y4⟩ := u8 w
        exact ⟨y1, o2, w2.trans y2, y3, y4⟩
end


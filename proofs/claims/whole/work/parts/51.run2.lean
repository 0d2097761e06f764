/-! A RUN OF THE CLASS: a STEP -/
theorem n50 : ¬ ((0 : Int) ≤ -5) := by decide
theorem OutR.one {e : RE} {σ σ' : AS} {s0 N K : Nat} {tab : Nat → TT} {H : List Nat} {r : RR} (hS : RS σ' e r.2.2.2 N K tab H) (hx : runX σ σ') (hs : r.2.2.2.1.1 = s0 + 1) (h1 : -5 ≤ r.1 → FI σ' 712 0 = bI r.2.2.1) (h2 : 0 ≤ r.1 → r.1 ≤ eZ e ∧ ∃ o, FI σ' 706 0 = oI o ∧ oN N o ∧ o.map tab = r.2.1) (h3 : r.1 < -9 ∨ r.1 = -5 ∨ 0 ≤ r.1) : OutR e (-5) 3 σ s0 N K tab H r σ' N K tab H :=
  ⟨hS, hx, Nat.le_refl _, fun _ _ => rfl, ⟨[], by simp⟩, by omega, fun h => ⟨by omega, by omega, h1 h, fun _ => rfl⟩, h2, h3⟩
theorem OutR.err {e : RE} {lim : Int} {c : Nat} {σ σ' : AS} {s0 N K N' K' : Nat} {tab tab' : Nat → TT} {H H' : List Nat} {r : RR} (hS : RS σ' e r.2.2.2 N' K' tab' H') (hx : runX σ σ') (hN : N ≤ N') (hj : ∀ j, j < N → tab' j = tab j) (hE : ∃ E, H' = H ++ E) (hs : s0 ≤ r.2.2.2.1.1) (h3 : r.1 < -9) : OutR e lim c σ s0 N K tab H r σ' N' K' tab' H' :=
  ⟨hS, hx, hN, hj, hE, hs, fun h => absurd h3 (by omega), fun h => absurd h3 (by omega), Or.inl h3⟩
section
variable {d : Nat} {Q : AQ} {σ : AS} {e : RE} {st : ES} {N K : Nat} {tab : Nat → TT} {H : List Nat}
theorem c_R_fits {dn : Nat → Prop} {A : Type} {sub : A → Option Nat → Prop} {it : Item A} {a : Nat} (hi : itemR σ dn sub it a) {s : Int} (h4 : it.1.1 ≤ 4) (kk : Q (some (vi (bI (if s = -1 ∨ it.1.1 = 4 then false else fitsE it.1.1 it.2.1.1 it.2.1.2 s)))) σ) : wp (d + 1) m_Run_fits [vr 4 a, vi s] σ Q := by
  obtain ⟨i1, -, -, -, i5, -, -, -⟩ := hi
  obtain ⟨t, t1, t2, t3, t4, -⟩ := i5 (by omega)
  have fin : ∀ b : Bool, (if s = -1 ∨ it.1.1 = 4 then false else fitsE it.1.1 it.2.1.1 it.2.1.2 s) = b → Q (some (vi (bI b))) σ := fun b hb => by rw [hb] at kk; exact kk
  refine x_in (ls := [some _, some _]) rfl rfl ?_
  refine x_iload_n i_Run_fits_0 rfl ?_
  refine x_iconst i_Run_fits_1 ?_
  refine x_icmp_eq i_Run_fits_2 (fun h1 => ?_) (fun h1 => ?_)
  · refine x_iconst i_Run_fits_13 ?_
    refine x_zret i_Run_fits_14 rfl (by omega) ?_
    exact fin false (by rw [if_pos (Or.inl h1)])
  · refine x_aload_n i_Run_fits_5 rfl ?_
    refine x_getI i_Run_fits_6 rfl rfl ?_
    refine x_iconst i_Run_fits_9 ?_
    rw [i1]
    refine x_icmp_ne i_Run_fits_10 (fun h2 => ?_) (fun h2 => ?_)
    · refine x_aload_n i_Run_fits_15 rfl ?_
      refine x_getI i_Run_fits_16 rfl rfl ?_
      refine x_iconst i_Run_fits_19 ?_
      rw [i1]
      refine x_icmp_ne i_Run_fits_20 (fun h3 => ?_) (fun h3 => ?_)
      · refine x_aload_n i_Run_fits_41 rfl ?_
        refine x_getI i_Run_fits_42 rfl rfl ?_
        refine x_iconst i_Run_fits_45 ?_
        rw [i1]
        refine x_icmp_eq i_Run_fits_46 (fun h5 => ?_) (fun h5 => ?_)
        · refine x_iconst i_Run_fits_78 ?_
          refine x_goto i_Run_fits_79 ?_
          refine x_zret i_Run_fits_83 rfl (by omega) ?_
          exact fin true (by rw [if_neg (by omega)]; unfold fitsE; rw [if_neg (by omega), if_pos (by omega)])
        · refine x_aload_n i_Run_fits_49 rfl ?_
          refine x_getR (c2 := 0) i_Run_fits_50 rfl rfl (by assumption) ?_
          refine x_ifnull_f i_Run_fits_53 (by intro q; cases q) ?_
          refine x_iload_n i_Run_fits_56 rfl ?_
          refine x_aload_n i_Run_fits_57 rfl ?_
          refine x_getR (c2 := 0) i_Run_fits_58 rfl rfl (by assumption) ?_
          refine x_getI i_Run_fits_61 rfl rfl ?_
          rw [t3]
          have e1 : fitsE it.1.1 it.2.1.1 it.2.1.2 s = decide (it.2.1.1 ≤ s ∧ s ≤ it.2.1.2) := by unfold fitsE; rw [if_neg (by omega), if_neg (by omega)]
          refine x_icmp_lt i_Run_fits_64 (fun h6 => ?_) (fun h6 => ?_)
          · refine x_iconst i_Run_fits_82 ?_
            refine x_zret i_Run_fits_83 rfl (by omega) ?_
            exact fin false (by rw [if_neg (by omega), e1]; exact decide_eq_false (by omega))
          · refine x_iload_n i_Run_fits_67 rfl ?_
            refine x_aload_n i_Run_fits_68 rfl ?_
            refine x_getR (c2 := 0) i_Run_fits_69 rfl rfl (by assumption) ?_
            refine x_getI i_Run_fits_72 rfl rfl ?_
            rw [t4]
            refine x_icmp_gt i_Run_fits_75 (fun h7 => ?_) (fun h7 => ?_)
            · refine x_iconst i_Run_fits_82 ?_
              refine x_zret i_Run_fits_83 rfl (by omega) ?_
              exact fin false (by rw [if_neg (by omega), e1]; exact decide_eq_false (by omega))
            · refine x_iconst i_Run_fits_78 ?_
              refine x_goto i_Run_fits_79 ?_
              refine x_zret i_Run_fits_83 rfl (by omega) ?_
              exact fin true (by rw [if_neg (by omega), e1]; exact decide_eq_true (by omega))
      · have e1 : fitsE it.1.1 it.2.1.1 it.2.1.2 s = decide (48 ≤ s ∧ s ≤ 57) := by unfold fitsE; rw [if_pos (by omega)]
        refine x_iload_n i_Run_fits_23 rfl ?_
        refine x_bipush i_Run_fits_24 ?_
        refine x_icmp_lt i_Run_fits_26 (fun h6 => ?_) (fun h6 => ?_)
        · refine x_iconst i_Run_fits_39 ?_
          refine x_zret i_Run_fits_40 rfl (by omega) ?_
          exact fin false (by rw [if_neg (by omega), e1]; exact decide_eq_false (by omega))
        · refine x_iload_n i_Run_fits_29 rfl ?_
          refine x_bipush i_Run_fits_30 ?_
          refine x_icmp_gt i_Run_fits_32 (fun h7 => ?_) (fun h7 => ?_)
          · refine x_iconst i_Run_fits_39 ?_
            refine x_zret i_Run_fits_40 rfl (by omega) ?_
            exact fin false (by rw [if_neg (by omega), e1]; exact decide_eq_false (by omega))
          · refine x_iconst i_Run_fits_35 ?_
            refine x_goto i_Run_fits_36 ?_
            refine x_zret i_Run_fits_40 rfl (by omega) ?_
            exact fin true (by rw [if_neg (by omega), e1]; exact decide_eq_true (by omega))
    · refine x_iconst i_Run_fits_13 ?_
      refine x_zret i_Run_fits_14 rfl (by omega) ?_
      exact fin false (by rw [if_pos (Or.inr (by omega))])
theorem c_R_matched (h : RS σ e st N K tab H) {s0 : Nat} (hs : st.1.1 = s0 + 1) (h712 : FI σ 712 0 = 0) (h706 : FI σ 706 0 = -1) {dn : Nat → Prop} {A : Type} {sub : A → Option Nat → Prop} {it : Item A} {a : Nat} (hi : itemR σ dn sub it a) (h4 : it.1.1 ≤ 4) {p : Nat} (hp : p ≤ eZ e) (kk : PostR e Q (-5) 3 σ s0 N K tab H (matchE e.2.1 (eZ e) it.1.1 it.1.2.2 it.2.1.1 it.2.1.2 p st)) : wp (d + 3) m_Run_matched [vr 7 0, vr 4 a, vi (p : Nat)] σ Q := by
  obtain ⟨⟨-, -, -, v1, -, v2, -, v3, v4⟩, tr, -⟩ := id h
  obtain ⟨i1, -, -, -, i5, -, -, -⟩ := id hi
  obtain ⟨t, t1, t2, t3, t4, t5⟩ := i5 (by omega)
  have hz : ∀ i, i < 256 → tab i = .num i ∧ i < N := by
    obtain ⟨so, nu, fk, sz, va, ki, he, -, -, -, -, -, -, -, -, -, -, z3, z4, -⟩ := tr
    exact fun i hi => ⟨z4 i hi, by omega⟩
  have no : (matchE e.2.1 (eZ e) it.1.1 it.1.2.2 it.2.1.1 it.2.1.2 p st) = (-5, none, false, expE it.1.2.2 p st) → Ex (wp (d + 2)) m_Run_matched Q 32 [some (vr 7 0), some (vr 4 a), some (vi (p : Nat)), none] [] σ := by
    intro hm
    rw [hm] at kk
    refine x_aload_n i_Run_matched_32 rfl ?_
    refine x_aload_n i_Run_matched_33 rfl ?_
    refine x_getR (c2 := 0) i_Run_matched_34 rfl rfl (by assumption) ?_
    refine x_iload_n i_Run_matched_37 rfl ?_
    refine x_cv2 i_Run_matched_38 rfl rfl rfl ?_
    refine c_R_expect h (by omega) t2 (fun σ' g1 g2 => ?_)
    refine x_bipush i_Run_matched_41 ?_
    refine x_iret i_Run_matched_43 rfl ?_
    refine kk σ' N K tab H (OutR.one g1 ?_ ?_ (fun _ => ?_) (fun w => absurd w n50) (Or.inr (Or.inl rfl)))
    · exact g2.mono (fun f a q => Or.inl ⟨by rcases q.1 with w | w <;> omega, by rcases q.1 with w | w <;> omega, q.2⟩) (fun _ q => q.elim)
    · exact hs
    · rw [g2.1 712 0 (fun q => by rcases q.1 with w | w <;> omega)]; exact h712
  refine x_in (ls := [some _, some _, some _, none]) rfl rfl ?_
  refine x_aload_n i_Run_matched_0 rfl ?_
  refine x_getR (c2 := 6) i_Run_matched_1 rfl rfl (by assumption) ?_
  refine x_iload_n i_Run_matched_4 rfl ?_
  by_cases hps : p < eZ e
  · have v5 := v4 p hps
    refine x_cv1 i_Run_matched_5 rfl rfl rfl ?_
    refine c_at_in v2 rfl hps ?_
    refine x_istore_n (ls' := [_, _, _, _]) i_Run_matched_8 rfl rfl ?_
    refine x_aload_n i_Run_matched_9 rfl ?_
    refine x_getI i_Run_matched_10 rfl rfl ?_
    refine x_iconst i_Run_matched_13 ?_
    rw [i1]
    have yes : it.1.1 ≠ 4 → fitsE it.1.1 it.2.1.1 it.2.1.2 (e.2.1 p) = true → Ex (wp (d + 2)) m_Run_matched Q 44 [some (vr 7 0), some (vr 4 a), some (vi (p : Nat)), some (vi (e.2.1 p))] [] σ := by
      intro hk hf
      have em : (matchE e.2.1 (eZ e) it.1.1 it.1.2.2 it.2.1.1 it.2.1.2 p st) = (((p + 1 : Nat) : Int), some (.num (if it.1.1 = 2 then (e.2.1 p - 48).toNat else (e.2.1 p).toNat)), false, st) := by
        unfold matchE
        rw [if_neg hk, if_pos ⟨hps, hf⟩]
      rw [em] at kk
      have fin : ∀ v : Nat, v < 256 → (if it.1.1 = 2 then (e.2.1 p - 48).toNat else (e.2.1 p).toNat) = v → Ex (wp (d + 2)) m_Run_matched Q 61 [some (vr 7 0), some (vr 4 a), some (vi (p : Nat)), some (vi (e.2.1 p))] [vi (v : Nat), vr 7 0] σ := by
        intro v hv hw
        rw [hw] at kk
        refine x_putI i_Run_matched_61 rfl rfl ?_
        refine x_iload_n i_Run_matched_64 rfl ?_
        refine x_iconst i_Run_matched_65 ?_
        refine x_iadd i_Run_matched_66 (by omega) ?_
        refine x_iret i_Run_matched_67 rfl ?_
        refine kk _ N K tab H (OutR.one (h.set (tX_sFI ⟨Or.inl rfl, rfl⟩)) (tX_sFI (Or.inl ⟨by decide, by decide, rfl⟩)) hs (fun _ => ?_) (fun _ => ⟨?_, some v, by simp [FI_sFI, oI], fun i hi => by cases hi; exact (hz v hv).2, by simp [(hz v hv).1]⟩) (Or.inr (Or.inr (by omega))))
        · rw [FI_sFI, if_neg (by omega)]; exact h712
        · show ((p + 1 : Nat) : Int) ≤ _; omega
      refine x_aload_n i_Run_matched_44 rfl ?_
      refine x_aload_n i_Run_matched_45 rfl ?_
      refine x_getI i_Run_matched_46 rfl rfl ?_
      refine x_iconst i_Run_matched_49 ?_
      rw [i1]
      have hf2 := hf
      unfold fitsE at hf2
      refine x_icmp_ne i_Run_matched_50 (fun h2 => ?_) (fun h2 => ?_)
      · refine x_iload_n i_Run_matched_60 rfl ?_
        have := fin (e.2.1 p).toNat (by omega) (by rw [if_neg (by omega)])
        rw [show (((e.2.1 p).toNat : Nat) : Int) = e.2.1 p by omega] at this
        exact this
      · rw [if_pos (by omega)] at hf2
        have hf3 := of_decide_eq_true hf2
        refine x_iload_n i_Run_matched_53 rfl ?_
        refine x_bipush i_Run_matched_54 ?_
        refine x_isub i_Run_matched_56 (by omega) ?_
        refine x_goto i_Run_matched_57 ?_
        have := fin (e.2.1 p - 48).toNat (by omega) (by rw [if_pos (by omega)])
        rw [show (((e.2.1 p - 48).toNat : Nat) : Int) = e.2.1 p - 48 by omega] at this
        exact this
    have go : Ex (wp (d + 2)) m_Run_matched Q 24 [some (vr 7 0), some (vr 4 a), some (vi (p : Nat)), some (vi (e.2.1 p))] [] σ := by
      refine x_aload_n i_Run_matched_24 rfl ?_
      refine x_iload_n i_Run_matched_25 rfl ?_
      refine x_cs2 i_Run_matched_26 rfl rfl ?_
      refine c_R_fits hi h4 ?_
      rw [show ((if e.2.1 p = -1 ∨ it.1.1 = 4 then false else fitsE it.1.1 it.2.1.1 it.2.1.2 (e.2.1 p))) = (if it.1.1 = 4 then false else fitsE it.1.1 it.2.1.1 it.2.1.2 (e.2.1 p)) by by_cases q : it.1.1 = 4 <;> simp [q] <;> omega]
      by_cases q : it.1.1 = 4
      · rw [if_pos q]
        refine x_if_ne_f i_Run_matched_29 rfl ?_
        refine Ex.weak (ls := [_, _, _, none]) ⟨Or.inr rfl, Or.inr rfl, Or.inr rfl, Or.inl rfl, trivial⟩ ?_
        exact no (by unfold matchE; rw [if_pos q, if_pos hps])
      · skip
        rw [if_neg q]
        by_cases w : fitsE it.1.1 it.2.1.1 it.2.1.2 (e.2.1 p) = true
        · rw [w]
          refine x_if_ne_t i_Run_matched_29 (by decide) ?_
          exact yes q w
        · have w2 : fitsE it.1.1 it.2.1.1 it.2.1.2 (e.2.1 p) = false := by simpa using w
          rw [w2]
          refine x_if_ne_f i_Run_matched_29 rfl ?_
          refine Ex.weak (ls := [_, _, _, none]) ⟨Or.inr rfl, Or.inr rfl, Or.inr rfl, Or.inl rfl, trivial⟩ ?_
          exact no (by unfold matchE; rw [if_neg q, if_neg (fun u => w u.2)])
    refine x_icmp_ne i_Run_matched_14 (fun h2 => ?_) (fun h2 => ?_)
    · exact go
    · refine x_iload_n i_Run_matched_17 rfl ?_
      refine x_iconst i_Run_matched_18 ?_
      refine x_icmp_ne_t i_Run_matched_19 (by omega) ?_
      exact go
  · skip
    refine x_cv1 i_Run_matched_5 rfl rfl rfl ?_
    refine c_at_out v2 (Or.inr (by omega)) ?_
    refine x_istore_n (ls' := [_, _, _, _]) i_Run_matched_8 rfl rfl ?_
    refine x_aload_n i_Run_matched_9 rfl ?_
    refine x_getI i_Run_matched_10 rfl rfl ?_
    refine x_iconst i_Run_matched_13 ?_
    rw [i1]
    have go : it.1.1 ≠ 4 → Ex (wp (d + 2)) m_Run_matched Q 24 [some (vr 7 0), some (vr 4 a), some (vi (p : Nat)), some (vi (-1))] [] σ := by
      intro hk
      refine x_aload_n i_Run_matched_24 rfl ?_
      refine x_iload_n i_Run_matched_25 rfl ?_
      refine x_cs2 i_Run_matched_26 rfl rfl ?_
      refine c_R_fits hi h4 ?_
      rw [if_pos (Or.inl rfl)]
      refine x_if_ne_f i_Run_matched_29 rfl ?_
      refine Ex.weak (ls := [_, _, _, none]) ⟨Or.inr rfl, Or.inr rfl, Or.inr rfl, Or.inl rfl, trivial⟩ ?_
      exact no (by unfold matchE; rw [if_neg hk, if_neg (fun q => hps q.1)])
    refine x_icmp_ne i_Run_matched_14 (fun h2 => ?_) (fun h2 => ?_)
    · exact go (by omega)
    · refine x_iload_n i_Run_matched_17 rfl ?_
      refine x_iconst i_Run_matched_18 ?_
      refine x_icmp_ne_f i_Run_matched_19 (by omega) ?_
      refine x_iload_n i_Run_matched_22 rfl ?_
      have em : (matchE e.2.1 (eZ e) it.1.1 it.1.2.2 it.2.1.1 it.2.1.2 p st) = ((p : Int), none, false, st) := by
        unfold matchE
        rw [if_pos (by omega), if_neg hps]
      rw [em] at kk
      refine x_iret i_Run_matched_23 rfl ?_
      exact kk σ N K tab H (OutR.one h (tX.rf _ _ _) hs (fun _ => h712) (fun _ => ⟨by show (p : Int) ≤ _; omega, none, h706, fun i hi => (by cases hi), rfl⟩) (Or.inr (Or.inr (by omega))))
end


/-! A RUN OF THE CLASS: brackets -/
def veilE (kind atom p : Nat) (fw : Int × Int) (r : RR) : RR :=
  let st1 : ES := (r.2.2.2.1, fw, r.2.2.2.2.2)
  if kind = 5 then (if r.1 < -5 then (r.1, none, false, st1) else if r.1 = -5 then ((p : Int), none, false, st1) else (-5, none, false, expE atom p st1))
  else if r.1 < -5 then (r.1, none, false, st1)
  else
    let st2 : ES := if 0 ≤ r.1 ∨ (p : Int) < r.2.2.2.2.1.1 then (if r.2.2.2.2.1.1 < 0 then st1 else noteS r.2.2.2.2.1.1.toNat r.2.2.2.2.1.2 st1) else st1
    if r.1 = -5 then (-5, none, r.2.2.1, expE atom p st2) else (r.1, r.2.1, r.2.2.1, st2)
theorem brackE_veil {alt : Nat → ES → RR} {kind atom p : Nat} {st : ES} (h : kind = 5 ∨ kind = 6) : brackE alt kind atom p st = veilE kind atom p st.2.1 (alt p (st.1, (-1, 0), st.2.2)) := by
  rcases h with rfl | rfl
  · rfl
  · rfl
theorem brackE_bare {alt : Nat → ES → RR} {kind atom p : Nat} {st : ES} (h1 : kind ≠ 5) (h2 : kind ≠ 6) : brackE alt kind atom p st = if kind = 9 ∧ 0 ≤ (alt p st).1 then ((p : Int), (alt p st).2.1, false, (alt p st).2.2.2) else ((alt p st).1, (alt p st).2.1, (alt p st).2.2.1 && decide (kind = 11), (alt p st).2.2.2) := by
  unfold brackE
  rw [if_neg h1, if_neg h2]
def tfX (σ σ' : AS) : Prop := tX (fun f a => (f = 706 ∨ f = 710 ∨ f = 711) ∧ a = 0) noA σ σ'
def tsX (σ σ' : AS) : Prop := tX (fun f a => (f = 706 ∨ f = 712) ∧ a = 0) noA σ σ'
theorem tfX.run {σ σ' : AS} (h : tfX σ σ') : runX σ σ' := h.mono (fun f a q => Or.inl ⟨by rcases q.1 with w | w | w <;> omega, by rcases q.1 with w | w | w <;> omega, q.2⟩) (fun _ q => q.elim)
theorem tsX.run {σ σ' : AS} (h : tsX σ σ') : runX σ σ' := h.mono (fun f a q => Or.inl ⟨by rcases q.1 with w | w <;> omega, by rcases q.1 with w | w <;> omega, q.2⟩) (fun _ q => q.elim)
theorem fwX_tf {σ σ' : AS} (h : tX (fun f a => (f = 710 ∨ f = 711) ∧ a = 0) noA σ σ') : tfX σ σ' := h.mono (fun f a q => ⟨Or.inr q.1, q.2⟩) (fun _ q => q)
theorem iOr_00 : iOr 0 0 = 0 := by decide
section
variable {d : Nat} {Q : AQ} {σ : AS} {e : RE} {st : ES} {N K : Nat} {tab : Nat → TT} {H : List Nat}
theorem c_R_noteN (h : RS σ e st N K tab H) (kk : ∀ σ', RS σ' e st N K tab H → tX (fun f a => (f = 710 ∨ f = 711) ∧ a = 0) noA σ σ' → Q none σ') : wp (d + 1) m_Run_note [vr 7 0, vi (-1), vi 0] σ Q := by
  obtain ⟨a1, a2, ⟨c1, c2, c3, c4, c5⟩, a4, ⟨f1, f2, f3⟩, a6⟩ := id h
  refine x_in (ls := [some _, some _, some _]) rfl rfl ?_
  refine x_iload_n i_Run_note_0 rfl ?_
  refine x_aload_n i_Run_note_1 rfl ?_
  refine x_getI i_Run_note_2 rfl rfl ?_
  rw [c4]
  refine x_icmp_le_t i_Run_note_5 (by omega) ?_
  refine x_iload_n i_Run_note_21 rfl ?_
  refine x_aload_n i_Run_note_22 rfl ?_
  refine x_getI i_Run_note_23 rfl rfl ?_
  rw [c4]
  refine x_icmp_ne i_Run_note_26 (fun h2 => ?_) (fun h2 => ?_)
  · refine x_vret i_Run_note_39 rfl ?_
    exact kk σ h (tX.rf _ _ _)
  · have e1 := f3 h2.symm
    refine x_aload_n i_Run_note_29 rfl ?_
    refine x_dup i_Run_note_30 ?_
    refine x_getI i_Run_note_31 rfl rfl ?_
    refine x_iload_n i_Run_note_34 rfl ?_
    refine x_ior i_Run_note_35 ?_
    refine x_putI i_Run_note_36 rfl rfl ?_
    rw [show FI σ 711 0 = st.2.1.2 from c5, e1, iOr_00]
    refine x_vret i_Run_note_39 rfl ?_
    refine kk _ ?_ (tX_sFI ⟨Or.inr rfl, rfl⟩)
    exact h.upd (rnX_sFI (by omega) (by omega)) ⟨c1, c2, c3, c4, e1.symm⟩ a4 ⟨f1, f2, f3⟩ rfl
theorem c_R_unveiled {n : Nat} {it : Item (PT n)} {a : Nat} {r : RR} (h : RS σ e r.2.2.2 N K tab H) (hi : itR σ e.1.2.1 n it a) (hk : it.1.1 = 5 ∨ it.1.1 = 6) {fw : Int × Int} (hf : fwR fw) {p : Nat} (hp : p ≤ eZ e) (hr : r.1 < -9 ∨ r.1 = -5 ∨ 0 ≤ r.1)
    (kk : ∀ σ', RS σ' e (veilE it.1.1 it.1.2.2 p fw r).2.2.2 N K tab H → tfX σ σ' → (it.1.1 = 5 → -5 ≤ r.1 → FI σ' 706 0 = -1) → (it.1.1 = 6 → FI σ' 706 0 = FI σ 706 0) → Q (some (vi (veilE it.1.1 it.1.2.2 p fw r).1)) σ') : wp (d + 3) m_Run_unveiled [vr 7 0, vr 4 a, vi (p : Nat), vi r.1, vi fw.1, vi fw.2] σ Q := by
  obtain ⟨a1, a2, ⟨c1, c2, c3, c4, c5⟩, a4, ⟨f1, f2, f3⟩, a6⟩ := id h
  have hz : eZ e ≤ 240 := a1.2.2.2.2.2.2.2.1
  obtain ⟨i1, -, -, -, i5, -, -, -⟩ := id hi
  obtain ⟨t, t1, t2, -, -, -⟩ := i5 (by rcases hk with w | w <;> rw [w] <;> decide)
  clear i5 hi
  refine x_in (ls := [some _, some _, some _, some _, some _, some _, none, none]) rfl rfl ?_
  refine x_aload_n i_Run_unveiled_0 rfl ?_
  refine x_getI i_Run_unveiled_1 rfl rfl ?_
  refine x_istore (ls' := [_, _, _, _, _, _, _, _]) i_Run_unveiled_4 rfl rfl ?_
  refine x_aload_n i_Run_unveiled_6 rfl ?_
  refine x_getI i_Run_unveiled_7 rfl rfl ?_
  refine x_istore (ls' := [_, _, _, _, _, _, _, _]) i_Run_unveiled_10 rfl rfl ?_
  rw [c4, c5]
  refine x_aload_n i_Run_unveiled_12 rfl ?_
  refine x_iload i_Run_unveiled_13 rfl ?_
  refine x_putI i_Run_unveiled_15 rfl rfl ?_
  refine x_aload_n i_Run_unveiled_18 rfl ?_
  refine x_iload i_Run_unveiled_19 rfl ?_
  refine x_putI i_Run_unveiled_21 rfl rfl ?_
  have x1 : tX (fun f a => (f = 710 ∨ f = 711) ∧ a = 0) noA σ (sFI (sFI σ 710 0 fw.1) 711 0 fw.2) := (tX_sFI ⟨Or.inl rfl, rfl⟩).tr (tX_sFI ⟨Or.inr rfl, rfl⟩)
  have h1 : RS (sFI (sFI σ 710 0 fw.1) 711 0 fw.2) e (r.2.2.2.1, fw, r.2.2.2.2.2) N K tab H := h.upd ((rnX_sFI (by omega) (by omega)).tr (rnX_sFI (by omega) (by omega))) ⟨c1, c2, c3, by simp [FI_sFI], by simp [FI_sFI]⟩ a4 hf rfl
  generalize sFI (sFI σ 710 0 fw.1) 711 0 fw.2 = σ1 at x1 h1
  have y1 := fwX_tf x1
  have g6 : FI σ1 706 0 = FI σ 706 0 := x1.1 _ _ (fun q => by rcases q.1 with w | w <;> omega)
  have i1' : FI σ1 400 a = (it.1.1 : Int) := by rw [y1.run.lo (by decide)]; exact i1
  have t1' : FR σ1 402 a = some t := by rw [y1.2.1]; exact t1
  have t2' : FI σ1 2 t = (it.1.2.2 : Int) := by rw [y1.run.lo (by decide)]; exact t2
  refine x_iload_n i_Run_unveiled_24 rfl ?_
  refine x_bipush i_Run_unveiled_25 ?_
  refine x_icmp_ge i_Run_unveiled_27 (fun h5 => ?_) (fun h5 => ?_)
  · refine x_aload_n i_Run_unveiled_32 rfl ?_
    refine x_getI i_Run_unveiled_33 rfl rfl ?_
    refine x_iconst i_Run_unveiled_36 ?_
    rw [i1']
    refine x_icmp_ne i_Run_unveiled_37 (fun h6 => ?_) (fun h6 => ?_)
    · have k6 : it.1.1 = 6 := by omega
      have e6 : veilE it.1.1 it.1.2.2 p fw r = (let st2 : ES := if 0 ≤ r.1 ∨ (p : Int) < r.2.2.2.2.1.1 then (if r.2.2.2.2.1.1 < 0 then (r.2.2.2.1, fw, r.2.2.2.2.2) else noteS r.2.2.2.2.1.1.toNat r.2.2.2.2.1.2 (r.2.2.2.1, fw, r.2.2.2.2.2)) else (r.2.2.2.1, fw, r.2.2.2.2.2)
          if r.1 = -5 then (-5, none, r.2.2.1, expE it.1.2.2 p st2) else (r.1, r.2.1, r.2.2.1, st2)) := by
        unfold veilE
        rw [if_neg (by omega), if_neg (by omega)]
      rw [e6] at kk
      have fin : ∀ (σ2 : AS) (st2 : ES), (if 0 ≤ r.1 ∨ (p : Int) < r.2.2.2.2.1.1 then (if r.2.2.2.2.1.1 < 0 then (r.2.2.2.1, fw, r.2.2.2.2.2) else noteS r.2.2.2.2.1.1.toNat r.2.2.2.2.1.2 (r.2.2.2.1, fw, r.2.2.2.2.2)) else (r.2.2.2.1, fw, r.2.2.2.2.2)) = st2 → RS σ2 e st2 N K tab H → tX (fun f a => (f = 710 ∨ f = 711) ∧ a = 0) noA σ1 σ2 → Ex (wp (d + 2)) m_Run_unveiled Q 89 [some (vr 7 0), some (vr 4 a), some (vi (p : Nat)), some (vi r.1), some (vi fw.1), some (vi fw.2), some (vi r.2.2.2.2.1.1), some (vi r.2.2.2.2.1.2)] [] σ2 := by
        intro σ2 st2 e2 h2 x2
        rw [e2] at kk
        simp only [] at kk
        have g62 : FI σ2 706 0 = FI σ 706 0 := (x2.1 _ _ (fun q => by rcases q.1 with w | w <;> omega)).trans g6
        refine x_iload_n i_Run_unveiled_89 rfl ?_
        refine x_bipush i_Run_unveiled_90 ?_
        refine x_icmp_ne i_Run_unveiled_92 (fun h8 => ?_) (fun h8 => ?_)
        · rw [if_neg h8] at kk
          refine x_iload_n i_Run_unveiled_104 rfl ?_
          refine x_iret i_Run_unveiled_105 rfl ?_
          exact kk σ2 h2 (y1.tr (fwX_tf x2)) (fun w => absurd w (by omega)) (fun _ => g62)
        · rw [if_pos (by omega)] at kk
          rw [show r.1 = -5 by omega]
          have t1'' : FR σ2 402 a = some t := by rw [x2.2.1]; exact t1'
          refine x_aload_n i_Run_unveiled_95 rfl ?_
          refine x_aload_n i_Run_unveiled_96 rfl ?_
          refine x_getR (c2 := 0) i_Run_unveiled_97 rfl rfl (by assumption) ?_
          refine x_iload_n i_Run_unveiled_100 rfl ?_
          refine x_cv2 i_Run_unveiled_101 rfl rfl rfl ?_
          refine c_R_expect h2 (by omega) (by rw [(fwX_tf x2).run.lo (by decide)]; exact t2') (fun σ3 z1 z2 => ?_)
          refine x_iload_n i_Run_unveiled_104 rfl ?_
          refine x_iret i_Run_unveiled_105 rfl ?_
          exact kk σ3 z1 ((y1.tr (fwX_tf x2)).tr (fwX_tf z2)) (fun w => absurd w (by omega)) (fun _ => (z2.1 _ _ (fun q => by rcases q.1 with w | w <;> omega)).trans g62)
      have noted : (0 ≤ r.1 ∨ (p : Int) < r.2.2.2.2.1.1) → Ex (wp (d + 2)) m_Run_unveiled Q 81 [some (vr 7 0), some (vr 4 a), some (vi (p : Nat)), some (vi r.1), some (vi fw.1), some (vi fw.2), some (vi r.2.2.2.2.1.1), some (vi r.2.2.2.2.1.2)] [] σ1 := by
        intro hc
        refine x_aload_n i_Run_unveiled_81 rfl ?_
        refine x_iload i_Run_unveiled_82 rfl ?_
        refine x_iload i_Run_unveiled_84 rfl ?_
        by_cases hn : r.2.2.2.2.1.1 < 0
        · have q1 : r.2.2.2.2.1.1 = -1 := by omega
          have q2 := f3 q1
          have := fin
          rw [q1, q2]
          refine x_cv2 i_Run_unveiled_86 rfl rfl rfl ?_
          refine c_R_noteN h1 (fun σ2 z1 z2 => ?_)
          rw [q1, q2] at this
          exact this σ2 _ (by rw [if_pos (by omega), if_pos (by omega)]) z1 z2
        · have q1 : ((r.2.2.2.2.1.1.toNat : Nat) : Int) = r.2.2.2.2.1.1 := by omega
          have := fin
          rw [← q1]
          refine x_cv2 i_Run_unveiled_86 rfl rfl rfl ?_
          refine c_R_note h1 (by omega) (fun σ2 z1 z2 => ?_)
          rw [q1]
          exact this σ2 _ (by rw [if_pos hc, if_neg hn]) z1 z2
      refine x_iload_n i_Run_unveiled_71 rfl ?_
      refine x_if_ge i_Run_unveiled_72 (fun h8 => ?_) (fun h8 => ?_)
      · exact noted (Or.inl h8)
      · refine x_iload i_Run_unveiled_75 rfl ?_
        refine x_iload_n i_Run_unveiled_77 rfl ?_
        refine x_icmp_le i_Run_unveiled_78 (fun h9 => ?_) (fun h9 => ?_)
        · exact fin σ1 _ (by rw [if_neg (by omega)]) h1 (tX.rf _ _ _)
        · exact noted (Or.inr (by omega))
    · have k5 : it.1.1 = 5 := by omega
      have e5 : veilE it.1.1 it.1.2.2 p fw r = (if r.1 = -5 then ((p : Int), none, false, (r.2.2.2.1, fw, r.2.2.2.2.2)) else (-5, none, false, expE it.1.2.2 p (r.2.2.2.1, fw, r.2.2.2.2.2))) := by
        unfold veilE
        rw [if_pos k5, if_neg (by omega)]
      rw [e5] at kk
      refine x_aload_n i_Run_unveiled_40 rfl ?_
      refine x_iconst i_Run_unveiled_41 ?_
      refine x_putI i_Run_unveiled_42 rfl rfl ?_
      have y2 : tsX σ1 (sFI σ1 706 0 (-1)) := tX_sFI ⟨Or.inl rfl, rfl⟩
      have y2' : tfX σ1 (sFI σ1 706 0 (-1)) := tX_sFI ⟨Or.inl rfl, rfl⟩
      have h2 := h1.set y2
      have g7 : FI (sFI σ1 706 0 (-1)) 706 0 = -1 := by simp [FI_sFI]
      have t1'' : FR (sFI σ1 706 0 (-1)) 402 a = some t := t1'
      generalize sFI σ1 706 0 (-1) = σ2 at y2 y2' h2 g7 t1''
      refine x_iload_n i_Run_unveiled_45 rfl ?_
      refine x_if_lt i_Run_unveiled_46 (fun h8 => ?_) (fun h8 => ?_)
      · rw [if_pos (by omega)] at kk
        refine x_iload_n i_Run_unveiled_58 rfl ?_
        refine x_bipush i_Run_unveiled_59 ?_
        refine x_icmp_ne_f i_Run_unveiled_61 (by omega) ?_
        refine x_iload_n i_Run_unveiled_64 rfl ?_
        refine x_goto i_Run_unveiled_65 ?_
        refine x_iret i_Run_unveiled_70 rfl ?_
        exact kk σ2 h2 (y1.tr y2') (fun _ _ => g7) (fun w => absurd w (by omega))
      · rw [if_neg (by omega)] at kk
        refine x_aload_n i_Run_unveiled_49 rfl ?_
        refine x_aload_n i_Run_unveiled_50 rfl ?_
        refine x_getR (c2 := 0) i_Run_unveiled_51 rfl rfl (by assumption) ?_
        refine x_iload_n i_Run_unveiled_54 rfl ?_
        refine x_cv2 i_Run_unveiled_55 rfl rfl rfl ?_
        refine c_R_expect h2 (by omega) (by rw [y2'.run.lo (by decide)]; exact t2') (fun σ3 z1 z2 => ?_)
        refine x_iload_n i_Run_unveiled_58 rfl ?_
        refine x_bipush i_Run_unveiled_59 ?_
        refine x_icmp_ne_t i_Run_unveiled_61 (by omega) ?_
        refine x_bipush i_Run_unveiled_68 ?_
        refine x_iret i_Run_unveiled_70 rfl ?_
        exact kk σ3 z1 ((y1.tr y2').tr (fwX_tf z2)) (fun _ _ => (z2.1 _ _ (fun q => by rcases q.1 with w | w <;> omega)).trans g7) (fun w => absurd w (by omega))
  · have e0 : veilE it.1.1 it.1.2.2 p fw r = (r.1, none, false, (r.2.2.2.1, fw, r.2.2.2.2.2)) := by
      unfold veilE
      rcases hk with w | w
      · rw [if_pos w, if_pos (by omega)]
      · rw [if_neg (by omega), if_pos (by omega)]
    rw [e0] at kk
    refine x_iload_n i_Run_unveiled_30 rfl ?_
    refine x_iret i_Run_unveiled_31 rfl ?_
    exact kk σ1 h1 y1 (fun _ w => absurd w (by omega)) (fun _ => g6)
end


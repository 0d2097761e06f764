/-! A RUN OF THE CLASS: item -/
theorem OutR.step {e : RE} {σ σ1 σ' : AS} {s0 N K N' K' : Nat} {tab tab' : Nat → TT} {H H' : List Nat} {r : RR} (h : OutR e (-5) 2 σ1 (s0 + 1) N K tab H r σ' N' K' tab' H') (hx : runX σ σ1) : OutR e (-5) 3 σ s0 N K tab H r σ' N' K' tab' H' := by
  obtain ⟨a1, a2, a3, a4, a5, a6, a7, a8⟩ := h
  exact ⟨a1, hx.tr a2, a3, a4, a5, by omega, fun hr => by
    obtain ⟨c1, c2, c3⟩ := a7 hr
    exact ⟨by omega, by omega, c3⟩, a8⟩
section
variable {d : Nat} {Q : AQ} {σ : AS} {e : RE} {st : ES} {N K : Nat} {tab : Nat → TT} {H : List Nat}
theorem x_part {k dep n : Nat} (hk : dep + k = 60) (ha : k ≠ 0 → ∀ n, AltC e (d + 3) k (dep + 1) n) {it : Item (PT n)} {a : Nat} {x2 x4 x6 x7 : Option AV} {p1 : Nat} (h : RS σ e st N K tab H) (hi : itR σ e.1.2.1 n it a) (hp : p1 ≤ eZ e)
    (kk : ∀ σ' N' K' tab' H', OutR e (-5) 3 σ st.1.1 N K tab H (partE e.2.1 (eZ e) (fun a => altE e.2.1 (eZ e) e.2.2 k n a) (ruledE e k) (decide (k = 0)) it p1 st) σ' N' K' tab' H' → Ex (wp (d + 4)) m_Run_item Q 102 [some (vr 7 0), some (vr 4 a), x2, some (vi (dep : Nat)), x4, some (vi (p1 : Nat)), x6, x7, some (vi (partE e.2.1 (eZ e) (fun a => altE e.2.1 (eZ e) e.2.2 k n a) (ruledE e k) (decide (k = 0)) it p1 st).1)] [] σ') : Ex (wp (d + 4)) m_Run_item Q 26 [some (vr 7 0), some (vr 4 a), x2, some (vi (dep : Nat)), x4, some (vi (p1 : Nat)), x6, x7, none] [] σ := by
  have hd : decide (k = 0) = decide (60 ≤ dep) := by
    by_cases w : k = 0
    · rw [decide_eq_true w, decide_eq_true (by omega)]
    · rw [decide_eq_false w, decide_eq_false (by omega)]
  rw [hd] at kk
  refine x_aload_n i_Run_item_26 rfl ?_
  refine x_aload_n i_Run_item_27 rfl ?_
  refine x_iload i_Run_item_28 rfl ?_
  refine x_iload_n i_Run_item_30 rfl ?_
  refine x_cv3 i_Run_item_31 rfl rfl rfl ?_
  refine c_R_stepped h hi (dep := dep) hp (alt := fun a => altE e.2.1 (eZ e) e.2.2 k n a) (ruled := ruledE e k) (fun hn => ?_) (fun ho σ1 h1 x1 => ?_)
  · intro σ' N' K' tab' H' ho
    have k1 := kk σ' N' K' tab' H' ho
    obtain ⟨-, -, -, -, -, -, -, -, u9⟩ := ho
    refine x_istore (ls' := [_, _, _, _, _, _, _, _, _]) i_Run_item_34 rfl rfl ?_
    refine x_iload i_Run_item_36 rfl ?_
    refine x_bipush i_Run_item_38 ?_
    refine x_icmp_ne_t i_Run_item_40 (by omega) ?_
    exact k1
  · obtain ⟨o1, o2, o3⟩ := ho
    have hk0 : k ≠ 0 := by
      have := of_decide_eq_false o2
      omega
    have hi1 := hi.run x1
    obtain ⟨i1, -, -, -, -, i6, -, -⟩ := id hi1
    have e0 : partE e.2.1 (eZ e) (fun a => altE e.2.1 (eZ e) e.2.2 k n a) (ruledE e k) (decide (60 ≤ dep)) it p1 st = (if it.1.1 = 12 then
      match (stepE st).2.2 (it.1.2.2 * 241 + p1) with
      | none => ruledE e k it.1.2.2 p1 (stepE st)
      | some none => (-16, none, false, (stepE st))
      | some (some (a, t, s)) => (a, t, s, (((stepE st).1.1, (stepE st).1.2.1, (stepE st).1.2.2 + 1), (stepE st).2))
    else if it.1.1 = 7 then ((p1 : Int), none, true, (stepE st))
    else if it.1.1 ≤ 4 then matchE e.2.1 (eZ e) it.1.1 it.1.2.2 it.2.1.1 it.2.1.2 p1 (stepE st)
    else if it.1.1 = 10 then
      let r := altE e.2.1 (eZ e) e.2.2 k n it.2.2.1 p1 (stepE st)
      if r.1 < 0 then r else chainE (fun p st => altE e.2.1 (eZ e) e.2.2 k n it.2.2.1 p st) (fun p st => altE e.2.1 (eZ e) e.2.2 k n it.2.2.2 p st) 1001 r.1.toNat r.2.1 r.2.2.1 r.2.2.2
    else brackE (fun p st => altE e.2.1 (eZ e) e.2.2 k n it.2.2.1 p st) it.1.1 it.1.2.2 p1 (stepE st)) := by
      unfold partE
      rw [if_neg o1, o2]
      rfl
    rw [e0] at kk
    clear e0
    have fin : ∀ (r : RR), (∀ σ' N' K' tab' H', OutR e (-5) 3 σ st.1.1 N K tab H r σ' N' K' tab' H' → Ex (wp (d + 4)) m_Run_item Q 102 [some (vr 7 0), some (vr 4 a), x2, some (vi (dep : Nat)), x4, some (vi (p1 : Nat)), x6, x7, some (vi r.1)] [] σ') → ∀ σ' N' K' tab' H', OutR e (-5) 2 σ1 (stepE st).1.1 N K tab H r σ' N' K' tab' H' → Ex (wp (d + 4)) m_Run_item Q 100 [some (vr 7 0), some (vr 4 a), x2, some (vi (dep : Nat)), x4, some (vi (p1 : Nat)), x6, x7, some (vi (-7))] [vi r.1] σ' := by
      intro r kr σ' N' K' tab' H' ho
      have := kr σ' N' K' tab' H' (ho.step x1)
      refine x_istore (ls' := [_, _, _, _, _, _, _, _, _]) i_Run_item_100 rfl rfl ?_
      exact this
    refine x_istore (ls' := [_, _, _, _, _, _, _, _, _]) i_Run_item_34 rfl rfl ?_
    refine x_iload i_Run_item_36 rfl ?_
    refine x_bipush i_Run_item_38 ?_
    refine x_icmp_ne_f i_Run_item_40 rfl ?_
    refine x_aload_n i_Run_item_43 rfl ?_
    refine x_getI i_Run_item_44 rfl rfl ?_
    refine x_bipush i_Run_item_47 ?_
    rw [i1]
    refine x_icmp_ne i_Run_item_49 (fun g1 => ?_) (fun g1 => ?_)
    · have n12 : ¬ it.1.1 = 12 := by omega
      rw [if_neg n12] at kk
      have o4 : it.1.1 = 5 ∨ it.1.1 = 6 ∨ (8 ≤ it.1.1 ∧ it.1.1 ≤ 11) := by
        rcases o3 with w | w
        · exact absurd w.1 n12
        · exact w
      rw [if_neg (by omega), if_neg (by omega)] at kk
      refine x_aload_n i_Run_item_68 rfl ?_
      refine x_getI i_Run_item_69 rfl rfl ?_
      refine x_bipush i_Run_item_72 ?_
      rw [i1]
      refine x_icmp_ne i_Run_item_74 (fun g2 => ?_) (fun g2 => ?_)
      · rw [if_neg (by omega)] at kk
        refine x_aload_n i_Run_item_90 rfl ?_
        refine x_aload_n i_Run_item_91 rfl ?_
        refine x_iload i_Run_item_92 rfl ?_
        refine x_iload_n i_Run_item_94 rfl ?_
        refine x_iconst i_Run_item_95 ?_
        refine x_iadd i_Run_item_96 (by omega) ?_
        rw [show (dep : Int) + 1 = ((dep + 1 : Nat) : Int) by omega]
        refine x_cv3 i_Run_item_97 rfl rfl rfl ?_
        refine c_R_bracketed (ha hk0 n) h1 hi1 (by omega) hp ?_
        exact fin _ kk
      · rw [if_pos (by omega)] at kk
        refine x_aload_n i_Run_item_77 rfl ?_
        refine x_aload_n i_Run_item_78 rfl ?_
        refine x_iload i_Run_item_79 rfl ?_
        refine x_iload_n i_Run_item_81 rfl ?_
        refine x_iconst i_Run_item_82 ?_
        refine x_iadd i_Run_item_83 (by omega) ?_
        rw [show (dep : Int) + 1 = ((dep + 1 : Nat) : Int) by omega]
        refine x_cv3 i_Run_item_84 rfl rfl rfl ?_
        refine c_R_chained (ha hk0 n) h1 hi1 (by omega) hp rfl rfl ?_
        intro σ' N' K' tab' H' ho
        refine x_goto i_Run_item_87 ?_
        exact fin _ kk σ' N' K' tab' H' ho
    · have h12 : it.1.1 = 12 := by omega
      obtain ⟨j1, j2, j3⟩ := i6 h12
      rw [if_pos h12] at kk
      have hm : (stepE st).2.2 (it.1.2.2 * 241 + p1) = none := by
        rcases o3 with w | w
        · exact w.2
        · omega
      rw [hm] at kk
      refine x_aload_n i_Run_item_52 rfl ?_
      refine x_aload_n i_Run_item_53 rfl ?_
      refine x_getI i_Run_item_54 rfl rfl ?_
      rw [j1]
      refine x_iload i_Run_item_57 rfl ?_
      refine x_iload_n i_Run_item_59 rfl ?_
      refine x_iconst i_Run_item_60 ?_
      refine x_iadd i_Run_item_61 (by omega) ?_
      rw [show (dep : Int) + 1 = ((dep + 1 : Nat) : Int) by omega]
      refine x_cv3 i_Run_item_62 rfl rfl rfl ?_
      refine c_R_ruled (k := k) (d := d + 1) (ha hk0 9) h1 j2 j3 hp ?_
      intro σ' N' K' tab' H' ho
      refine x_goto i_Run_item_65 ?_
      exact fin _ kk σ' N' K' tab' H' ho
end


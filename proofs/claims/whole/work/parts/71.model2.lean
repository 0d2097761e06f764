/-! THE MODEL: frames, nodes -/
def okM (σ : AS) (f : Nat) : Prop := ((AI σ 13 50 f = -1 ∧ AI σ 13 51 f = 0) ∨ (AI σ 13 48 f < AI σ 13 50 f ∧ 0 ≤ AI σ 13 50 f ∧ AI σ 13 51 f ≠ 0)) ∧ (AI σ 13 48 f = -2 → AI σ 13 49 f = 0) ∧ (AI σ 13 48 f = -2 ∨ 0 ≤ AI σ 13 48 f) ∧ AI σ 13 50 f ≤ 240 ∧ AI σ 13 48 f ≤ 240 ∧ InR (AI σ 13 49 f) ∧ InR (AI σ 13 51 f)
def viewM (σ : AS) (f : Nat) : Int × Int := if 0 ≤ AI σ 13 50 f then (AI σ 13 50 f, AI σ 13 51 f) else if AI σ 13 49 f ≠ 0 then (AI σ 13 48 f, AI σ 13 49 f) else (-1, 0)
/-- frame f has gained: only it changed -/
def frX (f : Nat) (σ σ' : AS) : Prop := fX (fun _ _ => False) (fun k a => k = 13 ∧ 49 ≤ a ∧ a ≤ 51) σ σ' ∧ ∀ a j, j ≠ f → AI σ' 13 a j = AI σ 13 a j
def upA (g : Nat → Int) (n : Nat) (v : Int) : Nat → Int := fun j => if j = n then v else g j
section
variable {d : Nat} {Q : AQ} {σ : AS}
theorem c_M_fails {b : Int} (hb : b = 0 ∨ b = 1) (kk : Q (some (vi 0)) (sFI σ 1152 0 b)) : wp (d + 1) m_M_fails [vr 11 0, vi b] σ Q := by
  refine x_in (ls := [some _, some _]) rfl rfl ?_
  refine x_aload_n i_M_fails_0 rfl ?_
  refine x_iload_n i_M_fails_1 rfl ?_
  refine x_putZ i_M_fails_2 rfl rfl (by omega) ?_
  refine x_iconst i_M_fails_5 ?_
  refine x_zret i_M_fails_6 rfl (by omega) ?_
  exact kk
theorem c_M_done {p t b : Int} (hb : b = 0 ∨ b = 1) (kk : Q (some (vi 1)) (sFI (sFI (sFI σ 1147 0 p) 1148 0 t) 1152 0 b)) : wp (d + 1) m_M_done [vr 11 0, vi p, vi t, vi b] σ Q := by
  refine x_in (ls := [some _, some _, some _, some _]) rfl rfl ?_
  refine x_aload_n i_M_done_0 rfl ?_
  refine x_iload_n i_M_done_1 rfl ?_
  refine x_putI i_M_done_2 rfl rfl ?_
  refine x_aload_n i_M_done_5 rfl ?_
  refine x_iload_n i_M_done_6 rfl ?_
  refine x_putI i_M_done_7 rfl rfl ?_
  refine x_aload_n i_M_done_10 rfl ?_
  refine x_iload_n i_M_done_11 rfl ?_
  refine x_putZ i_M_done_12 rfl rfl (by omega) ?_
  refine x_iconst i_M_done_15 ?_
  refine x_zret i_M_done_16 rfl (by omega) ?_
  exact kk
theorem c_M_expects (h : modR σ) {f p : Nat} (hf : f < 80) (hp : p ≤ 240) (ok : okM σ f) (hat : AI σ 13 48 f ≤ (p : Int)) {bits : Int} (hb : InR bits) (h0 : bits ≠ 0) (kk : ∀ σ', frX f σ σ' → okM σ' f → viewM σ' f = noteE p bits (viewM σ f) → Q none σ') : wp (d + 1) m_M_expects [vr 11 0, vi (f : Nat), vi (p : Nat), vi bits] σ Q := by
  obtain ⟨hm, hl, -⟩ := h
  obtain ⟨o1, o2, o3, o4, o5, o6, o7⟩ := ok
  have e1 : ∀ (a j : Nat) (v : Int) (s : AS) (a' j' : Nat), AI (sAI s 13 a j v) 13 a' j' = if a' = a ∧ j' = j then v else AI s 13 a' j' := fun a j v s a' j' => by rw [AI_sAI]; simp
  refine x_in (ls := [some _, some _, some _, some _]) rfl rfl ?_
  refine x_iload_n i_M_expects_0 rfl ?_
  refine x_if_ne_t i_M_expects_1 h0 ?_
  refine x_iload_n i_M_expects_5 rfl ?_
  refine x_aload_n i_M_expects_6 rfl ?_
  refine x_getR (c2 := 13) i_M_expects_7 rfl rfl (hm _ _ rfl) ?_
  refine x_iload_n i_M_expects_10 rfl ?_
  refine x_iaload i_M_expects_11 rfl (lt_len hl rfl hf) ?_
  refine x_icmp_ne i_M_expects_12 (fun g1 => ?_) (fun g1 => ?_)
  · refine x_iload_n i_M_expects_28 rfl ?_
    refine x_aload_n i_M_expects_29 rfl ?_
    refine x_getR (c2 := 13) i_M_expects_30 rfl rfl (hm _ _ rfl) ?_
    refine x_iload_n i_M_expects_33 rfl ?_
    refine x_iaload i_M_expects_34 rfl (lt_len hl rfl hf) ?_
    refine x_icmp_le i_M_expects_35 (fun g2 => ?_) (fun g2 => ?_)
    · refine x_iload_n i_M_expects_55 rfl ?_
      refine x_aload_n i_M_expects_56 rfl ?_
      refine x_getR (c2 := 13) i_M_expects_57 rfl rfl (hm _ _ rfl) ?_
      refine x_iload_n i_M_expects_60 rfl ?_
      refine x_iaload i_M_expects_61 rfl (lt_len hl rfl hf) ?_
      have nv : noteE p bits (viewM σ f) = viewM σ f ∨ (p : Int) = AI σ 13 50 f := by
        by_cases w : (p : Int) = AI σ 13 50 f
        · exact Or.inr w
        · left
          unfold noteE viewM
          rw [if_pos (show 0 ≤ AI σ 13 50 f by omega)]
          rw [if_neg (by show ¬ AI σ 13 50 f < (p : Int); omega), if_neg (by show ¬ (p : Int) = AI σ 13 50 f; omega)]
      refine x_icmp_ne i_M_expects_62 (fun g3 => ?_) (fun g3 => ?_)
      · have nv : noteE p bits (viewM σ f) = viewM σ f := nv.resolve_right (fun w => g3 w)
        refine x_vret i_M_expects_75 rfl ?_
        exact kk σ ⟨fX.rf _ _ _, fun _ _ _ => rfl⟩ ⟨o1, o2, o3, o4, o5, o6, o7⟩ nv.symm
      · refine x_aload_n i_M_expects_65 rfl ?_
        refine x_getR (c2 := 13) i_M_expects_66 rfl rfl (hm _ _ rfl) ?_
        refine x_iload_n i_M_expects_69 rfl ?_
        refine x_dup2 i_M_expects_70 ?_
        refine x_iaload i_M_expects_71 rfl (lt_len hl rfl hf) ?_
        refine x_iload_n i_M_expects_72 rfl ?_
        refine x_ior i_M_expects_73 ?_
        refine x_iastore i_M_expects_74 rfl (lt_len hl rfl hf) ?_
        refine x_vret i_M_expects_75 rfl ?_
        refine kk _ ⟨fX_sAI ⟨rfl, by decide, by decide⟩, fun a j hj => by rw [e1, if_neg (fun w => hj w.2)]⟩ ?_ ?_
        · unfold okM
          simp only [e1]
          simp
          refine ⟨Or.inr ⟨by omega, by omega, ?_⟩, o2, o3, o4, o5, o6, inr_iOr _ _⟩
          rcases o1 with w | w
          · omega
          · exact fun q => iOr_ne hb h0 q
        · rw [show viewM σ f = (AI σ 13 50 f, AI σ 13 51 f) from if_pos (by omega)]
          unfold viewM noteE
          simp only [e1]
          simp
          rw [if_pos (show 0 ≤ AI σ 13 50 f by omega), if_neg (by omega), if_pos g3]
    · refine x_aload_n i_M_expects_38 rfl ?_
      refine x_getR (c2 := 13) i_M_expects_39 rfl rfl (hm _ _ rfl) ?_
      refine x_iload_n i_M_expects_42 rfl ?_
      refine x_iload_n i_M_expects_43 rfl ?_
      refine x_iastore i_M_expects_44 rfl (lt_len hl rfl hf) ?_
      refine x_aload_n i_M_expects_45 rfl ?_
      refine x_getR (c2 := 13) i_M_expects_46 rfl rfl (hm _ _ rfl) ?_
      refine x_iload_n i_M_expects_49 rfl ?_
      refine x_iload_n i_M_expects_50 rfl ?_
      refine x_iastore i_M_expects_51 rfl (lt_len hl rfl hf) ?_
      refine x_goto i_M_expects_52 ?_
      refine x_vret i_M_expects_75 rfl ?_
      refine kk _ ⟨(fX_sAI ⟨rfl, by decide, by decide⟩).tr (fX_sAI ⟨rfl, by decide, by decide⟩), fun a j hj => by rw [e1, if_neg (fun w => hj w.2), e1, if_neg (fun w => hj w.2)]⟩ ?_ ?_
      · unfold okM
        simp only [e1]
        simp
        exact ⟨⟨by omega, h0⟩, o2, o3, by omega, o5, o6, hb⟩
      · unfold viewM
        simp only [e1]
        simp
        unfold noteE
        rw [if_pos]
        split
        · exact g2
        · split
          · show (-1 : Int) < (p : Int); omega
          · show AI σ 13 48 f < (p : Int); omega
  · refine x_aload_n i_M_expects_15 rfl ?_
    refine x_getR (c2 := 13) i_M_expects_16 rfl rfl (hm _ _ rfl) ?_
    refine x_iload_n i_M_expects_19 rfl ?_
    refine x_dup2 i_M_expects_20 ?_
    refine x_iaload i_M_expects_21 rfl (lt_len hl rfl hf) ?_
    refine x_iload_n i_M_expects_22 rfl ?_
    refine x_ior i_M_expects_23 ?_
    refine x_iastore i_M_expects_24 rfl (lt_len hl rfl hf) ?_
    refine x_goto i_M_expects_25 ?_
    refine x_vret i_M_expects_75 rfl ?_
    refine kk _ ⟨fX_sAI ⟨rfl, by decide, by decide⟩, fun a j hj => by rw [e1, if_neg (fun w => hj w.2)]⟩ ?_ ?_
    · unfold okM
      simp only [e1]
      simp
      exact ⟨o1, fun w => by omega, o3, o4, o5, inr_iOr _ _, o7⟩
    · unfold viewM noteE
      simp only [e1]
      simp
      by_cases w : 0 ≤ AI σ 13 50 f
      · rw [if_pos w, if_pos w, if_neg (by show ¬ AI σ 13 50 f < (p : Int); omega), if_neg (by show ¬ (p : Int) = AI σ 13 50 f; omega)]
      · rw [if_neg w, if_neg w, if_neg (iOr_ne hb h0)]
        by_cases u : AI σ 13 49 f = 0
        · rw [if_pos u, if_pos (by show (-1 : Int) < (p : Int); omega), u, iOr_0l hb, g1]
        · rw [if_neg u, if_neg (by show ¬ AI σ 13 48 f < (p : Int); omega), if_pos g1]
theorem c_M_frame (h : modR σ) {F : Nat} (hF : F < 80) {p : Int} (h1 : FI σ 1149 0 = (F : Int) - 1) (h2 : p = -2 ∨ 0 ≤ p ∧ p ≤ 240) (kk : ∀ σ', fX (fun f a => f = 1149 ∧ a = 0) (fun k a => k = 13 ∧ 48 ≤ a ∧ a ≤ 51) σ σ' → (∀ a j, j ≠ F → AI σ' 13 a j = AI σ 13 a j) → FI σ' 1149 0 = (F : Int) → AI σ' 13 48 F = p → okM σ' F → viewM σ' F = (-1, 0) → Q none σ') : wp (d + 1) m_M_frame [vr 11 0, vi p] σ Q := by
  obtain ⟨hm, hl, -⟩ := h
  have e1 : ∀ (a j : Nat) (v : Int) (s : AS) (a' j' : Nat), AI (sAI s 13 a j v) 13 a' j' = if a' = a ∧ j' = j then v else AI s 13 a' j' := fun a j v s a' j' => by rw [AI_sAI]; simp
  refine x_in (ls := [some _, some _]) rfl rfl ?_
  refine x_aload_n i_M_frame_0 rfl ?_
  refine x_dup i_M_frame_1 ?_
  refine x_getI i_M_frame_2 rfl rfl ?_
  refine x_iconst i_M_frame_5 ?_
  rw [h1]
  refine x_iadd i_M_frame_6 (by omega) ?_
  refine x_putI i_M_frame_7 rfl rfl ?_
  refine x_aload_n i_M_frame_10 rfl ?_
  refine x_getR (c2 := 13) i_M_frame_11 rfl rfl (hm _ _ rfl) ?_
  refine x_aload_n i_M_frame_14 rfl ?_
  refine x_getI i_M_frame_15 rfl rfl ?_
  have f1 : FI (sFI σ 1149 0 ((F : Int) - 1 + 1)) 1149 0 = (F : Int) := by simp [FI_sFI]
  rw [f1]
  refine x_iload_n i_M_frame_18 rfl ?_
  refine x_iastore i_M_frame_19 rfl (lt_len hl rfl hF) ?_
  refine x_aload_n i_M_frame_20 rfl ?_
  refine x_getR (c2 := 13) i_M_frame_21 rfl rfl (hm _ _ rfl) ?_
  refine x_aload_n i_M_frame_24 rfl ?_
  refine x_getI i_M_frame_25 rfl rfl ?_
  rw [show FI (sAI (sFI σ 1149 0 ((F : Int) - 1 + 1)) 13 48 F p) 1149 0 = (F : Int) from f1]
  refine x_iconst i_M_frame_28 ?_
  refine x_iastore i_M_frame_29 rfl (lt_len hl rfl hF) ?_
  refine x_aload_n i_M_frame_30 rfl ?_
  refine x_getR (c2 := 13) i_M_frame_31 rfl rfl (hm _ _ rfl) ?_
  refine x_aload_n i_M_frame_34 rfl ?_
  refine x_getI i_M_frame_35 rfl rfl ?_
  rw [show FI (sAI (sAI (sFI σ 1149 0 ((F : Int) - 1 + 1)) 13 48 F p) 13 49 F 0) 1149 0 = (F : Int) from f1]
  refine x_iconst i_M_frame_38 ?_
  refine x_iastore i_M_frame_39 rfl (lt_len hl rfl hF) ?_
  refine x_aload_n i_M_frame_40 rfl ?_
  refine x_getR (c2 := 13) i_M_frame_41 rfl rfl (hm _ _ rfl) ?_
  refine x_aload_n i_M_frame_44 rfl ?_
  refine x_getI i_M_frame_45 rfl rfl ?_
  rw [show FI (sAI (sAI (sAI (sFI σ 1149 0 ((F : Int) - 1 + 1)) 13 48 F p) 13 49 F 0) 13 50 F (-1)) 1149 0 = (F : Int) from f1]
  refine x_iconst i_M_frame_48 ?_
  refine x_iastore i_M_frame_49 rfl (lt_len hl rfl hF) ?_
  have m : ∀ {s : AS} {a j : Nat} {v : Int}, 48 ≤ a → a ≤ 51 → fX (fun f a => f = 1149 ∧ a = 0) (fun k a => k = 13 ∧ 48 ≤ a ∧ a ≤ 51) s (sAI s 13 a j v) := fun h1 h2 => fX_sAI ⟨rfl, h1, h2⟩
  refine x_vret i_M_frame_50 rfl ?_
  refine kk _ ((((((fX_sFI ⟨rfl, rfl⟩).tr (m (by decide) (by decide))).tr (m (by decide) (by decide))).tr (m (by decide) (by decide))).tr (m (by decide) (by decide)))) (fun a j hj => ?_) f1 ?_ ?_ ?_
  · simp only [e1, hj, and_false, if_false]
    rfl
  · simp [e1]
  · unfold okM
    simp only [e1]
    simp
    refine ⟨by omega, by omega, inr_0⟩
  · unfold viewM
    simp only [e1]
    simp
end


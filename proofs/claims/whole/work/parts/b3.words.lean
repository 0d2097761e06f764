/-! THE CLASS's Reader: words -/
theorem isW_iff {t : TP} {p e : Nat} {w : List Nat} : isW t p e w = true ↔ e = p + w.length ∧ ∀ i, i < w.length → t.2 (p + i) = ((w.getD i 0 : Nat) : Int) := by
  unfold isW
  rw [Bool.and_eq_true, decide_eq_true_eq, List.all_eq_true]
  constructor
  · rintro ⟨h1, h2⟩
    exact ⟨h1, fun i hi => of_decide_eq_true (h2 i (List.mem_range.mpr hi))⟩
  · rintro ⟨h1, h2⟩
    exact ⟨h1, fun i hi => decide_eq_true (h2 i (List.mem_range.mp hi))⟩
section
variable {d : Nat} {Q : AQ} {σ : AS} {C : Nat → Nat} {t : TP}
theorem c_Rd_spells (hK : RdK σ C t) {p e k : Nat} (hp : FI σ 503 (C 0) = (p : Int)) (hpe : p ≤ e) (he : e ≤ t.1) (kk : Q (some (vi (bI (isW t p e (sTx.getD k []))))) σ) : wp (d + 3) m_Reader_spells [vr 5 (C 0), vs k, vi (e : Nat)] σ Q := by
  obtain ⟨-, -, -, -, ⟨q1, -⟩, -, -, ht, hr⟩ := id hK
  have ht1 := ht.1
  have hsl : sL k = (sTx.getD k []).length := rfl
  refine x_in (ls := [some _, some _, some _, none]) rfl rfl ?_
  refine x_aload_n i_Reader_spells_0 rfl ?_
  refine x_strLen i_Reader_spells_1 rfl ?_
  refine x_iload_n i_Reader_spells_4 rfl ?_
  refine x_aload_n i_Reader_spells_5 rfl ?_
  refine x_getI i_Reader_spells_6 rfl rfl ?_
  rw [hp]
  refine x_isub i_Reader_spells_9 (by omega) ?_
  refine x_icmp_eq i_Reader_spells_10 (fun g1 => ?_) (fun g1 => ?_)
  · by_cases hk0 : sL k ≤ 240
    · have loop : ∀ (f i : Nat), i + f = sL k → (∀ j, j < i → t.2 (p + j) = (((sTx.getD k []).getD j 0 : Nat) : Int)) → Ex (wp (d + 2)) m_Reader_spells Q 17 [some (vr 5 (C 0)), some (vs k), some (vi (e : Nat)), some (vi (i : Nat))] [] σ := by
        intro f
        induction f with
        | zero =>
          intro i hi hj
          have : isW t p e (sTx.getD k []) = true := isW_iff.mpr ⟨by rw [← hsl]; omega, fun j w => hj j (by rw [← hsl] at w; omega)⟩
          rw [this] at kk
          refine x_iload_n i_Reader_spells_17 rfl ?_
          refine x_aload_n i_Reader_spells_18 rfl ?_
          refine x_strLen i_Reader_spells_19 rfl ?_
          refine x_icmp_ge_t i_Reader_spells_22 (by omega) ?_
          refine x_iconst i_Reader_spells_54 ?_
          refine x_zret i_Reader_spells_55 rfl (by omega) ?_
          exact kk
        | succ f ih =>
          intro i hi hj
          refine x_iload_n i_Reader_spells_17 rfl ?_
          refine x_aload_n i_Reader_spells_18 rfl ?_
          refine x_strLen i_Reader_spells_19 rfl ?_
          refine x_icmp_ge_f i_Reader_spells_22 (by omega) ?_
          refine x_aload_n i_Reader_spells_25 rfl ?_
          refine x_getR (c2 := 6) i_Reader_spells_26 rfl rfl (by assumption) ?_
          refine x_aload_n i_Reader_spells_29 rfl ?_
          refine x_getI i_Reader_spells_30 rfl rfl ?_
          rw [hp]
          refine x_iload_n i_Reader_spells_33 rfl ?_
          refine x_iadd i_Reader_spells_34 (by omega) ?_
          refine x_cv1 i_Reader_spells_35 rfl rfl rfl ?_
          refine c_at_in hr (j := p + i) (by omega) (by omega) ?_
          refine x_aload_n i_Reader_spells_38 rfl ?_
          refine x_iload_n i_Reader_spells_39 rfl ?_
          refine x_strAt i_Reader_spells_40 rfl rfl (by omega) ?_
          have hsc : ((sC k i : Nat) : Int) = (((sTx.getD k []).getD i 0 : Nat) : Int) := rfl
          refine x_icmp_eq i_Reader_spells_43 (fun g2 => ?_) (fun g2 => ?_)
          · refine x_iinc (ls' := [_, _, _, _]) i_Reader_spells_48 rfl (by omega) rfl ?_
            refine x_goto i_Reader_spells_51 ?_
            refine ih (i + 1) (by omega) (fun j w => ?_)
            by_cases q : j = i
            · rw [q, g2]; rfl
            · exact hj j (by omega)
          · have : isW t p e (sTx.getD k []) = false := Bool.eq_false_iff.mpr (fun w => g2 ((isW_iff.mp w).2 i (by rw [← hsl]; omega)))
            rw [this] at kk
            refine x_iconst i_Reader_spells_46 ?_
            refine x_zret i_Reader_spells_47 rfl (by omega) ?_
            exact kk
      refine x_iconst i_Reader_spells_15 ?_
      refine x_istore_n (ls' := [_, _, _, _]) i_Reader_spells_16 rfl rfl ?_
      exact loop (sL k) 0 (by omega) (fun j w => absurd w (Nat.not_lt_zero _))
    · exfalso
      omega
  · have : isW t p e (sTx.getD k []) = false := Bool.eq_false_iff.mpr (fun w => g1 (by have := (isW_iff.mp w).1; rw [← hsl] at this; omega))
    rw [this] at kk
    refine x_iconst i_Reader_spells_13 ?_
    refine x_zret i_Reader_spells_14 rfl (by omega) ?_
    exact kk
def kdI (o : Option Nat) : Int := match o with | none => -1 | some k => (k : Int)
theorem c_Rd_wordKind (hK : RdK σ C t) {p e : Nat} (hp : FI σ 503 (C 0) = (p : Int)) (hpe : p ≤ e) (he : e ≤ t.1) (kk : Q (some (vi (kdI (kdW t p e)))) σ) : wp (d + 4) m_Reader_wordKind [vr 5 (C 0), vi (e : Nat)] σ Q := by
  have fin : ∀ z : Int, z = kdI (kdW t p e) → Ex (wp (d + 3)) m_Reader_wordKind Q 132 [some (vr 5 (C 0)), some (vi (e : Nat))] [vi z] σ := by
    intro z hz
    rw [hz]
    refine x_iret i_Reader_wordKind_132 rfl ?_
    exact kk
  unfold kdW at fin
  refine x_in (ls := [some _, some _]) rfl rfl ?_
  refine x_aload_n i_Reader_wordKind_0 rfl ?_
  refine x_ldcS i_Reader_wordKind_1 ?_
  refine x_iload_n i_Reader_wordKind_3 rfl ?_
  refine x_cv2 i_Reader_wordKind_4 rfl rfl rfl ?_
  refine c_Rd_spells hK hp hpe he ?_
  have e0 : sTx.getD 0 [] = [100, 105, 103, 105, 116] := rfl
  have e1 : sTx.getD 1 [] = [97, 110, 121] := rfl
  have e2 : sTx.getD 2 [] = [101, 110, 100] := rfl
  have e3 : sTx.getD 3 [] = [99, 117, 116] := rfl
  have e4 : sTx.getD 4 [] = [116, 114, 121] := rfl
  have e5 : sTx.getD 5 [] = [110, 111, 116] := rfl
  have e6 : sTx.getD 6 [] = [108, 111, 111, 107] := rfl
  have e7 : sTx.getD 7 [] = [97, 115] := rfl
  have e8 : sTx.getD 8 [] = [99, 104, 97, 105, 110] := rfl
  rw [e0]
  refine x_if_eq i_Reader_wordKind_7 (fun g0 => ?_) (fun g0 => ?_)
  · rw [bI_f g0] at fin
    refine x_aload_n i_Reader_wordKind_14 rfl ?_
    refine x_ldcS i_Reader_wordKind_15 ?_
    refine x_iload_n i_Reader_wordKind_17 rfl ?_
    refine x_cv2 i_Reader_wordKind_18 rfl rfl rfl ?_
    refine c_Rd_spells hK hp hpe he ?_
    rw [e1]
    refine x_if_eq i_Reader_wordKind_21 (fun g1 => ?_) (fun g1 => ?_)
    · rw [bI_f g1] at fin
      refine x_aload_n i_Reader_wordKind_28 rfl ?_
      refine x_ldcS i_Reader_wordKind_29 ?_
      refine x_iload_n i_Reader_wordKind_31 rfl ?_
      refine x_cv2 i_Reader_wordKind_32 rfl rfl rfl ?_
      refine c_Rd_spells hK hp hpe he ?_
      rw [e2]
      refine x_if_eq i_Reader_wordKind_35 (fun g2 => ?_) (fun g2 => ?_)
      · rw [bI_f g2] at fin
        refine x_aload_n i_Reader_wordKind_42 rfl ?_
        refine x_ldcS i_Reader_wordKind_43 ?_
        refine x_iload_n i_Reader_wordKind_45 rfl ?_
        refine x_cv2 i_Reader_wordKind_46 rfl rfl rfl ?_
        refine c_Rd_spells hK hp hpe he ?_
        rw [e3]
        refine x_if_eq i_Reader_wordKind_49 (fun g3 => ?_) (fun g3 => ?_)
        · rw [bI_f g3] at fin
          refine x_aload_n i_Reader_wordKind_57 rfl ?_
          refine x_ldcS i_Reader_wordKind_58 ?_
          refine x_iload_n i_Reader_wordKind_60 rfl ?_
          refine x_cv2 i_Reader_wordKind_61 rfl rfl rfl ?_
          refine c_Rd_spells hK hp hpe he ?_
          rw [e4]
          refine x_if_eq i_Reader_wordKind_64 (fun g4 => ?_) (fun g4 => ?_)
          · rw [bI_f g4] at fin
            refine x_aload_n i_Reader_wordKind_72 rfl ?_
            refine x_ldcS i_Reader_wordKind_73 ?_
            refine x_iload_n i_Reader_wordKind_75 rfl ?_
            refine x_cv2 i_Reader_wordKind_76 rfl rfl rfl ?_
            refine c_Rd_spells hK hp hpe he ?_
            rw [e5]
            refine x_if_eq i_Reader_wordKind_79 (fun g5 => ?_) (fun g5 => ?_)
            · rw [bI_f g5] at fin
              refine x_aload_n i_Reader_wordKind_86 rfl ?_
              refine x_ldcS i_Reader_wordKind_87 ?_
              refine x_iload_n i_Reader_wordKind_89 rfl ?_
              refine x_cv2 i_Reader_wordKind_90 rfl rfl rfl ?_
              refine c_Rd_spells hK hp hpe he ?_
              rw [e6]
              refine x_if_eq i_Reader_wordKind_93 (fun g6 => ?_) (fun g6 => ?_)
              · rw [bI_f g6] at fin
                refine x_aload_n i_Reader_wordKind_101 rfl ?_
                refine x_ldcS i_Reader_wordKind_102 ?_
                refine x_iload_n i_Reader_wordKind_104 rfl ?_
                refine x_cv2 i_Reader_wordKind_105 rfl rfl rfl ?_
                refine c_Rd_spells hK hp hpe he ?_
                rw [e7]
                refine x_if_eq i_Reader_wordKind_108 (fun g7 => ?_) (fun g7 => ?_)
                · rw [bI_f g7] at fin
                  refine x_aload_n i_Reader_wordKind_116 rfl ?_
                  refine x_ldcS i_Reader_wordKind_117 ?_
                  refine x_iload_n i_Reader_wordKind_119 rfl ?_
                  refine x_cv2 i_Reader_wordKind_120 rfl rfl rfl ?_
                  refine c_Rd_spells hK hp hpe he ?_
                  rw [e8]
                  refine x_if_eq i_Reader_wordKind_123 (fun g8 => ?_) (fun g8 => ?_)
                  · rw [bI_f g8] at fin
                    refine x_iconst i_Reader_wordKind_131 ?_
                    exact fin _ rfl
                  · rw [bI_t g8] at fin
                    refine x_bipush i_Reader_wordKind_126 ?_
                    refine x_goto i_Reader_wordKind_128 ?_
                    exact fin _ rfl
                · rw [bI_t g7] at fin
                  refine x_bipush i_Reader_wordKind_111 ?_
                  refine x_goto i_Reader_wordKind_113 ?_
                  exact fin _ rfl
              · rw [bI_t g6] at fin
                refine x_bipush i_Reader_wordKind_96 ?_
                refine x_goto i_Reader_wordKind_98 ?_
                exact fin _ rfl
            · rw [bI_t g5] at fin
              refine x_iconst i_Reader_wordKind_82 ?_
              refine x_goto i_Reader_wordKind_83 ?_
              exact fin _ rfl
          · rw [bI_t g4] at fin
            refine x_bipush i_Reader_wordKind_67 ?_
            refine x_goto i_Reader_wordKind_69 ?_
            exact fin _ rfl
        · rw [bI_t g3] at fin
          refine x_bipush i_Reader_wordKind_52 ?_
          refine x_goto i_Reader_wordKind_54 ?_
          exact fin _ rfl
      · rw [bI_t g2] at fin
        refine x_iconst i_Reader_wordKind_38 ?_
        refine x_goto i_Reader_wordKind_39 ?_
        exact fin _ rfl
    · rw [bI_t g1] at fin
      refine x_iconst i_Reader_wordKind_24 ?_
      refine x_goto i_Reader_wordKind_25 ?_
      exact fin _ rfl
  · rw [bI_t g0] at fin
    refine x_iconst i_Reader_wordKind_10 ?_
    refine x_goto i_Reader_wordKind_11 ?_
    exact fin _ rfl
end


/-- all but the array c stays -/
def arrX (c : Nat) (σ σ' : AS) : Prop := FI σ' = FI σ ∧ FR σ' = FR σ ∧ (∀ k a j, ¬ (k = 13 ∧ a = c) → AI σ' k a j = AI σ k a j) ∧ AR σ' = AR σ ∧ LN σ' = LN σ ∧ CN σ' = CN σ ∧ nC σ' = nC σ ∧ nS σ' = nS σ
theorem arrX.rf (c : Nat) (σ : AS) : arrX c σ σ := ⟨rfl, rfl, fun _ _ _ _ => rfl, rfl, rfl, rfl, rfl, rfl⟩
section
variable {d : Nat} {Q : AQ} {σ : AS} {r c cap n : Nat} {f : Nat → Int}
theorem c_rangeCheck {l n : Nat} (hl : l ≤ 100000) (hn : n ≤ l) (kk : Q none σ) : wp (d + 1) m_J_rangeCheck [vi (l : Nat), vi 0, vi (n : Nat)] σ Q := by
  refine x_in (ls := [some _, some _, some _]) rfl rfl ?_
  refine x_iload_n i_J_rangeCheck_0 rfl ?_
  refine x_iload_n i_J_rangeCheck_1 rfl ?_
  refine x_icmp_le_t i_J_rangeCheck_2 (by omega) ?_
  refine x_iload_n i_J_rangeCheck_46 rfl ?_
  refine x_if_ge_t i_J_rangeCheck_47 (by omega) ?_
  refine x_iload_n i_J_rangeCheck_59 rfl ?_
  refine x_iload_n i_J_rangeCheck_60 rfl ?_
  refine x_icmp_le_t i_J_rangeCheck_61 (by omega) ?_
  refine x_vret i_J_rangeCheck_73 rfl ?_
  exact kk
theorem c_fill {v : Int} (hl : LN σ 13 c ≤ 100000) (hn : n ≤ LN σ 13 c) (kk : ∀ σ', (∀ j, j < n → AI σ' 13 c j = v) → arrX c σ σ' → Q none σ') : wp (d + 2) m_J_fill [vr 13 c, vi 0, vi (n : Nat), vi v] σ Q := by
  refine x_in (ls := [some _, some _, some _, some _, none]) rfl rfl ?_
  refine x_aload_n i_J_fill_0 rfl ?_
  refine x_alen i_J_fill_1 (by omega) ?_
  refine x_iload_n i_J_fill_2 rfl ?_
  refine x_iload_n i_J_fill_3 rfl ?_
  refine x_cs3 i_J_fill_4 rfl rfl ?_
  refine c_rangeCheck hl hn ?_
  refine x_iload_n i_J_fill_7 rfl ?_
  refine x_istore (ls' := [_, _, _, _, _]) i_J_fill_8 rfl rfl ?_
  have loop : ∀ (k i : Nat) (σ1 : AS), i + k = n → (∀ j, j < i → AI σ1 13 c j = v) → arrX c σ σ1 → Ex (wp (d + 1)) m_J_fill Q 10 [some (vr 13 c), some (vi 0), some (vi (n : Nat)), some (vi v), some (vi (i : Nat))] [] σ1 := by
    intro k
    induction k with
    | zero =>
      intro i σ1 hi h1 h2
      refine x_iload i_J_fill_10 rfl ?_
      refine x_iload_n i_J_fill_12 rfl ?_
      refine x_icmp_ge_t i_J_fill_13 (by omega) ?_
      refine x_vret i_J_fill_27 rfl ?_
      exact kk σ1 (fun j hj => h1 j (by omega)) h2
    | succ k ih =>
      intro i σ1 hi h1 h2
      refine x_iload i_J_fill_10 rfl ?_
      refine x_iload_n i_J_fill_12 rfl ?_
      refine x_icmp_ge_f i_J_fill_13 (by omega) ?_
      refine x_aload_n i_J_fill_16 rfl ?_
      refine x_iload i_J_fill_17 rfl ?_
      refine x_iload_n i_J_fill_19 rfl ?_
      refine x_iastore i_J_fill_20 (k := i) rfl (by rw [h2.2.2.2.2.1]; omega) ?_
      refine x_iinc (ls' := [_, _, _, _, _]) i_J_fill_21 rfl (by omega) rfl ?_
      refine x_goto i_J_fill_24 ?_
      refine ih (i + 1) _ (by omega) (fun j hj => ?_) ⟨h2.1, h2.2.1, fun a b e hn => ?_, h2.2.2.2.1, h2.2.2.2.2.1, h2.2.2.2.2.2.1, h2.2.2.2.2.2.2.1, h2.2.2.2.2.2.2.2⟩
      · rw [AI_sAI]
        by_cases e : j = i
        · rw [if_pos ⟨rfl, rfl, e⟩]
        · rw [if_neg (fun q => e q.2.2)]; exact h1 j (by omega)
      · rw [AI_sAI, if_neg (fun q => hn ⟨q.1, q.2.1⟩)]; exact h2.2.2.1 a b e hn
  exact loop n 0 σ (by omega) (fun j hj => absurd hj (by omega)) (arrX.rf c σ)
theorem c_Row_fill (h : rowF σ r c cap n f) {k v : Int} {j : Nat} (hk : k = (j : Int)) (hj : j ≤ cap) (kk : ∀ σ', rowF σ' r c cap j (fun _ => v) → rowX r c σ σ' → Q none σ') : wp (d + 3) m_Row_fill [vr 6 r, vi k, vi v] σ Q := by
  obtain ⟨a1, a2, a3, a4, a5, a6⟩ := id h
  subst hk
  refine x_in (ls := [some _, some _, some _]) rfl rfl ?_
  refine x_iload_n i_Row_fill_0 rfl ?_
  refine x_if_lt_f i_Row_fill_1 (by omega) ?_
  refine x_iload_n i_Row_fill_4 rfl ?_
  refine x_aload_n i_Row_fill_5 rfl ?_
  refine x_getR (c2 := 13) i_Row_fill_6 rfl rfl (by assumption) ?_
  refine x_alen i_Row_fill_9 (by omega) ?_
  rw [a3]
  refine x_icmp_gt_f i_Row_fill_10 (by omega) ?_
  refine x_aload_n i_Row_fill_13 rfl ?_
  refine x_iload_n i_Row_fill_14 rfl ?_
  refine x_putI i_Row_fill_15 rfl rfl ?_
  refine x_aload_n i_Row_fill_18 rfl ?_
  refine x_getR (c2 := 13) i_Row_fill_19 rfl rfl (by assumption) ?_
  refine x_iconst i_Row_fill_22 ?_
  refine x_iload_n i_Row_fill_23 rfl ?_
  refine x_iload_n i_Row_fill_24 rfl ?_
  refine x_cs4 i_Row_fill_25 rfl rfl ?_
  refine c_fill (n := j) (by show LN σ 13 c ≤ _; omega) (by show _ ≤ LN σ 13 c; omega) (fun σ' g1 g2 => ?_)
  obtain ⟨b1, b2, b3, b4, b5, b6, b7, b8⟩ := g2
  refine x_vret i_Row_fill_28 rfl ?_
  refine kk σ' ⟨by rw [b2]; exact a1, ?_, by rw [b5]; exact a3, hj, a5, g1⟩ ⟨fun g a hg => ?_, by rw [b2]; rfl, fun x a i hn => by rw [b3 x a i hn]; rfl, by rw [b4]; rfl, by rw [b5]; rfl, by rw [b6]; rfl, by rw [b7]; rfl, by rw [b8]; rfl⟩
  · rw [b1, FI_sFI, if_pos ⟨rfl, rfl⟩]
  · rw [b1, FI_sFI, if_neg hg]
/-- a new Row, as its maker leaves it -/
def sRow (σ : AS) (r : Nat) (cap : Nat) : AS := sFR (nA (sFI σ 601 r 0) 13 cap) 600 r (some (CN σ 13))
theorem c_Row_init {cap : Nat} (hc : cap ≤ 100000) (kk : Q none (sRow σ r cap)) : wp (d + 1) m_Row_init [vr 6 r, vi (cap : Nat)] σ Q := by
  refine x_in (ls := [some _, some _]) rfl rfl ?_
  refine x_aload_n i_Row_init_0 rfl ?_
  refine x_objInit i_Row_init_1 rfl ?_
  refine x_aload_n i_Row_init_4 rfl ?_
  refine x_iconst i_Row_init_5 ?_
  refine x_putI i_Row_init_6 rfl rfl ?_
  refine x_aload_n i_Row_init_9 rfl ?_
  refine x_iload_n i_Row_init_10 rfl ?_
  refine x_if_ge_t i_Row_init_11 (by omega) ?_
  refine x_iload_n i_Row_init_18 rfl ?_
  refine x_newa i_Row_init_19 (k := cap) rfl hc ?_
  refine x_putO (c2 := 13) i_Row_init_21 rfl rfl ?_
  refine x_vret i_Row_init_24 rfl ?_
  exact kk
end


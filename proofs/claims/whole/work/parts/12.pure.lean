/-- what a step keeps: numbers in their range, references to what is there, counts that only grow -/
def Grow (σ σ' : AS) : Prop := CNle σ σ' ∧ nC σ ≤ nC σ' ∧ nS σ ≤ nS σ'
theorem Grow.rf (σ : AS) : Grow σ σ := ⟨fun _ => Nat.le_refl _, Nat.le_refl _, Nat.le_refl _⟩
theorem Grow.tr {a b c : AS} (h1 : Grow a b) (h2 : Grow b c) : Grow a c := ⟨fun k => Nat.le_trans (h1.1 k) (h2.1 k), Nat.le_trans h1.2.1 h2.2.1, Nat.le_trans h1.2.2 h2.2.2⟩
theorem okK_le {σ σ' : AS} (h : CNle σ σ') {st : List AV} (hv : okK σ st) : okK σ' st := fun v hm => okV_le h (hv v hm)
theorem okL_le {σ σ' : AS} (h : CNle σ σ') {ls : List (Option AV)} (hv : okL σ ls) : okL σ' ls := fun k v hm => okV_le h (hv k v hm)
theorem okK_cons {σ : AS} {v : AV} {st : List AV} : okK σ (v :: st) ↔ okV σ v ∧ okK σ st := by simp [okK]
theorem okK_nil {σ : AS} : okK σ [] := fun _ h => by cases h
section
variable {L : Nat} {xs : Nat → Int32} {σ : AS}
theorem okS_sFI (ok : okS L xs σ) {f a : Nat} {v : Int} (hv : InR v) : okS L xs (sFI σ f a v) := by
  obtain ⟨h1, h2⟩ := ok
  refine ⟨fun f' a' => ?_, h2⟩
  rw [FI_sFI]
  split
  · exact hv
  · exact h1 f' a'
theorem okS_sFR (ok : okS L xs σ) {f a : Nat} {v : Option Nat} (hv : ∀ r, v = some r → r < CN σ (fT f - 2)) : okS L xs (sFR σ f a v) := by
  obtain ⟨h1, h2, h3⟩ := ok
  refine ⟨h1, fun f' a' r h => ?_, h3⟩
  rw [FR_sFR] at h
  split at h
  · rename_i hc
    rw [hc.1]
    exact hv r h
  · exact h2 f' a' r h
theorem okS_sAI (ok : okS L xs σ) {c a k : Nat} {v : Int} (hv : InR v) (hc : c ≠ 18) : okS L xs (sAI σ c a k v) := by
  obtain ⟨h1, h2, h3, h4, h5, h6, h7, h8, h9⟩ := ok
  refine ⟨h1, h2, fun c' a' k' => ?_, h4, h5, h6, h7, h8, fun k' => ?_⟩
  · rw [AI_sAI]
    split
    · exact hv
    · exact h3 _ _ _
  · rw [AI_sAI, if_neg (fun e => hc e.1.symm)]
    exact h9 k'
theorem okS_sAR (ok : okS L xs σ) {c a k r : Nat} (hv : r < CN σ (eK c)) : okS L xs (sAR σ c a k (some r)) := by
  obtain ⟨h1, h2, h3, h4, h5⟩ := ok
  refine ⟨h1, h2, h3, fun c' a' k' r' h => ?_, h5⟩
  rw [AR_sAR] at h
  split at h
  · rename_i hc
    cases h
    rw [hc.1]
    exact hv
  · exact h4 _ _ _ _ h
theorem grow_nO (c : Nat) : Grow σ (nO σ c) := by
  refine ⟨fun c' => ?_, by rw [nC_nO]; omega, by rw [nS_nO]; omega⟩
  rw [CN_nO]
  split
  · rename_i h; subst h; omega
  · omega
theorem grow_nA (c n : Nat) : Grow σ (nA σ c n) := by
  refine ⟨fun c' => ?_, by rw [nC_nA]; omega, by rw [nS_nA]; omega⟩
  rw [CN_nA]
  split
  · rename_i h; subst h; omega
  · omega
theorem okS_nO (ok : okS L xs σ) {c : Nat} (hc : c < 12) : okS L xs (nO σ c) := by
  have hg := (grow_nO (σ := σ) c).1
  obtain ⟨h1, h2, h3, h4, h5, h6, h7, h8, h9⟩ := ok
  refine ⟨fun f a => ?_, fun f a r h => ?_, h3, fun c' a k r h => Nat.lt_of_lt_of_le (h4 _ _ _ _ h) (hg _), h5, fun c' h => ?_, ?_, h8, h9⟩
  · rw [FI_nO]
    split
    · exact inr_0
    · exact h1 _ _
  · rw [FR_nO] at h
    split at h
    · cases h
    · exact Nat.lt_of_lt_of_le (h2 _ _ _ h) (hg _)
  · rw [CN_nO] at h
    split at h
    · rename_i e; subst e; exact Or.inl hc
    · exact h6 _ h
  · rw [CN_nO, if_neg (by omega)]; exact h7
theorem okS_nA (ok : okS L xs σ) {c n : Nat} (hc : 13 ≤ c ∧ c < 18) (hn : n ≤ 100000) : okS L xs (nA σ c n) := by
  have hg := (grow_nA (σ := σ) c n).1
  obtain ⟨h1, h2, h3, h4, h5, h6, h7, h8, h9⟩ := ok
  refine ⟨h1, fun f a r h => Nat.lt_of_lt_of_le (h2 _ _ _ h) (hg _), fun c' a' k' => ?_, fun c' a k r h => ?_, fun c' a' => ?_, fun c' h => ?_, ?_, ?_, fun k' => ?_⟩
  · rw [AI_nA]
    split
    · exact inr_0
    · exact h3 _ _ _
  · rw [AR_nA] at h
    split at h
    · cases h
    · exact Nat.lt_of_lt_of_le (h4 _ _ _ _ h) (hg _)
  · rw [LN_nA]
    split
    · exact hn
    · exact h5 _ _
  · rw [CN_nA] at h
    split at h
    · rename_i e; subst e; exact Or.inr ⟨hc.1, by omega⟩
    · exact h6 _ h
  · rw [CN_nA, if_neg (by omega)]; exact h7
  · rw [LN_nA, if_neg (fun e => by omega)]; exact h8
  · rw [AI_nA, if_neg (fun e => by omega)]; exact h9 k'
theorem okS_nRows (k : Nat) (hk : k ≤ 100000) : ∀ {n : Nat} {σ : AS}, okS L xs σ → okS L xs (nRows σ n k) ∧ Grow σ (nRows σ n k)
  | 0, _, ok => ⟨ok, Grow.rf _⟩
  | n + 1, σ, ok => by
    obtain ⟨h1, h2⟩ := okS_nRows k hk (n := n) ok
    exact ⟨okS_nA h1 (by omega) hk, h2.tr (grow_nA _ _)⟩
theorem CN_nRows (k : Nat) : ∀ (n : Nat) (σ : AS) (c : Nat), CN (nRows σ n k) c = if c = 13 then CN σ 13 + n else CN σ c
  | 0, σ, c => by
    show CN σ c = _
    split
    · rename_i h; subst h; rfl
    · rfl
  | n + 1, σ, c => by
    show CN (nA (nRows σ n k) 13 k) c = _
    rw [CN_nA, CN_nRows k n σ 13, CN_nRows k n σ c]
    split
    · rw [if_pos rfl]; omega
    · rfl
theorem okS_nM (ok : okS L xs σ) {n k : Nat} (hn : n ≤ 100000) (hk : k ≤ 100000) : okS L xs (nM σ n k) ∧ Grow σ (nM σ n k) := by
  obtain ⟨h1, h2⟩ := okS_nRows k hk (n := n) (okS_nA (c := 17) ok (by omega) hn)
  have hcn := CN_nRows k n (nA σ 17 n) 13
  rw [if_pos rfl, CN_nA, if_neg (by omega)] at hcn
  refine ⟨?_, (grow_nA 17 n).tr h2⟩
  obtain ⟨a1, a2, a3, a4, a5⟩ := h1
  refine ⟨a1, a2, a3, fun c a j r h => ?_, a5⟩
  have hr : AR (nM σ n k) c a j = if c = 17 ∧ a = CN σ 17 ∧ j < n then some (CN σ 13 + j) else AR (nRows (nA σ 17 n) n k) c a j := rfl
  rw [hr] at h
  split at h
  · rename_i hc
    cases h
    rw [hc.1]
    show _ < CN (nRows (nA σ 17 n) n k) 13
    rw [hcn]
    omega
  · exact a4 _ _ _ _ h
theorem okV_nat {n : Nat} (h : n ≤ 100000) : okV σ (vi (n : Nat)) := inr_nat h
theorem okV_vi {n : Int} (h : InR n) : okV σ (vi n) := h
theorem okV_gF (ok : okS L xs σ) (f a : Nat) : okV σ (gF σ f a) := by
  unfold gF
  split
  · exact ok.1 _ _
  · exact fun r h => ok.2.1 _ _ _ h
theorem sC_le (k i : Nat) : sC k i ≤ 100000 := by
  have h : ∀ t ∈ sTx, ∀ b ∈ t, b ≤ 100000 := by decide +kernel
  unfold sC
  rw [List.getD_eq_getElem?_getD]
  cases hb : (sTx.getD k [])[i]? with
  | none => exact Nat.zero_le _
  | some b =>
    rw [List.getD_eq_getElem?_getD] at hb
    cases ht : sTx[k]? with
    | none => rw [ht] at hb; cases hb
    | some t =>
      rw [ht] at hb
      exact h t (List.mem_of_getElem? ht) b (List.mem_of_getElem? hb)
theorem sL_le (k : Nat) : sL k ≤ 100000 := by
  have h : ∀ t ∈ sTx, t.length ≤ 100000 := by decide +kernel
  unfold sL
  rw [List.getD_eq_getElem?_getD]
  cases ht : sTx[k]? with
  | none => exact Nat.zero_le _
  | some t => exact h t (List.mem_of_getElem? ht)
end
theorem lkB_mem {l : List (Nat × Nat × Nat × Nat)} {c i x : Nat} (h : lkB l c i x = true) : ∃ e ∈ l, e.1 = c ∧ e.2.1 = i ∧ e.2.2.1 = x := by
  obtain ⟨e, he, h⟩ := List.any_eq_true.mp h
  simp only [Bool.and_eq_true, Nat.beq_eq] at h
  exact ⟨e, he, h.1, h.2.1, h.2.2⟩
theorem lk3_mem {l : List (Nat × Nat × Nat × Nat × Bool)} {c i x : Nat} (h : lk3 l c i x = true) : ∃ e ∈ l, e.1 = c ∧ e.2.1 = i ∧ e.2.2.1 = x := by
  obtain ⟨e, he, h⟩ := List.any_eq_true.mp h
  simp only [Bool.and_eq_true, Nat.beq_eq] at h
  exact ⟨e, he, h.1, h.2.1, h.2.2⟩

/-! THE CLASS's Reader: ' ' and [ ] -/
def dnN (l : List (Nat × Nat)) (r : Nat) : Prop := ∃ p, (p, r) ∈ l
def itmS (σ : AS) (k : Nat) (names : List (Nat × Nat)) (b l8 : Nat) (it : Item (PT k)) : Prop := b < CN σ 4 ∧ itemG σ (dnN names) (altG σ (dnN names) k (b + 1) (CN σ 4) l8 (CN σ 8)) it b ∧ FR σ 406 b = none
def parPost (C : Nat → Nat) (t : TP) (st : RT) (opn k : Nat) (R : PR (Item (PT k))) (σ σ' : AS) (b : Nat) : Prop := rdX C σ σ' ∧ CN σ 4 ≤ b ∧ match R with
  | .inl p => RdF σ' C t p opn ∧ nC σ' ≤ nC σ + 4 * (t.1 + 1 - st.1) + 4 * k + 4
  | .inr x => RdS σ' C t x.2 opn ∧ itmS σ' k x.2.2.2 b (CN σ 8) x.1 ∧ nC σ' + 1 ≤ nC σ + 4 * (x.2.1 - st.1)
theorem itmS_atom {σ : AS} {k : Nat} {names : List (Nat × Nat)} {b l8 kind tt n : Nat} {lo hi : Int} {x y : PT k} (hb : b < CN σ 4) (hp : newP σ b kind (some tt)) (hk : kind ≤ 4) (h2 : FI σ 2 tt = (n : Int)) (h3 : FI σ 3 tt = lo) (h4 : FI σ 4 tt = hi) (hn : n < 32) (ht : tt < CN σ 0) : itmS σ k names b l8 (mkI kind n lo hi x y) := by
  obtain ⟨p1, p2, p3, p4, p5, p6, p7⟩ := hp
  refine ⟨hb, ⟨⟨p1, p2, by show kind ≤ 12; omega, Or.inl rfl, fun _ => ⟨tt, p4, h2, h3, h4, hn⟩, fun w => by have w : kind = 12 := w; omega, fun w => ?_, fun w => by have w : kind = 10 := w; omega⟩, fun _ t w => ?_, fun _ => p5⟩, p7⟩
  · have w : kind = 5 ∨ kind = 6 ∨ (8 ≤ kind ∧ kind ≤ 11) := w
    omega
  · rw [p4] at w
    injection w with w
    rw [← w]; exact ht
theorem atmR_set {σ : AS} {fa : Nat} {l : List AT} {rule p kind tt : Nat} {x y lo hi : Int} (h : atmR σ fa (l ++ [(rule, p, kind, x, y)])) (h1 : AR σ 15 fa l.length = some tt) (h2 : ∀ i, i < l.length → ∃ z, AR σ 15 fa i = some z ∧ z < tt) : atmR (sFI (sFI σ 3 tt lo) 4 tt hi) fa (l ++ [(rule, p, kind, lo, hi)]) := by
  intro i a hi
  by_cases w : i < l.length
  · rw [List.getElem?_append_left w] at hi
    obtain ⟨z, c1, c2, c3, c4, c5, c6⟩ := h i a (by rw [List.getElem?_append_left w]; exact hi)
    obtain ⟨z', d1, d2⟩ := h2 i w
    have ez : z' = z := by rw [c1] at d1; injection d1 with d1; exact d1.symm
    exact ⟨z, c1, c2, by simp [FI_sFI]; exact c3, by simp [FI_sFI]; exact c4, by rw [FI_sFI, if_neg (by omega), FI_sFI, if_neg (by omega)]; exact c5, by rw [FI_sFI, if_neg (by omega), FI_sFI, if_neg (by omega)]; exact c6⟩
  · have hlt := (List.getElem?_eq_some_iff.mp hi).1
    simp at hlt
    have ei : i = l.length := by omega
    subst ei
    obtain ⟨z, c1, c2, c3, c4, c5, c6⟩ := h l.length (rule, p, kind, x, y) (by simp)
    have ez : z = tt := by rw [c1] at h1; injection h1
    subst ez
    simp at hi
    subst hi
    exact ⟨z, c1, c2, by simp [FI_sFI]; exact c3, by simp [FI_sFI]; exact c4, by simp [FI_sFI], by simp [FI_sFI]⟩
section
variable {d : Nat} {Q : AQ} {σ : AS} {C : Nat → Nat} {t : TP} {st : RT} {opn : Nat}
theorem c_G_addQuoted {n : Nat} {f : Nat → Int} {v : Int} {g rq cq : Nat} (q7 : FR σ 103 g = some rq) (r : rowF σ rq cq 32 n f) (kk : ∀ σ' n' f', (n < 32 → n' = n + 1 ∧ f' = up f n v) → rowF σ' rq cq 32 n' f' → rowX rq cq σ σ' → Q none σ') : wp (d + 2) m_Grammar_addQuoted [vr 1 g, vi v] σ Q := by
  refine x_in (ls := [some _, some _]) rfl rfl ?_
  refine x_aload_n i_Grammar_addQuoted_0 rfl ?_
  refine x_getR (c2 := 6) i_Grammar_addQuoted_1 rfl rfl (by assumption) ?_
  refine x_iload_n i_Grammar_addQuoted_4 rfl ?_
  by_cases w : n < 32
  · refine x_cv1 i_Grammar_addQuoted_5 rfl rfl rfl ?_
    refine c_add r w (fun σ' y x => ?_)
    refine x_vret i_Grammar_addQuoted_8 rfl ?_
    exact kk σ' (n + 1) _ (fun _ => ⟨rfl, rfl⟩) y x
  · obtain ⟨a1, a2, a3, a4, a5, a6⟩ := id r
    have full : wp (d + 1) m_Row_add [vr 6 rq, vi v] σ (fun r u => Ex (wp (d + 1)) m_Grammar_addQuoted Q 8 [some (vr 1 g), some (vi v)] (r.toList ++ []) u) := by
      refine x_in (ls := [some _, some _]) rfl rfl ?_
      refine x_aload_n i_Row_add_0 rfl ?_
      refine x_getI i_Row_add_1 rfl rfl ?_
      rw [a2]
      refine x_if_lt_f i_Row_add_4 (by omega) ?_
      refine x_aload_n i_Row_add_7 rfl ?_
      refine x_getI i_Row_add_8 rfl rfl ?_
      refine x_aload_n i_Row_add_11 rfl ?_
      refine x_getR (c2 := 13) i_Row_add_12 rfl rfl (by assumption) ?_
      refine x_alen i_Row_add_15 (by omega) ?_
      rw [a2, a3]
      refine x_icmp_ge_t i_Row_add_16 (by omega) ?_
      refine x_vret i_Row_add_39 rfl ?_
      skip
      have := kk σ n f (fun q => absurd q w) r (rowX.rf _ _ _)
      refine x_vret i_Grammar_addQuoted_8 rfl ?_
      exact this
    refine x_cv1 i_Grammar_addQuoted_5 rfl rfl rfl ?_
    refine full
end


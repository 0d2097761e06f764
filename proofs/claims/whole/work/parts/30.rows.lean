/-! ROWS -/
/-- Row r: its cells are the numbers' array c, cap long; n of them are used, as f has them -/
def rowF (σ : AS) (r c cap n : Nat) (f : Nat → Int) : Prop := FR σ 600 r = some c ∧ FI σ 601 r = (n : Int) ∧ LN σ 13 c = cap ∧ n ≤ cap ∧ cap ≤ 100000 ∧ ∀ k, k < n → AI σ 13 c k = f k
/-- all but Row r's size and the array c stays -/
def rowX (r c : Nat) (σ σ' : AS) : Prop := (∀ f a, ¬ (f = 601 ∧ a = r) → FI σ' f a = FI σ f a) ∧ FR σ' = FR σ ∧ (∀ k a j, ¬ (k = 13 ∧ a = c) → AI σ' k a j = AI σ k a j) ∧ AR σ' = AR σ ∧ LN σ' = LN σ ∧ CN σ' = CN σ ∧ nC σ' = nC σ ∧ nS σ' = nS σ
theorem rowX.rf (r c : Nat) (σ : AS) : rowX r c σ σ := ⟨fun _ _ _ => rfl, rfl, fun _ _ _ _ => rfl, rfl, rfl, rfl, rfl, rfl⟩
def up (f : Nat → Int) (k : Nat) (v : Int) : Nat → Int := fun j => if j = k then v else f j
theorem up_eq (f : Nat → Int) (k : Nat) (v : Int) : up f k v k = v := if_pos rfl
theorem up_ne {f : Nat → Int} {k j : Nat} {v : Int} (h : j ≠ k) : up f k v j = f j := if_neg h
theorem rowF.keep {σ σ' : AS} {r c r2 c2 cap n : Nat} {f : Nat → Int} (h : rowF σ r2 c2 cap n f) (hx : rowX r c σ σ') (h1 : r2 ≠ r) (h2 : c2 ≠ c) : rowF σ' r2 c2 cap n f := by
  obtain ⟨a1, a2, a3, a4, a5, a6⟩ := h
  obtain ⟨b1, b2, b3, b4, b5, b6⟩ := hx
  exact ⟨by rw [b2]; exact a1, by rw [b1 _ _ (fun q => h1 q.2)]; exact a2, by rw [b5]; exact a3, a4, a5, fun k hk => by rw [b3 _ _ _ (fun q => h2 q.2)]; exact a6 k hk⟩
section
variable {d : Nat} {Q : AQ} {σ : AS} {r c cap n : Nat} {f : Nat → Int}
theorem c_Row_size (h : rowF σ r c cap n f) (kk : Q (some (vi n)) σ) : wp (d + 1) m_Row_size [vr 6 r] σ Q := by
  obtain ⟨a1, a2, a3, a4, a5, a6⟩ := h
  refine x_in (ls := [some _]) rfl rfl ?_
  refine x_aload_n i_Row_size_0 rfl ?_
  refine x_getI i_Row_size_1 rfl rfl ?_
  rw [a2]
  refine x_iret i_Row_size_4 rfl ?_
  exact kk
theorem c_at_in (h : rowF σ r c cap n f) {k : Int} {j : Nat} (hk : k = (j : Int)) (hj : j < n) (kk : Q (some (vi (f j))) σ) : wp (d + 2) m_Row_at [vr 6 r, vi k] σ Q := by
  obtain ⟨a1, a2, a3, a4, a5, a6⟩ := id h
  refine x_in (ls := [some _, some _]) rfl rfl ?_
  refine x_iload_n i_Row_at_0 rfl ?_
  refine x_if_lt_f i_Row_at_1 (by omega) ?_
  refine x_iload_n i_Row_at_4 rfl ?_
  refine x_aload_n i_Row_at_5 rfl ?_
  refine x_getI i_Row_at_6 rfl rfl ?_
  rw [a2]
  refine x_icmp_ge_f i_Row_at_9 (by omega) ?_
  refine x_iload_n i_Row_at_12 rfl ?_
  refine x_aload_n i_Row_at_13 rfl ?_
  refine x_getR (c2 := 13) i_Row_at_14 rfl rfl (by assumption) ?_
  refine x_alen i_Row_at_17 (by omega) ?_
  rw [a3]
  refine x_icmp_ge_f i_Row_at_18 (by omega) ?_
  refine x_aload_n i_Row_at_21 rfl ?_
  refine x_getR (c2 := 13) i_Row_at_22 rfl rfl (by assumption) ?_
  refine x_iload_n i_Row_at_25 rfl ?_
  refine x_iaload i_Row_at_26 (k := j) (by omega) (by omega) ?_
  rw [a6 j hj]
  refine x_goto i_Row_at_27 ?_
  refine x_iret i_Row_at_31 rfl ?_
  exact kk
theorem c_at_out (h : rowF σ r c cap n f) {k : Int} (hk : k < 0 ∨ (n : Int) ≤ k) (kk : Q (some (vi (-1))) σ) : wp (d + 2) m_Row_at [vr 6 r, vi k] σ Q := by
  obtain ⟨a1, a2, a3, a4, a5, a6⟩ := id h
  refine x_in (ls := [some _, some _]) rfl rfl ?_
  refine x_iload_n i_Row_at_0 rfl ?_
  refine x_if_lt i_Row_at_1 (fun h1 => ?_) (fun h1 => ?_)
  · refine x_iconst i_Row_at_30 ?_
    refine x_iret i_Row_at_31 rfl ?_
    exact kk
  · refine x_iload_n i_Row_at_4 rfl ?_
    refine x_aload_n i_Row_at_5 rfl ?_
    refine x_getI i_Row_at_6 rfl rfl ?_
    rw [a2]
    refine x_icmp_ge_t i_Row_at_9 (by omega) ?_
    refine x_iconst i_Row_at_30 ?_
    refine x_iret i_Row_at_31 rfl ?_
    exact kk
/-- what at answers -/
def rAt (n : Nat) (f : Nat → Int) (k : Int) : Int := if 0 ≤ k ∧ k < n then f k.toNat else -1
theorem c_at (h : rowF σ r c cap n f) {k : Int} (kk : Q (some (vi (rAt n f k))) σ) : wp (d + 2) m_Row_at [vr 6 r, vi k] σ Q := by
  by_cases hk : 0 ≤ k ∧ k < n
  · refine c_at_in h (j := k.toNat) (by omega) (by omega) ?_
    rw [rAt, if_pos hk] at kk
    exact kk
  · refine c_at_out h (by omega) ?_
    rw [rAt, if_neg hk] at kk
    exact kk
theorem c_put (h : rowF σ r c cap n f) {k v : Int} {j : Nat} (hk : k = (j : Int)) (hj : j < n) (kk : ∀ σ', rowF σ' r c cap n (up f j v) → rowX r c σ σ' → FI σ' 601 r = FI σ 601 r → Q none σ') : wp (d + 2) m_Row_put [vr 6 r, vi k, vi v] σ Q := by
  obtain ⟨a1, a2, a3, a4, a5, a6⟩ := id h
  refine x_in (ls := [some _, some _, some _]) rfl rfl ?_
  refine x_iload_n i_Row_put_0 rfl ?_
  refine x_if_lt_f i_Row_put_1 (by omega) ?_
  refine x_iload_n i_Row_put_4 rfl ?_
  refine x_aload_n i_Row_put_5 rfl ?_
  refine x_getI i_Row_put_6 rfl rfl ?_
  rw [a2]
  refine x_icmp_ge_f i_Row_put_9 (by omega) ?_
  refine x_iload_n i_Row_put_12 rfl ?_
  refine x_aload_n i_Row_put_13 rfl ?_
  refine x_getR (c2 := 13) i_Row_put_14 rfl rfl (by assumption) ?_
  refine x_alen i_Row_put_17 (by omega) ?_
  rw [a3]
  refine x_icmp_ge_f i_Row_put_18 (by omega) ?_
  refine x_aload_n i_Row_put_21 rfl ?_
  refine x_getR (c2 := 13) i_Row_put_22 rfl rfl (by assumption) ?_
  refine x_iload_n i_Row_put_25 rfl ?_
  refine x_iload_n i_Row_put_26 rfl ?_
  refine x_iastore i_Row_put_27 (k := j) (by omega) (by omega) ?_
  refine x_vret i_Row_put_28 rfl ?_
  refine kk _ ⟨a1, a2, a3, a4, a5, fun k hk => ?_⟩ ⟨fun _ _ _ => rfl, rfl, fun k a i hn => ?_, rfl, rfl, rfl, rfl, rfl⟩ rfl
  · rw [AI_sAI, up]
    by_cases e : k = j
    · rw [if_pos ⟨rfl, rfl, e⟩, if_pos e]
    · rw [if_neg (fun q => e q.2.2), if_neg e, a6 k hk]
  · rw [AI_sAI, if_neg (fun q => hn ⟨q.1, q.2.1⟩)]
theorem c_add (h : rowF σ r c cap n f) (hn : n < cap) {v : Int} (kk : ∀ σ', rowF σ' r c cap (n + 1) (up f n v) → rowX r c σ σ' → Q none σ') : wp (d + 1) m_Row_add [vr 6 r, vi v] σ Q := by
  obtain ⟨a1, a2, a3, a4, a5, a6⟩ := id h
  refine x_in (ls := [some _, some _]) rfl rfl ?_
  refine x_aload_n i_Row_add_0 rfl ?_
  refine x_getI i_Row_add_1 rfl rfl ?_
  rw [a2]
  refine x_if_lt_f i_Row_add_4 (by omega) ?_
  refine x_aload_n i_Row_add_7 rfl ?_
  refine x_getI i_Row_add_8 rfl rfl ?_
  refine x_aload_n i_Row_add_11 rfl ?_
  refine x_getR (c2 := 13) i_Row_add_12 rfl rfl (by assumption) ?_
  refine x_alen i_Row_add_15 (by omega) ?_
  rw [a2, a3]
  refine x_icmp_ge_f i_Row_add_16 (by omega) ?_
  refine x_aload_n i_Row_add_19 rfl ?_
  refine x_getR (c2 := 13) i_Row_add_20 rfl rfl (by assumption) ?_
  refine x_aload_n i_Row_add_23 rfl ?_
  refine x_getI i_Row_add_24 rfl rfl ?_
  rw [a2]
  refine x_iload_n i_Row_add_27 rfl ?_
  refine x_iastore i_Row_add_28 (k := n) rfl (by omega) ?_
  refine x_aload_n i_Row_add_29 rfl ?_
  refine x_dup i_Row_add_30 ?_
  refine x_getI i_Row_add_31 rfl rfl ?_
  rw [show FI (sAI σ 13 c n v) 601 r = (n : Int) from a2]
  refine x_iconst i_Row_add_34 ?_
  refine x_iadd i_Row_add_35 (by omega) ?_
  refine x_putI i_Row_add_36 rfl rfl ?_
  refine x_vret i_Row_add_39 rfl ?_
  refine kk _ ⟨a1, ?_, a3, by omega, a5, fun k hk => ?_⟩ ⟨fun g a hg => ?_, rfl, fun k a i hn => ?_, rfl, rfl, rfl, rfl, rfl⟩
  · rw [FI_sFI, if_pos ⟨rfl, rfl⟩]; omega
  · rw [AI_sFI, AI_sAI, up]
    by_cases e : k = n
    · rw [if_pos ⟨rfl, rfl, e⟩, if_pos e]
    · rw [if_neg (fun q => e q.2.2), if_neg e, a6 k (by omega)]
  · rw [FI_sFI, if_neg hg]; rfl
  · rw [AI_sFI, AI_sAI, if_neg (fun q => hn ⟨q.1, q.2.1⟩)]
theorem c_shrink (h : rowF σ r c cap n f) {k : Int} {j : Nat} (hk : k = (j : Int)) (hj : j ≤ n) (kk : ∀ σ', rowF σ' r c cap j f → rowX r c σ σ' → Q none σ') : wp (d + 1) m_Row_shrink [vr 6 r, vi k] σ Q := by
  obtain ⟨a1, a2, a3, a4, a5, a6⟩ := id h
  refine x_in (ls := [some _, some _]) rfl rfl ?_
  refine x_iload_n i_Row_shrink_0 rfl ?_
  refine x_if_lt_f i_Row_shrink_1 (by omega) ?_
  refine x_iload_n i_Row_shrink_4 rfl ?_
  refine x_aload_n i_Row_shrink_5 rfl ?_
  refine x_getI i_Row_shrink_6 rfl rfl ?_
  rw [a2]
  refine x_icmp_ge i_Row_shrink_9 (fun h1 => ?_) (fun h1 => ?_)
  · have e : j = n := by omega
    refine x_vret i_Row_shrink_17 rfl ?_
    exact kk _ (by rw [e]; exact h) (rowX.rf r c σ)
  · refine x_aload_n i_Row_shrink_12 rfl ?_
    refine x_iload_n i_Row_shrink_13 rfl ?_
    refine x_putI i_Row_shrink_14 rfl rfl ?_
    refine x_vret i_Row_shrink_17 rfl ?_
    refine kk _ ⟨a1, ?_, a3, by omega, a5, fun k hk => a6 k (by omega)⟩ ⟨fun g a hg => ?_, rfl, fun k a i hn => rfl, rfl, rfl, rfl, rfl, rfl⟩
    · rw [FI_sFI, if_pos ⟨rfl, rfl⟩]; omega
    · rw [FI_sFI, if_neg hg]
end


/-! THE CLASS's May: find -/
def rowH (σ : AS) (rh ch : Nat) (H : Nat → Nat → Bool) : Prop := ∃ f, rowF σ rh ch 8 8 f ∧ ∀ r, r < 8 → bN (f r) (H r)
theorem rowXtr {r c : Nat} {a b e : AS} (h : rowX r c a b) (g : rowX r c b e) : rowX r c a e := by
  obtain ⟨h1, h2, h3, h4, h5, h6, h7, h8⟩ := h
  obtain ⟨g1, g2, g3, g4, g5, g6, g7, g8⟩ := g
  exact ⟨fun f x w => by rw [g1 f x w, h1 f x w], by rw [g2, h2], fun k x j w => by rw [g3 k x j w, h3 k x j w], by rw [g4, h4], by rw [g5, h5], by rw [g6, h6], by rw [g7, h7], by rw [g8, h8]⟩
def myX (g rh ch : Nat) (σ σ' : AS) : Prop := (∀ f a, ¬ ((f = 106 ∨ f = 107) ∧ a = g) → ¬ (f = 601 ∧ a = rh) → FI σ' f a = FI σ f a) ∧ FR σ' = FR σ ∧ (∀ k a j, ¬ (k = 13 ∧ a = ch) → AI σ' k a j = AI σ k a j) ∧ AR σ' = AR σ ∧ LN σ' = LN σ ∧ CN σ' = CN σ ∧ nC σ' = nC σ ∧ nS σ' = nS σ
theorem myX.rf (g rh ch : Nat) (σ : AS) : myX g rh ch σ σ := ⟨fun _ _ _ _ => rfl, rfl, fun _ _ _ _ => rfl, rfl, rfl, rfl, rfl, rfl⟩
theorem myX.tr {g rh ch : Nat} {a b c : AS} (h : myX g rh ch a b) (k : myX g rh ch b c) : myX g rh ch a c := by
  obtain ⟨h1, h2, h3, h4, h5, h6, h7, h8⟩ := h
  obtain ⟨g1, g2, g3, g4, g5, g6, g7, g8⟩ := k
  exact ⟨fun f x w1 w2 => by rw [g1 f x w1 w2, h1 f x w1 w2], by rw [g2, h2], fun k x j w => by rw [g3 k x j w, h3 k x j w], by rw [g4, h4], by rw [g5, h5], by rw [g6, h6], by rw [g7, h7], by rw [g8, h8]⟩
theorem rowX.my {g rh ch : Nat} {σ σ' : AS} (h : rowX rh ch σ σ') : myX g rh ch σ σ' := ⟨fun f a _ w => h.1 f a w, h.2⟩
theorem myX_sFI {g rh ch : Nat} {σ : AS} {f : Nat} {v : Int} (w : f = 106 ∨ f = 107) : myX g rh ch σ (sFI σ f g v) := ⟨fun f' a w1 _ => by rw [FI_sFI, if_neg (fun q => by obtain ⟨rfl, rfl⟩ := q; exact w1 ⟨w, rfl⟩)], rfl, fun _ _ _ _ => rfl, rfl, rfl, rfl, rfl, rfl⟩
theorem myX.pso {g rh ch : Nat} {σ σ' : AS} (h : myX g rh ch σ σ') : psoX σ σ' := ⟨fun f a w _ => ⟨h.1 f a (fun q => by omega) (fun q => by omega), by rw [h.2.1]⟩, fun k _ => by rw [h.2.2.2.2.2.1]; exact Nat.le_refl _⟩
section
variable {d : Nat} {Q : AQ} {σ : AS} {m g b rh ch : Nat} {N : Nat → Bool} {dn : Nat → Prop} {R : Nat → Option (PT 9)}
/-- the rules' bodies -/
def bodsR (σ : AS) (b : Nat) (dn : Nat → Prop) (R : Nat → Option (PT 9)) : Prop := LN σ 16 b = 8 ∧ ∀ r, r < 8 → bodG σ dn (R r) (AR σ 16 b r)
theorem bodsR.my {σ' : AS} (h : bodsR σ b dn R) (hx : myX g rh ch σ σ') : bodsR σ' b dn R := ⟨by rw [hx.2.2.2.2.1]; exact h.1, fun r hr => by rw [hx.2.2.2.1]; exact (h.2 r hr).mono hx.pso (fun r w => w)⟩
theorem c_May_ru (hm : mayR σ m g N) (h : bodsR σ b dn R) {r : Nat} (hr : r < 8) (kk : Q (some (vi (bI (ruNo R N r)))) σ) : wp (d + 40) m_May_altNothing [vr 3 m, vo 8 (AR σ 16 b r)] σ Q := by
  have hb := h.2 r hr
  unfold ruNo at kk
  revert hb kk
  cases R r with
  | none =>
    intro kk hb
    have hb : AR σ 16 b r = none := hb
    rw [hb]
    refine x_in (ls := [some _, some _, none]) rfl rfl ?_
    refine x_aload_n i_May_altNothing_0 rfl ?_
    refine x_astore_n (ls' := [_, _, _]) i_May_altNothing_1 rfl rfl ?_
    refine x_aload_n i_May_altNothing_2 rfl ?_
    refine x_ifnull_t i_May_altNothing_3 rfl ?_
    refine x_iconst i_May_altNothing_24 ?_
    refine x_zret i_May_altNothing_25 rfl (by omega) ?_
    exact kk
  | some alt =>
    intro kk hb
    exact c_May_no hm 9 _ _ _ _ _ (by omega) alt _ Q hb.2 kk
theorem c_May_hu (hm : mayR σ m g N) (h : bodsR σ b dn R) {r : Nat} (hr : r < 8) (kk : ∀ z, bN z (fun q => match R r with | none => false | some alt => altHd N 9 alt q) → Q (some (vi z)) σ) : wp (d + 40) m_May_altHeads [vr 3 m, vo 8 (AR σ 16 b r)] σ Q := by
  have hb := h.2 r hr
  revert hb kk
  cases R r with
  | none =>
    intro kk hb
    have hb : AR σ 16 b r = none := hb
    rw [hb]
    exact c_May_hd0 (kk 0 bN_0)
  | some alt =>
    intro kk hb
    exact c_May_hd hm 9 _ _ _ _ _ (by omega) alt _ Q hb.2 kk
theorem c_May_join {H : Nat → Nat → Bool} (h3 : FR σ 301 m = some rh) (h : rowH σ rh ch H) {n : Nat} (hn : n < 8) (kk : ∀ σ', rowX rh ch σ σ' → rowH σ' rh ch (fun r q => H r q || (H r n && H n q)) → Q none σ') : wp (d + 3) m_May_join [vr 3 m, vi (n : Nat)] σ Q := by
  have loop : ∀ (k i : Nat) (σ1 : AS), i + k = 8 → rowX rh ch σ σ1 → (∃ f, rowF σ1 rh ch 8 8 f ∧ ∀ r, r < 8 → bN (f r) (if r < i then fun q => H r q || (H r n && H n q) else H r)) → Ex (wp (d + 2)) m_May_join Q 2 [some (vr 3 m), some (vi (n : Nat)), some (vi (i : Nat)), none] [] σ1 := by
    intro k
    induction k with
    | zero =>
      intro i σ1 hi hx ⟨f, hf, hb⟩
      refine x_iload_n i_May_join_2 rfl ?_
      refine x_bipush i_May_join_3 ?_
      refine x_icmp_ge_t i_May_join_5 (by omega) ?_
      refine x_vret i_May_join_50 rfl ?_
      refine kk σ1 hx ⟨f, hf, fun r hr => ?_⟩
      have := hb r hr
      rw [if_pos (by omega)] at this
      exact this
    | succ k ih =>
      intro i σ1 hi hx ⟨f, hf, hb⟩
      have h3' : FR σ1 301 m = some rh := by rw [hx.2.1]; exact h3
      have hi8 : i < 8 := by omega
      have bi : bN (f i) (H i) := by have := hb i hi8; rw [if_neg (by omega)] at this; exact this
      have bn : bN (f n) (H n) := by
        have := hb n hn
        split at this
        · exact this.cg (fun q _ => by cases H n q <;> cases H n n <;> rfl)
        · exact this
      have next : ∀ (σ2 : AS) (f' : Nat → Int), rowX rh ch σ1 σ2 → rowF σ2 rh ch 8 8 f' → (∀ r, r ≠ i → f' r = f r) → bN (f' i) (fun q => H i q || (H i n && H n q)) → Ex (wp (d + 2)) m_May_join Q 44 [some (vr 3 m), some (vi (n : Nat)), some (vi (i : Nat)), some (vi (f i))] [] σ2 := by
        intro σ2 f' hx2 hf2 e1 e2
        refine x_iinc (ls' := [_, _, _, _]) i_May_join_44 rfl (by omega) rfl ?_
        refine x_goto i_May_join_47 ?_
        refine Ex.weak (ls := [_, _, _, none]) ⟨Or.inr rfl, Or.inr rfl, Or.inr rfl, Or.inl rfl, trivial⟩ ?_
        refine ih (i + 1) σ2 (by omega) (rowXtr hx hx2) ⟨f', hf2, fun r hr => ?_⟩
        by_cases w : r = i
        · subst w
          rw [if_pos (Nat.lt_succ_self _)]
          exact e2
        · rw [e1 r w]
          have := hb r hr
          by_cases w2 : r < i
          · rw [if_pos w2] at this; rw [if_pos (by omega)]; exact this
          · rw [if_neg w2] at this; rw [if_neg (by omega)]; exact this
      refine x_iload_n i_May_join_2 rfl ?_
      refine x_bipush i_May_join_3 ?_
      refine x_icmp_ge_f i_May_join_5 (by omega) ?_
      refine x_aload_n i_May_join_8 rfl ?_
      refine x_getR (c2 := 6) i_May_join_9 rfl rfl (by assumption) ?_
      refine x_iload_n i_May_join_12 rfl ?_
      refine x_cv1 i_May_join_13 rfl rfl rfl ?_
      refine c_at_in hf (j := i) rfl hi8 ?_
      refine x_istore_n (ls' := [_, _, _, _]) i_May_join_16 rfl rfl ?_
      refine x_iload_n i_May_join_17 rfl ?_
      refine x_iload_n i_May_join_18 rfl ?_
      refine x_iushr i_May_join_19 ?_
      refine x_iconst i_May_join_20 ?_
      refine x_iand i_May_join_21 ?_
      refine x_iconst i_May_join_22 ?_
      rw [bN_bit bi hn]
      cases hh : H i n with
      | false =>
        refine x_icmp_ne_t i_May_join_23 (by decide) ?_
        exact next σ1 f (rowX.rf _ _ _) hf (fun _ _ => rfl) (bi.cg (fun q _ => by rw [hh]; simp))
      | true =>
        refine x_icmp_ne_f i_May_join_23 rfl ?_
        refine x_aload_n i_May_join_26 rfl ?_
        refine x_getR (c2 := 6) i_May_join_27 rfl rfl (by assumption) ?_
        refine x_iload_n i_May_join_30 rfl ?_
        refine x_iload_n i_May_join_31 rfl ?_
        refine x_aload_n i_May_join_32 rfl ?_
        refine x_getR (c2 := 6) i_May_join_33 rfl rfl (by assumption) ?_
        refine x_iload_n i_May_join_36 rfl ?_
        refine x_cv1 i_May_join_37 rfl rfl rfl ?_
        refine c_at_in hf (j := n) rfl hn ?_
        refine x_ior i_May_join_40 ?_
        refine x_cv2 i_May_join_41 rfl rfl rfl ?_
        refine c_put hf (j := i) rfl hi8 (fun σ2 y2 x2 _ => ?_)
        refine next σ2 _ x2 y2 (fun r w => up_ne w) ?_
        rw [up_eq]
        exact (bN_or bi bn).cg (fun q _ => by rw [hh]; simp)
  obtain ⟨f, hf, hb⟩ := h
  refine x_in (ls := [some _, some _, none, none]) rfl rfl ?_
  refine x_iconst i_May_join_0 ?_
  refine x_istore_n (ls' := [_, _, _, _]) i_May_join_1 rfl rfl ?_
  exact loop 8 0 σ rfl (rowX.rf _ _ _) ⟨f, hf, fun r hr => by rw [if_neg (by omega)]; exact hb r hr⟩
end


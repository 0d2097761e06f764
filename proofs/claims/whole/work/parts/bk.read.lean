/-! THE CLASS's Reader: all rules; a name without rule -/
theorem rulP_names {t : TP} (ht : tpOK t) {R : Nat → Option (PT 9)} {st : RT} (h : okT t st) {x : (Nat → Option (PT 9)) × RT} (hx : rulP t R st = .inr x) : st.1 < x.2.1 ∧ okT t x.2 ∧ exN st.1 x.2.1 st.2.2 x.2.2.2 := by
  unfold rulP at hx
  split at hx
  · rename_i w
    have hn := isNm_in w.1
    have tk := advW.tok (rule := (chT t st.1 - 65).toNat) h (c := chT t st.1) rfl (by omega)
    simp only [] at hx
    split at hx
    · rename_i w2
      have tk2 := advW.tok (rule := (chT t st.1 - 65).toNat) tk.2.ok (c := 61) w2 (by decide)
      have av := adv_D ht (rule := (chT t st.1 - 65).toNat) 8 _ tk2.2.ok
      simp only [] at av
      revert hx av
      generalize altD t _ 8 _ = RR
      cases RR with
      | inl q => intro hx; cases hx
      | inr y =>
        intro hx av
        have av : advI t _ _ y.2 := av
        simp only [] at hx
        split at hx
        · rename_i w3
          have tk4 := advW.tok (rule := (chT t st.1 - 65).toNat) av.2.ok w3 (by decide)
          injection hx with hx
          subst hx
          have all := ((tk.2.tr tk2.2).tr av.2).tr tk4.2
          have l1 := tk.1
          have l2 := (tk2.2.tr (av.2.tr tk4.2)).1
          have l3 : st.1 < sk t (y.2.1 + 1) := Nat.lt_of_lt_of_le l1 l2
          exact ⟨l3, all.ok, all.2.2.2.2.1⟩
        · cases hx
    · cases hx
  · cases hx
theorem rulLP_names {t : TP} (ht : tpOK t) : ∀ (f : Nat) (R : Nat → Option (PT 9)) (st : RT), okT t st → ∀ x, rulLP t f R st = .inr x → st.1 ≤ x.2.1 ∧ okT t x.2 ∧ exN st.1 x.2.1 st.2.2 x.2.2.2
  | 0, R, st, h, x, hx => by
    injection hx with hx
    subst hx
    exact ⟨Nat.le_refl _, h, exN.rf _ _ _⟩
  | f + 1, R, st, h, x, hx => by
    simp only [rulLP] at hx
    split at hx
    · cases hr : rulP t R st with
      | inl p => rw [hr] at hx; cases hx
      | inr y =>
        rw [hr] at hx
        obtain ⟨a1, a2, a3⟩ := rulP_names ht h hr
        obtain ⟨b1, b2, b3⟩ := rulLP_names ht f y.1 y.2 a2 x hx
        exact ⟨by omega, b2, a3.tr b3 (by omega) b1⟩
    · injection hx with hx
      subst hx
      exact ⟨Nat.le_refl _, h, exN.rf _ _ _⟩
/-- the first place of an unknown name, so far -/
def unkS (f : Nat → Int) (u : Nat → Prop) (n : Nat) (m : Int) : Prop := (m = -1 ∧ ∀ r, r < n → f r ≠ -1 → ¬ u r) ∨ (m ≠ -1 ∧ (∃ r, r < n ∧ m = f r ∧ u r) ∧ ∀ r, r < n → f r ≠ -1 → u r → m ≤ f r)
theorem unkS.skip {f : Nat → Int} {u : Nat → Prop} {n : Nat} {m : Int} (h : unkS f u n m) (w : f n ≠ -1 → u n → m ≠ -1 ∧ m ≤ f n) : unkS f u (n + 1) m := by
  rcases h with ⟨h1, h2⟩ | ⟨h1, ⟨r, h2, h3, h4⟩, h5⟩
  · refine Or.inl ⟨h1, fun r hr hf hu => ?_⟩
    by_cases e : r = n
    · subst e; exact (w hf hu).1 h1
    · exact h2 r (by omega) hf hu
  · refine Or.inr ⟨h1, ⟨r, by omega, h3, h4⟩, fun r' hr hf hu => ?_⟩
    by_cases e : r' = n
    · subst e; exact (w hf hu).2
    · exact h5 r' (by omega) hf hu
theorem unkS.take {f : Nat → Int} {u : Nat → Prop} {n : Nat} {m : Int} (h : unkS f u n m) (w : f n ≠ -1) (hu : u n) (hm : m = -1 ∨ f n < m) : unkS f u (n + 1) (f n) := by
  refine Or.inr ⟨w, ⟨n, Nat.lt_succ_self _, rfl, hu⟩, fun r hr hf hu' => ?_⟩
  by_cases e : r = n
  · subst e; exact Int.le_refl _
  · rcases h with ⟨h1, h2⟩ | ⟨h1, h2, h3⟩
    · exact absurd hu' (h2 r (by omega) hf)
    · have := h3 r (by omega) hf hu'
      omega
section
variable {d : Nat} {Q : AQ} {σ : AS} {C : Nat → Nat} {t : TP} {st : RT}
theorem c_Rd_unknown {f : Nat → Int} (hK : RdK σ C t) (h8 : rowF σ (C 8) (C 9) 8 8 f) (kk : ∀ m, unkS f (fun r => AR σ 16 (C 2) r = none) 8 m → (m = -1 → Q none σ) ∧ (m ≠ -1 → wp (d + 2) m_Reader_fail [vr 5 (C 0), vi m] σ (fun r u => r = none ∧ Q none u))) : wp (d + 3) m_Reader_findUnknownName [vr 5 (C 0)] σ Q := by
  obtain ⟨-, -, -, -, ⟨q1, q2, q3, q4, q5, q6, q7⟩, l1, l2, -⟩ := id hK
  have loop : ∀ (k i : Nat) (m : Int), i + k = 8 → unkS f (fun r => AR σ 16 (C 2) r = none) i m → Ex (wp (d + 2)) m_Reader_findUnknownName Q 4 [some (vr 5 (C 0)), some (vi m), some (vi (i : Nat)), none] [] σ := by
    intro k
    induction k with
    | zero =>
      intro i m hi hm
      have e : i = 8 := by omega
      subst e
      obtain ⟨k1, k2⟩ := kk m hm
      refine x_iload_n i_Reader_findUnknownName_4 rfl ?_
      refine x_bipush i_Reader_findUnknownName_5 ?_
      refine x_icmp_ge_t i_Reader_findUnknownName_7 (by omega) ?_
      refine x_iload_n i_Reader_findUnknownName_53 rfl ?_
      refine x_iconst i_Reader_findUnknownName_54 ?_
      refine x_icmp_eq i_Reader_findUnknownName_55 (fun g1 => ?_) (fun g1 => ?_)
      · refine x_vret i_Reader_findUnknownName_63 rfl ?_
        exact k1 g1
      · refine x_aload_n i_Reader_findUnknownName_58 rfl ?_
        refine x_iload_n i_Reader_findUnknownName_59 rfl ?_
        refine x_cv1 i_Reader_findUnknownName_60 rfl rfl rfl ?_
        refine (k2 g1).mono ?_
        rintro r u ⟨rfl, hu⟩
        refine x_vret i_Reader_findUnknownName_63 rfl ?_
        exact hu
    | succ k ih =>
      intro i m hi hm
      have next : ∀ m' : Int, unkS f (fun r => AR σ 16 (C 2) r = none) (i + 1) m' → Ex (wp (d + 2)) m_Reader_findUnknownName Q 47 [some (vr 5 (C 0)), some (vi m'), some (vi (i : Nat)), some (vi (f i))] [] σ := by
        intro m' hm'
        refine x_iinc (ls' := [_, _, _, _]) i_Reader_findUnknownName_47 rfl (by omega) rfl ?_
        refine x_goto i_Reader_findUnknownName_50 ?_
        refine Ex.weak (ls := [_, _, _, none]) ⟨Or.inr rfl, Or.inr rfl, Or.inr rfl, Or.inl rfl, trivial⟩ ?_
        exact ih (i + 1) m' (by omega) hm'
      refine x_iload_n i_Reader_findUnknownName_4 rfl ?_
      refine x_bipush i_Reader_findUnknownName_5 ?_
      refine x_icmp_ge_f i_Reader_findUnknownName_7 (by omega) ?_
      refine x_aload_n i_Reader_findUnknownName_10 rfl ?_
      refine x_getR (c2 := 6) i_Reader_findUnknownName_11 rfl rfl (by assumption) ?_
      refine x_iload_n i_Reader_findUnknownName_14 rfl ?_
      refine x_cv1 i_Reader_findUnknownName_15 rfl rfl rfl ?_
      refine c_at_in h8 (j := i) rfl (by omega) ?_
      refine x_istore_n (ls' := [_, _, _, _]) i_Reader_findUnknownName_18 rfl rfl ?_
      refine x_iload_n i_Reader_findUnknownName_19 rfl ?_
      refine x_iconst i_Reader_findUnknownName_20 ?_
      refine x_icmp_eq i_Reader_findUnknownName_21 (fun g1 => ?_) (fun g1 => ?_)
      · exact next m (hm.skip (fun w => absurd g1 w))
      · have has : ∀ (Q : AQ), (AR σ 16 (C 2) i = none → Q (some (vi 0)) σ) → (AR σ 16 (C 2) i ≠ none → Q (some (vi 1)) σ) → wp (d + 2) m_Grammar_has [vr 1 (C 1), vi (i : Nat)] σ Q := by
          intro Q k0 k1
          refine x_in (ls := [some _, some _]) rfl rfl ?_
          refine x_aload_n i_Grammar_has_0 rfl ?_
          refine x_iload_n i_Grammar_has_1 rfl ?_
          refine x_cv1 i_Grammar_has_2 rfl rfl rfl ?_
          refine c_G_body q4 l1 (by omega) ?_
          by_cases w : AR σ 16 (C 2) i = none
          · refine x_ifnull_t i_Grammar_has_5 w ?_
            refine x_iconst i_Grammar_has_12 ?_
            refine x_zret i_Grammar_has_13 rfl (by omega) ?_
            exact k0 w
          · refine x_ifnull_f i_Grammar_has_5 w ?_
            refine x_iconst i_Grammar_has_8 ?_
            refine x_goto i_Grammar_has_9 ?_
            refine x_zret i_Grammar_has_13 rfl (by omega) ?_
            exact k1 w
        refine x_aload_n i_Reader_findUnknownName_24 rfl ?_
        refine x_getR (c2 := 1) i_Reader_findUnknownName_25 rfl rfl (by assumption) ?_
        refine x_iload_n i_Reader_findUnknownName_28 rfl ?_
        refine x_cv1 i_Reader_findUnknownName_29 rfl rfl rfl ?_
        refine has _ (fun w => ?_) (fun w => ?_)
        · have tk : ∀ (_ : m = -1 ∨ f i < m), Ex (wp (d + 2)) m_Reader_findUnknownName Q 45 [some (vr 5 (C 0)), some (vi m), some (vi (i : Nat)), some (vi (f i))] [] σ := by
            intro g
            refine x_iload_n i_Reader_findUnknownName_45 rfl ?_
            refine x_istore_n (ls' := [_, _, _, _]) i_Reader_findUnknownName_46 rfl rfl ?_
            exact next (f i) (hm.take g1 w g)
          refine x_if_ne_f i_Reader_findUnknownName_32 rfl ?_
          refine x_iload_n i_Reader_findUnknownName_35 rfl ?_
          refine x_iconst i_Reader_findUnknownName_36 ?_
          refine x_icmp_eq i_Reader_findUnknownName_37 (fun g2 => ?_) (fun g2 => ?_)
          · exact tk (Or.inl g2)
          · refine x_iload_n i_Reader_findUnknownName_40 rfl ?_
            refine x_iload_n i_Reader_findUnknownName_41 rfl ?_
            refine x_icmp_ge i_Reader_findUnknownName_42 (fun g3 => ?_) (fun g3 => ?_)
            · exact next m (hm.skip (fun _ _ => ⟨g2, by omega⟩))
            · exact tk (Or.inr (by omega))
        · refine x_if_ne_t i_Reader_findUnknownName_32 (by decide) ?_
          exact next m (hm.skip (fun _ q => absurd q w))
  refine x_in (ls := [some _, none, none, none]) rfl rfl ?_
  refine x_iconst i_Reader_findUnknownName_0 ?_
  refine x_istore_n (ls' := [_, _, _, _]) i_Reader_findUnknownName_1 rfl rfl ?_
  refine x_iconst i_Reader_findUnknownName_2 ?_
  refine x_istore_n (ls' := [_, _, _, _]) i_Reader_findUnknownName_3 rfl rfl ?_
  exact loop 8 0 (-1) rfl (Or.inl ⟨rfl, fun r w => by omega⟩)
theorem c_Rd_unkF {p : Nat} (h : RdF σ C t p 0) (kk : Q none σ) : wp (d + 3) m_Reader_findUnknownName [vr 5 (C 0)] σ Q := by
  obtain ⟨b1, b2, b3, b4, b5, b6, b7, ⟨f2, b9⟩⟩ := id h
  exact c_Rd_unknown b1 b9 (fun m _ => ⟨fun _ => kk, fun _ => c_Rd_failF b5 ⟨rfl, kk⟩⟩)
def unkN (R : Nat → Option (PT 9)) (l : List (Nat × Nat)) : Option (Nat × Nat) := l.find? (fun y => (R y.2).isSome == false)
theorem fuF_mem {l : List (Nat × Nat)} {r : Nat} (h : fuF l r ≠ -1) : ∃ y ∈ l, y.2 = r ∧ fuF l r = (y.1 : Int) := by
  unfold fuF at h ⊢
  cases hl : l.find? (fun y => y.2 == r) with
  | none => rw [hl] at h; exact absurd rfl h
  | some y =>
    refine ⟨y, List.mem_of_find?_eq_some hl, ?_, rfl⟩
    have := List.find?_some hl
    simpa using this
theorem unk_find {R : Nat → Option (PT 9)} : ∀ {l : List (Nat × Nat)}, l.Pairwise (fun x y => x.1 < y.1) → ∀ {y}, unkN R l = some y → fuF l y.2 = (y.1 : Int) ∧ ∀ z ∈ l, (R z.2).isSome = false → y.1 ≤ z.1
  | [], _, y, h => by cases h
  | x :: l, hp, y, h => by
    unfold unkN at h
    rw [List.find?_cons] at h
    obtain ⟨hp1, hp2⟩ := List.pairwise_cons.mp hp
    cases hx : (R x.2).isSome with
    | false =>
      rw [hx] at h
      injection h with h
      subst h
      refine ⟨?_, fun z hz _ => ?_⟩
      · unfold fuF
        rw [List.find?_cons]
        simp
      · rcases List.mem_cons.mp hz with w | w
        · rw [w]; exact Nat.le_refl _
        · exact Nat.le_of_lt (hp1 z w)
    | true =>
      rw [hx] at h
      have h : unkN R l = some y := h
      obtain ⟨a1, a2⟩ := unk_find hp2 h
      have hy : (R y.2).isSome = false := by
        have := List.find?_some h
        simpa using this
      refine ⟨?_, fun z hz q => ?_⟩
      · unfold fuF at a1 ⊢
        rw [List.find?_cons]
        have : (x.2 == y.2) = false := by
          simp
          intro e
          rw [e, hy] at hx
          cases hx
        rw [this]
        exact a1
      · rcases List.mem_cons.mp hz with w | w
        · rw [w, hx] at q; cases q
        · exact a2 z w q
theorem unk_none {R : Nat → Option (PT 9)} {l : List (Nat × Nat)} (h : unkN R l = none) : ∀ z ∈ l, (R z.2).isSome = true := by
  intro z hz
  have := List.find?_eq_none.mp h z hz
  cases hR : (R z.2).isSome with
  | true => rfl
  | false => rw [hR] at this; simp at this
theorem c_Rd_unkS {R : Nat → Option (PT 9)} (h : RdS σ C t st 0) (hG : RdG σ C R st) (hs : exN 0 t.1 [] st.2.2) (k1 : unkN R st.2.2 = none → Q none σ) (k2 : ∀ y, unkN R st.2.2 = some y → ∀ σ', rsX (C 0) σ σ' → RdF σ' C t y.1 0 → Q none σ') : wp (d + 3) m_Reader_findUnknownName [vr 5 (C 0)] σ Q := by
  obtain ⟨b1, b2, ⟨a, b3, b31, b32⟩, b4, b5, b6, b7, b8, b9⟩ := id h
  obtain ⟨e, he, hp, hb⟩ := hs
  rw [List.nil_append] at he
  subst he
  have hu : ∀ r, r < 8 → (AR σ 16 (C 2) r = none ↔ (R r).isSome = false) := by
    intro r hr
    have := hG.1 r hr
    revert this
    cases R r with
    | none => intro w; exact ⟨fun _ => rfl, fun _ => w⟩
    | some alt => intro w; exact ⟨fun q => absurd q w.1, fun q => by cases q⟩
  refine c_Rd_unknown b1 b9 (fun m hm => ⟨fun e => k1 ?_, fun e => ?_⟩)
  · rcases hm with ⟨-, h2⟩ | ⟨h1, -⟩
    · cases hf : unkN R st.2.2 with
      | none => rfl
      | some y =>
        exfalso
        obtain ⟨a1, a2⟩ := unk_find hp hf
        have hm := List.mem_of_find?_eq_some hf
        have hy : (R y.2).isSome = false := by
          have := List.find?_some hf
          simpa using this
        exact h2 y.2 (hb y hm).2.2 (by rw [a1]; omega) ((hu _ (hb y hm).2.2).mpr hy)
    · exact absurd e h1
  · rcases hm with ⟨h1, -⟩ | ⟨-, ⟨r, h2, h3, h4⟩, h5⟩
    · exact absurd h1 e
    · obtain ⟨z, z1, z2, z3⟩ := fuF_mem (l := st.2.2) (r := r) (by rw [← h3]; exact e)
      have hz : (R z.2).isSome = false := (hu _ (hb z z1).2.2).mp (by rw [z2]; exact h4)
      cases hf : unkN R st.2.2 with
      | none => rw [unk_none hf z z1] at hz; cases hz
      | some y =>
        obtain ⟨a1, a2⟩ := unk_find hp hf
        have hm := List.mem_of_find?_eq_some hf
        have hy : (R y.2).isSome = false := by
          have := List.find?_some hf
          simpa using this
        have g1 := a2 z z1 hz
        have g2 := h5 y.2 (hb y hm).2.2 (by rw [a1]; omega) ((hu _ (hb y hm).2.2).mpr hy)
        rw [a1] at g2
        have hm : m = ((y.1 : Nat) : Int) := by omega
        rw [hm]
        have hyb := hb y (List.mem_of_find?_eq_some hf)
        exact c_Rd_failS h b3 b31 (by omega) (fun σ1 x1 h1 _ => ⟨rfl, k2 y hf σ1 x1 h1⟩)
end


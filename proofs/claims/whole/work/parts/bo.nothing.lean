/-! THE CLASS's May: what may be NOTHING -/
def mayR (σ : AS) (m g : Nat) (N : Nat → Bool) : Prop := FR σ 300 m = some g ∧ bN (FI σ 106 g) N
section
variable {d : Nat} {Q : AQ} {σ : AS} {m g : Nat} {N : Nat → Bool} {dn : Nat → Prop}
def subNo (σ : AS) (m d : Nat) {A : Type} (R : A → Option Nat → Prop) (f : A → Bool) : Prop := ∀ (x : A) (o : Option Nat) (Q : AQ), R x o → Q (some (vi (bI (f x)))) σ → wp d m_May_altNothing [vr 3 m, vo 8 o] σ Q
theorem c_May_item {A : Type} {R : A → Option Nat → Prop} {f : A → Bool} (hm : mayR σ m g N) (hs : subNo σ m d R f) {it : Item A} {b : Nat} (h : itemG σ dn R it b) (kk : Q (some (vi (bI (itNo N f it)))) σ) : wp (d + 1) m_May_itemNothing [vr 3 m, vr 4 b] σ Q := by
  obtain ⟨⟨c1, c2, c3, c4, c5, c6, c7, c8⟩, hat, h404⟩ := h
  obtain ⟨m1, m2⟩ := hm
  have yes : itNo N f it = true → Ex (wp d) m_May_itemNothing Q 94 [some (vr 3 m), some (vr 4 b)] [] σ := by
    intro w
    rw [w] at kk
    refine x_iconst i_May_itemNothing_94 ?_
    refine x_zret i_May_itemNothing_95 rfl (by omega) ?_
    exact kk
  refine x_in (ls := [some _, some _]) rfl rfl ?_
  refine x_aload_n i_May_itemNothing_0 rfl ?_
  refine x_getI i_May_itemNothing_1 rfl rfl ?_
  rw [c2]
  refine x_bipush i_May_itemNothing_4 ?_
  by_cases hq : it.1.2.1 = 42 ∨ it.1.2.1 = 63
  · have w : itNo N f it = true := by unfold itNo; rw [decide_eq_true hq]; rfl
    rw [w] at kk
    have y18 : Ex (wp d) m_May_itemNothing Q 18 [some (vr 3 m), some (vr 4 b)] [] σ := by
      refine x_iconst i_May_itemNothing_18 ?_
      refine x_zret i_May_itemNothing_19 rfl (by omega) ?_
      exact kk
    refine x_icmp_eq i_May_itemNothing_6 (fun g1 => ?_) (fun g1 => ?_)
    · exact y18
    · refine x_aload_n i_May_itemNothing_9 rfl ?_
      refine x_getI i_May_itemNothing_10 rfl rfl ?_
      rw [c2]
      refine x_bipush i_May_itemNothing_13 ?_
      refine x_icmp_ne_f i_May_itemNothing_15 (by omega) ?_
      exact y18
  · refine x_icmp_eq_f i_May_itemNothing_6 (by omega) ?_
    refine x_aload_n i_May_itemNothing_9 rfl ?_
    refine x_getI i_May_itemNothing_10 rfl rfl ?_
    rw [c2]
    refine x_bipush i_May_itemNothing_13 ?_
    refine x_icmp_ne_t i_May_itemNothing_15 (by omega) ?_
    refine x_aload_n i_May_itemNothing_20 rfl ?_
    refine x_getI i_May_itemNothing_21 rfl rfl ?_
    rw [c1]
    have e : itNo N f it = (decide (it.1.1 = 4 ∨ it.1.1 = 5 ∨ it.1.1 = 7 ∨ it.1.1 = 9) || ((decide (it.1.1 = 12) && N it.1.2.2) || (decide (it.1.1 = 6 ∨ it.1.1 = 8 ∨ it.1.1 = 10 ∨ it.1.1 = 11) && f it.2.2.1))) := by unfold itNo; rw [decide_eq_false hq]; rfl
    rw [e] at kk yes
    have no : it.1.1 ≤ 3 → Ex (wp d) m_May_itemNothing Q 92 [some (vr 3 m), some (vr 4 b)] [] σ := by
      intro w
      rw [decide_eq_false (by omega), decide_eq_false (by omega), decide_eq_false (by omega)] at kk
      refine x_iconst i_May_itemNothing_92 ?_
      refine x_zret i_May_itemNothing_93 rfl (by omega) ?_
      exact kk
    have yes : (it.1.1 = 4 ∨ it.1.1 = 5 ∨ it.1.1 = 7 ∨ it.1.1 = 9) → Ex (wp d) m_May_itemNothing Q 94 [some (vr 3 m), some (vr 4 b)] [] σ := by
      intro w
      exact yes (by rw [decide_eq_true w]; rfl)
    have body : (it.1.1 = 6 ∨ it.1.1 = 8 ∨ it.1.1 = 10 ∨ it.1.1 = 11) → Ex (wp d) m_May_itemNothing Q 120 [some (vr 3 m), some (vr 4 b)] [] σ := by
      intro w
      rw [decide_eq_false (by omega), decide_eq_false (by omega), decide_eq_true w, Bool.false_and, Bool.false_or, Bool.false_or, Bool.true_and] at kk
      refine x_aload_n i_May_itemNothing_120 rfl ?_
      refine x_aload_n i_May_itemNothing_121 rfl ?_
      refine x_getO (c2 := 8) i_May_itemNothing_122 rfl rfl ?_
      refine x_cv1 i_May_itemNothing_125 rfl rfl rfl ?_
      refine hs _ _ _ (c7 (by omega)) ?_
      refine x_zret i_May_itemNothing_128 rfl (bI_01 _) ?_
      exact kk
    have nam : it.1.1 = 12 → Ex (wp d) m_May_itemNothing Q 96 [some (vr 3 m), some (vr 4 b)] [] σ := by
      intro w
      rw [decide_eq_false (by omega), decide_eq_true w, decide_eq_false (by omega), Bool.false_and, Bool.or_false, Bool.false_or, Bool.true_and] at kk
      obtain ⟨n1, n2, n3⟩ := c6 w
      refine x_aload_n i_May_itemNothing_96 rfl ?_
      refine x_getR (c2 := 1) i_May_itemNothing_97 rfl rfl (by assumption) ?_
      refine x_getI i_May_itemNothing_100 rfl rfl ?_
      refine x_aload_n i_May_itemNothing_103 rfl ?_
      refine x_getI i_May_itemNothing_104 rfl rfl ?_
      rw [n1]
      refine x_iushr i_May_itemNothing_107 ?_
      refine x_iconst i_May_itemNothing_108 ?_
      refine x_iand i_May_itemNothing_109 ?_
      refine x_iconst i_May_itemNothing_110 ?_
      rw [bN_bit m2 n2]
      revert kk
      cases N it.1.2.2 with
      | true =>
        intro kk
        refine x_icmp_ne_f i_May_itemNothing_111 rfl ?_
        refine x_iconst i_May_itemNothing_114 ?_
        refine x_goto i_May_itemNothing_115 ?_
        refine x_zret i_May_itemNothing_119 rfl (by omega) ?_
        exact kk
      | false =>
        intro kk
        refine x_icmp_ne_t i_May_itemNothing_111 (by decide) ?_
        refine x_iconst i_May_itemNothing_118 ?_
        refine x_zret i_May_itemNothing_119 rfl (by omega) ?_
        exact kk
    have hk : it.1.1 = 0 ∨ it.1.1 = 1 ∨ it.1.1 = 2 ∨ it.1.1 = 3 ∨ it.1.1 = 4 ∨ it.1.1 = 5 ∨ it.1.1 = 6 ∨ it.1.1 = 7 ∨ it.1.1 = 8 ∨ it.1.1 = 9 ∨ it.1.1 = 10 ∨ it.1.1 = 11 ∨ it.1.1 = 12 := by omega
    rcases hk with w | w | w | w | w | w | w | w | w | w | w | w | w
    · rw [w, show ((0 : Nat) : Int) = 0 from rfl]
      refine x_switch (off := 68) (tg := 92) i_May_itemNothing_24 (by omega) rfl (by decide) ?_
      exact no (by omega)
    · rw [w, show ((1 : Nat) : Int) = 1 from rfl]
      refine x_switch (off := 68) (tg := 92) i_May_itemNothing_24 (by omega) rfl (by decide) ?_
      exact no (by omega)
    · rw [w, show ((2 : Nat) : Int) = 2 from rfl]
      refine x_switch (off := 68) (tg := 92) i_May_itemNothing_24 (by omega) rfl (by decide) ?_
      exact no (by omega)
    · rw [w, show ((3 : Nat) : Int) = 3 from rfl]
      refine x_switch (off := 68) (tg := 92) i_May_itemNothing_24 (by omega) rfl (by decide) ?_
      exact no (by omega)
    · rw [w, show ((4 : Nat) : Int) = 4 from rfl]
      refine x_switch (off := 70) (tg := 94) i_May_itemNothing_24 (by omega) rfl (by decide) ?_
      exact yes (by omega)
    · rw [w, show ((5 : Nat) : Int) = 5 from rfl]
      refine x_switch (off := 70) (tg := 94) i_May_itemNothing_24 (by omega) rfl (by decide) ?_
      exact yes (by omega)
    · rw [w, show ((6 : Nat) : Int) = 6 from rfl]
      refine x_switch (off := 96) (tg := 120) i_May_itemNothing_24 (by omega) rfl (by decide) ?_
      exact body (by omega)
    · rw [w, show ((7 : Nat) : Int) = 7 from rfl]
      refine x_switch (off := 70) (tg := 94) i_May_itemNothing_24 (by omega) rfl (by decide) ?_
      exact yes (by omega)
    · rw [w, show ((8 : Nat) : Int) = 8 from rfl]
      refine x_switch (off := 96) (tg := 120) i_May_itemNothing_24 (by omega) rfl (by decide) ?_
      exact body (by omega)
    · rw [w, show ((9 : Nat) : Int) = 9 from rfl]
      refine x_switch (off := 70) (tg := 94) i_May_itemNothing_24 (by omega) rfl (by decide) ?_
      exact yes (by omega)
    · rw [w, show ((10 : Nat) : Int) = 10 from rfl]
      refine x_switch (off := 96) (tg := 120) i_May_itemNothing_24 (by omega) rfl (by decide) ?_
      exact body (by omega)
    · rw [w, show ((11 : Nat) : Int) = 11 from rfl]
      refine x_switch (off := 96) (tg := 120) i_May_itemNothing_24 (by omega) rfl (by decide) ?_
      exact body (by omega)
    · rw [w, show ((12 : Nat) : Int) = 12 from rfl]
      refine x_switch (off := 72) (tg := 96) i_May_itemNothing_24 (by omega) rfl (by decide) ?_
      exact nam (by omega)
theorem c_May_seq {A : Type} {R : A → Option Nat → Prop} {f : A → Bool} {P : Nat → Prop} {a : Nat} (hm : mayR σ m g N) (hs : subNo σ m d R f) {s : List (Item A)} (h : chnR (FR σ 406) (fun it b => P b ∧ itemG σ dn R it b) s (FR σ 800 a)) (kk : Q (some (vi (bI (s.all (itNo N f))))) σ) : wp (d + 2) m_May_seqNothing [vr 3 m, vr 8 a] σ Q := by
  have loop : ∀ (s : List (Item A)) (o : Option Nat), chnR (FR σ 406) (fun it b => P b ∧ itemG σ dn R it b) s o → Q (some (vi (bI (s.all (itNo N f))))) σ → Ex (wp (d + 1)) m_May_seqNothing Q 5 [some (vr 3 m), some (vr 8 a), some (vo 4 o)] [] σ := by
    intro s
    induction s with
    | nil =>
      intro o h kk
      have e : o = none := h
      subst e
      refine x_aload_n i_May_seqNothing_5 rfl ?_
      refine x_ifnull_t i_May_seqNothing_6 rfl ?_
      refine x_iconst i_May_seqNothing_27 ?_
      refine x_zret i_May_seqNothing_28 rfl (by omega) ?_
      exact kk
    | cons it s ih =>
      intro o h kk
      obtain ⟨b, h1, ⟨-, h2⟩, h3⟩ := h
      subst h1
      rw [List.all_cons] at kk
      refine x_aload_n i_May_seqNothing_5 rfl ?_
      refine x_ifnull_f i_May_seqNothing_6 (by intro w; cases w) ?_
      refine x_aload_n i_May_seqNothing_9 rfl ?_
      refine x_aload_n i_May_seqNothing_10 rfl ?_
      refine x_cv1 i_May_seqNothing_11 rfl rfl rfl ?_
      refine c_May_item hm hs h2 ?_
      revert kk
      cases itNo N f it with
      | false =>
        intro kk
        refine x_if_ne_f i_May_seqNothing_14 rfl ?_
        refine x_iconst i_May_seqNothing_17 ?_
        refine x_zret i_May_seqNothing_18 rfl (by omega) ?_
        exact kk
      | true =>
        intro kk
        refine x_if_ne_t i_May_seqNothing_14 (by decide) ?_
        refine x_aload_n i_May_seqNothing_19 rfl ?_
        refine x_getO (c2 := 4) i_May_seqNothing_20 rfl rfl ?_
        refine x_astore_n (ls' := [_, _, _]) i_May_seqNothing_23 rfl rfl ?_
        refine x_goto i_May_seqNothing_24 ?_
        exact ih _ h3 kk
  refine x_in (ls := [some _, some _, none]) rfl rfl ?_
  refine x_aload_n i_May_seqNothing_0 rfl ?_
  refine x_getO (c2 := 4) i_May_seqNothing_1 rfl rfl ?_
  refine x_astore_n (ls' := [_, _, _]) i_May_seqNothing_4 rfl rfl ?_
  exact loop s _ h kk
theorem c_May_no (hm : mayR σ m g N) : ∀ (n l4 h4 l8 h8 : Nat) (e : Nat), 3 * n + 3 ≤ e → ∀ (alt : PT n) (o : Option Nat) (Q : AQ), altG σ dn n l4 h4 l8 h8 alt o → Q (some (vi (bI (altNo N n alt)))) σ → wp e m_May_altNothing [vr 3 m, vo 8 o] σ Q := by
  intro n
  induction n with
  | zero => intro l4 h4 l8 h8 e he alt o Q h; exact h.elim
  | succ n ih =>
    intro l4 h4 l8 h8 e he alt o Q h kk
    obtain ⟨k, rfl⟩ : ∃ k, e = k + 3 := ⟨e - 3, by omega⟩
    obtain ⟨-, h2⟩ := h
    have loop : ∀ (alt : List (List (Item (PT n)))) (p o : Option Nat), chnR (FR σ 801) (fun (s : List (Item (PT n))) a => ((l8 ≤ a ∧ a < h8) ∧ s ≠ []) ∧ chnR (FR σ 406) (fun it b => (l4 ≤ b ∧ b < h4) ∧ itemG σ dn (altG σ dn n (b + 1) h4 (a + 1) h8) it b) s (FR σ 800 a)) alt o → Q (some (vi (bI (alt.any (fun s => s.all (itNo N (altNo N n))))))) σ → Ex (wp (k + 2)) m_May_altNothing Q 2 [some (vr 3 m), some (vo 8 p), some (vo 8 o)] [] σ := by
      intro alt
      induction alt with
      | nil =>
        intro p o h kk
        have e : o = none := h
        subst e
        refine x_aload_n i_May_altNothing_2 rfl ?_
        refine x_ifnull_t i_May_altNothing_3 rfl ?_
        refine x_iconst i_May_altNothing_24 ?_
        refine x_zret i_May_altNothing_25 rfl (by omega) ?_
        exact kk
      | cons s alt ih2 =>
        intro p o h kk
        obtain ⟨a, h1, ⟨-, h3⟩, h4'⟩ := h
        subst h1
        rw [List.any_cons] at kk
        have sq : ∀ Q : AQ, Q (some (vi (bI (s.all (itNo N (altNo N n)))))) σ → wp (k + 2) m_May_seqNothing [vr 3 m, vr 8 a] σ Q := by
          intro Q kk
          -- the same bounds for every item
          refine c_May_seq (d := k) (dn := dn) (R := fun x o => ∃ b, altG σ dn n (b + 1) h4 (a + 1) h8 x o) (f := altNo N n) (P := fun _ => True) hm ?_ (h3.mono rfl (fun it b w => ⟨trivial, ?_⟩) _ _) kk
          · intro x o Q hx kk
            obtain ⟨b, hx⟩ := hx
            exact ih _ _ _ _ k (by omega) x o Q hx kk
          · obtain ⟨-, ⟨d1, d2, d3, d4, d5, d6, d7, d8⟩, d9, d10⟩ := w
            exact ⟨⟨d1, d2, d3, d4, d5, d6, fun w => ⟨b, d7 w⟩, fun w => ⟨b, d8 w⟩⟩, d9, d10⟩
        refine x_aload_n i_May_altNothing_2 rfl ?_
        refine x_ifnull_f i_May_altNothing_3 (by intro w; cases w) ?_
        refine x_aload_n i_May_altNothing_6 rfl ?_
        refine x_aload_n i_May_altNothing_7 rfl ?_
        refine x_cv1 i_May_altNothing_8 rfl rfl rfl ?_
        refine sq _ ?_
        revert kk
        cases s.all (itNo N (altNo N n)) with
        | true =>
          intro kk
          refine x_if_eq_f i_May_altNothing_11 (by decide) ?_
          refine x_iconst i_May_altNothing_14 ?_
          refine x_zret i_May_altNothing_15 rfl (by omega) ?_
          exact kk
        | false =>
          intro kk
          refine x_if_eq_t i_May_altNothing_11 rfl ?_
          refine x_aload_n i_May_altNothing_16 rfl ?_
          refine x_getO (c2 := 8) i_May_altNothing_17 rfl rfl ?_
          refine x_astore_n (ls' := [_, _, _]) i_May_altNothing_20 rfl rfl ?_
          refine x_goto i_May_altNothing_21 ?_
          exact ih2 _ _ h4' kk
    refine x_in (ls := [some _, some _, none]) rfl rfl ?_
    refine x_aload_n i_May_altNothing_0 rfl ?_
    refine x_astore_n (ls' := [_, _, _]) i_May_altNothing_1 rfl rfl ?_
    exact loop alt _ _ h2 kk
end


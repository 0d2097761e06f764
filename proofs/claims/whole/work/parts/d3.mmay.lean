/-! THE MODEL's may(): items, parts, ALTs -/
theorem iAnd_b (x y : Bool) : iAnd (bI x) (bI y) = bI (x && y) := by
  cases x <;> cases y <;> decide
theorem bI_ne {x : Bool} : bI x = 0 ∨ bI x = 1 := by
  cases x
  · exact Or.inl rfl
  · exact Or.inr rfl
def notM (σ : AS) (N : Nat → Bool) : Prop := ∀ r, r < 8 → AI σ 14 0 r = bI (N r)
def subMN (σ : AS) (d : Nat) {A : Type} (R : A → Nat → Prop) (f : A → Bool) : Prop := ∀ (x : A) (a : Nat) (Q : AQ), R x a → Q (some (vi (bI (f x)))) σ → wp d m_M_mayAlt [vr 11 0, vi (a : Nat)] σ Q
def subMH (σ : AS) (d : Nat) {A : Type} (R : A → Nat → Prop) (f : A → Nat → Bool) : Prop := ∀ (x : A) (a : Nat) (Q : AQ), R x a → (∀ z, bN z (f x) → Q (some (vi z)) σ) → wp d m_M_leftAlt [vr 11 0, vi (a : Nat)] σ Q
def parNo (N : Nat → Bool) {A : Type} (f : A → Bool) (it : Item A) : Bool := decide (it.1.1 = 4 ∨ it.1.1 = 5 ∨ it.1.1 = 7 ∨ it.1.1 = 9) || ((decide (it.1.1 = 12) && N it.1.2.2) || (decide (it.1.1 = 6 ∨ it.1.1 = 8 ∨ it.1.1 = 10 ∨ it.1.1 = 11) && f it.2.2.1))
/-- what a part's row says -/
def prtN (σ : AS) (dn : Nat → Prop) {A : Type} (sub : A → Nat → Prop) (it : Item A) (p : Nat) : Prop := (p < 260 ∧ it.1.1 ≤ 12) ∧ AI σ 13 33 p = (mKind it.1.1 : Int) ∧ (it.1.1 = 12 → AI σ 13 34 p = (it.1.2.2 : Int) ∧ it.1.2.2 < 8 ∧ dn it.1.2.2) ∧ ((it.1.1 = 5 ∨ it.1.1 = 6 ∨ (8 ≤ it.1.1 ∧ it.1.1 ≤ 11)) → ∃ a : Nat, AI σ 13 34 p = (a : Int) ∧ sub it.2.2.1 a) ∧ (it.1.1 = 10 → ∃ b : Nat, AI σ 13 35 p = (b : Int) ∧ sub it.2.2.2 b)
theorem itemM.prt {σ : AS} {dn : Nat → Prop} {A : Type} {sub : A → Nat → Prop} {it : Item A} {i : Nat} (h : itemM σ dn sub it i) : ∃ p : Nat, AI σ 13 30 i = (p : Int) ∧ prtN σ dn sub it p := by
  obtain ⟨a1, a2, a3, a4, p, a5, a6, a7, a8, a9, a10, a11, a12⟩ := h
  exact ⟨p, a6, ⟨a5, a3⟩, a7, a10, a11, a12⟩
section
variable {d : Nat} {Q : AQ} {σ : AS} {N : Nat → Bool} {dn : Nat → Prop}
theorem c_M_mayPart {A : Type} {R : A → Nat → Prop} {f : A → Bool} (hmr : modR σ) (hN : notM σ N) (hs : subMN σ d R f) {it : Item A} {p : Nat} (h : prtN σ dn R it p) (kk : Q (some (vi (bI (parNo N f it)))) σ) : wp (d + 1) m_M_mayPart [vr 11 0, vi (p : Nat)] σ Q := by
  obtain ⟨⟨a5, a3⟩, a7, a10, a11, a12⟩ := h
  obtain ⟨hm, hl, hb0, -⟩ := id hmr
  unfold parNo at kk
  have no : it.1.1 ≤ 3 → Ex (wp d) m_M_mayPart Q 81 [some (vr 11 0), some (vi (p : Nat))] [] σ := by
    intro w
    rw [decide_eq_false (by omega), decide_eq_false (by omega), decide_eq_false (by omega)] at kk
    refine x_iconst i_M_mayPart_81 ?_
    refine x_zret i_M_mayPart_82 rfl (by omega) ?_
    exact kk
  have yes : (it.1.1 = 4 ∨ it.1.1 = 5 ∨ it.1.1 = 7 ∨ it.1.1 = 9) → Ex (wp d) m_M_mayPart Q 56 [some (vr 11 0), some (vi (p : Nat))] [] σ := by
    intro w
    rw [decide_eq_true w, Bool.true_or] at kk
    refine x_iconst i_M_mayPart_56 ?_
    refine x_zret i_M_mayPart_57 rfl (by omega) ?_
    exact kk
  have body : (it.1.1 = 6 ∨ it.1.1 = 8 ∨ it.1.1 = 10 ∨ it.1.1 = 11) → Ex (wp d) m_M_mayPart Q 70 [some (vr 11 0), some (vi (p : Nat))] [] σ := by
    intro w
    rw [decide_eq_false (by omega), decide_eq_false (by omega), decide_eq_true w, Bool.false_and, Bool.false_or, Bool.false_or, Bool.true_and] at kk
    obtain ⟨b, b1, b2⟩ := a11 (by omega)
    refine x_aload_n i_M_mayPart_70 rfl ?_
    refine x_aload_n i_M_mayPart_71 rfl ?_
    refine x_getR (c2 := 13) i_M_mayPart_72 rfl rfl (hm _ _ rfl) ?_
    refine x_iload_n i_M_mayPart_75 rfl ?_
    refine x_iaload i_M_mayPart_76 (k := p) rfl (lt_len hl rfl a5) ?_
    rw [b1]
    refine x_cv1 i_M_mayPart_77 rfl rfl rfl ?_
    refine hs _ _ _ b2 ?_
    refine x_zret i_M_mayPart_80 rfl (bI_01 _) ?_
    exact kk
  have nam : it.1.1 = 12 → Ex (wp d) m_M_mayPart Q 58 [some (vr 11 0), some (vi (p : Nat))] [] σ := by
    intro w
    rw [decide_eq_false (by omega), decide_eq_true w, decide_eq_false (by omega), Bool.false_and, Bool.or_false, Bool.false_or, Bool.true_and] at kk
    obtain ⟨n1, n2, n3⟩ := a10 w
    refine x_aload_n i_M_mayPart_58 rfl ?_
    refine x_getR (c2 := 14) i_M_mayPart_59 rfl rfl (hm _ _ rfl) ?_
    refine x_aload_n i_M_mayPart_62 rfl ?_
    refine x_getR (c2 := 13) i_M_mayPart_63 rfl rfl (hm _ _ rfl) ?_
    refine x_iload_n i_M_mayPart_66 rfl ?_
    refine x_iaload i_M_mayPart_67 (k := p) rfl (lt_len hl rfl a5) ?_
    rw [n1]
    refine x_baload i_M_mayPart_68 (k := it.1.2.2) rfl (by rw [hb0]; exact n2) ?_
    rw [hN _ n2]
    refine x_zret i_M_mayPart_69 rfl (bI_01 _) ?_
    exact kk
  have hk : it.1.1 = 0 ∨ it.1.1 = 1 ∨ it.1.1 = 2 ∨ it.1.1 = 3 ∨ it.1.1 = 4 ∨ it.1.1 = 5 ∨ it.1.1 = 6 ∨ it.1.1 = 7 ∨ it.1.1 = 8 ∨ it.1.1 = 9 ∨ it.1.1 = 10 ∨ it.1.1 = 11 ∨ it.1.1 = 12 := by omega
  refine x_in (ls := [some _, some _]) rfl rfl ?_
  refine x_aload_n i_M_mayPart_0 rfl ?_
  refine x_getR (c2 := 13) i_M_mayPart_1 rfl rfl (hm _ _ rfl) ?_
  refine x_iload_n i_M_mayPart_4 rfl ?_
  refine x_iaload i_M_mayPart_5 (k := p) rfl (lt_len hl rfl a5) ?_
  rw [a7]
  rcases hk with w | w | w | w | w | w | w | w | w | w | w | w | w
  · rw [w, show ((mKind 0 : Nat) : Int) = 0 from rfl]
    refine x_switchD (tg := 81) i_M_mayPart_6 (by omega) (by decide) ?_
    exact no (by omega)
  · rw [w, show ((mKind 1 : Nat) : Int) = 1 from rfl]
    refine x_switchD (tg := 81) i_M_mayPart_6 (by omega) (by decide) ?_
    exact no (by omega)
  · rw [w, show ((mKind 2 : Nat) : Int) = 2 from rfl]
    refine x_switchD (tg := 81) i_M_mayPart_6 (by omega) (by decide) ?_
    exact no (by omega)
  · rw [w, show ((mKind 3 : Nat) : Int) = 3 from rfl]
    refine x_switchD (tg := 81) i_M_mayPart_6 (by omega) (by decide) ?_
    exact no (by omega)
  · rw [w, show ((mKind 4 : Nat) : Int) = 4 from rfl]
    refine x_switch (off := 50) (tg := 56) i_M_mayPart_6 (by omega) rfl (by decide) ?_
    exact yes (by omega)
  · rw [w, show ((mKind 5 : Nat) : Int) = 5 from rfl]
    refine x_switch (off := 50) (tg := 56) i_M_mayPart_6 (by omega) rfl (by decide) ?_
    exact yes (by omega)
  · rw [w, show ((mKind 6 : Nat) : Int) = 6 from rfl]
    refine x_switch (off := 64) (tg := 70) i_M_mayPart_6 (by omega) rfl (by decide) ?_
    exact body (by omega)
  · rw [w, show ((mKind 7 : Nat) : Int) = 7 from rfl]
    refine x_switch (off := 50) (tg := 56) i_M_mayPart_6 (by omega) rfl (by decide) ?_
    exact yes (by omega)
  · rw [w, show ((mKind 8 : Nat) : Int) = 8 from rfl]
    refine x_switch (off := 64) (tg := 70) i_M_mayPart_6 (by omega) rfl (by decide) ?_
    exact body (by omega)
  · rw [w, show ((mKind 9 : Nat) : Int) = 9 from rfl]
    refine x_switch (off := 50) (tg := 56) i_M_mayPart_6 (by omega) rfl (by decide) ?_
    exact yes (by omega)
  · rw [w, show ((mKind 10 : Nat) : Int) = 12 from rfl]
    refine x_switch (off := 64) (tg := 70) i_M_mayPart_6 (by omega) rfl (by decide) ?_
    exact body (by omega)
  · rw [w, show ((mKind 11 : Nat) : Int) = 11 from rfl]
    refine x_switch (off := 64) (tg := 70) i_M_mayPart_6 (by omega) rfl (by decide) ?_
    exact body (by omega)
  · rw [w, show ((mKind 12 : Nat) : Int) = 10 from rfl]
    refine x_switch (off := 52) (tg := 58) i_M_mayPart_6 (by omega) rfl (by decide) ?_
    exact nam (by omega)
theorem itNo_eq {A : Type} {f : A → Bool} {it : Item A} (w : ¬ (it.1.2.1 = 42 ∨ it.1.2.1 = 63)) : itNo N f it = parNo N f it := by
  unfold itNo parNo
  rw [decide_eq_false w, Bool.false_or]
theorem c_M_mayItem {A : Type} {R : A → Nat → Prop} {f : A → Bool} (hmr : modR σ) (hN : notM σ N) (hs : subMN σ d R f) {it : Item A} {i : Nat} (h : itemM σ dn R it i) (kk : Q (some (vi (bI (itNo N f it)))) σ) : wp (d + 2) m_M_mayItem [vr 11 0, vi (i : Nat)] σ Q := by
  obtain ⟨a1, a2, -⟩ := id h
  obtain ⟨p, a6, hp⟩ := h.prt
  obtain ⟨hm, hl, hb0, -⟩ := id hmr
  have yes : itNo N f it = true → Ex (wp (d + 1)) m_M_mayItem Q 35 [some (vr 11 0), some (vi (i : Nat))] [] σ := by
    intro w
    rw [w] at kk
    refine x_iconst i_M_mayItem_35 ?_
    refine x_goto i_M_mayItem_36 ?_
    refine x_zret i_M_mayItem_40 rfl (by omega) ?_
    exact kk
  refine x_in (ls := [some _, some _]) rfl rfl ?_
  refine x_aload_n i_M_mayItem_0 rfl ?_
  refine x_getR (c2 := 13) i_M_mayItem_1 rfl rfl (hm _ _ rfl) ?_
  refine x_iload_n i_M_mayItem_4 rfl ?_
  refine x_iaload i_M_mayItem_5 (k := i) rfl (lt_len hl rfl a1) ?_
  rw [a2]
  refine x_bipush i_M_mayItem_6 ?_
  by_cases h42 : it.1.2.1 = 42
  · refine x_icmp_eq_t i_M_mayItem_8 (by omega) ?_
    exact yes (by unfold itNo; rw [decide_eq_true (Or.inl h42)]; rfl)
  · refine x_icmp_eq_f i_M_mayItem_8 (by omega) ?_
    refine x_aload_n i_M_mayItem_11 rfl ?_
    refine x_getR (c2 := 13) i_M_mayItem_12 rfl rfl (hm _ _ rfl) ?_
    refine x_iload_n i_M_mayItem_15 rfl ?_
    refine x_iaload i_M_mayItem_16 (k := i) rfl (lt_len hl rfl a1) ?_
    rw [a2]
    refine x_bipush i_M_mayItem_17 ?_
    by_cases h63 : it.1.2.1 = 63
    · refine x_icmp_eq_t i_M_mayItem_19 (by omega) ?_
      exact yes (by unfold itNo; rw [decide_eq_true (Or.inr h63)]; rfl)
    · refine x_icmp_eq_f i_M_mayItem_19 (by omega) ?_
      have e : itNo N f it = parNo N f it := itNo_eq (fun q => q.elim h42 h63)
      rw [e] at yes kk
      refine x_aload_n i_M_mayItem_22 rfl ?_
      refine x_aload_n i_M_mayItem_23 rfl ?_
      refine x_getR (c2 := 13) i_M_mayItem_24 rfl rfl (hm _ _ rfl) ?_
      refine x_iload_n i_M_mayItem_27 rfl ?_
      refine x_iaload i_M_mayItem_28 (k := i) rfl (lt_len hl rfl a1) ?_
      rw [a6]
      refine x_cv1 i_M_mayItem_29 rfl rfl rfl ?_
      refine c_M_mayPart hmr hN hs hp ?_
      revert yes kk
      cases parNo N f it with
      | true =>
        intro kk yes
        refine x_if_eq_f i_M_mayItem_32 (by decide) ?_
        exact yes rfl
      | false =>
        intro kk yes
        refine x_if_eq_t i_M_mayItem_32 rfl ?_
        refine x_iconst i_M_mayItem_39 ?_
        refine x_zret i_M_mayItem_40 rfl (by omega) ?_
        exact kk
theorem c_M_mayAlt (hmr : modR σ) (hN : notM σ N) : ∀ (n e : Nat), 3 * n + 3 ≤ e → ∀ (alt : PT n) (a : Nat) (Q : AQ), altM σ dn n alt a → Q (some (vi (bI (altNo N n alt)))) σ → wp e m_M_mayAlt [vr 11 0, vi (a : Nat)] σ Q := by
  obtain ⟨hm, hl, hb0, -⟩ := id hmr
  intro n
  induction n with
  | zero => intro e he alt a Q h; exact h.elim
  | succ n ih =>
    intro e he alt a Q h kk
    obtain ⟨k, rfl⟩ : ∃ k, e = k + 3 := ⟨e - 3, by omega⟩
    obtain ⟨ha, -, h2⟩ := h
    have hs : subMN σ k (altM σ dn n) (altNo N n) := fun x b Q hx kk => ih k (by omega) x b Q hx kk
    -- the items of one sequence
    have inner : ∀ (c : Nat) (s : List (Item (PT n))) (v : Int) (b : Bool), chnA (AI σ 13 32) (itemM σ dn (altM σ dn n)) s v → (∀ b', b' = (b && s.all (itNo N (altNo N n))) → Ex (wp (k + 2)) m_M_mayAlt Q 49 [some (vr 11 0), some (vi (a : Nat)), some (vi (c : Nat)), some (vi (bI b')), none] [] σ) → Ex (wp (k + 2)) m_M_mayAlt Q 22 [some (vr 11 0), some (vi (a : Nat)), some (vi (c : Nat)), some (vi (bI b)), some (vi v)] [] σ := by
      intro c s
      induction s with
      | nil =>
        intro v b h kk
        have e : v = -1 := h
        subst e
        refine x_iload i_M_mayAlt_22 rfl ?_
        refine x_iconst i_M_mayAlt_24 ?_
        refine x_icmp_eq_t i_M_mayAlt_25 rfl ?_
        refine Ex.weak (ls := [_, _, _, _, none]) ⟨Or.inr rfl, Or.inr rfl, Or.inr rfl, Or.inr rfl, Or.inl rfl, trivial⟩ ?_
        exact kk b (by simp)
      | cons it s ih2 =>
        intro v b h kk
        obtain ⟨i, rfl, h1, h3⟩ := h
        refine x_iload i_M_mayAlt_22 rfl ?_
        refine x_iconst i_M_mayAlt_24 ?_
        refine x_icmp_eq_f i_M_mayAlt_25 (by omega) ?_
        refine x_iload_n i_M_mayAlt_28 rfl ?_
        refine x_aload_n i_M_mayAlt_29 rfl ?_
        refine x_iload i_M_mayAlt_30 rfl ?_
        refine x_cv1 i_M_mayAlt_32 rfl rfl rfl ?_
        refine c_M_mayItem hmr hN hs h1 ?_
        refine x_iand i_M_mayAlt_35 ?_
        refine x_istore_n (ls' := [_, _, _, _, _]) i_M_mayAlt_36 rfl rfl ?_
        refine x_aload_n i_M_mayAlt_37 rfl ?_
        refine x_getR (c2 := 13) i_M_mayAlt_38 rfl rfl (hm _ _ rfl) ?_
        refine x_iload i_M_mayAlt_41 rfl ?_
        rw [iAnd_b]
        refine x_iaload i_M_mayAlt_43 (k := i) rfl (lt_len hl rfl h1.1) ?_
        refine x_istore (ls' := [_, _, _, _, _]) i_M_mayAlt_44 rfl rfl ?_
        refine x_goto i_M_mayAlt_46 ?_
        exact ih2 _ _ h3 (fun b' hb' => kk b' (by rw [hb', List.all_cons, Bool.and_assoc]))
    have loop : ∀ (alt : List (List (Item (PT n)))) (v : Int), chnA (AI σ 13 29) (fun (s : List (Item (PT n))) k => k < 260 ∧ s ≠ [] ∧ chnA (AI σ 13 32) (itemM σ dn (altM σ dn n)) s (AI σ 13 28 k)) alt v → Q (some (vi (bI (alt.any (fun s => s.all (itNo N (altNo N n))))))) σ → Ex (wp (k + 2)) m_M_mayAlt Q 7 [some (vr 11 0), some (vi (a : Nat)), some (vi v), none, none] [] σ := by
      intro alt
      induction alt with
      | nil =>
        intro v h kk
        have e : v = -1 := h
        subst e
        refine x_iload_n i_M_mayAlt_7 rfl ?_
        refine x_iconst i_M_mayAlt_8 ?_
        refine x_icmp_eq_t i_M_mayAlt_9 rfl ?_
        refine x_iconst i_M_mayAlt_65 ?_
        refine x_zret i_M_mayAlt_66 rfl (by omega) ?_
        exact kk
      | cons s alt ih2 =>
        intro v h kk
        obtain ⟨c, rfl, ⟨b1, b2, b3⟩, h4⟩ := h
        rw [List.any_cons] at kk
        refine x_iload_n i_M_mayAlt_7 rfl ?_
        refine x_iconst i_M_mayAlt_8 ?_
        refine x_icmp_eq_f i_M_mayAlt_9 (by omega) ?_
        refine x_iconst i_M_mayAlt_12 ?_
        refine x_istore_n (ls' := [_, _, _, _, _]) i_M_mayAlt_13 rfl rfl ?_
        refine x_aload_n i_M_mayAlt_14 rfl ?_
        refine x_getR (c2 := 13) i_M_mayAlt_15 rfl rfl (hm _ _ rfl) ?_
        refine x_iload_n i_M_mayAlt_18 rfl ?_
        refine x_iaload i_M_mayAlt_19 (k := c) rfl (lt_len hl rfl b1) ?_
        refine x_istore (ls' := [_, _, _, _, _]) i_M_mayAlt_20 rfl rfl ?_
        refine inner c s _ true b3 (fun b' hb' => ?_)
        rw [Bool.true_and] at hb'
        rw [← hb'] at kk
        revert kk
        cases b' with
        | true =>
          intro kk
          refine x_iload_n i_M_mayAlt_49 rfl ?_
          refine x_if_eq_f i_M_mayAlt_50 (by decide) ?_
          refine x_iconst i_M_mayAlt_53 ?_
          refine x_zret i_M_mayAlt_54 rfl (by omega) ?_
          exact kk
        | false =>
          intro kk
          refine x_iload_n i_M_mayAlt_49 rfl ?_
          refine x_if_eq_t i_M_mayAlt_50 rfl ?_
          refine x_aload_n i_M_mayAlt_55 rfl ?_
          refine x_getR (c2 := 13) i_M_mayAlt_56 rfl rfl (hm _ _ rfl) ?_
          refine x_iload_n i_M_mayAlt_59 rfl ?_
          refine x_iaload i_M_mayAlt_60 (k := c) rfl (lt_len hl rfl b1) ?_
          refine x_istore_n (ls' := [_, _, _, _, _]) i_M_mayAlt_61 rfl rfl ?_
          refine x_goto i_M_mayAlt_62 ?_
          refine Ex.weak (ls := [_, _, _, none, _]) ⟨Or.inr rfl, Or.inr rfl, Or.inr rfl, Or.inl rfl, Or.inr rfl, trivial⟩ ?_
          exact ih2 _ h4 kk
    refine x_in (ls := [some _, some _, none, none, none]) rfl rfl ?_
    refine x_aload_n i_M_mayAlt_0 rfl ?_
    refine x_getR (c2 := 13) i_M_mayAlt_1 rfl rfl (hm _ _ rfl) ?_
    refine x_iload_n i_M_mayAlt_4 rfl ?_
    refine x_iaload i_M_mayAlt_5 (k := a) rfl (lt_len hl rfl ha) ?_
    refine x_istore_n (ls' := [_, _, _, _, _]) i_M_mayAlt_6 rfl rfl ?_
    exact loop alt _ h2 kk
theorem c_M_leftPart {A : Type} {R : A → Nat → Prop} {f : A → Bool} {hd : A → Nat → Bool} (hmr : modR σ) (hs : subMN σ d R f) (hh : subMH σ d R hd) {it : Item A} {p : Nat} (h : prtN σ dn R it p) (kk : ∀ z, bN z (parHd f hd it) → Q (some (vi z)) σ) : wp (d + 1) m_M_leftPart [vr 11 0, vi (p : Nat)] σ Q := by
  obtain ⟨⟨a5, a3⟩, a7, a10, a11, a12⟩ := h
  obtain ⟨hm, hl, hb0, -⟩ := id hmr
  refine x_in (ls := [some _, some _, none]) rfl rfl ?_
  refine x_aload_n i_M_leftPart_0 rfl ?_
  refine x_getR (c2 := 13) i_M_leftPart_1 rfl rfl (hm _ _ rfl) ?_
  refine x_iload_n i_M_leftPart_4 rfl ?_
  refine x_iaload i_M_leftPart_5 (k := p) rfl (lt_len hl rfl a5) ?_
  rw [a7]
  by_cases w12 : it.1.1 = 12
  · obtain ⟨n1, n2, n3⟩ := a10 w12
    rw [w12, show ((mKind 12 : Nat) : Int) = 10 from rfl]
    refine x_istore_n (ls' := [_, _, _]) i_M_leftPart_6 rfl rfl ?_
    refine x_iload_n i_M_leftPart_7 rfl ?_
    refine x_bipush i_M_leftPart_8 ?_
    refine x_icmp_ne_f i_M_leftPart_10 (by decide) ?_
    refine x_iconst i_M_leftPart_13 ?_
    refine x_aload_n i_M_leftPart_14 rfl ?_
    refine x_getR (c2 := 13) i_M_leftPart_15 rfl rfl (hm _ _ rfl) ?_
    refine x_iload_n i_M_leftPart_18 rfl ?_
    refine x_iaload i_M_leftPart_19 (k := p) rfl (lt_len hl rfl a5) ?_
    rw [n1]
    refine x_ishl i_M_leftPart_20 ?_
    refine x_iret i_M_leftPart_21 rfl ?_
    exact kk _ ((bN_shl n2).cg (fun k _ => by unfold parHd; rw [if_pos w12]))
  · by_cases wl : it.1.1 ≤ 4 ∨ it.1.1 = 7
    · have e : parHd f hd it = fun _ => false := by funext r; unfold parHd; rw [if_neg w12, if_pos wl]
      rw [e] at kk
      have em : mKind it.1.1 = it.1.1 := by unfold mKind; rw [if_neg (by omega), if_neg (by omega)]
      rw [em]
      refine x_istore_n (ls' := [_, _, _]) i_M_leftPart_6 rfl rfl ?_
      refine x_iload_n i_M_leftPart_7 rfl ?_
      refine x_bipush i_M_leftPart_8 ?_
      refine x_icmp_ne_t i_M_leftPart_10 (by omega) ?_
      refine x_iload_n i_M_leftPart_22 rfl ?_
      refine x_bipush i_M_leftPart_23 ?_
      refine x_icmp_ne_t i_M_leftPart_25 (by omega) ?_
      refine x_iload_n i_M_leftPart_67 rfl ?_
      refine x_bipush i_M_leftPart_68 ?_
      refine x_icmp_eq_f i_M_leftPart_70 (by omega) ?_
      refine x_iload_n i_M_leftPart_73 rfl ?_
      refine x_bipush i_M_leftPart_74 ?_
      refine x_icmp_eq_f i_M_leftPart_76 (by omega) ?_
      refine x_iload_n i_M_leftPart_79 rfl ?_
      refine x_iconst i_M_leftPart_80 ?_
      refine x_icmp_eq_f i_M_leftPart_81 (by omega) ?_
      refine x_iload_n i_M_leftPart_84 rfl ?_
      refine x_bipush i_M_leftPart_85 ?_
      refine x_icmp_eq_f i_M_leftPart_87 (by omega) ?_
      refine x_iload_n i_M_leftPart_90 rfl ?_
      refine x_bipush i_M_leftPart_91 ?_
      refine x_icmp_ne_t i_M_leftPart_93 (by omega) ?_
      refine x_iconst i_M_leftPart_109 ?_
      refine x_iret i_M_leftPart_110 rfl ?_
      exact kk 0 bN_0
    · have e : parHd f hd it = fun r => hd it.2.2.1 r || (decide (it.1.1 = 10) && (f it.2.2.1 && hd it.2.2.2 r)) := by funext r; unfold parHd; rw [if_neg w12, if_neg wl]
      rw [e] at kk
      obtain ⟨b, b1, b2⟩ := a11 (by omega)
      by_cases w10 : it.1.1 = 10
      · rw [decide_eq_true w10] at kk
        obtain ⟨c, c1, c2⟩ := a12 w10
        rw [w10, show ((mKind 10 : Nat) : Int) = 12 from rfl]
        refine x_istore_n (ls' := [_, _, _]) i_M_leftPart_6 rfl rfl ?_
        refine x_iload_n i_M_leftPart_7 rfl ?_
        refine x_bipush i_M_leftPart_8 ?_
        refine x_icmp_ne_t i_M_leftPart_10 (by decide) ?_
        refine x_iload_n i_M_leftPart_22 rfl ?_
        refine x_bipush i_M_leftPart_23 ?_
        refine x_icmp_ne_f i_M_leftPart_25 (by decide) ?_
        refine x_aload_n i_M_leftPart_28 rfl ?_
        refine x_aload_n i_M_leftPart_29 rfl ?_
        refine x_getR (c2 := 13) i_M_leftPart_30 rfl rfl (hm _ _ rfl) ?_
        refine x_iload_n i_M_leftPart_33 rfl ?_
        refine x_iaload i_M_leftPart_34 (k := p) rfl (lt_len hl rfl a5) ?_
        rw [b1]
        refine x_cv1 i_M_leftPart_35 rfl rfl rfl ?_
        refine hh _ _ _ b2 (fun z hz => ?_)
        refine x_aload_n i_M_leftPart_38 rfl ?_
        refine x_aload_n i_M_leftPart_39 rfl ?_
        refine x_getR (c2 := 13) i_M_leftPart_40 rfl rfl (hm _ _ rfl) ?_
        refine x_iload_n i_M_leftPart_43 rfl ?_
        refine x_iaload i_M_leftPart_44 (k := p) rfl (lt_len hl rfl a5) ?_
        rw [b1]
        refine x_cv1 i_M_leftPart_45 rfl rfl rfl ?_
        refine hs _ _ _ b2 ?_
        revert kk
        cases f it.2.2.1 with
        | false =>
          intro kk
          refine x_if_eq_t i_M_leftPart_48 rfl ?_
          refine x_iconst i_M_leftPart_64 ?_
          refine x_ior i_M_leftPart_65 ?_
          refine x_iret i_M_leftPart_66 rfl ?_
          refine kk _ ((bN_or hz bN_0).cg (fun k _ => by simp))
        | true =>
          intro kk
          refine x_if_eq_f i_M_leftPart_48 (by decide) ?_
          refine x_aload_n i_M_leftPart_51 rfl ?_
          refine x_aload_n i_M_leftPart_52 rfl ?_
          refine x_getR (c2 := 13) i_M_leftPart_53 rfl rfl (hm _ _ rfl) ?_
          refine x_iload_n i_M_leftPart_56 rfl ?_
          refine x_iaload i_M_leftPart_57 (k := p) rfl (lt_len hl rfl a5) ?_
          rw [c1]
          refine x_cv1 i_M_leftPart_58 rfl rfl rfl ?_
          refine hh _ _ _ c2 (fun z2 hz2 => ?_)
          refine x_goto i_M_leftPart_61 ?_
          refine x_ior i_M_leftPart_65 ?_
          refine x_iret i_M_leftPart_66 rfl ?_
          exact kk _ ((bN_or hz hz2).cg (fun k _ => by simp))
      · rw [decide_eq_false w10] at kk
        have em : mKind it.1.1 = it.1.1 := by unfold mKind; rw [if_neg w10, if_neg w12]
        rw [em]
        have at96 : Ex (wp d) m_M_leftPart Q 96 [some (vr 11 0), some (vi (p : Nat)), some (vi (it.1.1 : Nat))] [] σ := by
          refine x_aload_n i_M_leftPart_96 rfl ?_
          refine x_aload_n i_M_leftPart_97 rfl ?_
          refine x_getR (c2 := 13) i_M_leftPart_98 rfl rfl (hm _ _ rfl) ?_
          refine x_iload_n i_M_leftPart_101 rfl ?_
          refine x_iaload i_M_leftPart_102 (k := p) rfl (lt_len hl rfl a5) ?_
          rw [b1]
          refine x_cv1 i_M_leftPart_103 rfl rfl rfl ?_
          refine hh _ _ _ b2 (fun z hz => ?_)
          refine x_goto i_M_leftPart_106 ?_
          refine x_iret i_M_leftPart_110 rfl ?_
          exact kk z (hz.cg (fun k _ => by simp))
        refine x_istore_n (ls' := [_, _, _]) i_M_leftPart_6 rfl rfl ?_
        refine x_iload_n i_M_leftPart_7 rfl ?_
        refine x_bipush i_M_leftPart_8 ?_
        refine x_icmp_ne_t i_M_leftPart_10 (by omega) ?_
        refine x_iload_n i_M_leftPart_22 rfl ?_
        refine x_bipush i_M_leftPart_23 ?_
        refine x_icmp_ne_t i_M_leftPart_25 (by omega) ?_
        refine x_iload_n i_M_leftPart_67 rfl ?_
        refine x_bipush i_M_leftPart_68 ?_
        refine x_icmp_eq i_M_leftPart_70 (fun g1 => ?_) (fun g1 => ?_)
        · exact at96
        · refine x_iload_n i_M_leftPart_73 rfl ?_
          refine x_bipush i_M_leftPart_74 ?_
          refine x_icmp_eq i_M_leftPart_76 (fun g2 => ?_) (fun g2 => ?_)
          · exact at96
          · refine x_iload_n i_M_leftPart_79 rfl ?_
            refine x_iconst i_M_leftPart_80 ?_
            refine x_icmp_eq i_M_leftPart_81 (fun g3 => ?_) (fun g3 => ?_)
            · exact at96
            · refine x_iload_n i_M_leftPart_84 rfl ?_
              refine x_bipush i_M_leftPart_85 ?_
              refine x_icmp_eq i_M_leftPart_87 (fun g4 => ?_) (fun g4 => ?_)
              · exact at96
              · refine x_iload_n i_M_leftPart_90 rfl ?_
                refine x_bipush i_M_leftPart_91 ?_
                refine x_icmp_ne_f i_M_leftPart_93 (by omega) ?_
                exact at96
theorem c_M_leftAlt (hmr : modR σ) (hN : notM σ N) : ∀ (n e : Nat), 3 * n + 5 ≤ e → ∀ (alt : PT n) (a : Nat) (Q : AQ), altM σ dn n alt a → (∀ z, bN z (altHd N n alt) → Q (some (vi z)) σ) → wp e m_M_leftAlt [vr 11 0, vi (a : Nat)] σ Q := by
  obtain ⟨hm, hl, hb0, -⟩ := id hmr
  intro n
  induction n with
  | zero => intro e he alt a Q h; exact h.elim
  | succ n ih =>
    intro e he alt a Q h kk
    obtain ⟨k, rfl⟩ : ∃ k, e = k + 3 := ⟨e - 3, by omega⟩
    obtain ⟨ha, -, h2⟩ := h
    have hs : subMN σ k (altM σ dn n) (altNo N n) := fun x b Q hx kk => c_M_mayAlt hmr hN n k (by omega) x b Q hx kk
    have hh : subMH σ k (altM σ dn n) (altHd N n) := fun x b Q hx kk => ih k (by omega) x b Q hx kk
    have hs1 : subMN σ (k + 1) (altM σ dn n) (altNo N n) := fun x b Q hx kk => c_M_mayAlt hmr hN n (k + 1) (by omega) x b Q hx kk
    have hh1 : subMH σ (k + 1) (altM σ dn n) (altHd N n) := fun x b Q hx kk => ih (k + 1) (by omega) x b Q hx kk
    have inner : ∀ (c : Nat) (s : List (Item (PT n))) (v z : Int) (P : Nat → Bool) (g : Bool), chnA (AI σ 13 32) (itemM σ dn (altM σ dn n)) s v → bN z P → (∀ z', bN z' (fun r => P r || (g && seqHd N (altNo N n) (altHd N n) s r)) → Ex (wp (k + 2)) m_M_leftAlt Q 70 [some (vr 11 0), some (vi (a : Nat)), some (vi z'), some (vi (c : Nat)), none, none] [] σ) → Ex (wp (k + 2)) m_M_leftAlt Q 25 [some (vr 11 0), some (vi (a : Nat)), some (vi z), some (vi (c : Nat)), some (vi (bI g)), some (vi v)] [] σ := by
      intro c s
      induction s with
      | nil =>
        intro v z P g h hz kk
        have e : v = -1 := h
        subst e
        refine x_iload i_M_leftAlt_25 rfl ?_
        refine x_iconst i_M_leftAlt_27 ?_
        refine x_icmp_eq_t i_M_leftAlt_28 rfl ?_
        refine Ex.weak (ls := [_, _, _, _, none, none]) ⟨Or.inr rfl, Or.inr rfl, Or.inr rfl, Or.inr rfl, Or.inl rfl, Or.inl rfl, trivial⟩ ?_
        exact kk z (hz.cg (fun r _ => by simp [seqHd]))
      | cons it s ih2 =>
        intro v z P g h hz kk
        obtain ⟨i, rfl, h1, h3⟩ := h
        obtain ⟨p, p1, hp⟩ := h1.prt
        refine x_iload i_M_leftAlt_25 rfl ?_
        refine x_iconst i_M_leftAlt_27 ?_
        refine x_icmp_eq_f i_M_leftAlt_28 (by omega) ?_
        refine x_iload i_M_leftAlt_31 rfl ?_
        cases g with
        | false =>
          refine x_if_eq_t i_M_leftAlt_33 rfl ?_
          refine Ex.weak (ls := [_, _, _, _, none, none]) ⟨Or.inr rfl, Or.inr rfl, Or.inr rfl, Or.inr rfl, Or.inl rfl, Or.inl rfl, trivial⟩ ?_
          exact kk z (hz.cg (fun r _ => by simp))
        | true =>
          refine x_if_eq_f i_M_leftAlt_33 (by decide) ?_
          refine x_iload_n i_M_leftAlt_36 rfl ?_
          refine x_aload_n i_M_leftAlt_37 rfl ?_
          refine x_aload_n i_M_leftAlt_38 rfl ?_
          refine x_getR (c2 := 13) i_M_leftAlt_39 rfl rfl (hm _ _ rfl) ?_
          refine x_iload i_M_leftAlt_42 rfl ?_
          refine x_iaload i_M_leftAlt_44 (k := i) rfl (lt_len hl rfl h1.1) ?_
          rw [p1]
          refine x_cv1 i_M_leftAlt_45 rfl rfl rfl ?_
          refine c_M_leftPart hmr hs1 hh1 hp (fun z1 hz1 => ?_)
          have hz2 := bN_or hz hz1
          refine x_ior i_M_leftAlt_48 ?_
          refine x_istore_n (ls' := [_, _, _, _, _, _]) i_M_leftAlt_49 rfl rfl ?_
          refine x_aload_n i_M_leftAlt_50 rfl ?_
          refine x_iload i_M_leftAlt_51 rfl ?_
          refine x_cv1 i_M_leftAlt_53 rfl rfl rfl ?_
          refine c_M_mayItem hmr hN hs h1 ?_
          refine x_istore (ls' := [_, _, _, _, _, _]) i_M_leftAlt_56 rfl rfl ?_
          refine x_aload_n i_M_leftAlt_58 rfl ?_
          refine x_getR (c2 := 13) i_M_leftAlt_59 rfl rfl (hm _ _ rfl) ?_
          refine x_iload i_M_leftAlt_62 rfl ?_
          refine x_iaload i_M_leftAlt_64 (k := i) rfl (lt_len hl rfl h1.1) ?_
          refine x_istore (ls' := [_, _, _, _, _, _]) i_M_leftAlt_65 rfl rfl ?_
          refine x_goto i_M_leftAlt_67 ?_
          exact ih2 _ _ _ _ h3 hz2 (fun z' hz' => kk z' (hz'.cg (fun r _ => by simp only [seqHd, Bool.true_and, Bool.or_assoc])))
    have loop : ∀ (alt : List (List (Item (PT n)))) (v z : Int) (P : Nat → Bool), chnA (AI σ 13 29) (fun (s : List (Item (PT n))) k => k < 260 ∧ s ≠ [] ∧ chnA (AI σ 13 32) (itemM σ dn (altM σ dn n)) s (AI σ 13 28 k)) alt v → bN z P → (∀ z', bN z' (fun r => P r || alt.any (fun s => seqHd N (altNo N n) (altHd N n) s r)) → Q (some (vi z')) σ) → Ex (wp (k + 2)) m_M_leftAlt Q 9 [some (vr 11 0), some (vi (a : Nat)), some (vi z), some (vi v), none, none] [] σ := by
      intro alt
      induction alt with
      | nil =>
        intro v z P h hz kk
        have e : v = -1 := h
        subst e
        refine x_iload_n i_M_leftAlt_9 rfl ?_
        refine x_iconst i_M_leftAlt_10 ?_
        refine x_icmp_eq_t i_M_leftAlt_11 rfl ?_
        refine x_iload_n i_M_leftAlt_80 rfl ?_
        refine x_iret i_M_leftAlt_81 rfl ?_
        exact kk z (hz.cg (fun r _ => by simp))
      | cons s alt ih2 =>
        intro v z P h hz kk
        obtain ⟨c, rfl, ⟨b1, b2, b3⟩, h4⟩ := h
        refine x_iload_n i_M_leftAlt_9 rfl ?_
        refine x_iconst i_M_leftAlt_10 ?_
        refine x_icmp_eq_f i_M_leftAlt_11 (by omega) ?_
        refine x_iconst i_M_leftAlt_14 ?_
        refine x_istore (ls' := [_, _, _, _, _, _]) i_M_leftAlt_15 rfl rfl ?_
        refine x_aload_n i_M_leftAlt_17 rfl ?_
        refine x_getR (c2 := 13) i_M_leftAlt_18 rfl rfl (hm _ _ rfl) ?_
        refine x_iload_n i_M_leftAlt_21 rfl ?_
        refine x_iaload i_M_leftAlt_22 (k := c) rfl (lt_len hl rfl b1) ?_
        refine x_istore (ls' := [_, _, _, _, _, _]) i_M_leftAlt_23 rfl rfl ?_
        refine inner c s _ z P true b3 hz (fun z' hz' => ?_)
        refine x_aload_n i_M_leftAlt_70 rfl ?_
        refine x_getR (c2 := 13) i_M_leftAlt_71 rfl rfl (hm _ _ rfl) ?_
        refine x_iload_n i_M_leftAlt_74 rfl ?_
        refine x_iaload i_M_leftAlt_75 (k := c) rfl (lt_len hl rfl b1) ?_
        refine x_istore_n (ls' := [_, _, _, _, _, _]) i_M_leftAlt_76 rfl rfl ?_
        refine x_goto i_M_leftAlt_77 ?_
        exact ih2 _ _ _ h4 hz' (fun z2 hz2 => kk z2 (hz2.cg (fun r _ => by rw [List.any_cons, Bool.true_and, Bool.or_assoc])))
    refine x_in (ls := [some _, some _, none, none, none, none]) rfl rfl ?_
    refine x_iconst i_M_leftAlt_0 ?_
    refine x_istore_n (ls' := [_, _, _, _, _, _]) i_M_leftAlt_1 rfl rfl ?_
    refine x_aload_n i_M_leftAlt_2 rfl ?_
    refine x_getR (c2 := 13) i_M_leftAlt_3 rfl rfl (hm _ _ rfl) ?_
    refine x_iload_n i_M_leftAlt_6 rfl ?_
    refine x_iaload i_M_leftAlt_7 (k := a) rfl (lt_len hl rfl ha) ?_
    refine x_istore_n (ls' := [_, _, _, _, _, _]) i_M_leftAlt_8 rfl rfl ?_
    exact loop alt _ 0 _ h2 bN_0 (fun z hz => kk z (hz.cg (fun r _ => by rw [Bool.false_or]; rfl)))
end


/-! THE CLASS's May: to what an ALT comes -/
theorem bN.or0 {x : Int} {p q : Nat → Bool} (h : bN x p) {y : Int} (g : bN y q) {r : Nat → Bool} (e : ∀ k, (p k || q k) = r k) : bN (iOr x y) r := (bN_or h g).cg (fun k _ => e k)
section
variable {d : Nat} {Q : AQ} {σ : AS} {m g : Nat} {N : Nat → Bool} {dn : Nat → Prop}
def subHd (σ : AS) (m d : Nat) {A : Type} (R : A → Option Nat → Prop) (f : A → Nat → Bool) : Prop := ∀ (x : A) (o : Option Nat) (Q : AQ), R x o → (∀ z, bN z (f x) → Q (some (vi z)) σ) → wp d m_May_altHeads [vr 3 m, vo 8 o] σ Q
theorem c_May_hd0 (kk : Q (some (vi 0)) σ) : wp (d + 1) m_May_altHeads [vr 3 m, vo 8 none] σ Q := by
  refine x_in (ls := [some _, some _, none, none, none]) rfl rfl ?_
  refine x_iconst i_May_altHeads_0 ?_
  refine x_istore_n (ls' := [_, _, _, _, _]) i_May_altHeads_1 rfl rfl ?_
  refine x_aload_n i_May_altHeads_2 rfl ?_
  refine x_astore_n (ls' := [_, _, _, _, _]) i_May_altHeads_3 rfl rfl ?_
  refine x_aload_n i_May_altHeads_4 rfl ?_
  refine x_ifnull_t i_May_altHeads_5 rfl ?_
  refine x_iload_n i_May_altHeads_58 rfl ?_
  refine x_iret i_May_altHeads_59 rfl ?_
  exact kk
theorem c_May_par {A : Type} {R : A → Option Nat → Prop} {f : A → Bool} {hd : A → Nat → Bool} (hs : subNo σ m (d + 1) R f) (hh : subHd σ m (d + 1) R hd) {it : Item A} {b : Nat} (h : itemG σ dn R it b) (kk : ∀ z, bN z (parHd f hd it) → Q (some (vi z)) σ) : wp (d + 2) m_May_partHeads [vr 3 m, vr 4 b] σ Q := by
  obtain ⟨⟨c1, c2, c3, c4, c5, c6, c7, c8⟩, hat, h404⟩ := h
  refine x_in (ls := [some _, some _, none]) rfl rfl ?_
  refine x_aload_n i_May_partHeads_0 rfl ?_
  refine x_getI i_May_partHeads_1 rfl rfl ?_
  rw [c1]
  refine x_bipush i_May_partHeads_4 ?_
  by_cases w12 : it.1.1 = 12
  · refine x_icmp_ne_f i_May_partHeads_6 (by omega) ?_
    obtain ⟨n1, n2, n3⟩ := c6 w12
    refine x_iconst i_May_partHeads_9 ?_
    refine x_aload_n i_May_partHeads_10 rfl ?_
    refine x_getI i_May_partHeads_11 rfl rfl ?_
    rw [n1]
    refine x_ishl i_May_partHeads_14 ?_
    refine x_iret i_May_partHeads_15 rfl ?_
    exact kk _ ((bN_shl n2).cg (fun k _ => by unfold parHd; rw [if_pos w12]))
  · refine x_icmp_ne_t i_May_partHeads_6 (by omega) ?_
    by_cases wl : it.1.1 ≤ 4 ∨ it.1.1 = 7
    · have e : parHd f hd it = fun _ => false := by funext r; unfold parHd; rw [if_neg w12, if_pos wl]
      have h4 := h404 wl
      refine x_aload_n i_May_partHeads_16 rfl ?_
      refine x_aload_n i_May_partHeads_17 rfl ?_
      refine x_getO (c2 := 8) i_May_partHeads_18 rfl rfl ?_
      rw [h4]
      refine x_cv1 i_May_partHeads_21 rfl rfl rfl ?_
      refine c_May_hd0 ?_
      refine x_istore_n (ls' := [_, _, _]) i_May_partHeads_24 rfl rfl ?_
      refine x_aload_n i_May_partHeads_25 rfl ?_
      refine x_getI i_May_partHeads_26 rfl rfl ?_
      rw [c1]
      refine x_bipush i_May_partHeads_29 ?_
      refine x_icmp_ne_t i_May_partHeads_31 (by omega) ?_
      refine x_iload_n i_May_partHeads_58 rfl ?_
      refine x_iret i_May_partHeads_59 rfl ?_
      refine kk _ ?_
      rw [e]
      exact bN_0
    · have e : parHd f hd it = fun r => hd it.2.2.1 r || (decide (it.1.1 = 10) && (f it.2.2.1 && hd it.2.2.2 r)) := by funext r; unfold parHd; rw [if_neg w12, if_neg wl]
      rw [e] at kk
      refine x_aload_n i_May_partHeads_16 rfl ?_
      refine x_aload_n i_May_partHeads_17 rfl ?_
      refine x_getO (c2 := 8) i_May_partHeads_18 rfl rfl ?_
      refine x_cv1 i_May_partHeads_21 rfl rfl rfl ?_
      refine hh _ _ _ (c7 (by omega)) (fun z hz => ?_)
      refine x_istore_n (ls' := [_, _, _]) i_May_partHeads_24 rfl rfl ?_
      refine x_aload_n i_May_partHeads_25 rfl ?_
      refine x_getI i_May_partHeads_26 rfl rfl ?_
      rw [c1]
      refine x_bipush i_May_partHeads_29 ?_
      by_cases w10 : it.1.1 = 10
      · rw [decide_eq_true w10] at kk
        refine x_icmp_ne_f i_May_partHeads_31 (by omega) ?_
        refine x_aload_n i_May_partHeads_34 rfl ?_
        refine x_aload_n i_May_partHeads_35 rfl ?_
        refine x_getO (c2 := 8) i_May_partHeads_36 rfl rfl ?_
        refine x_cv1 i_May_partHeads_39 rfl rfl rfl ?_
        refine hs _ _ _ (c7 (by omega)) ?_
        revert kk
        cases f it.2.2.1 with
        | false =>
          intro kk
          refine x_if_eq_t i_May_partHeads_42 rfl ?_
          refine x_iload_n i_May_partHeads_58 rfl ?_
          refine x_iret i_May_partHeads_59 rfl ?_
          exact kk z (hz.cg (fun k _ => by simp))
        | true =>
          intro kk
          refine x_if_eq_f i_May_partHeads_42 (by decide) ?_
          refine x_iload_n i_May_partHeads_45 rfl ?_
          refine x_aload_n i_May_partHeads_46 rfl ?_
          refine x_aload_n i_May_partHeads_47 rfl ?_
          refine x_getO (c2 := 8) i_May_partHeads_48 rfl rfl ?_
          refine x_cv1 i_May_partHeads_51 rfl rfl rfl ?_
          refine hh _ _ _ (c8 w10) (fun z2 hz2 => ?_)
          refine x_ior i_May_partHeads_54 ?_
          refine x_goto i_May_partHeads_55 ?_
          refine x_iret i_May_partHeads_59 rfl ?_
          exact kk _ ((bN_or hz hz2).cg (fun k _ => by simp))
      · rw [decide_eq_false w10] at kk
        refine x_icmp_ne_t i_May_partHeads_31 (by omega) ?_
        refine x_iload_n i_May_partHeads_58 rfl ?_
        refine x_iret i_May_partHeads_59 rfl ?_
        exact kk z (hz.cg (fun k _ => by simp))
theorem c_May_hd (hm : mayR σ m g N) : ∀ (n l4 h4 l8 h8 : Nat) (e : Nat), 3 * n + 6 ≤ e → ∀ (alt : PT n) (o : Option Nat) (Q : AQ), altG σ dn n l4 h4 l8 h8 alt o → (∀ z, bN z (altHd N n alt) → Q (some (vi z)) σ) → wp e m_May_altHeads [vr 3 m, vo 8 o] σ Q := by
  intro n
  induction n with
  | zero => intro l4 h4 l8 h8 e he alt o Q h; exact h.elim
  | succ n ih =>
    intro l4 h4 l8 h8 e he alt o Q h kk
    obtain ⟨k, rfl⟩ : ∃ k, e = k + 3 := ⟨e - 3, by omega⟩
    obtain ⟨-, h2⟩ := h
    -- the items of one sequence
    have inner : ∀ (a : Nat) (p : Option Nat) (s : List (Item (PT n))) (o : Option Nat) (z : Int) (P : Nat → Bool), chnR (FR σ 406) (fun it b => (l4 ≤ b ∧ b < h4) ∧ itemG σ dn (altG σ dn n (b + 1) h4 (a + 1) h8) it b) s o → bN z P → (∀ z', bN z' (fun r => P r || seqHd N (altNo N n) (altHd N n) s r) → Ex (wp (k + 2)) m_May_altHeads Q 50 [some (vr 3 m), some (vo 8 p), some (vi z'), some (vr 8 a), none] [] σ) → Ex (wp (k + 2)) m_May_altHeads Q 14 [some (vr 3 m), some (vo 8 p), some (vi z), some (vr 8 a), some (vo 4 o)] [] σ := by
      intro a p s
      induction s with
      | nil =>
        intro o z P h hz kk
        have e : o = none := h
        subst e
        refine x_aload i_May_altHeads_14 rfl ?_
        refine x_ifnull_t i_May_altHeads_16 rfl ?_
        refine Ex.weak (ls := [_, _, _, _, none]) ⟨Or.inr rfl, Or.inr rfl, Or.inr rfl, Or.inr rfl, Or.inl rfl, trivial⟩ ?_
        exact kk z (hz.cg (fun r _ => by unfold seqHd; rw [Bool.or_false]))
      | cons it s ih2 =>
        intro o z P h hz kk
        obtain ⟨b, h1, ⟨-, h2⟩, h3⟩ := h
        subst h1
        have hs : subNo σ m (k + 1) (altG σ dn n (b + 1) h4 (a + 1) h8) (altNo N n) := fun x o Q hx kk => c_May_no hm n _ _ _ _ _ (by omega) x o Q hx kk
        have hh : subHd σ m (k + 1) (altG σ dn n (b + 1) h4 (a + 1) h8) (altHd N n) := fun x o Q hx kk => ih _ _ _ _ _ (by omega) x o Q hx kk
        refine x_aload i_May_altHeads_14 rfl ?_
        refine x_ifnull_f i_May_altHeads_16 (by intro w; cases w) ?_
        refine x_iload_n i_May_altHeads_19 rfl ?_
        refine x_aload_n i_May_altHeads_20 rfl ?_
        refine x_aload i_May_altHeads_21 rfl ?_
        refine x_cv1 i_May_altHeads_23 rfl rfl rfl ?_
        refine c_May_par hs hh h2 (fun z1 hz1 => ?_)
        have hz2 := bN_or hz hz1
        refine x_ior i_May_altHeads_26 ?_
        refine x_istore_n (ls' := [_, _, _, _, _]) i_May_altHeads_27 rfl rfl ?_
        refine x_aload_n i_May_altHeads_28 rfl ?_
        refine x_aload i_May_altHeads_29 rfl ?_
        refine x_cv1 i_May_altHeads_31 rfl rfl rfl ?_
        refine c_May_item hm hs h2 ?_
        cases hi : itNo N (altNo N n) it with
        | false =>
          refine x_if_ne_f i_May_altHeads_34 rfl ?_
          refine x_goto i_May_altHeads_37 ?_
          refine Ex.weak (ls := [_, _, _, _, none]) ⟨Or.inr rfl, Or.inr rfl, Or.inr rfl, Or.inr rfl, Or.inl rfl, trivial⟩ ?_
          exact kk _ (hz2.cg (fun r _ => by simp only [seqHd]; rw [hi, Bool.false_and, Bool.or_false]))
        | true =>
          refine x_if_ne_t i_May_altHeads_34 (by decide) ?_
          refine x_aload i_May_altHeads_40 rfl ?_
          refine x_getO (c2 := 4) i_May_altHeads_42 rfl rfl ?_
          refine x_astore (ls' := [_, _, _, _, _]) i_May_altHeads_45 rfl rfl ?_
          refine x_goto i_May_altHeads_47 ?_
          exact ih2 _ _ _ h3 hz2 (fun z' hz' => kk z' (hz'.cg (fun r _ => by simp only [seqHd]; rw [hi, Bool.true_and, Bool.or_assoc])))
    have loop : ∀ (alt : List (List (Item (PT n)))) (p o : Option Nat) (z : Int) (P : Nat → Bool), chnR (FR σ 801) (fun (s : List (Item (PT n))) a => ((l8 ≤ a ∧ a < h8) ∧ s ≠ []) ∧ chnR (FR σ 406) (fun it b => (l4 ≤ b ∧ b < h4) ∧ itemG σ dn (altG σ dn n (b + 1) h4 (a + 1) h8) it b) s (FR σ 800 a)) alt o → bN z P → (∀ z', bN z' (fun r => P r || alt.any (fun s => seqHd N (altNo N n) (altHd N n) s r)) → Q (some (vi z')) σ) → Ex (wp (k + 2)) m_May_altHeads Q 4 [some (vr 3 m), some (vo 8 p), some (vi z), some (vo 8 o), none] [] σ := by
      intro alt
      induction alt with
      | nil =>
        intro p o z P h hz kk
        have e : o = none := h
        subst e
        refine x_aload_n i_May_altHeads_4 rfl ?_
        refine x_ifnull_t i_May_altHeads_5 rfl ?_
        refine x_iload_n i_May_altHeads_58 rfl ?_
        refine x_iret i_May_altHeads_59 rfl ?_
        exact kk z (hz.cg (fun r _ => by simp))
      | cons s alt ih2 =>
        intro p o z P h hz kk
        obtain ⟨a, h1, ⟨-, h3⟩, h4'⟩ := h
        subst h1
        refine x_aload_n i_May_altHeads_4 rfl ?_
        refine x_ifnull_f i_May_altHeads_5 (by intro w; cases w) ?_
        refine x_aload_n i_May_altHeads_8 rfl ?_
        refine x_getO (c2 := 4) i_May_altHeads_9 rfl rfl ?_
        refine x_astore (ls' := [_, _, _, _, _]) i_May_altHeads_12 rfl rfl ?_
        refine inner a p s _ z P h3 hz (fun z' hz' => ?_)
        refine x_aload_n i_May_altHeads_50 rfl ?_
        refine x_getO (c2 := 8) i_May_altHeads_51 rfl rfl ?_
        refine x_astore_n (ls' := [_, _, _, _, _]) i_May_altHeads_54 rfl rfl ?_
        refine x_goto i_May_altHeads_55 ?_
        exact ih2 _ _ _ _ h4' hz' (fun z2 hz2 => kk z2 (hz2.cg (fun r _ => by rw [List.any_cons, Bool.or_assoc])))
    refine x_in (ls := [some _, some _, none, none, none]) rfl rfl ?_
    refine x_iconst i_May_altHeads_0 ?_
    refine x_istore_n (ls' := [_, _, _, _, _]) i_May_altHeads_1 rfl rfl ?_
    refine x_aload_n i_May_altHeads_2 rfl ?_
    refine x_astore_n (ls' := [_, _, _, _, _]) i_May_altHeads_3 rfl rfl ?_
    exact loop alt _ _ 0 _ h2 bN_0 (fun z hz => kk z (hz.cg (fun r _ => by rw [Bool.false_or]; rfl)))
end


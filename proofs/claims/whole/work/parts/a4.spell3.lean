/-! THE CLASS's Last: a tree spelled -/
theorem drop_par {O O2 : List Nat} {dp k : Nat} (h : O2.take (dp + 1) = O.take dp ++ [k]) (hd : dp ≤ O.length) : O2.drop dp = k :: O2.drop (dp + 1) ∧ O2.take dp = O.take dp := by
  have h1 : O2 = O.take dp ++ (k :: O2.drop (dp + 1)) := by
    have := List.take_append_drop (dp + 1) O2
    rw [h] at this
    simpa using this.symm
  have hl : (O.take dp).length = dp := by rw [List.length_take, Nat.min_eq_left hd]
  constructor
  · conv => lhs; rw [h1]
    rw [List.drop_append_of_le_length (by omega), List.drop_of_length_le (by omega)]
    rfl
  · conv => lhs; rw [h1]
    rw [List.take_append_of_le_length (by omega), List.take_of_length_le (by omega)]
theorem cloL_cons (l : List FL) (k : Nat) (O : List Nat) : cloL l (k :: O) = cloL l O ++ [cloC l k] := by
  unfold cloL
  rw [List.reverse_cons, List.map_append]
  rfl
theorem cloL_len (l : List FL) (O : List Nat) : (cloL l O).length = O.length := by unfold cloL; rw [List.length_map, List.length_reverse]
theorem entL_of {l : List FL} {k : Nat} {x : FL} {y : List FL} (h : l.drop k = x :: y) : k < l.length ∧ entL l k = x ∧ l.drop (k + 1) = y := by
  refine ⟨?_, ?_, ?_⟩
  · have := congrArg List.length h
    rw [List.length_drop, List.length_cons] at this
    omega
  · unfold entL
    rw [List.getD_eq_getElem?_getD, ← List.head?_drop, h]
    rfl
  · rw [← List.tail_drop, h]
    rfl
theorem spell_tree {d : Nat} {Q : AQ} {l : List FL} : ∀ (D : Nat) (t : TT), gA true t → sizeT t ≤ D → ∀ (k dp : Nat) (rest : List FL) (O : List Nat) (A : List Int) (σ : AS), SpS σ l O A → l.drop k = flatT t dp ++ rest → dp ≤ O.length → dp ≤ k → A.length + (O.length - dp) + (sepL l (O.take dp) k).length + (textT t).length ≤ 8000 → (∀ (σ' : AS) (O' : List Nat) (A' : List Int), tX spF spA σ σ' → SpS σ' l O' A' → dp ≤ O'.length → O'.take dp = O.take dp → A' ++ cloL l (O'.drop dp) = A ++ cloL l (O.drop dp) ++ sepL l (O.take dp) k ++ textT t → Ex (wp (d + 3)) m_Last_spell Q 18 [some (vr 2 0), some (vi ((k + sizeT t : Nat) : Int))] [] σ') → Ex (wp (d + 3)) m_Last_spell Q 18 [some (vr 2 0), some (vi (k : Nat))] [] σ := by
  intro D
  induction D with
  | zero =>
    intro t hg hs
    have := gA_size hg
    omega
  | succ D ih =>
    intro t hg hs k dp rest O A σ h hdr hdp hdk hA kk
    have hl0 : (O.take dp).length = dp := by rw [List.length_take, Nat.min_eq_left hdp]
    match t, hg, hs, hdr, hA, kk with
    | .num n, hg, hs, hdr, hA, kk =>
      obtain ⟨g1, g2, g3⟩ := entL_of (x := (0, n, 0, dp)) (y := rest) hdr
      have ht : textT (.num n) = digs n := rfl
      rw [ht] at hA kk
      refine spell_node h g1 g2 hdp hdk (by decide) (fun _ => hg) (by simpa using hA) (fun σ' O' x e h' => ?_)
      simp only [if_true, List.append_nil] at e h'
      subst e
      refine kk σ' _ _ x h' (by omega) (by rw [List.take_take, Nat.min_self]) ?_
      have e0 : (O.take dp).drop dp = [] := List.drop_of_length_le (by omega)
      rw [e0]
      simp [cloL]
    | .mulL z ts, hg, hs, hdr, hA, kk =>
      have hg : gA false ts := hg
      have hs : 1 + sizeT ts ≤ D + 1 := hs
      obtain ⟨g1, g2, g3⟩ := entL_of (x := (1, 0, lenT ts, dp)) (y := flatT ts (dp + 1) ++ rest) hdr
      have ht : textT (.mulL z ts) = 91 :: textA ts (some (44, true)) ++ [93] := rfl
      rw [ht] at hA kk
      have hA2 : A.length + (O.length - dp) + (sepL l (O.take dp) k).length + (2 + (textA ts (some (44, true))).length) ≤ 8000 := by
        rw [List.length_append, List.length_cons] at hA
        simp at hA
        omega
      refine spell_node h g1 g2 hdp hdk (by decide) (fun w => by cases w) (by simp; omega) (fun σ1 O1 x1 e1 h1 => ?_)
      have h1 : SpS σ1 l O1 (A ++ cloL l (O.drop dp) ++ sepL l (O.take dp) k ++ [91]) := h1
      have e1 : O1 = O.take dp ++ [k] := e1
      have hl1 : O1.length = dp + 1 := by rw [e1, List.length_append, hl0]; rfl
      have hcC : cloC l k = 93 := by unfold cloC; rw [g2]; rfl
      have hsC : sepC l k = 44 := by unfold sepC; rw [g2]; rfl
      generalize hA1 : A ++ cloL l (O.drop dp) ++ sepL l (O.take dp) k ++ [91] = A1 at h1
      have hA1l : A1.length + (textA ts (some (44, true))).length + 1 ≤ 8000 := by
        rw [← hA1]
        simp only [List.length_append, cloL_len, List.length_drop, List.length_cons, List.length_nil]
        omega
      have forest : ∀ (us : TT), gA false us → ∀ (j : Nat) (O2 : List Nat) (A2 : List Int) (σ2 : AS), sizeT us ≤ sizeT ts → j = k + 1 + (sizeT ts - sizeT us) → tX spF spA σ σ2 → SpS σ2 l O2 A2 → l.drop j = flatT us (dp + 1) ++ rest → dp + 1 ≤ O2.length → O2.take (dp + 1) = O.take dp ++ [k] → A2 ++ cloL l (O2.drop (dp + 1)) ++ textA us (some (44, decide (j = k + 1))) = A1 ++ textA ts (some (44, true)) → Ex (wp (d + 3)) m_Last_spell Q 18 [some (vr 2 0), some (vi (j : Nat))] [] σ2 := by
        intro us
        induction us with
        | var _ =>
          intro _ j O2 A2 σ2 hu hj x2 h2 hd2 hO2 ht2 hAe
          obtain ⟨w1, w2⟩ := drop_par ht2 hdp
          have := kk σ2 O2 A2 x2 h2 (by omega) w2 (by
            rw [w1, cloL_cons, hcC, ← List.append_assoc]
            simp only [textA, List.append_nil] at hAe
            rw [hAe, ← hA1]
            simp)
          rw [show k + sizeT (.mulL z ts) = j by rw [hj]; simp only [sizeT]; omega] at this
          exact this
        | add a b _ ihb =>
          intro hgu j O2 A2 σ2 hu hj x2 h2 hd2 hO2 ht2 hAe
          have hu : sizeT a + sizeT b ≤ sizeT ts := hu
          have hj : j = k + 1 + (sizeT ts - (sizeT a + sizeT b)) := hj
          simp only [flatT, List.append_assoc] at hd2
          have hsa := gA_size hgu.1
          have esep : sepL l (O2.take (dp + 1)) j = if (decide (j = k + 1)) = true then [] else [44] := by
            rw [ht2]
            unfold sepL
            rw [List.getLast?_append]
            simp only [List.getLast?_singleton, Option.some_or, hsC]
            by_cases w : j = k + 1
            · rw [if_pos w.symm, if_pos (decide_eq_true w)]
            · rw [if_neg (fun q => w q.symm), if_neg (fun q => w (of_decide_eq_true q))]
          have hAe' : A2 ++ cloL l (O2.drop (dp + 1)) ++ (sepL l (O2.take (dp + 1)) j ++ textT a ++ textA b (some (44, false))) = A1 ++ textA ts (some (44, true)) := by
            rw [← hAe, esep]
            rfl
          have hlen := congrArg List.length hAe'
          simp only [List.length_append, cloL_len, List.length_drop] at hlen
          refine ih a hgu.1 (by omega) j (dp + 1) (flatT b (dp + 1) ++ rest) O2 A2 σ2 h2 hd2 hO2 (by omega) (by omega) (fun σ3 O3 A3 x3 h3 c1 c2 c3 => ?_)
          refine ihb hgu.2 (j + sizeT a) O3 A3 σ3 (by omega) (by omega) (x2.tr x3) h3 ?_ c1 (by rw [c2, ht2]) ?_
          · rw [← List.drop_drop, hd2, List.drop_append_of_le_length (by rw [flatT_len]; exact Nat.le_refl _), List.drop_of_length_le (by rw [flatT_len]; exact Nat.le_refl _)]
            rfl
          · rw [c3, decide_eq_false (by omega), ← hAe']
            simp
        | num _ => intro h; exact h.elim
        | mulL _ _ => intro h; exact h.elim
        | mulR _ _ => intro h; exact h.elim
      have := forest ts hg (k + 1) O1 A1 σ1 (Nat.le_refl _) (by omega) x1 h1 g3 (by omega) (by rw [← e1]; exact List.take_of_length_le (by omega)) (by rw [List.drop_of_length_le (by omega), decide_eq_true rfl]; simp [cloL])
      exact this
    | .mulR (.add a b) c, hg, hs, hdr, hA, kk =>
      obtain ⟨hc, ga, gb⟩ := hg
      have hs : 1 + (sizeT a + sizeT b) ≤ D + 1 := hs
      have hdr : l.drop k = (2, c, 2, dp) :: (flatT a (dp + 1) ++ (flatT b (dp + 1) ++ rest)) := by
        rw [hdr]
        simp [flatT]
      obtain ⟨g1, g2, g3⟩ := entL_of hdr
      have ht : textT (.mulR (.add a b) c) = 40 :: textT a ++ [if c = 0 then 63 else (c : Int)] ++ textT b ++ [41] := rfl
      rw [ht] at hA kk
      have hA2 : A.length + (O.length - dp) + (sepL l (O.take dp) k).length + (3 + (textT a).length + (textT b).length) ≤ 8000 := by
        simp only [List.length_append, List.length_cons, List.length_nil] at hA
        omega
      refine spell_node h g1 g2 hdp hdk (by decide) (fun w => by cases w) (by simp; omega) (fun σ1 O1 x1 e1 h1 => ?_)
      have h1 : SpS σ1 l O1 (A ++ cloL l (O.drop dp) ++ sepL l (O.take dp) k ++ [40]) := h1
      have e1 : O1 = O.take dp ++ [k] := e1
      have hl1 : O1.length = dp + 1 := by rw [e1, List.length_append, hl0]; rfl
      have hcC : cloC l k = 41 := by unfold cloC; rw [g2]; rfl
      have hsC : sepC l k = if c = 0 then 63 else (c : Int) := by unfold sepC numF; rw [g2]; rfl
      generalize hA1 : A ++ cloL l (O.drop dp) ++ sepL l (O.take dp) k ++ [40] = A1 at h1
      have hA1l : A1.length + (textT a).length + (textT b).length + 2 ≤ 8000 := by
        rw [← hA1]
        simp only [List.length_append, cloL_len, List.length_drop, List.length_cons, List.length_nil]
        omega
      have ht1 : O1.take (dp + 1) = O.take dp ++ [k] := by rw [← e1]; exact List.take_of_length_le (by omega)
      have es1 : sepL l (O1.take (dp + 1)) (k + 1) = [] := by
        rw [ht1]
        unfold sepL
        rw [List.getLast?_append]
        simp
      refine ih a ga (by omega) (k + 1) (dp + 1) _ O1 A1 σ1 h1 g3 (by omega) (by omega) (by rw [es1]; simp; omega) (fun σ2 O2 A2 x2 h2 c1 c2 c3 => ?_)
      have e0 : O1.drop (dp + 1) = [] := List.drop_of_length_le (by omega)
      rw [es1, e0] at c3
      have hsa := gA_size ga
      have es2 : sepL l (O2.take (dp + 1)) (k + 1 + sizeT a) = [if c = 0 then 63 else (c : Int)] := by
        rw [c2, ht1]
        unfold sepL
        rw [List.getLast?_append]
        simp only [List.getLast?_singleton, Option.some_or, hsC]
        rw [if_neg (by omega)]
      have hlen := congrArg List.length c3
      simp only [List.length_append, cloL_len, List.length_drop, List.length_nil, cloL, List.length_map, List.length_reverse] at hlen
      refine ih b gb (by omega) (k + 1 + sizeT a) (dp + 1) rest O2 A2 σ2 h2 ?_ c1 (by omega) (by rw [es2]; simp; omega) (fun σ3 O3 A3 x3 h3 b1 b2 b3 => ?_)
      · rw [← List.drop_drop, g3, List.drop_append_of_le_length (by rw [flatT_len]; exact Nat.le_refl _), List.drop_of_length_le (by rw [flatT_len]; exact Nat.le_refl _)]
        rfl
      obtain ⟨w1, w2⟩ := drop_par (b2.trans (c2.trans ht1)) hdp
      have := kk σ3 O3 A3 ((x1.tr x2).tr x3) h3 (by omega) w2 (by
        rw [w1, cloL_cons, hcC, ← List.append_assoc, b3, es2, c3, ← hA1]
        simp [cloL])
      rw [show k + sizeT (.mulR (.add a b) c) = k + 1 + sizeT a + sizeT b by simp only [sizeT]; omega] at this
      exact this


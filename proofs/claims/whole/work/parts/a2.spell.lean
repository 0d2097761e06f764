/-! THE CLASS's Last: its text -/
def rowLs (σ : AS) (r cap : Nat) (L : List Int) : Prop := rowF σ r r cap L.length (fun j => L.getD j 0)
section
variable {d : Nat} {Q : AQ} {σ : AS} {r cap : Nat} {L : List Int}
theorem rowLs.keep {σ' : AS} {r2 : Nat} (h : rowLs σ r cap L) (hx : rowX r2 r2 σ σ') (h1 : r ≠ r2) : rowLs σ' r cap L := rowF.keep h hx h1 h1
theorem c_Ls_add (h : rowLs σ r cap L) (hn : L.length < cap) {v : Int} (kk : ∀ σ', rowLs σ' r cap (L ++ [v]) → rowX r r σ σ' → Q none σ') : wp (d + 1) m_Row_add [vr 6 r, vi v] σ Q := by
  refine c_add h hn (fun σ' h1 h2 => kk σ' ?_ h2)
  unfold rowLs
  rw [List.length_append]
  refine rowF.eq h1 (fun k hk => ?_)
  simp at hk
  by_cases w : k = L.length
  · subst w
    rw [up_eq]; simp
  · rw [up_ne w, List.getD_eq_getElem?_getD, List.getD_eq_getElem?_getD, List.getElem?_append_left (by omega)]
theorem c_Ls_shrink (h : rowLs σ r cap L) {j : Nat} (hj : j ≤ L.length) (kk : ∀ σ', rowLs σ' r cap (L.take j) → rowX r r σ σ' → Q none σ') : wp (d + 1) m_Row_shrink [vr 6 r, vi (j : Nat)] σ Q := by
  refine c_shrink h rfl hj (fun σ' h1 h2 => kk σ' ?_ h2)
  unfold rowLs
  rw [List.length_take, Nat.min_eq_left hj]
  refine rowF.eq h1 (fun k hk => ?_)
  rw [List.getD_eq_getElem?_getD, List.getD_eq_getElem?_getD, List.getElem?_take_of_lt hk]
theorem c_Ls_size (h : rowLs σ r cap L) (kk : Q (some (vi (L.length : Nat))) σ) : wp (d + 1) m_Row_size [vr 6 r] σ Q := c_Row_size h kk
theorem c_Ls_at (h : rowLs σ r cap L) {j : Nat} {v : Int} (hv : L[j]? = some v) (kk : Q (some (vi v)) σ) : wp (d + 2) m_Row_at [vr 6 r, vi (j : Nat)] σ Q := by
  have hj := (List.getElem?_eq_some_iff.mp hv).1
  refine c_at_in h rfl hj ?_
  rw [List.getD_eq_getElem?_getD, hv]
  exact kk
end
def natL (O : List Nat) : List Int := O.map (fun (k : Nat) => (k : Int))
def cloC (l : List FL) (k : Nat) : Int := if (entL l k).1 = 1 then 93 else 41
def cloL (l : List FL) (O : List Nat) : List Int := O.reverse.map (cloC l)
def sepC (l : List FL) (a : Nat) : Int := if (entL l a).1 = 1 then 44 else if numF (entL l a) = 0 then 63 else (numF (entL l a) : Int)
def sepL (l : List FL) (O : List Nat) (k : Nat) : List Int := match O.getLast? with
  | none => []
  | some a => if a + 1 = k then [] else [sepC l a]
def spF (f a : Nat) : Prop := f = 601 ∧ 19 ≤ a ∧ a ≤ 20
def spA (a : Nat) : Prop := 19 ≤ a ∧ a ≤ 20
def SpS (σ : AS) (l : List FL) (O : List Nat) (A : List Int) : Prop := lsR σ ∧ rowF σ 16 16 2000 l.length (soF l) ∧ rowF σ 17 17 2000 l.length (nuF l) ∧ rowF σ 18 18 2000 l.length (wiF l) ∧ rowLs σ 19 2000 (natL O) ∧ rowLs σ 20 8000 A ∧ l.length ≤ 2000 ∧ ∀ x ∈ O, x < l.length
section
variable {d : Nat} {Q : AQ} {σ : AS} {l : List FL} {O : List Nat} {A : List Int}
theorem lsR.fr {σ σ' : AS} (h : lsR σ) (e : FR σ' = FR σ) : lsR σ' := by unfold lsR; rw [e]; exact h
theorem c_L_close (h : SpS σ l O A) {left : Nat} (hl : left ≤ O.length) (hA : A.length + (O.length - left) ≤ 8000) (kk : ∀ σ', tX spF spA σ σ' → SpS σ' l (O.take left) (A ++ cloL l (O.drop left)) → Q none σ') : wp (d + 3) m_Last_close [vr 2 0, vi (left : Nat)] σ Q := by
  obtain ⟨hL, r16, r17, r18, r19, r20, hlen, hO⟩ := id h
  have lx : ∀ {r : Nat} {a b : AS}, rowX r r a b → 19 ≤ r → r ≤ 20 → tX spF spA a b := fun h w1 w2 => h.tx ⟨rfl, w1, w2⟩ ⟨w1, w2⟩
  have nl : (natL O).length = O.length := by unfold natL; rw [List.length_map]
  have hO2 : O.length ≤ 2000 := by rw [← nl]; exact r19.2.2.2.1
  have loop : ∀ (f m : Nat) (σ1 : AS), m = left + f → m ≤ O.length → tX spF spA σ σ1 → SpS σ1 l O (A ++ cloL l (O.drop m)) → Ex (wp (d + 2)) m_Last_close Q 10 [some (vr 2 0), some (vi (left : Nat)), some (vi ((m : Int) - 1))] [] σ1 := by
    intro f
    induction f with
    | zero =>
      intro m σ1 hm hmO x1 h1
      have e : m = left := by omega
      subst e
      obtain ⟨⟨p1, p2, p3, p4, p5⟩, s16, s17, s18, s19, s20, -, -⟩ := id h1
      refine x_iload_n i_Last_close_10 rfl ?_
      refine x_iload_n i_Last_close_11 rfl ?_
      refine x_icmp_lt_t i_Last_close_12 (by omega) ?_
      refine x_aload_n i_Last_close_54 rfl ?_
      refine x_getR (c2 := 6) i_Last_close_55 rfl rfl (by assumption) ?_
      refine x_iload_n i_Last_close_58 rfl ?_
      refine x_cv1 i_Last_close_59 rfl rfl rfl ?_
      refine c_Ls_shrink s19 (j := m) (by rw [nl]; omega) (fun σ2 y2 x2 => ?_)
      refine x_vret i_Last_close_62 rfl ?_
      refine kk σ2 (x1.tr (lx x2 (by decide) (by decide))) ⟨lsR.fr ⟨p1, p2, p3, p4, p5⟩ x2.2.1, s16.keep x2 (by decide) (by decide), s17.keep x2 (by decide) (by decide), s18.keep x2 (by decide) (by decide), ?_, s20.keep x2 (by decide), hlen, fun x hx => hO x (List.mem_of_mem_take hx)⟩
      unfold natL at y2 ⊢
      rw [List.map_take]
      exact y2
    | succ f ih =>
      intro m σ1 hm hmO x1 h1
      obtain ⟨⟨p1, p2, p3, p4, p5⟩, s16, s17, s18, s19, s20, -, -⟩ := id h1
      have hm1 : m - 1 < O.length := by omega
      have e1 : ((m : Int) - 1) = ((m - 1 : Nat) : Int) := by omega
      have hx := hO _ (List.getElem_mem hm1)
      refine x_iload_n i_Last_close_10 rfl ?_
      refine x_iload_n i_Last_close_11 rfl ?_
      refine x_icmp_lt_f i_Last_close_12 (by omega) ?_
      refine x_aload_n i_Last_close_15 rfl ?_
      refine x_getR (c2 := 6) i_Last_close_16 rfl rfl (by assumption) ?_
      refine x_aload_n i_Last_close_19 rfl ?_
      refine x_getR (c2 := 6) i_Last_close_20 rfl rfl (by assumption) ?_
      refine x_aload_n i_Last_close_23 rfl ?_
      refine x_getR (c2 := 6) i_Last_close_24 rfl rfl (by assumption) ?_
      refine x_iload_n i_Last_close_27 rfl ?_
      rw [e1]
      refine x_cv1 i_Last_close_28 rfl rfl rfl ?_
      refine c_Ls_at s19 (j := m - 1) (v := ((O[m - 1]'hm1 : Nat) : Int)) (by unfold natL; rw [List.getElem?_map, List.getElem?_eq_getElem hm1]; rfl) ?_
      refine x_cv1 i_Last_close_31 rfl rfl rfl ?_
      refine c_at_in s16 (j := O[m - 1]'hm1) rfl hx ?_
      have put : ∀ z : Int, z = cloC l (O[m - 1]'hm1) → Ex (wp (d + 2)) m_Last_close Q 45 [some (vr 2 0), some (vi (left : Nat)), some (vi ((m - 1 : Nat) : Int))] [vi z, vr 6 20] σ1 := by
        intro z hz
        refine x_cv1 i_Last_close_45 rfl rfl rfl ?_
        refine c_Ls_add s20 (by rw [List.length_append]; unfold cloL; rw [List.length_map, List.length_reverse, List.length_drop]; omega) (fun σ2 y2 x2 => ?_)
        refine x_iinc (ls' := [_, _, _]) i_Last_close_48 rfl (by omega) rfl ?_
        refine x_goto i_Last_close_51 ?_
        have ed : O.drop (m - 1) = O[m - 1]'hm1 :: O.drop m := by
          rw [List.drop_eq_getElem_cons hm1, show m - 1 + 1 = m by omega]
        have := ih (m - 1) σ2 (by omega) (by omega) (x1.tr (lx x2 (by decide) (by decide))) ⟨lsR.fr ⟨p1, p2, p3, p4, p5⟩ x2.2.1, s16.keep x2 (by decide) (by decide), s17.keep x2 (by decide) (by decide), s18.keep x2 (by decide) (by decide), s19.keep x2 (by decide), by
          rw [ed]
          unfold cloL
          rw [List.reverse_cons, List.map_append, ← List.append_assoc]
          rw [hz] at y2
          exact y2, hlen, hO⟩
        exact this
      refine x_iconst i_Last_close_34 ?_
      refine x_icmp_ne i_Last_close_35 (fun g1 => ?_) (fun g1 => ?_)
      · refine x_bipush i_Last_close_43 ?_
        refine put 41 ?_
        unfold cloC
        rw [if_neg (fun w => g1 (by unfold soF; rw [w]; rfl))]
      · refine x_bipush i_Last_close_38 ?_
        refine x_goto i_Last_close_40 ?_
        refine put 93 ?_
        unfold cloC soF at *
        rw [if_pos (by omega)]
  obtain ⟨p1, p2, p3, p4, p5⟩ := hL
  refine x_in (ls := [some _, some _, none]) rfl rfl ?_
  refine x_aload_n i_Last_close_0 rfl ?_
  refine x_getR (c2 := 6) i_Last_close_1 rfl rfl (by assumption) ?_
  refine x_cv0 i_Last_close_4 rfl rfl rfl ?_
  refine c_Ls_size r19 ?_
  rw [nl]
  refine x_iconst i_Last_close_7 ?_
  refine x_isub i_Last_close_8 (by omega) ?_
  refine x_istore_n (ls' := [_, _, _]) i_Last_close_9 rfl rfl ?_
  exact loop (O.length - left) O.length σ (by omega) (Nat.le_refl _) (tX.rf _ _ _) (by rw [List.drop_length]; simpa [cloL] using h)
theorem c_L_part (h : SpS σ l O A) {k : Nat} (hk : k ≤ 2000) (hA : A.length + (sepL l O k).length ≤ 8000) (kk : ∀ σ', tX spF spA σ σ' → SpS σ' l O (A ++ sepL l O k) → Q none σ') : wp (d + 3) m_Last_part [vr 2 0, vi (k : Nat)] σ Q := by
  obtain ⟨⟨p1, p2, p3, p4, p5⟩, r16, r17, r18, r19, r20, hlen, hO⟩ := id h
  have lx : ∀ {r : Nat} {a b : AS}, rowX r r a b → 19 ≤ r → r ≤ 20 → tX spF spA a b := fun h w1 w2 => h.tx ⟨rfl, w1, w2⟩ ⟨w1, w2⟩
  have nl : (natL O).length = O.length := by unfold natL; rw [List.length_map]
  have hO2 : O.length ≤ 2000 := by rw [← nl]; exact r19.2.2.2.1
  refine x_in (ls := [some _, some _, none, none]) rfl rfl ?_
  refine x_aload_n i_Last_part_0 rfl ?_
  refine x_getR (c2 := 6) i_Last_part_1 rfl rfl (by assumption) ?_
  refine x_aload_n i_Last_part_4 rfl ?_
  refine x_getR (c2 := 6) i_Last_part_5 rfl rfl (by assumption) ?_
  refine x_cv0 i_Last_part_8 rfl rfl rfl ?_
  refine c_Ls_size r19 ?_
  rw [nl]
  refine x_iconst i_Last_part_11 ?_
  refine x_isub i_Last_part_12 (by omega) ?_
  unfold sepL at kk hA
  cases hg : O.getLast? with
  | none =>
    rw [hg] at kk
    have hO0 : O = [] := List.getLast?_eq_none_iff.mp hg
    have : wp (d + 2) m_Row_at [vr 6 19, vi ((O.length : Nat) - 1)] σ (fun r u => Ex (wp (d + 2)) m_Last_part Q 16 [some (vr 2 0), some (vi (k : Nat)), none, none] (r.toList ++ []) u) := by
      refine c_at_out r19 (by rw [hO0]; exact Or.inl (by decide)) ?_
      refine x_istore_n (ls' := [_, _, _, _]) i_Last_part_16 rfl rfl ?_
      refine x_iload_n i_Last_part_17 rfl ?_
      refine x_iconst i_Last_part_18 ?_
      refine x_icmp_eq_t i_Last_part_19 rfl ?_
      refine x_vret i_Last_part_29 rfl ?_
      exact kk σ (tX.rf _ _ _) (by simpa using h)
    refine x_cv1 i_Last_part_13 rfl rfl rfl ?_
    refine this
  | some a =>
    rw [hg] at kk hA
    simp only [] at kk hA
    have hne : O ≠ [] := by intro w; rw [w] at hg; cases hg
    have hpos : 0 < O.length := List.length_pos_iff.mpr hne
    have hal : a < l.length := hO a (List.mem_of_getLast? hg)
    have hga : (natL O)[O.length - 1]? = some (a : Int) := by
      unfold natL
      rw [List.getElem?_map, ← List.getLast?_eq_getElem?, hg]
      rfl
    rw [show ((O.length : Nat) : Int) - 1 = ((O.length - 1 : Nat) : Int) by omega]
    refine x_cv1 i_Last_part_13 rfl rfl rfl ?_
    refine c_Ls_at r19 (j := O.length - 1) hga ?_
    refine x_istore_n (ls' := [_, _, _, _]) i_Last_part_16 rfl rfl ?_
    refine x_iload_n i_Last_part_17 rfl ?_
    refine x_iconst i_Last_part_18 ?_
    refine x_icmp_eq_f i_Last_part_19 (by omega) ?_
    refine x_iload_n i_Last_part_22 rfl ?_
    refine x_iload_n i_Last_part_23 rfl ?_
    refine x_iconst i_Last_part_24 ?_
    refine x_isub i_Last_part_25 (by omega) ?_
    refine x_icmp_ne i_Last_part_26 (fun g1 => ?_) (fun g1 => ?_)
    · rw [if_neg (by omega)] at kk hA
      refine x_aload_n i_Last_part_30 rfl ?_
      refine x_getR (c2 := 6) i_Last_part_31 rfl rfl (by assumption) ?_
      refine x_iload_n i_Last_part_34 rfl ?_
      refine x_cv1 i_Last_part_35 rfl rfl rfl ?_
      refine c_at_in r17 (j := a) rfl hal ?_
      refine x_istore_n (ls' := [_, _, _, _]) i_Last_part_38 rfl rfl ?_
      refine x_aload_n i_Last_part_39 rfl ?_
      refine x_getR (c2 := 6) i_Last_part_40 rfl rfl (by assumption) ?_
      refine x_aload_n i_Last_part_43 rfl ?_
      refine x_getR (c2 := 6) i_Last_part_44 rfl rfl (by assumption) ?_
      refine x_iload_n i_Last_part_47 rfl ?_
      refine x_cv1 i_Last_part_48 rfl rfl rfl ?_
      refine c_at_in r16 (j := a) rfl hal ?_
      have put : ∀ z : Int, z = sepC l a → Ex (wp (d + 2)) m_Last_part Q 70 [some (vr 2 0), some (vi (k : Nat)), some (vi (a : Nat)), some (vi (nuF l a))] [vi z, vr 6 20] σ := by
        intro z hz
        refine x_cv1 i_Last_part_70 rfl rfl rfl ?_
        refine c_Ls_add r20 (by simp at hA; omega) (fun σ2 y2 x2 => ?_)
        rw [hz] at y2
        refine x_vret i_Last_part_73 rfl ?_
        exact kk σ2 (lx x2 (by decide) (by decide)) ⟨lsR.fr ⟨p1, p2, p3, p4, p5⟩ x2.2.1, r16.keep x2 (by decide) (by decide), r17.keep x2 (by decide) (by decide), r18.keep x2 (by decide) (by decide), r19.keep x2 (by decide), y2, hlen, hO⟩
      unfold sepC at put
      refine x_iconst i_Last_part_51 ?_
      refine x_icmp_ne i_Last_part_52 (fun g2 => ?_) (fun g2 => ?_)
      · rw [if_neg (fun w => g2 (by unfold soF; rw [w]; rfl))] at put
        refine x_iload_n i_Last_part_60 rfl ?_
        refine x_if_ne i_Last_part_61 (fun g3 => ?_) (fun g3 => ?_)
        · rw [if_neg (fun w => g3 (by unfold nuF; rw [w]; rfl))] at put
          refine x_iload_n i_Last_part_69 rfl ?_
          exact put _ rfl
        · unfold nuF at g3
          rw [if_pos (by omega)] at put
          refine x_bipush i_Last_part_64 ?_
          refine x_goto i_Last_part_66 ?_
          exact put _ rfl
      · unfold soF at g2
        rw [if_pos (by omega)] at put
        refine x_bipush i_Last_part_55 ?_
        refine x_goto i_Last_part_57 ?_
        exact put _ rfl
    · rw [if_pos (by omega)] at kk hA
      refine x_vret i_Last_part_29 rfl ?_
      exact kk σ (tX.rf _ _ _) (by simpa using h)
end


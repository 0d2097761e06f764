/-! THE CLASS's Last: spell -/
section
variable {d : Nat} {Q : AQ} {σ : AS} {l : List FL} {O : List Nat} {A : List Int}
theorem SpS.add (h : SpS σ l O A) {σ' : AS} {B : List Int} (y : rowLs σ' 20 8000 B) (x : rowX 20 20 σ σ') : tX spF spA σ σ' ∧ SpS σ' l O B := by
  obtain ⟨p, r16, r17, r18, r19, r20, hlen, hO⟩ := h
  exact ⟨x.tx ⟨rfl, by decide, by decide⟩ ⟨by decide, by decide⟩, p.fr x.2.1, r16.keep x (by decide) (by decide), r17.keep x (by decide) (by decide), r18.keep x (by decide) (by decide), r19.keep x (by decide), y, hlen, hO⟩
theorem c_L_spellNumber (h : SpS σ l O A) {n : Nat} (hn : n < 256) (hA : A.length + (digs n).length ≤ 8000) (kk : ∀ σ', tX spF spA σ σ' → SpS σ' l O (A ++ digs n) → Q none σ') : wp (d + 3) m_Last_spellNumber [vr 2 0, vi (n : Nat)] σ Q := by
  have last : ∀ (σ2 : AS) (B : List Int), tX spF spA σ σ2 → SpS σ2 l O B → B ++ [((48 + n % 10 : Nat) : Int)] = A ++ digs n → Ex (wp (d + 2)) m_Last_spellNumber Q 43 [some (vr 2 0), some (vi (n : Nat))] [] σ2 := by
    intro σ2 B x2 h2 e
    have hB : B.length < 8000 := by
      have := congrArg List.length e
      rw [List.length_append, List.length_append] at this
      simp at this
      omega
    obtain ⟨⟨p1, p2, p3, p4, p5⟩, r16, r17, r18, r19, r20, hlen, hO⟩ := id h2
    refine x_aload_n i_Last_spellNumber_43 rfl ?_
    refine x_getR (c2 := 6) i_Last_spellNumber_44 rfl rfl (by assumption) ?_
    refine x_bipush i_Last_spellNumber_47 ?_
    refine x_iload_n i_Last_spellNumber_49 rfl ?_
    refine x_bipush i_Last_spellNumber_50 ?_
    refine x_irem i_Last_spellNumber_52 (by omega) ?_
    rw [show iRem (n : Int) 10 = ((n % 10 : Nat) : Int) from iRem_nn (b := 10) (by omega) (by decide)]
    refine x_iadd i_Last_spellNumber_53 (by omega) ?_
    rw [show (48 : Int) + ((n % 10 : Nat) : Int) = ((48 + n % 10 : Nat) : Int) by omega]
    refine x_cv1 i_Last_spellNumber_54 rfl rfl rfl ?_
    refine c_Ls_add r20 hB (fun σ3 y3 x3 => ?_)
    rw [e] at y3
    obtain ⟨z1, z2⟩ := h2.add y3 x3
    refine x_vret i_Last_spellNumber_57 rfl ?_
    exact kk σ3 (x2.tr z1) z2
  have mid : ∀ (σ2 : AS) (B : List Int), tX spF spA σ σ2 → SpS σ2 l O B → B ++ (if 10 ≤ n then [((48 + n / 10 % 10 : Nat) : Int)] else []) ++ [((48 + n % 10 : Nat) : Int)] = A ++ digs n → Ex (wp (d + 2)) m_Last_spellNumber Q 20 [some (vr 2 0), some (vi (n : Nat))] [] σ2 := by
    intro σ2 B x2 h2 e
    have hB : B.length < 8000 := by
      have := congrArg List.length e
      rw [List.length_append, List.length_append, List.length_append] at this
      simp at this
      omega
    obtain ⟨⟨p1, p2, p3, p4, p5⟩, r16, r17, r18, r19, r20, hlen, hO⟩ := id h2
    refine x_iload_n i_Last_spellNumber_20 rfl ?_
    refine x_bipush i_Last_spellNumber_21 ?_
    refine x_icmp_lt i_Last_spellNumber_23 (fun w => ?_) (fun w => ?_)
    · rw [if_neg (by omega), List.append_nil] at e
      exact last σ2 B x2 h2 e
    · rw [if_pos (by omega)] at e
      refine x_aload_n i_Last_spellNumber_26 rfl ?_
      refine x_getR (c2 := 6) i_Last_spellNumber_27 rfl rfl (by assumption) ?_
      refine x_bipush i_Last_spellNumber_30 ?_
      refine x_iload_n i_Last_spellNumber_32 rfl ?_
      refine x_bipush i_Last_spellNumber_33 ?_
      refine x_idiv i_Last_spellNumber_35 (by omega) ?_
      rw [show iDiv (n : Int) 10 = ((n / 10 : Nat) : Int) from iDiv_nn (b := 10) (by omega) (by decide)]
      refine x_bipush i_Last_spellNumber_36 ?_
      refine x_irem i_Last_spellNumber_38 (by omega) ?_
      rw [show iRem ((n / 10 : Nat) : Int) 10 = ((n / 10 % 10 : Nat) : Int) from iRem_nn (b := 10) (by omega) (by decide)]
      refine x_iadd i_Last_spellNumber_39 (by omega) ?_
      rw [show (48 : Int) + ((n / 10 % 10 : Nat) : Int) = ((48 + n / 10 % 10 : Nat) : Int) by omega]
      refine x_cv1 i_Last_spellNumber_40 rfl rfl rfl ?_
      refine c_Ls_add r20 hB (fun σ3 y3 x3 => ?_)
      obtain ⟨z1, z2⟩ := h2.add y3 x3
      exact last σ3 _ (x2.tr z1) z2 e
  obtain ⟨⟨p1, p2, p3, p4, p5⟩, r16, r17, r18, r19, r20, hlen, hO⟩ := id h
  refine x_in (ls := [some _, some _]) rfl rfl ?_
  refine x_iload_n i_Last_spellNumber_0 rfl ?_
  refine x_bipush i_Last_spellNumber_1 ?_
  refine x_icmp_lt i_Last_spellNumber_3 (fun w => ?_) (fun w => ?_)
  · refine mid σ A (tX.rf _ _ _) h ?_
    unfold digs
    rw [if_neg (show ¬ 100 ≤ n by omega)]
    simp
  · refine x_aload_n i_Last_spellNumber_6 rfl ?_
    refine x_getR (c2 := 6) i_Last_spellNumber_7 rfl rfl (by assumption) ?_
    refine x_bipush i_Last_spellNumber_10 ?_
    refine x_iload_n i_Last_spellNumber_12 rfl ?_
    refine x_bipush i_Last_spellNumber_13 ?_
    refine x_idiv i_Last_spellNumber_15 (by omega) ?_
    rw [show iDiv (n : Int) 100 = ((n / 100 : Nat) : Int) from iDiv_nn (b := 100) (by omega) (by decide)]
    refine x_iadd i_Last_spellNumber_16 (by omega) ?_
    rw [show (48 : Int) + ((n / 100 : Nat) : Int) = ((48 + n / 100 : Nat) : Int) by omega]
    have hA8 : A.length < 8000 := by
      have : 1 ≤ (digs n).length := by unfold digs; simp; omega
      omega
    refine x_cv1 i_Last_spellNumber_17 rfl rfl rfl ?_
    refine c_Ls_add r20 hA8 (fun σ3 y3 x3 => ?_)
    obtain ⟨z1, z2⟩ := h.add y3 x3
    refine mid σ3 _ z1 z2 ?_
    unfold digs
    rw [if_pos (show 100 ≤ n by omega)]
    simp
/-- one node -/
theorem spell_node (h : SpS σ l O A) {k c n m dp : Nat} (hk : k < l.length) (he : entL l k = (c, n, m, dp)) (hdp : dp ≤ O.length) (hdk : dp ≤ k) (hc : c ≤ 2) (hn : c = 0 → n < 256) (hA : A.length + (O.length - dp) + (sepL l (O.take dp) k).length + (if c = 0 then (digs n).length else 2) ≤ 8000)
    (kk : ∀ σ' O', tX spF spA σ σ' → O' = O.take dp ++ (if c = 0 then [] else [k]) → SpS σ' l O' (A ++ cloL l (O.drop dp) ++ sepL l (O.take dp) k ++ (if c = 0 then digs n else [if c = 1 then 91 else 40])) → Ex (wp (d + 3)) m_Last_spell Q 18 [some (vr 2 0), some (vi ((k + 1 : Nat) : Int))] [] σ') : Ex (wp (d + 3)) m_Last_spell Q 18 [some (vr 2 0), some (vi (k : Nat))] [] σ := by
  obtain ⟨⟨p1, p2, p3, p4, p5⟩, r16, r17, r18, r19, r20, hlen, hO⟩ := id h
  have e1 : soF l k = (c : Int) := by unfold soF; rw [he]
  have e3 : wiF l k = (dp : Int) := by unfold wiF; rw [he]
  have hclo : (cloL l (O.drop dp)).length = O.length - dp := by unfold cloL; rw [List.length_map, List.length_reverse, List.length_drop]
  refine x_iload_n i_Last_spell_18 rfl ?_
  refine x_aload_n i_Last_spell_19 rfl ?_
  refine x_getR (c2 := 6) i_Last_spell_20 rfl rfl (by assumption) ?_
  refine x_cv0 i_Last_spell_23 rfl rfl rfl ?_
  refine c_Row_size r16 ?_
  refine x_icmp_ge_f i_Last_spell_26 (by omega) ?_
  refine x_aload_n i_Last_spell_29 rfl ?_
  refine x_aload_n i_Last_spell_30 rfl ?_
  refine x_getR (c2 := 6) i_Last_spell_31 rfl rfl (by assumption) ?_
  refine x_iload_n i_Last_spell_34 rfl ?_
  refine x_cv1 i_Last_spell_35 rfl rfl rfl ?_
  refine c_at_in r18 (j := k) rfl hk ?_
  rw [e3]
  refine x_cv1 i_Last_spell_38 rfl rfl rfl ?_
  refine c_L_close h (left := dp) hdp (by omega) (fun σ1 x1 h1 => ?_)
  have ex1 := x1.2.1
  rw [← ex1] at p1 p2 p3 p4 p5
  refine x_aload_n i_Last_spell_41 rfl ?_
  refine x_iload_n i_Last_spell_42 rfl ?_
  refine x_cv1 i_Last_spell_43 rfl rfl rfl ?_
  refine c_L_part h1 (k := k) (by omega) (by rw [List.length_append, hclo]; omega) (fun σ2 x2 h2 => ?_)
  have ex2 := x2.2.1
  rw [← ex2] at p1 p2 p3 p4 p5
  obtain ⟨-, s16, s17, s18, s19, s20, -, -⟩ := id h2
  refine x_aload_n i_Last_spell_46 rfl ?_
  refine x_getR (c2 := 6) i_Last_spell_47 rfl rfl (by assumption) ?_
  refine x_iload_n i_Last_spell_50 rfl ?_
  refine x_cv1 i_Last_spell_51 rfl rfl rfl ?_
  refine c_at_in s16 (j := k) rfl hk ?_
  rw [e1]
  by_cases hc0 : c = 0
  · subst hc0
    rw [if_pos rfl] at hA
    simp only [if_true] at kk
    have e2 : nuF l k = (n : Int) := by unfold nuF numF; rw [he]; rfl
    refine x_if_ne_f i_Last_spell_54 rfl ?_
    refine x_aload_n i_Last_spell_57 rfl ?_
    refine x_aload_n i_Last_spell_58 rfl ?_
    refine x_getR (c2 := 6) i_Last_spell_59 rfl rfl (by assumption) ?_
    refine x_iload_n i_Last_spell_62 rfl ?_
    refine x_cv1 i_Last_spell_63 rfl rfl rfl ?_
    refine c_at_in s17 (j := k) rfl hk ?_
    rw [e2]
    refine x_cv1 i_Last_spell_66 rfl rfl rfl ?_
    refine c_L_spellNumber h2 (hn rfl) (by rw [List.length_append, List.length_append, hclo]; omega) (fun σ3 x3 h3 => ?_)
    have fin := kk σ3 _ ((x1.tr x2).tr x3) (List.append_nil _).symm h3
    refine x_goto i_Last_spell_69 ?_
    refine x_iinc (ls' := [_, _]) i_Last_spell_106 rfl (by omega) rfl ?_
    refine x_goto i_Last_spell_109 ?_
    exact fin
  · rw [if_neg hc0] at hA
    simp only [if_neg hc0] at kk
    have nl : (natL (O.take dp)).length = dp := by unfold natL; rw [List.length_map, List.length_take, Nat.min_eq_left hdp]
    have fin : ∀ z : Int, z = (if c = 1 then 91 else 40) → Ex (wp (d + 3)) m_Last_spell Q 95 [some (vr 2 0), some (vi (k : Nat))] [vi z, vr 6 20] σ2 := by
      intro z hz
      refine x_cv1 i_Last_spell_95 rfl rfl rfl ?_
      refine c_Ls_add s20 (by rw [List.length_append, List.length_append, hclo]; omega) (fun σ3 y3 x3 => ?_)
      obtain ⟨z1, z2⟩ := h2.add y3 x3
      obtain ⟨⟨u1, u2, u3, u4, u5⟩, t16, t17, t18, t19, t20, -, tO⟩ := id z2
      refine x_aload_n i_Last_spell_98 rfl ?_
      refine x_getR (c2 := 6) i_Last_spell_99 rfl rfl (by assumption) ?_
      refine x_iload_n i_Last_spell_102 rfl ?_
      refine x_cv1 i_Last_spell_103 rfl rfl rfl ?_
      refine c_Ls_add t19 (v := (k : Nat)) (by rw [nl]; omega) (fun σ4 y4 x4 => ?_)
      have h4 : SpS σ4 l (O.take dp ++ [k]) (A ++ cloL l (O.drop dp) ++ sepL l (O.take dp) k ++ [z]) := ⟨lsR.fr ⟨u1, u2, u3, u4, u5⟩ x4.2.1, t16.keep x4 (by decide) (by decide), t17.keep x4 (by decide) (by decide), t18.keep x4 (by decide) (by decide), by unfold natL at y4 ⊢; rw [List.map_append]; exact y4, t20.keep x4 (by decide), hlen, fun x hx => by
        rcases List.mem_append.mp hx with w | w
        · exact tO x w
        · rw [List.mem_singleton.mp w]; exact hk⟩
      rw [hz] at h4
      have fin := kk σ4 _ (((x1.tr x2).tr z1).tr (x4.tx ⟨rfl, by decide, by decide⟩ ⟨by decide, by decide⟩)) rfl h4
      refine x_iinc (ls' := [_, _]) i_Last_spell_106 rfl (by omega) rfl ?_
      refine x_goto i_Last_spell_109 ?_
      exact fin
    refine x_if_ne_t i_Last_spell_54 (by omega) ?_
    refine x_aload_n i_Last_spell_72 rfl ?_
    refine x_getR (c2 := 6) i_Last_spell_73 rfl rfl (by assumption) ?_
    refine x_aload_n i_Last_spell_76 rfl ?_
    refine x_getR (c2 := 6) i_Last_spell_77 rfl rfl (by assumption) ?_
    refine x_iload_n i_Last_spell_80 rfl ?_
    refine x_cv1 i_Last_spell_81 rfl rfl rfl ?_
    refine c_at_in s16 (j := k) rfl hk ?_
    rw [e1]
    refine x_iconst i_Last_spell_84 ?_
    refine x_icmp_ne i_Last_spell_85 (fun g1 => ?_) (fun g1 => ?_)
    · refine x_bipush i_Last_spell_93 ?_
      exact fin 40 (by rw [if_neg (by omega)])
    · refine x_bipush i_Last_spell_88 ?_
      refine x_goto i_Last_spell_90 ?_
      exact fin 91 (by rw [if_pos (by omega)])
end


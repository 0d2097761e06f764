/-- a tree's number, or -1 -/
def oI (o : Option Nat) : Int := match o with | none => -1 | some i => (i : Int)
def oN (N : Nat) (o : Option Nat) : Prop := ∀ i, o = some i → i < N
def codeT (t : Option TT) : Nat := match t with | some (.num n) => n | _ => 0
section
variable {d : Nat} {Q : AQ} {σ : AS} {N K : Nat} {tab : Nat → TT} {H : List Nat}
theorem c_T_joined (h : TrS σ N K tab H) {mk : Nat} {q : Int} (hmk : mk ≤ H.length) (hN : N < 2257) (hK : K + (H.length - mk) ≤ 3000)
    (k0 : H.length = mk → ∀ σ', TrS σ' N K tab (H.take mk) → trX σ σ' → Q (some (vi q)) σ')
    (k1 : ∀ i, H.drop mk = [i] → i < N → ∀ σ', TrS σ' N K tab (H.take mk) → trX σ σ' → Q (some (vi (i : Nat))) σ')
    (k2 : mk + 1 < H.length → 2000 < sizeT (boughT ((H.drop mk).map tab)) → Q (some (vi (-2))) σ)
    (k3 : mk + 1 < H.length → sizeT (boughT ((H.drop mk).map tab)) ≤ 2000 → ∀ σ' tab', TrS σ' (N + 1) (K + (H.length - mk)) tab' (H.take mk) → tab' N = boughT ((H.drop mk).map tab) → (∀ j, j < N → tab' j = tab j) → trX σ σ' → Q (some (vi (N : Nat))) σ') : wp (d + 4) m_Trees_joined [vr 9 0, vi (mk : Nat), vi q] σ Q := by
  obtain ⟨so, nu, fk, sz, va, ki, he, hq, r1, r2, r3, r4, r5, r6, r7, z1, z2, z3, z4, z5⟩ := id h
  obtain ⟨q0, q1, q2, q3, q4, q5, q6⟩ := id hq
  have ht2 : ∀ (k i : Nat), (List.take mk H)[k]? = some i → he k = (i : Int) ∧ i < N := by
    intro k i hk
    rw [List.getElem?_take] at hk
    split at hk
    · exact z2 k i hk
    · cases hk
  have keep : ∀ σ', rowF σ' 12 12 2000 mk he → rowX 12 12 σ σ' → TrS σ' N K tab (H.take mk) := fun σ' c1 c2 => ⟨so, nu, fk, sz, va, ki, he, by unfold trR; rw [c2.2.1]; exact hq, r1.keep c2 (by omega) (by omega), r2.keep c2 (by omega) (by omega), r3.keep c2 (by omega) (by omega), r4.keep c2 (by omega) (by omega), r5.keep c2 (by omega) (by omega), r6.keep c2 (by omega) (by omega), by rw [List.length_take, Nat.min_eq_left hmk]; exact c1, z1, ht2, z3, z4, z5⟩
  refine x_in (ls := [some _, some _, some _, none, none]) rfl rfl ?_
  refine x_aload_n i_Trees_joined_0 rfl ?_
  refine x_getR (c2 := 6) i_Trees_joined_1 rfl rfl (by assumption) ?_
  refine x_cv0 i_Trees_joined_4 rfl rfl rfl ?_
  refine c_Row_size r7 ?_
  refine x_iload_n i_Trees_joined_7 rfl ?_
  refine x_isub i_Trees_joined_8 (by omega) ?_
  refine x_istore_n (ls' := [_, _, _, _, _]) i_Trees_joined_9 rfl rfl ?_
  refine x_iload_n i_Trees_joined_10 rfl ?_
  refine x_iconst i_Trees_joined_11 ?_
  refine x_icmp_le i_Trees_joined_12 (fun h1 => ?_) (fun h1 => ?_)
  · refine x_iload_n i_Trees_joined_21 rfl ?_
    refine x_iconst i_Trees_joined_22 ?_
    refine x_icmp_ne i_Trees_joined_23 (fun h2 => ?_) (fun h2 => ?_)
    · refine x_iload_n i_Trees_joined_37 rfl ?_
      refine x_istore (ls' := [_, _, _, _, _]) i_Trees_joined_38 rfl rfl ?_
      refine x_aload_n i_Trees_joined_40 rfl ?_
      refine x_getR (c2 := 6) i_Trees_joined_41 rfl rfl (by assumption) ?_
      refine x_iload_n i_Trees_joined_44 rfl ?_
      refine x_cv1 i_Trees_joined_45 rfl rfl rfl ?_
      refine c_shrink r7 rfl hmk (fun σ' c1 c2 => ?_)
      refine x_iload i_Trees_joined_48 rfl ?_
      refine x_iret i_Trees_joined_50 rfl ?_
      exact k0 (by omega) σ' (keep σ' c1 c2) (c2.tr (by omega) (by omega))
    · have hl : mk < H.length := by omega
      have hg := List.getElem?_eq_getElem hl
      obtain ⟨y1, y2⟩ := z2 _ _ hg
      refine x_aload_n i_Trees_joined_26 rfl ?_
      refine x_getR (c2 := 6) i_Trees_joined_27 rfl rfl (by assumption) ?_
      refine x_iload_n i_Trees_joined_30 rfl ?_
      refine x_cv1 i_Trees_joined_31 rfl rfl rfl ?_
      refine c_at_in r7 (j := mk) rfl hl ?_
      rw [y1]
      refine x_goto i_Trees_joined_34 ?_
      refine x_istore (ls' := [_, _, _, _, _]) i_Trees_joined_38 rfl rfl ?_
      refine x_aload_n i_Trees_joined_40 rfl ?_
      refine x_getR (c2 := 6) i_Trees_joined_41 rfl rfl (by assumption) ?_
      refine x_iload_n i_Trees_joined_44 rfl ?_
      refine x_cv1 i_Trees_joined_45 rfl rfl rfl ?_
      refine c_shrink r7 rfl hmk (fun σ' c1 c2 => ?_)
      refine x_iload i_Trees_joined_48 rfl ?_
      refine x_iret i_Trees_joined_50 rfl ?_
      refine k1 _ ?_ y2 σ' (keep σ' c1 c2) (c2.tr (by omega) (by omega))
      rw [List.drop_eq_getElem_cons hl, List.drop_eq_nil_of_le (by omega)]
  · refine x_aload_n i_Trees_joined_15 rfl ?_
    refine x_iload_n i_Trees_joined_16 rfl ?_
    refine x_cv1 i_Trees_joined_17 rfl rfl rfl ?_
    refine c_T_bough h hmk hN hK (fun e => absurd e (by omega)) (fun a b => ?_) (fun a b σ' tab' c1 c2 c3 c4 => ?_)
    · refine x_iret i_Trees_joined_20 rfl ?_
      exact k2 (by omega) b
    · refine x_iret i_Trees_joined_20 rfl ?_
      exact k3 (by omega) b σ' tab' c1 c2 c3 c4
theorem c_T_reckoned {c : Nat} {a b : Int} (kk : Q (some (vi (reck c a b))) σ) : wp (d + 1) m_Trees_reckoned [vi (c : Nat), vi a, vi b] σ Q := by
  refine x_in (ls := [some _, some _, some _]) rfl rfl ?_
  refine x_iload_n i_Trees_reckoned_0 rfl ?_
  refine x_bipush i_Trees_reckoned_1 ?_
  refine x_icmp_ne i_Trees_reckoned_3 (fun h1 => ?_) (fun h1 => ?_)
  · refine x_iload_n i_Trees_reckoned_12 rfl ?_
    refine x_bipush i_Trees_reckoned_13 ?_
    refine x_icmp_ne i_Trees_reckoned_15 (fun h2 => ?_) (fun h2 => ?_)
    · refine x_iload_n i_Trees_reckoned_24 rfl ?_
      refine x_bipush i_Trees_reckoned_25 ?_
      refine x_icmp_ne i_Trees_reckoned_27 (fun h3 => ?_) (fun h3 => ?_)
      · refine x_iconst i_Trees_reckoned_36 ?_
        rw [reck, if_neg (by omega), if_neg (by omega), if_neg (by omega)] at kk
        refine x_iret i_Trees_reckoned_37 rfl ?_
        exact kk
      · refine x_iload_n i_Trees_reckoned_30 rfl ?_
        refine x_iload_n i_Trees_reckoned_31 rfl ?_
        refine x_imulW i_Trees_reckoned_32 ?_
        refine x_goto i_Trees_reckoned_33 ?_
        rw [reck, if_neg (by omega), if_neg (by omega), if_pos (by omega)] at kk
        refine x_iret i_Trees_reckoned_37 rfl ?_
        exact kk
    · refine x_iload_n i_Trees_reckoned_18 rfl ?_
      refine x_iload_n i_Trees_reckoned_19 rfl ?_
      refine x_isubW i_Trees_reckoned_20 ?_
      refine x_goto i_Trees_reckoned_21 ?_
      rw [reck, if_neg (by omega), if_pos (by omega)] at kk
      refine x_iret i_Trees_reckoned_37 rfl ?_
      exact kk
  · refine x_iload_n i_Trees_reckoned_6 rfl ?_
    refine x_iload_n i_Trees_reckoned_7 rfl ?_
    refine x_iaddW i_Trees_reckoned_8 ?_
    refine x_goto i_Trees_reckoned_9 ?_
    rw [reck, if_pos (by omega)] at kk
    refine x_iret i_Trees_reckoned_37 rfl ?_
    exact kk
theorem forkT_size (c : Nat) (a b : TT) : sizeT (forkT c a b) = 1 + (sizeT a + sizeT b) := rfl
theorem forkT_worth (c : Nat) (a b : TT) : worthT (forkT c a b) = reck c (worthT a) (worthT b) := by
  have z : wr (0 * 10) = 0 := by unfold wr; decide
  have hr : wr (reck c (worthA a 0) (worthA b 0)) = reck c (worthA a 0) (worthA b 0) := by
    unfold reck
    split
    · exact wr_wr _
    · split
      · exact wr_wr _
      · split
        · exact wr_wr _
        · unfold wr; decide
  simp only [worthT, forkT, worthA, z, Int.zero_add]
  exact hr
theorem c_T_fork (h : TrS σ N K tab H) {s l r : Option Nat} (hs : oN N s) (hl : oN N l) (hr : oN N r) (hN : N < 2257) (hK : K + 2 ≤ 3000)
    (k1 : 2000 < sizeT (forkT (codeT (s.map tab)) ((l.map tab).getD (boughT [])) ((r.map tab).getD (boughT []))) → Q (some (vi (-2))) σ)
    (k2 : sizeT (forkT (codeT (s.map tab)) ((l.map tab).getD (boughT [])) ((r.map tab).getD (boughT []))) ≤ 2000 → ∀ σ' tab', TrS σ' (N + 1) (K + 2) tab' H → tab' N = forkT (codeT (s.map tab)) ((l.map tab).getD (boughT [])) ((r.map tab).getD (boughT [])) → (∀ j, j < N → tab' j = tab j) → trX σ σ' → Q (some (vi (N : Nat))) σ') : wp (d + 3) m_Trees_fork [vr 9 0, vi (oI s), vi (oI l), vi (oI r)] σ Q := by
  obtain ⟨so, nu, fk, sz, va, ki, he, hq, r1, r2, r3, r4, r5, r6, r7, z1, z2, z3, z4, z5⟩ := id h
  obtain ⟨q0, q1, q2, q3, q4, q5, q6⟩ := id hq
  have hd : ∀ o : Option Nat, oN N o → ∃ i : Nat, i < N ∧ (o.map tab).getD (boughT []) = tab i ∧ ((o = none ∧ i = 256) ∨ o = some i) := by
    intro o ho
    cases o with
    | none => exact ⟨256, by omega, z5.symm, Or.inl ⟨rfl, rfl⟩⟩
    | some i => exact ⟨i, ho i rfl, rfl, Or.inr rfl⟩
  obtain ⟨l1, hl1, el, cl⟩ := hd l hl
  obtain ⟨r1', hr1, er, cr⟩ := hd r hr
  rw [el, er] at k1 k2
  obtain ⟨x1, x2, x3, x4⟩ := z1 l1 hl1
  obtain ⟨y1, y2, y3, y4⟩ := z1 r1' hr1
  have fin : Ex (wp (d + 2)) m_Trees_fork Q 28 [some (vr 9 0), some (vi (oI s)), some (vi (oI l)), some (vi (oI r)), some (vi (l1 : Nat)), some (vi (r1' : Nat)), none, none, none] [] σ := by
    refine x_iconst i_Trees_fork_28 ?_
    refine x_aload_n i_Trees_fork_29 rfl ?_
    refine x_getR (c2 := 6) i_Trees_fork_30 rfl rfl (by assumption) ?_
    refine x_iload i_Trees_fork_33 rfl ?_
    refine x_cv1 i_Trees_fork_35 rfl rfl rfl ?_
    refine c_at_in r4 rfl hl1 ?_
    rw [x1]
    refine x_iadd i_Trees_fork_38 (by omega) ?_
    refine x_aload_n i_Trees_fork_39 rfl ?_
    refine x_getR (c2 := 6) i_Trees_fork_40 rfl rfl (by assumption) ?_
    refine x_iload i_Trees_fork_43 rfl ?_
    refine x_cv1 i_Trees_fork_45 rfl rfl rfl ?_
    refine c_at_in r4 rfl hr1 ?_
    rw [y1]
    refine x_iadd i_Trees_fork_48 (by omega) ?_
    refine x_istore (ls' := [_, _, _, _, _, _, _, _, _]) i_Trees_fork_49 rfl rfl ?_
    refine x_iload i_Trees_fork_51 rfl ?_
    refine x_sipush i_Trees_fork_53 ?_
    rw [forkT_size] at k1 k2
    refine x_icmp_le i_Trees_fork_56 (fun hz => ?_) (fun hz => ?_)
    · have rest : ∀ c : Nat, c < 256 → codeT (s.map tab) = c → Ex (wp (d + 2)) m_Trees_fork Q 85 [some (vr 9 0), some (vi (oI s)), some (vi (oI l)), some (vi (oI r)), some (vi (l1 : Nat)), some (vi (r1' : Nat)), some (vi (1 + (sizeT (tab l1) : Nat) + (sizeT (tab r1') : Nat))), none, none] [vi (c : Nat)] σ := by
        intro c hc hcc
        rw [hcc] at k2
        refine x_istore (ls' := [_, _, _, _, _, _, _, _, _]) i_Trees_fork_85 rfl rfl ?_
        refine x_aload_n i_Trees_fork_87 rfl ?_
        refine x_iconst i_Trees_fork_88 ?_
        refine x_iload i_Trees_fork_89 rfl ?_
        refine x_iload i_Trees_fork_91 rfl ?_
        refine x_iload i_Trees_fork_93 rfl ?_
        refine x_aload_n i_Trees_fork_95 rfl ?_
        refine x_getR (c2 := 6) i_Trees_fork_96 rfl rfl (by assumption) ?_
        refine x_iload i_Trees_fork_99 rfl ?_
        refine x_cv1 i_Trees_fork_101 rfl rfl rfl ?_
        refine c_at_in r5 rfl hl1 ?_
        rw [x2]
        refine x_aload_n i_Trees_fork_104 rfl ?_
        refine x_getR (c2 := 6) i_Trees_fork_105 rfl rfl (by assumption) ?_
        refine x_iload i_Trees_fork_108 rfl ?_
        refine x_cv1 i_Trees_fork_110 rfl rfl rfl ?_
        refine c_at_in r5 rfl hr1 ?_
        rw [y2]
        refine x_cs3 i_Trees_fork_113 rfl rfl ?_
        refine c_T_reckoned ?_
        refine x_cv4 i_Trees_fork_116 rfl rfl rfl ?_
        refine c_T_make hq r1 r2 r3 r4 r5 r6 hN (fun σ1 g0 g1 g2 g3 g4 g5 g6 t1 => ?_)
        obtain ⟨b0, b1, b2, b3, b4, b5, b6⟩ := id g0
        refine x_istore (ls' := [_, _, _, _, _, _, _, _, _]) i_Trees_fork_119 rfl rfl ?_
        refine x_aload_n i_Trees_fork_121 rfl ?_
        refine x_getR (c2 := 6) i_Trees_fork_122 rfl rfl (by assumption) ?_
        refine x_iload i_Trees_fork_125 rfl ?_
        refine x_cv1 i_Trees_fork_127 rfl rfl rfl ?_
        refine c_add g6 (by omega) (fun σ2 c1 c2 => ?_)
        have b5' : FR σ2 905 0 = some 11 := by rw [c2.2.1]; exact b5
        refine x_aload_n i_Trees_fork_130 rfl ?_
        refine x_getR (c2 := 6) i_Trees_fork_131 rfl rfl (by assumption) ?_
        refine x_iload i_Trees_fork_134 rfl ?_
        refine x_cv1 i_Trees_fork_136 rfl rfl rfl ?_
        refine c_add c1 (by omega) (fun σ3 e1 e2 => ?_)
        refine x_iload i_Trees_fork_139 rfl ?_
        have w : ∀ {r : Nat} {n : Nat} {f : Nat → Int}, r ≤ 10 → rowF σ1 r r 2257 n f → rowF σ3 r r 2257 n f := fun hr h => (h.keep c2 (by omega) (by omega)).keep e2 (by omega) (by omega)
        refine x_iret i_Trees_fork_141 rfl ?_
        refine k2 (by omega) σ3 (upT tab N (forkT c (tab l1) (tab r1'))) ⟨_, _, _, _, _, _, he, by unfold trR; rw [e2.2.1, c2.2.1]; exact g0, w (by omega) g1, w (by omega) g2, w (by omega) g3, w (by omega) g4, w (by omega) g5, e1, ((t1.row r7 (by omega) (by omega)).keep c2 (by omega) (by omega)).keep e2 (by omega) (by omega), fun i hi => ?_, fun k i hk => ?_, by omega, fun i hi => ?_, ?_⟩ (upT_eq _ _ _) (fun j hj => upT_ne (by omega)) ?_
        · by_cases hiN : i = N
          · subst hiN
            rw [upT_eq, up_eq, up_eq]
            refine ⟨by rw [forkT_size]; omega, by rw [forkT_worth], Or.inr (Or.inr ⟨c, tab l1, tab r1', hc, upT_eq _ _ _, up_eq _ _ _, up_eq _ _ _, K, up_eq _ _ _, fun j hj => by simp at hj; omega, fun j t hj => ?_⟩), by rw [forkT_size]; omega⟩
            match j, hj with
            | 0, hj => cases hj; exact ⟨l1, hl1, by rw [up_ne (by omega)]; exact up_eq _ _ _, upT_ne (by omega)⟩
            | 1, hj => cases hj; exact ⟨r1', hr1, up_eq _ _ _, upT_ne (by omega)⟩
            | j + 2, hj => simp at hj
          · obtain ⟨w1, w2, w3, w4⟩ := z1 i (by omega)
            rw [upT_ne hiN, up_ne hiN, up_ne hiN]
            exact ⟨w1, w2, w3.up (fun j hj => upT_ne (by omega)) (by omega) (up_ne hiN) (up_ne hiN) (up_ne hiN) (fun j hj => by rw [up_ne (by omega), up_ne (by omega)]), w4⟩
        · obtain ⟨w1, w2⟩ := z2 k i hk
          exact ⟨w1, by omega⟩
        · rw [upT_ne (by omega)]; exact z4 i hi
        · rw [upT_ne (by omega)]; exact z5
        · exact (t1.mono (fun f a h => ⟨h.1, h.2.1, by omega⟩) (fun a h => ⟨h.1, by omega⟩)).tr ((c2.tr (by omega) (by omega)).tr (e2.tr (by omega) (by omega)))
      refine x_aload_n i_Trees_fork_62 rfl ?_
      refine x_getR (c2 := 6) i_Trees_fork_63 rfl rfl (by assumption) ?_
      refine x_iload_n i_Trees_fork_66 rfl ?_
      cases s with
      | none =>
        refine x_cv1 i_Trees_fork_67 rfl rfl rfl ?_
        refine c_at_out r1 (Or.inl (by decide)) ?_
        refine x_if_ne_t i_Trees_fork_70 (by omega) ?_
        refine x_iconst i_Trees_fork_84 ?_
        exact rest 0 (by omega) rfl
      | some i =>
        have hi := hs i rfl
        refine x_cv1 i_Trees_fork_67 rfl rfl rfl ?_
        refine c_at_in r1 rfl hi ?_
        obtain ⟨-, -, w3, -⟩ := z1 i hi
        rcases w3 with ⟨n, hn, g1, g2, g3⟩ | ⟨ts, g1, g2, g3, g4⟩ | ⟨c, a, b, hc, g1, g2, g3, g4⟩
        · rw [g2]
          refine x_if_ne_f i_Trees_fork_70 rfl ?_
          refine x_aload_n i_Trees_fork_73 rfl ?_
          refine x_getR (c2 := 6) i_Trees_fork_74 rfl rfl (by assumption) ?_
          refine x_iload_n i_Trees_fork_77 rfl ?_
          refine x_cv1 i_Trees_fork_78 rfl rfl rfl ?_
          refine c_at_in r2 rfl hi ?_
          rw [g3]
          refine x_goto i_Trees_fork_81 ?_
          exact rest n hn (by simp only [Option.map_some, g1, codeT])
        · rw [g2]
          refine x_if_ne_t i_Trees_fork_70 (by omega) ?_
          refine x_iconst i_Trees_fork_84 ?_
          exact rest 0 (by omega) (by simp only [Option.map_some, g1, boughT, codeT])
        · rw [g2]
          refine x_if_ne_t i_Trees_fork_70 (by omega) ?_
          refine x_iconst i_Trees_fork_84 ?_
          exact rest 0 (by omega) (by simp only [Option.map_some, g1, forkT, codeT])
    · refine x_bipush i_Trees_fork_59 ?_
      refine x_iret i_Trees_fork_61 rfl ?_
      exact k1 (by omega)
  have mid : Ex (wp (d + 2)) m_Trees_fork Q 14 [some (vr 9 0), some (vi (oI s)), some (vi (oI l)), some (vi (oI r)), some (vi (l1 : Nat)), none, none, none, none] [] σ := by
    refine x_iload_n i_Trees_fork_14 rfl ?_
    refine x_iconst i_Trees_fork_15 ?_
    rcases cr with ⟨rfl, rfl⟩ | rfl
    · refine x_icmp_ne_f i_Trees_fork_16 rfl ?_
      refine x_sipush i_Trees_fork_19 ?_
      refine x_goto i_Trees_fork_22 ?_
      refine x_istore (ls' := [_, _, _, _, _, _, _, _, _]) i_Trees_fork_26 rfl rfl ?_
      exact fin
    · skip
      refine x_icmp_ne_t i_Trees_fork_16 (by simp only [oI]; omega) ?_
      refine x_iload_n i_Trees_fork_25 rfl ?_
      refine x_istore (ls' := [_, _, _, _, _, _, _, _, _]) i_Trees_fork_26 rfl rfl ?_
      exact fin
  refine x_in (ls := [some _, some _, some _, some _, none, none, none, none, none]) rfl rfl ?_
  refine x_iload_n i_Trees_fork_0 rfl ?_
  refine x_iconst i_Trees_fork_1 ?_
  rcases cl with ⟨rfl, rfl⟩ | rfl
  · refine x_icmp_ne_f i_Trees_fork_2 rfl ?_
    refine x_sipush i_Trees_fork_5 ?_
    refine x_goto i_Trees_fork_8 ?_
    refine x_istore (ls' := [_, _, _, _, _, _, _, _, _]) i_Trees_fork_12 rfl rfl ?_
    exact mid
  · skip
    refine x_icmp_ne_t i_Trees_fork_2 (by simp only [oI]; omega) ?_
    refine x_iload_n i_Trees_fork_11 rfl ?_
    refine x_istore (ls' := [_, _, _, _, _, _, _, _, _]) i_Trees_fork_12 rfl rfl ?_
    exact mid
theorem c_T_clear (h : TrS σ N K tab H) (kk : ∀ σ' tab', TrS σ' 257 0 tab' [] → trX σ σ' → Q none σ') : wp (d + 2) m_Trees_clear [vr 9 0] σ Q := by
  obtain ⟨so, nu, fk, sz, va, ki, he, hq, r1, r2, r3, r4, r5, r6, r7, z1, z2, z3, z4, z5⟩ := id h
  have nx : ∀ {r : Nat} {σ1 σ2 : AS}, rowX r r σ1 σ2 → trR σ1 → trR σ2 := fun c h => by unfold trR; rw [c.2.1]; exact h
  obtain ⟨q0, q1, q2, q3, q4, q5, q6⟩ := id hq
  refine x_in (ls := [some _]) rfl rfl ?_
  refine x_aload_n i_Trees_clear_0 rfl ?_
  refine x_getR (c2 := 6) i_Trees_clear_1 rfl rfl (by assumption) ?_
  refine x_sipush i_Trees_clear_4 ?_
  refine x_cv1 i_Trees_clear_7 rfl rfl rfl ?_
  refine c_shrink r1 (j := 257) rfl z3 (fun σ1 c1 x1 => ?_)
  have h1 := nx x1 hq
  obtain ⟨q0, q1, q2, q3, q4, q5, q6⟩ := id h1
  refine x_aload_n i_Trees_clear_10 rfl ?_
  refine x_getR (c2 := 6) i_Trees_clear_11 rfl rfl (by assumption) ?_
  refine x_sipush i_Trees_clear_14 ?_
  refine x_cv1 i_Trees_clear_17 rfl rfl rfl ?_
  refine c_shrink (r2.keep x1 (by omega) (by omega)) (j := 257) rfl z3 (fun σ2 c2 x2 => ?_)
  have h2 := nx x2 h1
  obtain ⟨q0, q1, q2, q3, q4, q5, q6⟩ := id h2
  refine x_aload_n i_Trees_clear_20 rfl ?_
  refine x_getR (c2 := 6) i_Trees_clear_21 rfl rfl (by assumption) ?_
  refine x_sipush i_Trees_clear_24 ?_
  refine x_cv1 i_Trees_clear_27 rfl rfl rfl ?_
  refine c_shrink ((r3.keep x1 (by omega) (by omega)).keep x2 (by omega) (by omega)) (j := 257) rfl z3 (fun σ3 c3 x3 => ?_)
  have h3 := nx x3 h2
  obtain ⟨q0, q1, q2, q3, q4, q5, q6⟩ := id h3
  refine x_aload_n i_Trees_clear_30 rfl ?_
  refine x_getR (c2 := 6) i_Trees_clear_31 rfl rfl (by assumption) ?_
  refine x_sipush i_Trees_clear_34 ?_
  refine x_cv1 i_Trees_clear_37 rfl rfl rfl ?_
  refine c_shrink (((r4.keep x1 (by omega) (by omega)).keep x2 (by omega) (by omega)).keep x3 (by omega) (by omega)) (j := 257) rfl z3 (fun σ4 c4 x4 => ?_)
  have h4 := nx x4 h3
  obtain ⟨q0, q1, q2, q3, q4, q5, q6⟩ := id h4
  refine x_aload_n i_Trees_clear_40 rfl ?_
  refine x_getR (c2 := 6) i_Trees_clear_41 rfl rfl (by assumption) ?_
  refine x_sipush i_Trees_clear_44 ?_
  refine x_cv1 i_Trees_clear_47 rfl rfl rfl ?_
  refine c_shrink ((((r5.keep x1 (by omega) (by omega)).keep x2 (by omega) (by omega)).keep x3 (by omega) (by omega)).keep x4 (by omega) (by omega)) (j := 257) rfl z3 (fun σ5 c5 x5 => ?_)
  have h5 := nx x5 h4
  obtain ⟨q0, q1, q2, q3, q4, q5, q6⟩ := id h5
  refine x_aload_n i_Trees_clear_50 rfl ?_
  refine x_getR (c2 := 6) i_Trees_clear_51 rfl rfl (by assumption) ?_
  refine x_iconst i_Trees_clear_54 ?_
  refine x_cv1 i_Trees_clear_55 rfl rfl rfl ?_
  refine c_shrink (((((r6.keep x1 (by omega) (by omega)).keep x2 (by omega) (by omega)).keep x3 (by omega) (by omega)).keep x4 (by omega) (by omega)).keep x5 (by omega) (by omega)) (j := 0) rfl (by omega) (fun σ6 c6 x6 => ?_)
  have h6 := nx x6 h5
  obtain ⟨q0, q1, q2, q3, q4, q5, q6⟩ := id h6
  refine x_aload_n i_Trees_clear_58 rfl ?_
  refine x_getR (c2 := 6) i_Trees_clear_59 rfl rfl (by assumption) ?_
  refine x_iconst i_Trees_clear_62 ?_
  refine x_cv1 i_Trees_clear_63 rfl rfl rfl ?_
  refine c_shrink ((((((r7.keep x1 (by omega) (by omega)).keep x2 (by omega) (by omega)).keep x3 (by omega) (by omega)).keep x4 (by omega) (by omega)).keep x5 (by omega) (by omega)).keep x6 (by omega) (by omega)) (j := 0) rfl (by omega) (fun σ7 c7 x7 => ?_)
  have h7 := nx x7 h6
  have tt : ∀ {r : Nat} {a b : AS}, rowX r r a b → 6 ≤ r → r ≤ 12 → trX a b := fun h a b => h.tr a b
  refine x_vret i_Trees_clear_66 rfl ?_
  refine kk σ7 tab ⟨so, nu, fk, sz, va, ki, he, h7, (((((c1.keep x2 (by omega) (by omega)).keep x3 (by omega) (by omega)).keep x4 (by omega) (by omega)).keep x5 (by omega) (by omega)).keep x6 (by omega) (by omega)).keep x7 (by omega) (by omega), ((((c2.keep x3 (by omega) (by omega)).keep x4 (by omega) (by omega)).keep x5 (by omega) (by omega)).keep x6 (by omega) (by omega)).keep x7 (by omega) (by omega), (((c3.keep x4 (by omega) (by omega)).keep x5 (by omega) (by omega)).keep x6 (by omega) (by omega)).keep x7 (by omega) (by omega), ((c4.keep x5 (by omega) (by omega)).keep x6 (by omega) (by omega)).keep x7 (by omega) (by omega), (c5.keep x6 (by omega) (by omega)).keep x7 (by omega) (by omega), c6.keep x7 (by omega) (by omega), c7, fun i hi => ?_, fun k i hk => by simp at hk, Nat.le_refl _, z4, z5⟩ ((((((tt x1 (by omega) (by omega)).tr (tt x2 (by omega) (by omega))).tr (tt x3 (by omega) (by omega))).tr (tt x4 (by omega) (by omega))).tr (tt x5 (by omega) (by omega))).tr (tt x6 (by omega) (by omega)) |>.tr (tt x7 (by omega) (by omega)))
  obtain ⟨w1, w2, w3, w4⟩ := z1 i (by omega)
  refine ⟨w1, w2, ?_, w4⟩
  rcases w3 with g | ⟨ts, g1, g2, g3, f0, g4, g5, g6⟩ | ⟨c, a, b, hc, g1, g2, g3, g4⟩
  · exact Or.inl g
  · by_cases e : i < 256
    · rw [z4 i e] at g1
      unfold boughT at g1
      cases g1
    · have e2 : i = 256 := by omega
      subst e2
      rw [z5] at g1
      unfold boughT at g1
      have e3 : listT ([] : List TT) = listT ts := by injection g1
      have e4 : ts = [] := by
        cases ts with
        | nil => rfl
        | cons t ts => simp only [listT] at e3; cases e3
      subst e4
      exact Or.inr (Or.inl ⟨[], by rw [z5], g2, g3, f0, g4, fun j hj => absurd hj (by simp), fun j t hj => by simp at hj⟩)
  · by_cases e : i < 256
    · rw [z4 i e] at g1
      unfold forkT at g1
      cases g1
    · have e2 : i = 256 := by omega
      subst e2
      rw [z5] at g1
      unfold forkT boughT at g1
      cases g1
end


theorem wr_add_wr (x y : Int) : wr (x + wr y) = wr (x + y) := by
  unfold wr
  simp only [Int.bmod_def]
  omega
theorem wr_wr (x : Int) : wr (wr x) = wr x := by
  have := inr_wr x
  exact wr_id this.1 this.2
theorem sizeT_snoc (l : List TT) (t : TT) : sizeT (listT (l ++ [t])) = sizeT (listT l) + sizeT t := by
  induction l with
  | nil => simp [listT, sizeT]
  | cons a l ih => simp only [List.cons_append, listT, sizeT, ih]; omega
theorem worthA_snoc (l : List TT) (t : TT) (acc : Int) : worthA (listT (l ++ [t])) acc = worthA t (worthA (listT l) acc) := by
  induction l generalizing acc with
  | nil => simp [listT, worthA]
  | cons a l ih => simp only [List.cons_append, listT, worthA, ih]
theorem lenT_list (l : List TT) : lenT (listT l) = l.length := by
  induction l with
  | nil => rfl
  | cons a l ih => simp only [listT, lenT, ih, List.length_cons]; omega
/-- a tree, no list -/
def isN (t : TT) : Prop := (∃ n, t = .num n) ∨ (∃ l, t = .mulL 0 l) ∨ ∃ a b c, t = .mulR (.add a b) c
theorem isN_worth {t : TT} (h : isN t) (acc : Int) : worthA t acc = wr (wr (acc * 10) + worthT t) := by
  have z : wr (0 * 10) = 0 := by unfold wr; decide
  rcases h with ⟨n, rfl⟩ | ⟨l, rfl⟩ | ⟨a, b, c, rfl⟩
  · simp only [worthT, worthA, z, Int.zero_add]; rw [wr_add_wr]
  · simp only [worthT, worthA, z, Int.zero_add]; rw [wr_add_wr]
  · simp only [worthT, worthA, z, Int.zero_add]; rw [wr_add_wr]
theorem isT.isN {tab : Nat → TT} {K : Nat} {so nu fk ki : Nat → Int} {i : Nat} (h : isT tab K so nu fk ki i) : isN (tab i) := by
  rcases h with ⟨n, -, h, -⟩ | ⟨ts, h, -⟩ | ⟨c, a, b, -, h, -⟩
  · exact Or.inl ⟨n, h⟩
  · exact Or.inr (Or.inl ⟨_, h⟩)
  · exact Or.inr (Or.inr ⟨a, b, c, h⟩)
theorem worthT_bough (ts : List TT) (h : InR (worthA (listT ts) 0)) : worthT (boughT ts) = worthA (listT ts) 0 := by
  have z : wr (0 * 10) = 0 := by unfold wr; decide
  simp only [worthT, boughT, worthA, z, Int.zero_add]
  exact wr_id h.1 h.2
theorem inr_worthL (ts : List TT) : (∀ t ∈ ts, isN t) → ∀ acc, InR acc → InR (worthA (listT ts) acc) := by
  induction ts with
  | nil => intro _ acc h; exact h
  | cons t ts ih =>
    intro hn acc h
    simp only [listT, worthA]
    refine ih (fun u hu => hn u (List.mem_cons_of_mem _ hu)) _ ?_
    rw [isN_worth (hn t List.mem_cons_self)]
    exact inr_wr _
theorem sizeT_bough (ts : List TT) : sizeT (boughT ts) = 1 + sizeT (listT ts) := rfl
def upT (tab : Nat → TT) (N : Nat) (t : TT) : Nat → TT := fun j => if j = N then t else tab j
theorem upT_eq (tab : Nat → TT) (N : Nat) (t : TT) : upT tab N t N = t := if_pos rfl
theorem upT_ne {tab : Nat → TT} {N j : Nat} {t : TT} (h : j ≠ N) : upT tab N t j = tab j := if_neg h
theorem take_snoc {α : Type} (l : List α) (k : Nat) (h : k < l.length) : l.take (k + 1) = l.take k ++ [l[k]] := by
  rw [List.take_succ, List.getElem?_eq_getElem h]
  rfl
theorem sizeL_le (ts : List TT) (B : Nat) : (∀ t ∈ ts, sizeT t ≤ B) → sizeT (listT ts) ≤ ts.length * B := by
  induction ts with
  | nil => intro _; simp [listT, sizeT]
  | cons t ts ih =>
    intro h
    have h1 := h t List.mem_cons_self
    have h2 := ih (fun u hu => h u (List.mem_cons_of_mem _ hu))
    simp only [listT, sizeT, List.length_cons, Nat.succ_mul]
    omega
section
variable {d : Nat} {Q : AQ} {σ : AS} {N K : Nat} {tab : Nat → TT} {H : List Nat}
set_option maxHeartbeats 1000000 in
theorem c_T_bough (h : TrS σ N K tab H) {mk : Nat} (hmk : mk ≤ H.length) (hN : N < 2257) (hK : K + (H.length - mk) ≤ 3000)
    (k0 : mk = H.length → Q (some (vi 256)) σ) (k1 : mk < H.length → 2000 < sizeT (boughT ((H.drop mk).map tab)) → Q (some (vi (-2))) σ)
    (k2 : mk < H.length → sizeT (boughT ((H.drop mk).map tab)) ≤ 2000 → ∀ σ' tab', TrS σ' (N + 1) (K + (H.length - mk)) tab' (H.take mk) → tab' N = boughT ((H.drop mk).map tab) → (∀ j, j < N → tab' j = tab j) → trX σ σ' → Q (some (vi (N : Nat))) σ') : wp (d + 3) m_Trees_bough [vr 9 0, vi (mk : Nat)] σ Q := by
  obtain ⟨so, nu, fk, sz, va, ki, he, hq, r1, r2, r3, r4, r5, r6, r7, z1, z2, z3, z4, z5⟩ := id h
  obtain ⟨q0, q1, q2, q3, q4, q5, q6⟩ := id hq
  have hH := r7.2.2.2.1
  generalize hT : (H.drop mk).map tab = T at k1 k2
  have hTl : T.length = H.length - mk := by rw [← hT]; simp
  have hTg : ∀ k (hk : k < T.length), ∃ i, H[mk + k]? = some i ∧ i < N ∧ T[k] = tab i ∧ he (mk + k) = (i : Int) := by
    intro k hk
    have h1 : mk + k < H.length := by omega
    refine ⟨H[mk + k], List.getElem?_eq_getElem h1, (z2 _ _ (List.getElem?_eq_getElem h1)).2, ?_, (z2 _ _ (List.getElem?_eq_getElem h1)).1⟩
    subst hT
    simp
  have hTn : ∀ t ∈ T, isN t ∧ sizeT t ≤ 2000 := by
    intro t ht
    obtain ⟨k, hk, rfl⟩ := List.getElem_of_mem ht
    obtain ⟨i, -, hi, e, -⟩ := hTg k hk
    rw [e]
    exact ⟨(z1 i hi).2.2.1.isN, (z1 i hi).2.2.2⟩
  refine x_in (ls := [some _, some _, none, none, none, none, none]) rfl rfl ?_
  refine x_aload_n i_Trees_bough_0 rfl ?_
  refine x_getR (c2 := 6) i_Trees_bough_1 rfl rfl (by assumption) ?_
  refine x_cv0 i_Trees_bough_4 rfl rfl rfl ?_
  refine c_Row_size r7 ?_
  refine x_iload_n i_Trees_bough_7 rfl ?_
  refine x_isub i_Trees_bough_8 (by omega) ?_
  refine x_istore_n (ls' := [_, _, _, _, _, _, _]) i_Trees_bough_9 rfl rfl ?_
  refine x_iload_n i_Trees_bough_10 rfl ?_
  refine x_if_gt i_Trees_bough_11 (fun h1 => ?_) (fun h1 => ?_)
  · refine x_iconst i_Trees_bough_18 ?_
    refine x_istore_n (ls' := [_, _, _, _, _, _, _]) i_Trees_bough_19 rfl rfl ?_
    refine x_iconst i_Trees_bough_20 ?_
    refine x_istore (ls' := [_, _, _, _, _, _, _]) i_Trees_bough_21 rfl rfl ?_
    refine x_iconst i_Trees_bough_23 ?_
    refine x_istore (ls' := [_, _, _, _, _, _, _]) i_Trees_bough_24 rfl rfl ?_
    have loop : ∀ (r k : Nat), k + r = T.length → Ex (wp (d + 2)) m_Trees_bough Q 26 [some (vr 9 0), some (vi (mk : Nat)), some (vi ((H.length : Nat) - (mk : Nat) : Int)), some (vi ((1 + sizeT (listT (T.take k)) : Nat) : Int)), some (vi (worthA (listT (T.take k)) 0)), some (vi (k : Nat)), none] [] σ := by
      intro r
      induction r with
      | zero =>
        intro k hk
        have e : T.take k = T := List.take_of_length_le (by omega)
        rw [e]
        refine x_iload i_Trees_bough_26 rfl ?_
        refine x_iload_n i_Trees_bough_28 rfl ?_
        refine x_icmp_ge_t i_Trees_bough_29 (by omega) ?_
        refine x_iload_n i_Trees_bough_80 rfl ?_
        refine x_sipush i_Trees_bough_81 ?_
        have hw : InR (worthA (listT T) 0) := inr_worthL T (fun t ht => (hTn t ht).1) 0 inr_0
        refine x_icmp_le i_Trees_bough_84 (fun h2 => ?_) (fun h2 => ?_)
        · have hle : sizeT (boughT T) ≤ 2000 := by rw [sizeT_bough]; omega
          refine x_aload_n i_Trees_bough_90 rfl ?_
          refine x_iconst i_Trees_bough_91 ?_
          refine x_iload_n i_Trees_bough_92 rfl ?_
          refine x_iload_n i_Trees_bough_93 rfl ?_
          refine x_iload i_Trees_bough_94 rfl ?_
          refine x_cv4 i_Trees_bough_96 rfl rfl rfl ?_
          refine c_T_make hq r1 r2 r3 r4 r5 r6 hN (fun σ1 g0 g1 g2 g3 g4 g5 g6 x1 => ?_)
          refine x_istore (ls' := [_, _, _, _, _, _, _]) i_Trees_bough_99 rfl rfl ?_
          refine x_iconst i_Trees_bough_101 ?_
          refine x_istore (ls' := [_, _, _, _, _, _, _]) i_Trees_bough_102 rfl rfl ?_
          have r7' : rowF σ1 12 12 2000 H.length he := x1.row r7 (by omega) (by omega)
          have key : ∀ (r k : Nat) (σ2 : AS) (ki2 : Nat → Int), k + r = T.length → trR σ2 → rowF σ2 6 6 2257 (N + 1) (up so N 1) → rowF σ2 7 7 2257 (N + 1) (up nu N ((H.length : Nat) - (mk : Nat) : Int)) → rowF σ2 8 8 2257 (N + 1) (up fk N (K : Nat)) → rowF σ2 9 9 2257 (N + 1) (up sz N ((1 + sizeT (listT T) : Nat) : Int)) → rowF σ2 10 10 2257 (N + 1) (up va N (worthA (listT T) 0)) → rowF σ2 11 11 3000 (K + k) ki2 → rowF σ2 12 12 2000 H.length he → (∀ j, j < K → ki2 j = ki j) → (∀ j, j < k → ki2 (K + j) = he (mk + j)) → trX σ σ2 → Ex (wp (d + 2)) m_Trees_bough Q 104 [some (vr 9 0), some (vi (mk : Nat)), some (vi ((H.length : Nat) - (mk : Nat) : Int)), some (vi ((1 + sizeT (listT T) : Nat) : Int)), some (vi (worthA (listT T) 0)), some (vi (N : Nat)), some (vi (k : Nat))] [] σ2 := by
            intro r
            induction r with
            | zero =>
              intro k σ2 ki2 hk a0 a1 a2 a3 a4 a5 a6 a7 a8 a9 a10
              obtain ⟨b0, b1, b2, b3, b4, b5, b6⟩ := id a0
              refine x_iload i_Trees_bough_104 rfl ?_
              refine x_iload_n i_Trees_bough_106 rfl ?_
              refine x_icmp_ge_t i_Trees_bough_107 (by omega) ?_
              refine x_aload_n i_Trees_bough_134 rfl ?_
              refine x_getR (c2 := 6) i_Trees_bough_135 rfl rfl (by assumption) ?_
              refine x_iload_n i_Trees_bough_138 rfl ?_
              refine x_cv1 i_Trees_bough_139 rfl rfl rfl ?_
              refine c_shrink a7 rfl hmk (fun σ3 c1 c2 => ?_)
              refine x_iload i_Trees_bough_142 rfl ?_
              refine x_iret i_Trees_bough_144 rfl ?_
              refine k2 (by omega) hle σ3 (upT tab N (boughT T)) ⟨_, _, _, _, _, ki2, he, by unfold trR; rw [c2.2.1]; exact a0, a1.keep c2 (by omega) (by omega), a2.keep c2 (by omega) (by omega), a3.keep c2 (by omega) (by omega), a4.keep c2 (by omega) (by omega), a5.keep c2 (by omega) (by omega), by rw [show K + (H.length - mk) = K + k by omega]; exact a6.keep c2 (by omega) (by omega), by rw [List.length_take, Nat.min_eq_left hmk]; exact c1, fun i hi => ?_, fun k i hk => ?_, by omega, fun i hi => ?_, ?_⟩ (upT_eq _ _ _) (fun j hj => upT_ne (by omega)) (a10.tr (c2.tr (by omega) (by omega)))
              · by_cases hiN : i = N
                · subst hiN
                  rw [upT_eq, up_eq, up_eq]
                  refine ⟨rfl, (worthT_bough T hw).symm, Or.inr (Or.inl ⟨T, upT_eq _ _ _, up_eq _ _ _, by rw [up_eq]; omega, K, up_eq _ _ _, by omega, fun j t hj => ?_⟩), hle⟩
                  have hjl := (List.getElem?_eq_some_iff.mp hj).1
                  obtain ⟨id, g1, g2, g3, g4⟩ := hTg j hjl
                  rw [List.getElem?_eq_getElem hjl] at hj
                  cases hj
                  exact ⟨id, g2, by rw [a9 j (by omega)]; exact g4, by rw [upT_ne (by omega)]; exact g3.symm⟩
                · obtain ⟨y1, y2, y3, y4⟩ := z1 i (by omega)
                  rw [upT_ne hiN, up_ne hiN, up_ne hiN]
                  exact ⟨y1, y2, y3.up (fun j hj => upT_ne (by omega)) (by omega) (up_ne hiN) (up_ne hiN) (up_ne hiN) a8, y4⟩
              · rw [List.getElem?_take] at hk
                split at hk
                · obtain ⟨y1, y2⟩ := z2 k i hk
                  exact ⟨y1, by omega⟩
                · cases hk
              · rw [upT_ne (by omega)]; exact z4 i hi
              · rw [upT_ne (by omega)]; exact z5
            | succ r ih2 =>
              intro k σ2 ki2 hk a0 a1 a2 a3 a4 a5 a6 a7 a8 a9 a10
              obtain ⟨b0, b1, b2, b3, b4, b5, b6⟩ := id a0
              refine x_iload i_Trees_bough_104 rfl ?_
              refine x_iload_n i_Trees_bough_106 rfl ?_
              refine x_icmp_ge_f i_Trees_bough_107 (by omega) ?_
              refine x_aload_n i_Trees_bough_110 rfl ?_
              refine x_getR (c2 := 6) i_Trees_bough_111 rfl rfl (by assumption) ?_
              refine x_aload_n i_Trees_bough_114 rfl ?_
              refine x_getR (c2 := 6) i_Trees_bough_115 rfl rfl (by assumption) ?_
              refine x_iload_n i_Trees_bough_118 rfl ?_
              refine x_iload i_Trees_bough_119 rfl ?_
              refine x_iadd i_Trees_bough_121 (by omega) ?_
              refine x_cv1 i_Trees_bough_122 rfl rfl rfl ?_
              refine c_at_in a7 (j := mk + k) (by omega) (by omega) ?_
              refine x_cv1 i_Trees_bough_125 rfl rfl rfl ?_
              refine c_add a6 (by omega) (fun σ3 c1 c2 => ?_)
              refine x_iinc (ls' := [_, _, _, _, _, _, _]) i_Trees_bough_128 rfl (by omega) rfl ?_
              refine x_goto i_Trees_bough_131 ?_
              refine ih2 (k + 1) σ3 _ (by omega) (by unfold trR; rw [c2.2.1]; exact a0) (a1.keep c2 (by omega) (by omega)) (a2.keep c2 (by omega) (by omega)) (a3.keep c2 (by omega) (by omega)) (a4.keep c2 (by omega) (by omega)) (a5.keep c2 (by omega) (by omega)) c1 (a7.keep c2 (by omega) (by omega)) (fun j hj => ?_) (fun j hj => ?_) (a10.tr (c2.tr (by omega) (by omega)))
              · rw [up_ne (by omega)]; exact a8 j hj
              · by_cases e : j = k
                · subst e; rw [up_eq]
                · rw [up_ne (by omega)]; exact a9 j (by omega)
          exact key T.length 0 σ1 ki (by omega) g0 g1 g2 g3 g4 g5 g6 r7' (fun _ _ => rfl) (fun j hj => absurd hj (by omega)) (x1.mono (fun f a h => ⟨h.1, h.2.1, by omega⟩) (fun a h => ⟨h.1, by omega⟩))
        · refine x_bipush i_Trees_bough_87 ?_
          refine x_iret i_Trees_bough_89 rfl ?_
          exact k1 (by omega) (by rw [sizeT_bough]; omega)
      | succ r ih =>
        intro k hk
        obtain ⟨i, e1, e2, e3, e4⟩ := hTg k (by omega)
        refine x_iload i_Trees_bough_26 rfl ?_
        refine x_iload_n i_Trees_bough_28 rfl ?_
        refine x_icmp_ge_f i_Trees_bough_29 (by omega) ?_
        refine x_aload_n i_Trees_bough_32 rfl ?_
        refine x_getR (c2 := 6) i_Trees_bough_33 rfl rfl (by assumption) ?_
        refine x_iload_n i_Trees_bough_36 rfl ?_
        refine x_iload i_Trees_bough_37 rfl ?_
        refine x_iadd i_Trees_bough_39 (by omega) ?_
        refine x_cv1 i_Trees_bough_40 rfl rfl rfl ?_
        refine c_at_in r7 (j := mk + k) (by omega) (by omega) ?_
        rw [e4]
        refine x_istore (ls' := [_, _, _, _, _, _, _]) i_Trees_bough_43 rfl rfl ?_
        refine x_iload_n i_Trees_bough_45 rfl ?_
        refine x_aload_n i_Trees_bough_46 rfl ?_
        refine x_getR (c2 := 6) i_Trees_bough_47 rfl rfl (by assumption) ?_
        refine x_iload i_Trees_bough_50 rfl ?_
        refine x_cv1 i_Trees_bough_52 rfl rfl rfl ?_
        refine c_at_in r4 rfl e2 ?_
        rw [(z1 i e2).1]
        have ht := take_snoc T k (by omega)
        have hs : sizeT (listT (T.take (k + 1))) = sizeT (listT (T.take k)) + sizeT (tab i) := by rw [ht, sizeT_snoc, e3]
        have hwo : worthA (listT (T.take (k + 1))) 0 = wr (wr (worthA (listT (T.take k)) 0 * 10) + worthT (tab i)) := by rw [ht, worthA_snoc, isN_worth (hTn _ (List.getElem_mem _)).1, e3]
        have hb1 : sizeT (listT (T.take k)) ≤ (T.take k).length * 2000 := sizeL_le _ _ (fun t ht => (hTn t (List.mem_of_mem_take ht)).2)
        have hb2 : (T.take k).length ≤ 2000 := by rw [List.length_take]; omega
        have hb3 := (z1 i e2).2.2.2
        have hb4 : (T.take k).length * 2000 ≤ 2000 * 2000 := Nat.mul_le_mul_right _ hb2
        refine x_iadd i_Trees_bough_55 (by omega) ?_
        refine x_istore_n (ls' := [_, _, _, _, _, _, _]) i_Trees_bough_56 rfl rfl ?_
        refine x_iload i_Trees_bough_57 rfl ?_
        refine x_bipush i_Trees_bough_59 ?_
        refine x_imulW i_Trees_bough_61 ?_
        refine x_aload_n i_Trees_bough_62 rfl ?_
        refine x_getR (c2 := 6) i_Trees_bough_63 rfl rfl (by assumption) ?_
        refine x_iload i_Trees_bough_66 rfl ?_
        refine x_cv1 i_Trees_bough_68 rfl rfl rfl ?_
        refine c_at_in r5 rfl e2 ?_
        rw [(z1 i e2).2.1]
        refine x_iaddW i_Trees_bough_71 ?_
        refine x_istore (ls' := [_, _, _, _, _, _, _]) i_Trees_bough_72 rfl rfl ?_
        refine x_iinc (ls' := [_, _, _, _, _, _, _]) i_Trees_bough_74 rfl (by omega) rfl ?_
        refine x_goto i_Trees_bough_77 ?_
        refine Ex.weak (ls := [_, _, _, _, _, _, none]) ⟨Or.inr rfl, Or.inr rfl, Or.inr rfl, Or.inr rfl, Or.inr rfl, Or.inr rfl, Or.inl rfl, trivial⟩ ?_
        have k3 := ih (k + 1) (by omega)
        rw [hs, hwo] at k3
        rw [show ((1 + (sizeT (listT (T.take k)) + sizeT (tab i)) : Nat) : Int) = ((1 + sizeT (listT (T.take k)) : Nat) : Int) + (sizeT (tab i) : Nat) by omega] at k3
        exact k3
    exact loop T.length 0 (by omega)
  · refine x_sipush i_Trees_bough_14 ?_
    refine x_iret i_Trees_bough_17 rfl ?_
    exact k0 (by omega)
end


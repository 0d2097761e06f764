/-! THE TREES OF THE CLASS -/
/-- nothing comes; numbers' fields in F and numbers' arrays in A may change -/
def tX (F : Nat → Nat → Prop) (A : Nat → Prop) (σ σ' : AS) : Prop := (∀ f a, ¬ F f a → FI σ' f a = FI σ f a) ∧ FR σ' = FR σ ∧ (∀ k a j, ¬ (k = 13 ∧ A a) → AI σ' k a j = AI σ k a j) ∧ AR σ' = AR σ ∧ LN σ' = LN σ ∧ CN σ' = CN σ ∧ nC σ' = nC σ ∧ nS σ' = nS σ
theorem tX.rf (F : Nat → Nat → Prop) (A : Nat → Prop) (σ : AS) : tX F A σ σ := ⟨fun _ _ _ => rfl, rfl, fun _ _ _ _ => rfl, rfl, rfl, rfl, rfl, rfl⟩
theorem tX.tr {F : Nat → Nat → Prop} {A : Nat → Prop} {a b c : AS} (h : tX F A a b) (g : tX F A b c) : tX F A a c := by
  obtain ⟨h1, h2, h3, h4, h5, h6, h7, h8⟩ := h
  obtain ⟨g1, g2, g3, g4, g5, g6, g7, g8⟩ := g
  exact ⟨fun f x hn => by rw [g1 f x hn, h1 f x hn], by rw [g2, h2], fun k x j hn => by rw [g3 k x j hn, h3 k x j hn], by rw [g4, h4], by rw [g5, h5], by rw [g6, h6], by rw [g7, h7], by rw [g8, h8]⟩
theorem tX.mono {F F' : Nat → Nat → Prop} {A A' : Nat → Prop} {a b : AS} (h : tX F A a b) (hF : ∀ f x, F f x → F' f x) (hA : ∀ x, A x → A' x) : tX F' A' a b := by
  obtain ⟨h1, h2, h3, h4, h5, h6, h7, h8⟩ := h
  exact ⟨fun f x hn => h1 f x (fun q => hn (hF f x q)), h2, fun k x j hn => h3 k x j (fun q => hn ⟨q.1, hA x q.2⟩), h4, h5, h6, h7, h8⟩
theorem rowX.tx {F : Nat → Nat → Prop} {A : Nat → Prop} {r c : Nat} {σ σ' : AS} (h : rowX r c σ σ') (hF : F 601 r) (hA : A c) : tX F A σ σ' := by
  obtain ⟨h1, h2, h3, h4, h5, h6, h7, h8⟩ := h
  exact ⟨fun f x hn => h1 f x (fun q => hn (by rw [q.1, q.2]; exact hF)), h2, fun k x j hn => h3 k x j (fun q => hn ⟨q.1, by rw [q.2]; exact hA⟩), h4, h5, h6, h7, h8⟩
theorem tX.row {F : Nat → Nat → Prop} {A : Nat → Prop} {σ σ' : AS} {r c cap n : Nat} {f : Nat → Int} (hx : tX F A σ σ') (h : rowF σ r c cap n f) (h1 : ¬ F 601 r) (h2 : ¬ A c) : rowF σ' r c cap n f := by
  obtain ⟨a1, a2, a3, a4, a5, a6⟩ := h
  obtain ⟨b1, b2, b3, b4, b5, b6⟩ := hx
  exact ⟨by rw [b2]; exact a1, by rw [b1 _ _ h1]; exact a2, by rw [b5]; exact a3, a4, a5, fun k hk => by rw [b3 _ _ _ (fun q => h2 q.2)]; exact a6 k hk⟩
def trF (f a : Nat) : Prop := f = 601 ∧ 6 ≤ a ∧ a ≤ 12
def trA (a : Nat) : Prop := 6 ≤ a ∧ a ≤ 12
def trX (σ σ' : AS) : Prop := tX trF trA σ σ'
theorem rowX.tr {r : Nat} {σ σ' : AS} (h : rowX r r σ σ') (h1 : 6 ≤ r) (h2 : r ≤ 12) : trX σ σ' := h.tx ⟨rfl, h1, h2⟩ ⟨h1, h2⟩
def trR (σ : AS) : Prop := FR σ 900 0 = some 6 ∧ FR σ 901 0 = some 7 ∧ FR σ 902 0 = some 8 ∧ FR σ 903 0 = some 9 ∧ FR σ 904 0 = some 10 ∧ FR σ 905 0 = some 11 ∧ FR σ 906 0 = some 12
/-- the kids of tree i, by their numbers -/
def kidsAt (tab : Nat → TT) (K : Nat) (fk ki : Nat → Int) (i : Nat) (ts : List TT) : Prop := ∃ f0 : Nat, fk i = (f0 : Int) ∧ (∀ j, j < ts.length → f0 + j < K) ∧ ∀ j t, ts[j]? = some t → ∃ id : Nat, id < i ∧ ki (f0 + j) = (id : Int) ∧ tab id = t
def isT (tab : Nat → TT) (K : Nat) (so nu fk ki : Nat → Int) (i : Nat) : Prop :=
  (∃ n : Nat, n < 256 ∧ tab i = .num n ∧ so i = 0 ∧ nu i = (n : Int)) ∨ (∃ ts : List TT, tab i = boughT ts ∧ so i = 1 ∧ nu i = (ts.length : Int) ∧ kidsAt tab K fk ki i ts) ∨ ∃ (c : Nat) (a b : TT), c < 256 ∧ tab i = forkT c a b ∧ so i = 2 ∧ nu i = (c : Int) ∧ kidsAt tab K fk ki i [a, b]
/-- N trees, tree i is tab i; K kids; the trees of H are held -/
def TrS (σ : AS) (N K : Nat) (tab : Nat → TT) (H : List Nat) : Prop := ∃ (so nu fk sz va ki he : Nat → Int), trR σ ∧ rowF σ 6 6 2257 N so ∧ rowF σ 7 7 2257 N nu ∧ rowF σ 8 8 2257 N fk ∧ rowF σ 9 9 2257 N sz ∧ rowF σ 10 10 2257 N va ∧ rowF σ 11 11 3000 K ki ∧ rowF σ 12 12 2000 H.length he ∧
  (∀ i, i < N → sz i = (sizeT (tab i) : Int) ∧ va i = worthT (tab i) ∧ isT tab K so nu fk ki i ∧ sizeT (tab i) ≤ 2000) ∧ (∀ (k i : Nat), H[k]? = some i → he k = (i : Int) ∧ i < N) ∧ 257 ≤ N ∧ (∀ i, i < 256 → tab i = .num i) ∧ tab 256 = boughT []
theorem TrS.keep {F : Nat → Nat → Prop} {A : Nat → Prop} {σ σ' : AS} {N K : Nat} {tab : Nat → TT} {H : List Nat} (h : TrS σ N K tab H) (hx : tX F A σ σ') (h1 : ∀ r, 6 ≤ r → r ≤ 12 → ¬ F 601 r) (h2 : ∀ r, 6 ≤ r → r ≤ 12 → ¬ A r) : TrS σ' N K tab H := by
  obtain ⟨so, nu, fk, sz, va, ki, he, r0, r1, r2, r3, r4, r5, r6, r7, z⟩ := h
  have g : ∀ r, 6 ≤ r → r ≤ 12 → ∀ cap n f, rowF σ r r cap n f → rowF σ' r r cap n f := fun r a b cap n f h => hx.row h (h1 r a b) (h2 r a b)
  refine ⟨so, nu, fk, sz, va, ki, he, ?_, g 6 (by omega) (by omega) _ _ _ r1, g 7 (by omega) (by omega) _ _ _ r2, g 8 (by omega) (by omega) _ _ _ r3, g 9 (by omega) (by omega) _ _ _ r4, g 10 (by omega) (by omega) _ _ _ r5, g 11 (by omega) (by omega) _ _ _ r6, g 12 (by omega) (by omega) _ _ _ r7, z⟩
  unfold trR
  rw [hx.2.1]
  exact r0
theorem isT.up {tab tab' : Nat → TT} {K K' : Nat} {so nu fk ki so' nu' fk' ki' : Nat → Int} {i : Nat} (h : isT tab K so nu fk ki i) (ht : ∀ j, j ≤ i → tab' j = tab j) (hK : K ≤ K') (h1 : so' i = so i) (h2 : nu' i = nu i) (h3 : fk' i = fk i) (h4 : ∀ j, j < K → ki' j = ki j) : isT tab' K' so' nu' fk' ki' i := by
  have hk : ∀ ts, kidsAt tab K fk ki i ts → kidsAt tab' K' fk' ki' i ts := by
    rintro ts ⟨f0, a1, a2, a3⟩
    refine ⟨f0, by rw [h3]; exact a1, fun j hj => Nat.lt_of_lt_of_le (a2 j hj) hK, fun j t hj => ?_⟩
    obtain ⟨id, b1, b2, b3⟩ := a3 j t hj
    have hj2 := (List.getElem?_eq_some_iff.mp hj).1
    exact ⟨id, b1, by rw [h4 _ (a2 j hj2)]; exact b2, by rw [ht id (by omega)]; exact b3⟩
  rcases h with ⟨n, hn, g1, g2, g3⟩ | ⟨ts, g1, g2, g3, g4⟩ | ⟨c, a, b, hc, g1, g2, g3, g4⟩
  · exact Or.inl ⟨n, hn, by rw [ht i (Nat.le_refl i)]; exact g1, by rw [h1]; exact g2, by rw [h2]; exact g3⟩
  · exact Or.inr (Or.inl ⟨ts, by rw [ht i (Nat.le_refl i)]; exact g1, by rw [h1]; exact g2, by rw [h2]; exact g3, hk _ g4⟩)
  · exact Or.inr (Or.inr ⟨c, a, b, hc, by rw [ht i (Nat.le_refl i)]; exact g1, by rw [h1]; exact g2, by rw [h2]; exact g3, hk _ g4⟩)
section
variable {d : Nat} {Q : AQ} {σ : AS} {N K : Nat} {tab : Nat → TT} {H : List Nat}
theorem c_T_mark (h : TrS σ N K tab H) (kk : Q (some (vi (H.length : Nat))) σ) : wp (d + 2) m_Trees_mark [vr 9 0] σ Q := by
  obtain ⟨so, nu, fk, sz, va, ki, he, ⟨q0, q1, q2, q3, q4, q5, q6⟩, r1, r2, r3, r4, r5, r6, r7, z⟩ := id h
  refine x_in (ls := [some _]) rfl rfl ?_
  refine x_aload_n i_Trees_mark_0 rfl ?_
  refine x_getR (c2 := 6) i_Trees_mark_1 rfl rfl (by assumption) ?_
  refine x_cv0 i_Trees_mark_4 rfl rfl rfl ?_
  refine c_Row_size r7 ?_
  refine x_iret i_Trees_mark_7 rfl ?_
  exact kk
theorem c_T_hold (h : TrS σ N K tab H) {i : Nat} (hi : i < N) (hH : H.length < 2000) (kk : ∀ σ', TrS σ' N K tab (H ++ [i]) → trX σ σ' → Q none σ') : wp (d + 2) m_Trees_hold [vr 9 0, vi (i : Nat)] σ Q := by
  obtain ⟨so, nu, fk, sz, va, ki, he, ⟨q0, q1, q2, q3, q4, q5, q6⟩, r1, r2, r3, r4, r5, r6, r7, z1, z2, z3⟩ := id h
  refine x_in (ls := [some _, some _]) rfl rfl ?_
  refine x_aload_n i_Trees_hold_0 rfl ?_
  refine x_getR (c2 := 6) i_Trees_hold_1 rfl rfl (by assumption) ?_
  refine x_iload_n i_Trees_hold_4 rfl ?_
  refine x_cv1 i_Trees_hold_5 rfl rfl rfl ?_
  refine c_add r7 hH (fun σ' g1 g2 => ?_)
  refine x_vret i_Trees_hold_8 rfl ?_
  refine kk σ' ⟨so, nu, fk, sz, va, ki, _, by unfold trR; rw [g2.2.1]; exact ⟨q0, q1, q2, q3, q4, q5, q6⟩, r1.keep g2 (by omega) (by omega), r2.keep g2 (by omega) (by omega), r3.keep g2 (by omega) (by omega), r4.keep g2 (by omega) (by omega), r5.keep g2 (by omega) (by omega), r6.keep g2 (by omega) (by omega), by rw [List.length_append]; exact g1, z1, fun k j hk => ?_, z3⟩ (g2.tr (by omega) (by omega))
  by_cases hk2 : k < H.length
  · rw [List.getElem?_append_left hk2] at hk
    rw [up_ne (by omega)]
    exact z2 k j hk
  · have hlt := (List.getElem?_eq_some_iff.mp hk).1
    simp at hlt
    have e : k = H.length := by omega
    subst e
    simp at hk
    subst hk
    exact ⟨up_eq _ _ _, hi⟩
theorem c_T_drop (h : TrS σ N K tab H) {n : Nat} (hn : n ≤ H.length) (kk : ∀ σ', TrS σ' N K tab (H.take n) → trX σ σ' → Q none σ') : wp (d + 2) m_Trees_drop [vr 9 0, vi (n : Nat)] σ Q := by
  obtain ⟨so, nu, fk, sz, va, ki, he, ⟨q0, q1, q2, q3, q4, q5, q6⟩, r1, r2, r3, r4, r5, r6, r7, z1, z2, z3⟩ := id h
  refine x_in (ls := [some _, some _]) rfl rfl ?_
  refine x_aload_n i_Trees_drop_0 rfl ?_
  refine x_getR (c2 := 6) i_Trees_drop_1 rfl rfl (by assumption) ?_
  refine x_iload_n i_Trees_drop_4 rfl ?_
  refine x_cv1 i_Trees_drop_5 rfl rfl rfl ?_
  refine c_shrink r7 rfl hn (fun σ' g1 g2 => ?_)
  refine x_vret i_Trees_drop_8 rfl ?_
  refine kk σ' ⟨so, nu, fk, sz, va, ki, he, by unfold trR; rw [g2.2.1]; exact ⟨q0, q1, q2, q3, q4, q5, q6⟩, r1.keep g2 (by omega) (by omega), r2.keep g2 (by omega) (by omega), r3.keep g2 (by omega) (by omega), r4.keep g2 (by omega) (by omega), r5.keep g2 (by omega) (by omega), r6.keep g2 (by omega) (by omega), by rw [List.length_take, Nat.min_eq_left hn]; exact g1, z1, fun k j hk => ?_, z3⟩ (g2.tr (by omega) (by omega))
  rw [List.getElem?_take] at hk
  split at hk
  · exact z2 k j hk
  · cases hk
theorem c_T_sizeOf (h : TrS σ N K tab H) {i : Nat} (hi : i < N) (kk : Q (some (vi (sizeT (tab i) : Nat))) σ) : wp (d + 3) m_Trees_sizeOf [vr 9 0, vi (i : Nat)] σ Q := by
  obtain ⟨so, nu, fk, sz, va, ki, he, ⟨q0, q1, q2, q3, q4, q5, q6⟩, r1, r2, r3, r4, r5, r6, r7, z1, z2, z3⟩ := id h
  refine x_in (ls := [some _, some _]) rfl rfl ?_
  refine x_iload_n i_Trees_sizeOf_0 rfl ?_
  refine x_iconst i_Trees_sizeOf_1 ?_
  refine x_icmp_ne_t i_Trees_sizeOf_2 (by omega) ?_
  refine x_aload_n i_Trees_sizeOf_9 rfl ?_
  refine x_getR (c2 := 6) i_Trees_sizeOf_10 rfl rfl (by assumption) ?_
  refine x_iload_n i_Trees_sizeOf_13 rfl ?_
  refine x_cv1 i_Trees_sizeOf_14 rfl rfl rfl ?_
  refine c_at_in r4 rfl hi ?_
  rw [(z1 i hi).1]
  refine x_iret i_Trees_sizeOf_17 rfl ?_
  exact kk
theorem c_T_sizeOfN (kk : Q (some (vi 0)) σ) : wp (d + 3) m_Trees_sizeOf [vr 9 0, vi (-1)] σ Q := by
  refine x_in (ls := [some _, some _]) rfl rfl ?_
  refine x_iload_n i_Trees_sizeOf_0 rfl ?_
  refine x_iconst i_Trees_sizeOf_1 ?_
  refine x_icmp_ne_f i_Trees_sizeOf_2 (by omega) ?_
  refine x_iconst i_Trees_sizeOf_5 ?_
  refine x_goto i_Trees_sizeOf_6 ?_
  refine x_iret i_Trees_sizeOf_17 rfl ?_
  exact kk
theorem c_T_valueOf (h : TrS σ N K tab H) {i : Nat} (hi : i < N) (kk : Q (some (vi (worthT (tab i)))) σ) : wp (d + 3) m_Trees_valueOf [vr 9 0, vi (i : Nat)] σ Q := by
  obtain ⟨so, nu, fk, sz, va, ki, he, ⟨q0, q1, q2, q3, q4, q5, q6⟩, r1, r2, r3, r4, r5, r6, r7, z1, z2, z3⟩ := id h
  refine x_in (ls := [some _, some _]) rfl rfl ?_
  refine x_iload_n i_Trees_valueOf_0 rfl ?_
  refine x_iconst i_Trees_valueOf_1 ?_
  refine x_icmp_ne_t i_Trees_valueOf_2 (by omega) ?_
  refine x_aload_n i_Trees_valueOf_9 rfl ?_
  refine x_getR (c2 := 6) i_Trees_valueOf_10 rfl rfl (by assumption) ?_
  refine x_iload_n i_Trees_valueOf_13 rfl ?_
  refine x_cv1 i_Trees_valueOf_14 rfl rfl rfl ?_
  refine c_at_in r5 rfl hi ?_
  rw [(z1 i hi).2.1]
  refine x_iret i_Trees_valueOf_17 rfl ?_
  exact kk
theorem c_T_valueOfN (kk : Q (some (vi 0)) σ) : wp (d + 3) m_Trees_valueOf [vr 9 0, vi (-1)] σ Q := by
  refine x_in (ls := [some _, some _]) rfl rfl ?_
  refine x_iload_n i_Trees_valueOf_0 rfl ?_
  refine x_iconst i_Trees_valueOf_1 ?_
  refine x_icmp_ne_f i_Trees_valueOf_2 (by omega) ?_
  refine x_iconst i_Trees_valueOf_5 ?_
  refine x_goto i_Trees_valueOf_6 ?_
  refine x_iret i_Trees_valueOf_17 rfl ?_
  exact kk
/-- a tree is made: tree N; its kids come behind the K that there are -/
theorem c_T_make {so nu fk sz va ki : Nat → Int} (q : trR σ) (r1 : rowF σ 6 6 2257 N so) (r2 : rowF σ 7 7 2257 N nu) (r3 : rowF σ 8 8 2257 N fk) (r4 : rowF σ 9 9 2257 N sz) (r5 : rowF σ 10 10 2257 N va) (r6 : rowF σ 11 11 3000 K ki) (hN : N < 2257) {w c s v : Int}
    (kk : ∀ σ', trR σ' → rowF σ' 6 6 2257 (N + 1) (up so N w) → rowF σ' 7 7 2257 (N + 1) (up nu N c) → rowF σ' 8 8 2257 (N + 1) (up fk N (K : Nat)) → rowF σ' 9 9 2257 (N + 1) (up sz N s) → rowF σ' 10 10 2257 (N + 1) (up va N v) → rowF σ' 11 11 3000 K ki → tX (fun f a => f = 601 ∧ 6 ≤ a ∧ a ≤ 10) (fun a => 6 ≤ a ∧ a ≤ 10) σ σ' → Q (some (vi (N : Nat))) σ') : wp (d + 2) m_Trees_make [vr 9 0, vi w, vi c, vi s, vi v] σ Q := by
  obtain ⟨q0, q1, q2, q3, q4, q5, q6⟩ := q
  refine x_in (ls := [some _, some _, some _, some _, some _]) rfl rfl ?_
  refine x_aload_n i_Trees_make_0 rfl ?_
  refine x_getR (c2 := 6) i_Trees_make_1 rfl rfl (by assumption) ?_
  refine x_iload_n i_Trees_make_4 rfl ?_
  refine x_cv1 i_Trees_make_5 rfl rfl rfl ?_
  refine c_add r1 hN (fun σ1 g1 x1 => ?_)
  have e1 := x1.2.1
  rw [← e1] at q0 q1 q2 q3 q4 q5 q6
  refine x_aload_n i_Trees_make_8 rfl ?_
  refine x_getR (c2 := 6) i_Trees_make_9 rfl rfl (by assumption) ?_
  refine x_iload_n i_Trees_make_12 rfl ?_
  refine x_cv1 i_Trees_make_13 rfl rfl rfl ?_
  refine c_add (r2.keep x1 (by omega) (by omega)) hN (fun σ2 g2 x2 => ?_)
  have e2 := x2.2.1
  rw [← e2] at q0 q1 q2 q3 q4 q5 q6
  refine x_aload_n i_Trees_make_16 rfl ?_
  refine x_getR (c2 := 6) i_Trees_make_17 rfl rfl (by assumption) ?_
  refine x_aload_n i_Trees_make_20 rfl ?_
  refine x_getR (c2 := 6) i_Trees_make_21 rfl rfl (by assumption) ?_
  refine x_cv0 i_Trees_make_24 rfl rfl rfl ?_
  refine c_Row_size ((r6.keep x1 (by omega) (by omega)).keep x2 (by omega) (by omega)) ?_
  refine x_cv1 i_Trees_make_27 rfl rfl rfl ?_
  refine c_add ((r3.keep x1 (by omega) (by omega)).keep x2 (by omega) (by omega)) hN (fun σ3 g3 x3 => ?_)
  have e3 := x3.2.1
  rw [← e3] at q0 q1 q2 q3 q4 q5 q6
  refine x_aload_n i_Trees_make_30 rfl ?_
  refine x_getR (c2 := 6) i_Trees_make_31 rfl rfl (by assumption) ?_
  refine x_iload_n i_Trees_make_34 rfl ?_
  refine x_cv1 i_Trees_make_35 rfl rfl rfl ?_
  refine c_add (((r4.keep x1 (by omega) (by omega)).keep x2 (by omega) (by omega)).keep x3 (by omega) (by omega)) hN (fun σ4 g4 x4 => ?_)
  have e4 := x4.2.1
  rw [← e4] at q0 q1 q2 q3 q4 q5 q6
  refine x_aload_n i_Trees_make_38 rfl ?_
  refine x_getR (c2 := 6) i_Trees_make_39 rfl rfl (by assumption) ?_
  refine x_iload i_Trees_make_42 rfl ?_
  refine x_cv1 i_Trees_make_44 rfl rfl rfl ?_
  refine c_add ((((r5.keep x1 (by omega) (by omega)).keep x2 (by omega) (by omega)).keep x3 (by omega) (by omega)).keep x4 (by omega) (by omega)) hN (fun σ5 g5 x5 => ?_)
  have e5 := x5.2.1
  rw [← e5] at q0 q1 q2 q3 q4 q5 q6
  have h1 := (((g1.keep x2 (by omega) (by omega)).keep x3 (by omega) (by omega)).keep x4 (by omega) (by omega)).keep x5 (by omega) (by omega)
  have h2 := ((g2.keep x3 (by omega) (by omega)).keep x4 (by omega) (by omega)).keep x5 (by omega) (by omega)
  have h3 := (g3.keep x4 (by omega) (by omega)).keep x5 (by omega) (by omega)
  have h4 := g4.keep x5 (by omega) (by omega)
  have h6 := ((((r6.keep x1 (by omega) (by omega)).keep x2 (by omega) (by omega)).keep x3 (by omega) (by omega)).keep x4 (by omega) (by omega)).keep x5 (by omega) (by omega)
  refine x_aload_n i_Trees_make_47 rfl ?_
  refine x_getR (c2 := 6) i_Trees_make_48 rfl rfl (by assumption) ?_
  refine x_cv0 i_Trees_make_51 rfl rfl rfl ?_
  refine c_Row_size h1 ?_
  refine x_iconst i_Trees_make_54 ?_
  refine x_isub i_Trees_make_55 (by omega) ?_
  have e : ((N + 1 : Nat) : Int) - 1 = (N : Nat) := by omega
  rw [e]
  refine x_iret i_Trees_make_56 rfl ?_
  refine kk σ5 ⟨q0, q1, q2, q3, q4, q5, q6⟩ h1 h2 h3 h4 g5 h6 ?_
  have t : ∀ {r : Nat} {a b : AS}, rowX r r a b → 6 ≤ r → r ≤ 10 → tX (fun f a => f = 601 ∧ 6 ≤ a ∧ a ≤ 10) (fun a => 6 ≤ a ∧ a ≤ 10) a b := fun h a b => h.tx ⟨rfl, a, b⟩ ⟨a, b⟩
  exact ((((t x1 (by omega) (by omega)).tr (t x2 (by omega) (by omega))).tr (t x3 (by omega) (by omega))).tr (t x4 (by omega) (by omega))).tr (t x5 (by omega) (by omega))
end


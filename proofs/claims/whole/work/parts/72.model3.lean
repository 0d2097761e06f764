/-! THE MODEL: its trees -/
def chM (σ : AS) (L : Nat) (own : Nat → Nat) (i : Nat) (lst : Int) : List Nat → Int → Prop
  | [], v => v = -1
  | c :: cs, v => ∃ l : Nat, v = (l : Int) ∧ l < L ∧ own l = i ∧ AI σ 13 57 l = (c : Int) ∧ (cs = [] → lst = (l : Int)) ∧ chM σ L own i lst cs (AI σ 13 58 l)
def nodeT (σ : AS) (tab : Nat → TT) (kids : Nat → List Nat) (i : Nat) : Prop :=
  (AI σ 13 52 i = 0 ∧ ∃ n : Nat, n < 256 ∧ tab i = .num n ∧ AI σ 13 53 i = (n : Int) ∧ kids i = []) ∨ (AI σ 13 52 i = 1 ∧ AI σ 13 53 i = 0 ∧ tab i = boughT ((kids i).map tab)) ∨ (AI σ 13 52 i = 2 ∧ ∃ c a b : Nat, c < 256 ∧ AI σ 13 53 i = (c : Int) ∧ kids i = [a, b] ∧ tab i = forkT c (tab a) (tab b))
def NodeS (σ : AS) (N L : Nat) (tab : Nat → TT) (cl : Nat → Prop) (kids : Nat → List Nat) (own : Nat → Nat) : Prop :=
  FI σ 1150 0 = (N : Int) ∧ FI σ 1151 0 = (L : Int) ∧ (∀ i, cl i → i < N) ∧ ∀ i, i < N → chM σ L own i (AI σ 13 56 i) (kids i) (AI σ 13 55 i) ∧ AI σ 13 54 i = (sizeT (boughT ((kids i).map tab)) : Nat) ∧ (∀ c, c ∈ kids i → cl c) ∧ (cl i → nodeT σ tab kids i ∧ sizeT (tab i) ≤ 2000)
def ndA (k a : Nat) : Prop := k = 13 ∧ 52 ≤ a ∧ a ≤ 58
def ndF (f a : Nat) : Prop := (f = 1150 ∨ f = 1151) ∧ a = 0
theorem chM.keep {σ σ' : AS} {L L' : Nat} {own own' : Nat → Nat} {i : Nat} {lst : Int} (hL : L ≤ L') (ho : ∀ l, l < L → own l = i → own' l = i ∧ AI σ' 13 57 l = AI σ 13 57 l ∧ AI σ' 13 58 l = AI σ 13 58 l) : ∀ (cs : List Nat) (v : Int), chM σ L own i lst cs v → chM σ' L' own' i lst cs v
  | [], _, h => h
  | c :: cs, v, ⟨l, h1, h2, h3, h4, h5, h6⟩ => by
    obtain ⟨o1, o2, o3⟩ := ho l h2 h3
    exact ⟨l, h1, by omega, o1, by rw [o2]; exact h4, h5, by rw [o3]; exact chM.keep hL ho cs _ h6⟩
theorem chM.last {σ : AS} {L : Nat} {own : Nat → Nat} {i : Nat} {lst : Int} : ∀ (cs : List Nat) (v : Int), cs ≠ [] → chM σ L own i lst cs v → ∃ l : Nat, lst = (l : Int) ∧ l < L ∧ own l = i ∧ AI σ 13 58 l = -1
  | [], _, h, _ => absurd rfl h
  | [c], _, _, ⟨l, h1, h2, h3, h4, h5, h6⟩ => ⟨l, h5 rfl, h2, h3, h6⟩
  | c :: c1 :: cs, _, _, ⟨l, h1, h2, h3, h4, h5, h6⟩ => chM.last (c1 :: cs) _ (by simp) h6
def upK (kids : Nat → List Nat) (N : Nat) (v : List Nat) : Nat → List Nat := fun j => if j = N then v else kids j
theorem upK_eq (kids : Nat → List Nat) (N : Nat) (v : List Nat) : upK kids N v N = v := if_pos rfl
theorem upK_ne {kids : Nat → List Nat} {N j : Nat} {v : List Nat} (h : j ≠ N) : upK kids N v j = kids j := if_neg h
/-- one more link at the end -/
theorem chM.snoc {σ σ' : AS} {L : Nat} {own own' : Nat → Nat} {i c : Nat} {lst : Int} (hn : ∀ l, l < L → AI σ' 13 57 l = AI σ 13 57 l ∧ (lst ≠ (l : Int) → AI σ' 13 58 l = AI σ 13 58 l) ∧ (lst = (l : Int) → AI σ' 13 58 l = (L : Int)) ∧ own' l = own l) (h1 : own' L = i) (h2 : AI σ' 13 57 L = (c : Int)) (h3 : AI σ' 13 58 L = -1) : ∀ (cs : List Nat) (v : Int), cs ≠ [] → chM σ L own i lst cs v → chM σ' (L + 1) own' i (L : Nat) (cs ++ [c]) v
  | [], _, h, _ => absurd rfl h
  | [c0], v, _, ⟨l, a1, a2, a3, a4, a5, a6⟩ => by
    obtain ⟨b1, b2, b3, b4⟩ := hn l a2
    exact ⟨l, a1, by omega, by rw [b4]; exact a3, by rw [b1]; exact a4, fun q => (by cases q), L, b3 (a5 rfl), by omega, h1, h2, fun _ => rfl, h3⟩
  | c0 :: c1 :: cs, v, _, ⟨l, a1, a2, a3, a4, a5, a6⟩ => by
    obtain ⟨b1, b2, b3, b4⟩ := hn l a2
    have hne : lst ≠ (l : Int) ∨ lst = (l : Int) := by omega
    rcases hne with w | w
    · exact ⟨l, a1, by omega, by rw [b4]; exact a3, by rw [b1]; exact a4, fun q => (by cases q), by rw [b2 w]; exact chM.snoc hn h1 h2 h3 (c1 :: cs) _ (by simp) a6⟩
    · obtain ⟨l2, q1, -, -, q2⟩ := chM.last (c1 :: cs) _ (by simp) a6
      obtain ⟨l3, q3, -⟩ := a6
      rw [show l2 = l by omega] at q2
      omega
section
variable {d : Nat} {Q : AQ} {σ : AS} {N L : Nat} {tab : Nat → TT} {cl : Nat → Prop} {kids : Nat → List Nat} {own : Nat → Nat}
theorem nodeT.size {i : Nat} (h : nodeT σ tab kids i) : sizeT (tab i) = sizeT (boughT ((kids i).map tab)) := by
  rcases h with ⟨-, n, -, h1, -, h2⟩ | ⟨-, -, h1⟩ | ⟨-, c, a, b, -, -, h1, h2⟩
  · rw [h1, h2]; rfl
  · rw [h1]
  · rw [h1, h2]
    simp [sizeT, forkT, boughT, listT]
theorem c_M_makes (h : modR σ) (hn : NodeS σ N L tab cl kids own) (hN : N < 9000) {k n : Int} (kk : ∀ σ', fX ndF ndA σ σ' → NodeS σ' (N + 1) L tab cl (upK kids N []) own → AI σ' 13 52 N = k → AI σ' 13 53 N = n → (∀ a j, j ≠ N → AI σ' 13 a j = AI σ 13 a j) → Q (some (vi (N : Nat))) σ') : wp (d + 1) m_M_makes [vr 11 0, vi k, vi n] σ Q := by
  obtain ⟨hm, hl, -⟩ := h
  obtain ⟨n1, n2, n3, n4⟩ := hn
  have e1 : ∀ (a j : Nat) (v : Int) (s : AS) (a' j' : Nat), AI (sAI s 13 a j v) 13 a' j' = if a' = a ∧ j' = j then v else AI s 13 a' j' := fun a j v s a' j' => by rw [AI_sAI]; simp
  have nn : ∀ (s : AS) (a j : Nat) (v : Int), FI s 1150 0 = (N : Int) → FI (sAI s 13 a j v) 1150 0 = (N : Int) := fun _ _ _ _ h => h
  refine x_in (ls := [some _, some _, some _]) rfl rfl ?_
  refine x_aload_n i_M_makes_0 rfl ?_
  refine x_getR (c2 := 13) i_M_makes_1 rfl rfl (hm _ _ rfl) ?_
  refine x_aload_n i_M_makes_4 rfl ?_
  refine x_getI i_M_makes_5 rfl rfl ?_
  rw [n1]
  refine x_iload_n i_M_makes_8 rfl ?_
  refine x_iastore i_M_makes_9 rfl (lt_len hl rfl hN) ?_
  refine x_aload_n i_M_makes_10 rfl ?_
  refine x_getR (c2 := 13) i_M_makes_11 rfl rfl (hm _ _ rfl) ?_
  refine x_aload_n i_M_makes_14 rfl ?_
  refine x_getI i_M_makes_15 rfl rfl ?_
  rw [nn _ _ _ _ n1]
  refine x_iload_n i_M_makes_18 rfl ?_
  refine x_iastore i_M_makes_19 rfl (lt_len hl rfl hN) ?_
  refine x_aload_n i_M_makes_20 rfl ?_
  refine x_getR (c2 := 13) i_M_makes_21 rfl rfl (hm _ _ rfl) ?_
  refine x_aload_n i_M_makes_24 rfl ?_
  refine x_getI i_M_makes_25 rfl rfl ?_
  rw [nn _ _ _ _ (nn _ _ _ _ n1)]
  refine x_iconst i_M_makes_28 ?_
  refine x_iastore i_M_makes_29 rfl (lt_len hl rfl hN) ?_
  refine x_aload_n i_M_makes_30 rfl ?_
  refine x_getR (c2 := 13) i_M_makes_31 rfl rfl (hm _ _ rfl) ?_
  refine x_aload_n i_M_makes_34 rfl ?_
  refine x_getI i_M_makes_35 rfl rfl ?_
  rw [nn _ _ _ _ (nn _ _ _ _ (nn _ _ _ _ n1))]
  refine x_iconst i_M_makes_38 ?_
  refine x_iastore i_M_makes_39 rfl (lt_len hl rfl hN) ?_
  refine x_aload_n i_M_makes_40 rfl ?_
  refine x_getR (c2 := 13) i_M_makes_41 rfl rfl (hm _ _ rfl) ?_
  refine x_aload_n i_M_makes_44 rfl ?_
  refine x_getI i_M_makes_45 rfl rfl ?_
  rw [nn _ _ _ _ (nn _ _ _ _ (nn _ _ _ _ (nn _ _ _ _ n1)))]
  refine x_iconst i_M_makes_48 ?_
  refine x_iastore i_M_makes_49 rfl (lt_len hl rfl hN) ?_
  refine x_aload_n i_M_makes_50 rfl ?_
  refine x_dup i_M_makes_51 ?_
  refine x_getI i_M_makes_52 rfl rfl ?_
  rw [nn _ _ _ _ (nn _ _ _ _ (nn _ _ _ _ (nn _ _ _ _ (nn _ _ _ _ n1))))]
  refine x_iconst i_M_makes_55 ?_
  refine x_iadd i_M_makes_56 (by omega) ?_
  refine x_putI i_M_makes_57 rfl rfl ?_
  refine x_aload_n i_M_makes_60 rfl ?_
  refine x_getI i_M_makes_61 rfl rfl ?_
  generalize hσ : sFI (sAI (sAI (sAI (sAI (sAI σ 13 52 N k) 13 53 N n) 13 54 N 1) 13 55 N (-1)) 13 56 N (-1)) 1150 0 ((N : Int) + 1) = σ'
  have g1 : FI σ' 1150 0 = ((N + 1 : Nat) : Int) := by rw [← hσ]; simp [FI_sFI]
  rw [g1]
  refine x_iconst i_M_makes_64 ?_
  refine x_isub i_M_makes_65 (by omega) ?_
  have m : ∀ {s : AS} {a j : Nat} {v : Int}, 52 ≤ a → a ≤ 58 → fX ndF ndA s (sAI s 13 a j v) := fun h1 h2 => fX_sAI ⟨rfl, h1, h2⟩
  rw [show ((N + 1 : Nat) : Int) - 1 = (N : Nat) by omega]
  refine x_iret i_M_makes_66 rfl ?_
  refine kk σ' ?_ ⟨g1, by rw [← hσ]; exact n2, fun i hi => by have := n3 i hi; omega, fun i hi => ?_⟩ ?_ ?_ (fun a j hj => by rw [← hσ, AI_sFI]; simp [e1, hj])
  · rw [← hσ]
    exact (((((m (by decide) (by decide)).tr (m (by decide) (by decide))).tr (m (by decide) (by decide))).tr (m (by decide) (by decide))).tr (m (by decide) (by decide))).tr (fX_sFI ⟨Or.inl rfl, rfl⟩)
  · have a1 : ∀ a j, j ≠ N → AI σ' 13 a j = AI σ 13 a j := fun a j hj => by rw [← hσ, AI_sFI]; simp [e1, hj]
    have a2 : ∀ a j, 57 ≤ a → AI σ' 13 a j = AI σ 13 a j := fun a j ha => by
      rw [← hσ, AI_sFI]; simp only [e1]
      rw [if_neg (by omega), if_neg (by omega), if_neg (by omega), if_neg (by omega), if_neg (by omega)]
    by_cases hiN : i = N
    · subst hiN
      refine ⟨?_, ?_, ?_, fun w => absurd (n3 _ w) (by omega)⟩
      · rw [upK_eq]
        show AI σ' 13 55 i = -1
        rw [← hσ, AI_sFI]; simp [e1]
      · rw [upK_eq, ← hσ, AI_sFI]; simp [e1, sizeT, boughT, listT]
      · rw [upK_eq]; intro c hc; cases hc
    · obtain ⟨b1, b2, b3, b4⟩ := n4 i (by omega)
      rw [upK_ne hiN, a1 _ _ hiN, a1 _ _ hiN, a1 _ _ hiN]
      refine ⟨b1.keep (Nat.le_refl _) (fun l _ h => ⟨h, a2 _ _ (by decide), a2 _ _ (by decide)⟩), b2, b3, fun w => ?_⟩
      obtain ⟨c1, c2⟩ := b4 w
      refine ⟨?_, c2⟩
      unfold nodeT
      rw [a1 _ _ hiN, a1 _ _ hiN, upK_ne hiN]
      exact c1
  · rw [← hσ, AI_sFI]; simp [e1]
  · rw [← hσ, AI_sFI]; simp [e1]
theorem c_M_adds (h : modR σ) (hn : NodeS σ N L tab cl kids own) (hL : L < 9000) (hN : N ≤ 9000) {t c : Nat} (ht : t < N) (ho : ¬ cl t) (hc : cl c) (hk : (kids t).length ≤ 9000) (hsz : ∀ i ∈ kids t, sizeT (tab i) ≤ 2000)
    (kk : ∀ σ' own', fX ndF ndA σ σ' → NodeS σ' N (L + 1) tab cl (upK kids t (kids t ++ [c])) own' → AI σ' 13 52 = AI σ 13 52 → AI σ' 13 53 = AI σ 13 53 → Q none σ') : wp (d + 1) m_M_adds [vr 11 0, vi (t : Nat), vi (c : Nat)] σ Q := by
  obtain ⟨hm, hl, -⟩ := id h
  obtain ⟨n1, n2, n3, n4⟩ := id hn
  have hcN := n3 c hc
  obtain ⟨t1, t2, t3, t4⟩ := n4 t ht
  obtain ⟨-, c2, -, c4⟩ := n4 c hcN
  obtain ⟨c5, c6⟩ := c4 hc
  rw [← c5.size] at c2
  have hsum : sizeT (boughT ((kids t).map tab)) ≤ 1 + 9000 * 2000 := by
    rw [sizeT_bough]
    have := sizeL_le ((kids t).map tab) 2000 (fun u hu => by
      obtain ⟨i, hi, rfl⟩ := List.mem_map.mp hu
      exact hsz i hi)
    rw [List.length_map] at this
    have := Nat.mul_le_mul_right 2000 hk
    omega
  have e1 : ∀ (a j : Nat) (v : Int) (s : AS) (a' j' : Nat), AI (sAI s 13 a j v) 13 a' j' = if a' = a ∧ j' = j then v else AI s 13 a' j' := fun a j v s a' j' => by rw [AI_sAI]; simp
  have m : ∀ {s : AS} {a j : Nat} {v : Int}, 52 ≤ a → a ≤ 58 → fX ndF ndA s (sAI s 13 a j v) := fun h1 h2 => fX_sAI ⟨rfl, h1, h2⟩
  have fi : ∀ (s : AS) (a j : Nat) (v : Int) (f : Nat), FI (sAI s 13 a j v) f 0 = FI s f 0 := fun _ _ _ _ _ => rfl
  -- the end, when the link hangs
  have fin : ∀ (σ1 : AS), fX ndF ndA σ σ1 → FI σ1 1150 0 = (N : Int) → FI σ1 1151 0 = (L : Int) → (∀ a j, a ≠ 55 → a ≠ 57 → a ≠ 58 → AI σ1 13 a j = AI σ 13 a j) → (∀ j, j ≠ t → AI σ1 13 55 j = AI σ 13 55 j) → (∀ l, l < L → AI σ1 13 57 l = AI σ 13 57 l ∧ (own l ≠ t → AI σ1 13 58 l = AI σ 13 58 l)) → (∀ σ2, (∀ a j, a ≠ 54 → a ≠ 56 → AI σ2 13 a j = AI σ1 13 a j) → chM σ2 (L + 1) (fun l => if l = L then t else own l) t (L : Nat) (kids t ++ [c]) (AI σ1 13 55 t)) → Ex (wp d) m_M_adds Q 58 [some (vr 11 0), some (vi (t : Nat)), some (vi (c : Nat))] [] σ1 := by
    intro σ1 x1 f0 f1 g1 g2 g3 g4
    obtain ⟨hm, hl, -⟩ := h.keep x1
    refine x_aload_n i_M_adds_58 rfl ?_
    refine x_getR (c2 := 13) i_M_adds_59 rfl rfl (hm _ _ rfl) ?_
    refine x_iload_n i_M_adds_62 rfl ?_
    refine x_aload_n i_M_adds_63 rfl ?_
    refine x_getI i_M_adds_64 rfl rfl ?_
    rw [f1]
    refine x_iastore i_M_adds_67 rfl (lt_len hl rfl (by omega)) ?_
    refine x_aload_n i_M_adds_68 rfl ?_
    refine x_dup i_M_adds_69 ?_
    refine x_getI i_M_adds_70 rfl rfl ?_
    rw [fi, f1]
    refine x_iconst i_M_adds_73 ?_
    refine x_iadd i_M_adds_74 (by omega) ?_
    refine x_putI i_M_adds_75 rfl rfl ?_
    refine x_aload_n i_M_adds_78 rfl ?_
    refine x_getR (c2 := 13) i_M_adds_79 rfl rfl (hm _ _ rfl) ?_
    refine x_iload_n i_M_adds_82 rfl ?_
    refine x_dup2 i_M_adds_83 ?_
    refine x_iaload i_M_adds_84 rfl (lt_len hl rfl (by omega)) ?_
    refine x_aload_n i_M_adds_85 rfl ?_
    refine x_getR (c2 := 13) i_M_adds_86 rfl rfl (hm _ _ rfl) ?_
    refine x_iload_n i_M_adds_89 rfl ?_
    refine x_iaload i_M_adds_90 rfl (lt_len hl rfl (by omega)) ?_
    have s1 : AI (sFI (sAI σ1 13 56 t (L : Int)) 1151 0 ((L : Int) + 1)) 13 54 t = (sizeT (boughT ((kids t).map tab)) : Nat) := by rw [AI_sFI, e1, if_neg (by omega), g1 _ _ (by decide) (by decide) (by decide)]; exact t2
    have s2 : AI (sFI (sAI σ1 13 56 t (L : Int)) 1151 0 ((L : Int) + 1)) 13 54 c = (sizeT (tab c) : Nat) := by rw [AI_sFI, e1, if_neg (by omega), g1 _ _ (by decide) (by decide) (by decide)]; exact c2
    rw [s1, s2]
    refine x_iadd i_M_adds_91 (by omega) ?_
    refine x_iastore i_M_adds_92 rfl (lt_len hl rfl (by omega)) ?_
    generalize hσ : sAI (sFI (sAI σ1 13 56 t (L : Int)) 1151 0 ((L : Int) + 1)) 13 54 t ((sizeT (boughT ((kids t).map tab)) : Nat) + (sizeT (tab c) : Nat)) = σ2
    have a1 : ∀ a j, a ≠ 54 → a ≠ 56 → AI σ2 13 a j = AI σ1 13 a j := fun a j h1 h2 => by rw [← hσ, e1, if_neg (fun w => h1 w.1), AI_sFI, e1, if_neg (fun w => h2 w.1)]
    have a2 : ∀ a j, j ≠ t → AI σ2 13 a j = AI σ1 13 a j := fun a j h1 => by rw [← hσ, e1, if_neg (fun w => h1 w.2), AI_sFI, e1, if_neg (fun w => h1 w.2)]
    have a3 : AI σ2 13 56 t = (L : Nat) := by rw [← hσ, e1, if_neg (by omega), AI_sFI, e1, if_pos ⟨rfl, rfl⟩]
    have a4 : AI σ2 13 54 t = ((sizeT (boughT ((kids t).map tab)) + sizeT (tab c) : Nat) : Int) := by rw [← hσ, e1, if_pos ⟨rfl, rfl⟩]; omega
    have x2 : fX ndF ndA σ σ2 := by
      rw [← hσ]
      exact x1.tr (((m (by decide) (by decide)).tr (fX_sFI ⟨Or.inr rfl, rfl⟩)).tr (m (by decide) (by decide)))
    refine x_vret i_M_adds_93 rfl ?_
    refine kk σ2 (fun l => if l = L then t else own l) x2 ⟨by rw [← hσ]; exact f0, by rw [← hσ]; show (L : Int) + 1 = ((L + 1 : Nat) : Int); omega, n3, fun i hi => ?_⟩ ?_ ?_
    · by_cases hit : i = t
      · subst hit
        rw [upK_eq]
        refine ⟨?_, ?_, ?_, fun w => absurd w ho⟩
        · rw [a3, a1 _ _ (by decide) (by decide)]
          exact g4 σ2 a1
        · rw [a4, List.map_append, sizeT_bough, sizeT_bough, List.map_singleton, sizeT_snoc]
          omega
        · intro j hj
          rcases List.mem_append.mp hj with w | w
          · exact t3 j w
          · rw [List.mem_singleton.mp w]; exact hc
      · obtain ⟨b1, b2, b3, b4⟩ := n4 i hi
        have z : ∀ a, a ≠ 57 → a ≠ 58 → AI σ2 13 a i = AI σ 13 a i := by
          intro a h1 h2
          rw [a2 _ _ hit]
          by_cases w : a = 55
          · rw [w]; exact g2 i hit
          · exact g1 _ _ w h1 h2
        rw [upK_ne hit, z _ (by decide) (by decide), z _ (by decide) (by decide), z _ (by decide) (by decide)]
        refine ⟨b1.keep (by omega) (fun l h1 h2 => ⟨by rw [if_neg (by omega)]; exact h2, ?_, ?_⟩), b2, b3, fun w => ?_⟩
        · rw [a1 _ _ (by decide) (by decide)]; exact (g3 l h1).1
        · rw [a1 _ _ (by decide) (by decide)]; exact (g3 l h1).2 (by rw [h2]; exact hit)
        · obtain ⟨d1, d2⟩ := b4 w
          refine ⟨?_, d2⟩
          unfold nodeT
          rw [z _ (by decide) (by decide), z _ (by decide) (by decide), upK_ne hit]
          exact d1
    · funext j
      rw [a1 _ _ (by decide) (by decide), g1 _ _ (by decide) (by decide) (by decide)]
    · funext j
      rw [a1 _ _ (by decide) (by decide), g1 _ _ (by decide) (by decide) (by decide)]
  refine x_in (ls := [some _, some _, some _]) rfl rfl ?_
  refine x_aload_n i_M_adds_0 rfl ?_
  refine x_getR (c2 := 13) i_M_adds_1 rfl rfl (hm _ _ rfl) ?_
  refine x_aload_n i_M_adds_4 rfl ?_
  refine x_getI i_M_adds_5 rfl rfl ?_
  rw [n2]
  refine x_iload_n i_M_adds_8 rfl ?_
  refine x_iastore i_M_adds_9 rfl (lt_len hl rfl hL) ?_
  refine x_aload_n i_M_adds_10 rfl ?_
  refine x_getR (c2 := 13) i_M_adds_11 rfl rfl (hm _ _ rfl) ?_
  refine x_aload_n i_M_adds_14 rfl ?_
  refine x_getI i_M_adds_15 rfl rfl ?_
  rw [fi, n2]
  refine x_iconst i_M_adds_18 ?_
  refine x_iastore i_M_adds_19 rfl (lt_len hl rfl hL) ?_
  refine x_aload_n i_M_adds_20 rfl ?_
  refine x_getR (c2 := 13) i_M_adds_21 rfl rfl (hm _ _ rfl) ?_
  refine x_iload_n i_M_adds_24 rfl ?_
  refine x_iaload i_M_adds_25 rfl (lt_len hl rfl (by omega)) ?_
  rw [e1, if_neg (by omega), e1, if_neg (by omega)]
  have base : fX ndF ndA σ (sAI (sAI σ 13 57 L (c : Int)) 13 58 L (-1)) := (m (by decide) (by decide)).tr (m (by decide) (by decide))
  by_cases hk0 : kids t = []
  · rw [hk0] at t1
    have t1 : AI σ 13 55 t = -1 := t1
    rw [t1]
    refine x_iconst i_M_adds_26 ?_
    refine x_icmp_ne_f i_M_adds_27 rfl ?_
    refine x_aload_n i_M_adds_30 rfl ?_
    refine x_getR (c2 := 13) i_M_adds_31 rfl rfl (hm _ _ rfl) ?_
    refine x_iload_n i_M_adds_34 rfl ?_
    refine x_aload_n i_M_adds_35 rfl ?_
    refine x_getI i_M_adds_36 rfl rfl ?_
    rw [fi, fi, n2]
    refine x_iastore i_M_adds_39 rfl (lt_len hl rfl (by omega)) ?_
    refine x_goto i_M_adds_40 ?_
    refine fin _ (base.tr (m (by decide) (by decide))) n1 n2 (fun a j h1 h2 h3 => by rw [e1, if_neg (fun w => h1 w.1), e1, if_neg (fun w => h3 w.1), e1, if_neg (fun w => h2 w.1)]) (fun j hj => by rw [e1, if_neg (fun w => hj w.2), e1, if_neg (by omega), e1, if_neg (by omega)]) (fun l hl2 => ⟨by rw [e1, if_neg (by omega), e1, if_neg (by omega), e1, if_neg (by omega)], fun _ => by rw [e1, if_neg (by omega), e1, if_neg (by omega), e1, if_neg (by omega)]⟩) (fun σ2 a1 => ?_)
    rw [hk0]
    refine ⟨L, by rw [e1, if_pos ⟨rfl, rfl⟩], by omega, if_pos rfl, ?_, fun _ => rfl, ?_⟩
    · rw [a1 _ _ (by decide) (by decide), e1, if_neg (by omega), e1, if_neg (by omega), e1, if_pos ⟨rfl, rfl⟩]
    · show AI σ2 13 58 L = -1
      rw [a1 _ _ (by decide) (by decide), e1, if_neg (by omega), e1, if_pos ⟨rfl, rfl⟩]
  · obtain ⟨l, l1, l2, l3, l4⟩ := chM.last _ _ hk0 t1
    have hv : AI σ 13 55 t ≠ -1 := by
      cases hk1 : kids t with
      | nil => exact absurd hk1 hk0
      | cons a b =>
        rw [hk1] at t1
        obtain ⟨l', q, -⟩ := t1
        omega
    refine x_iconst i_M_adds_26 ?_
    refine x_icmp_ne_t i_M_adds_27 hv ?_
    refine x_aload_n i_M_adds_43 rfl ?_
    refine x_getR (c2 := 13) i_M_adds_44 rfl rfl (hm _ _ rfl) ?_
    refine x_aload_n i_M_adds_47 rfl ?_
    refine x_getR (c2 := 13) i_M_adds_48 rfl rfl (hm _ _ rfl) ?_
    refine x_iload_n i_M_adds_51 rfl ?_
    refine x_iaload i_M_adds_52 rfl (lt_len hl rfl (by omega)) ?_
    rw [e1, if_neg (by omega), e1, if_neg (by omega), l1]
    refine x_aload_n i_M_adds_53 rfl ?_
    refine x_getI i_M_adds_54 rfl rfl ?_
    rw [fi, fi, n2]
    refine x_iastore i_M_adds_57 rfl (lt_len hl rfl (by omega)) ?_
    refine fin _ (base.tr (m (by decide) (by decide))) n1 n2 (fun a j h1 h2 h3 => by rw [e1, if_neg (fun w => h3 w.1), e1, if_neg (fun w => h3 w.1), e1, if_neg (fun w => h2 w.1)]) (fun j hj => by rw [e1, if_neg (by omega), e1, if_neg (by omega), e1, if_neg (by omega)]) (fun l' hl2 => ⟨by rw [e1, if_neg (by omega), e1, if_neg (by omega), e1, if_neg (by omega)], fun hw => by rw [e1, if_neg (fun w => hw (by rw [w.2]; exact l3)), e1, if_neg (by omega), e1, if_neg (by omega)]⟩) (fun σ2 a1 => ?_)
    rw [e1, if_neg (by omega), e1, if_neg (by omega), e1, if_neg (by omega)]
    refine chM.snoc (lst := AI σ 13 56 t) (own' := fun l => if l = L then t else own l) (fun l' hl2 => ⟨?_, fun hw => ?_, fun hw => ?_, if_neg (by omega)⟩) (if_pos rfl) ?_ ?_ _ _ hk0 t1
    · rw [a1 _ _ (by decide) (by decide), e1, if_neg (by omega), e1, if_neg (by omega), e1, if_neg (by omega)]
    · rw [a1 _ _ (by decide) (by decide), e1, if_neg (fun w => hw (by rw [l1, w.2])), e1, if_neg (by omega), e1, if_neg (by omega)]
    · rw [a1 _ _ (by decide) (by decide), e1, if_pos ⟨rfl, by omega⟩]
    · rw [a1 _ _ (by decide) (by decide), e1, if_neg (by omega), e1, if_neg (by omega), e1, if_pos ⟨rfl, rfl⟩]
    · rw [a1 _ _ (by decide) (by decide), e1, if_neg (by omega), e1, if_pos ⟨rfl, rfl⟩]
theorem c_M_whole (h : modR σ) {t : Nat} (ht : t < 9000) (kk : ∀ σ', (AI σ 13 54 t ≤ 2000 → σ' = σ) → (2000 < AI σ 13 54 t → σ' = sFI σ 1142 0 (-19)) → Q (some (vi (t : Nat))) σ') : wp (d + 1) m_M_whole [vr 11 0, vi (t : Nat)] σ Q := by
  obtain ⟨hm, hl, -⟩ := h
  refine x_in (ls := [some _, some _]) rfl rfl ?_
  refine x_aload_n i_M_whole_0 rfl ?_
  refine x_getR (c2 := 13) i_M_whole_1 rfl rfl (hm _ _ rfl) ?_
  refine x_iload_n i_M_whole_4 rfl ?_
  refine x_iaload i_M_whole_5 rfl (lt_len hl rfl ht) ?_
  refine x_sipush i_M_whole_6 ?_
  refine x_icmp_le i_M_whole_9 (fun h1 => ?_) (fun h1 => ?_)
  · refine x_iload_n i_M_whole_18 rfl ?_
    refine x_iret i_M_whole_19 rfl ?_
    exact kk σ (fun _ => rfl) (fun w => by omega)
  · refine x_aload_n i_M_whole_12 rfl ?_
    refine x_bipush i_M_whole_13 ?_
    refine x_putI i_M_whole_15 rfl rfl ?_
    refine x_iload_n i_M_whole_18 rfl ?_
    refine x_iret i_M_whole_19 rfl ?_
    exact kk _ (fun w => by omega) (fun _ => rfl)
/-- a node is closed: a tree -/
theorem NodeS.close (hn : NodeS σ N L tab cl kids own) {i : Nat} (hi : i < N) (ho : ¬ cl i) {t : TT} (h1 : nodeT σ (upT tab i t) kids i) (h2 : sizeT t ≤ 2000) : NodeS σ N L (upT tab i t) (fun j => cl j ∨ j = i) kids own := by
  obtain ⟨n1, n2, n3, n4⟩ := hn
  refine ⟨n1, n2, fun j hj => hj.elim (n3 j) (fun w => by rw [w]; exact hi), fun j hj => ?_⟩
  obtain ⟨b1, b2, b3, b4⟩ := n4 j hj
  have hmap : (kids j).map (upT tab i t) = (kids j).map tab := List.map_congr_left (fun c hc => upT_ne (fun w => ho (by rw [← w]; exact b3 c hc)))
  refine ⟨b1, by rw [hmap]; exact b2, fun c hc => Or.inl (b3 c hc), fun w => ?_⟩
  by_cases hji : j = i
  · rw [hji]
    exact ⟨h1, by rw [upT_eq]; exact h2⟩
  · obtain ⟨c1, c2⟩ := b4 (w.resolve_right hji)
    refine ⟨?_, by rw [upT_ne hji]; exact c2⟩
    unfold nodeT at c1 ⊢
    rw [upT_ne hji, hmap]
    rcases c1 with c1 | c1 | ⟨e1, c, a, b, e2, e3, e4, e5⟩
    · exact Or.inl c1
    · exact Or.inr (Or.inl c1)
    · have ha : a ≠ i := fun w => ho (by rw [← w]; exact b3 a (by rw [e4]; simp))
      have hb : b ≠ i := fun w => ho (by rw [← w]; exact b3 b (by rw [e4]; simp))
      exact Or.inr (Or.inr ⟨e1, c, a, b, e2, e3, e4, by rw [upT_ne ha, upT_ne hb]; exact e5⟩)
end


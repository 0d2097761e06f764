/-! THE MODEL: a tree written out -/
def flatT : TT → Nat → List (Nat × Nat × Nat × Nat)
  | .num n, d => [(0, n, 0, d)]
  | .var _, _ => []
  | .add a b, d => flatT a d ++ flatT b d
  | .mulL _ ts, d => (1, 0, lenT ts, d) :: flatT ts (d + 1)
  | .mulR ab c, d => (2, c, 2, d) :: flatT ab (d + 1)
theorem flatT_len : ∀ (t : TT) (d : Nat), (flatT t d).length = sizeT t
  | .num _, _ => rfl
  | .var _, _ => rfl
  | .add a b, d => by simp [flatT, sizeT, flatT_len a d, flatT_len b d]
  | .mulL _ ts, d => by simp [flatT, sizeT, flatT_len ts (d + 1)]; omega
  | .mulR ab _, d => by simp [flatT, sizeT, flatT_len ab (d + 1)]; omega
theorem flatT_app (d : Nat) : ∀ (l1 l2 : List TT), flatT (listT (l1 ++ l2)) d = flatT (listT l1) d ++ flatT (listT l2) d
  | [], _ => rfl
  | t :: l1, l2 => by simp [listT, flatT, flatT_app d l1 l2]
theorem sizeT_app : ∀ (l1 l2 : List TT), sizeT (listT (l1 ++ l2)) = sizeT (listT l1) + sizeT (listT l2)
  | [], _ => by simp [listT, sizeT]
  | t :: l1, l2 => by simp [listT, sizeT, sizeT_app l1 l2]; omega
def flM (σ : AS) : Nat → List (Nat × Nat × Nat × Nat) → Prop
  | _, [] => True
  | k, x :: l => AI σ 13 59 k = (x.1 : Int) ∧ AI σ 13 60 k = (x.2.1 : Int) ∧ AI σ 13 61 k = (x.2.2.1 : Int) ∧ AI σ 13 62 k = (x.2.2.2 : Int) ∧ flM σ (k + 1) l
theorem flM_app (σ : AS) : ∀ (l1 l2 : List (Nat × Nat × Nat × Nat)) (k : Nat), flM σ k (l1 ++ l2) ↔ flM σ k l1 ∧ flM σ (k + l1.length) l2
  | [], l2, k => by simp [flM]
  | x :: l1, l2, k => by
    simp only [List.cons_append, flM, flM_app σ l1 l2 (k + 1), List.length_cons]
    rw [show k + 1 + l1.length = k + (l1.length + 1) by omega]
    constructor
    · rintro ⟨a, b, c, d, e, f⟩; exact ⟨⟨a, b, c, d, e⟩, f⟩
    · rintro ⟨⟨a, b, c, d, e⟩, f⟩; exact ⟨a, b, c, d, e, f⟩
theorem flM.keep {σ σ' : AS} : ∀ (l : List (Nat × Nat × Nat × Nat)) (k : Nat), (∀ a j, 59 ≤ a → a ≤ 62 → k ≤ j → j < k + l.length → AI σ' 13 a j = AI σ 13 a j) → flM σ k l → flM σ' k l
  | [], _, _, _ => trivial
  | x :: l, k, h, ⟨a1, a2, a3, a4, a5⟩ => by
    have hk : k < k + (x :: l).length := by simp
    refine ⟨by rw [h _ _ (by decide) (by decide) (Nat.le_refl _) hk]; exact a1, by rw [h _ _ (by decide) (by decide) (Nat.le_refl _) hk]; exact a2, by rw [h _ _ (by decide) (by decide) (Nat.le_refl _) hk]; exact a3, by rw [h _ _ (by decide) (by decide) (Nat.le_refl _) hk]; exact a4, flM.keep l (k + 1) (fun a j w1 w2 w3 w4 => h a j w1 w2 (by omega) (by simp; omega)) a5⟩
def flF (f a : Nat) : Prop := f = 1175 ∧ a = 0
def flA (k a : Nat) : Prop := k = 13 ∧ 59 ≤ a ∧ a ≤ 62
theorem sizeT_mem {t : TT} : ∀ (l : List TT), t ∈ l → sizeT t ≤ sizeT (listT l)
  | [], h => by cases h
  | x :: l, h => by
    simp only [listT, sizeT]
    rcases List.mem_cons.mp h with rfl | h
    · omega
    · have := sizeT_mem l h; omega
theorem len_sizeT : ∀ (l : List TT), (∀ t ∈ l, 1 ≤ sizeT t) → l.length ≤ sizeT (listT l)
  | [], _ => Nat.zero_le _
  | x :: l, h => by
    have := len_sizeT l (fun t ht => h t (List.mem_cons_of_mem _ ht))
    have := h x List.mem_cons_self
    simp only [listT, sizeT, List.length_cons]
    omega
theorem c_M_flat {N L : Nat} {tab : Nat → TT} {cl : Nat → Prop} {kids : Nat → List Nat} {own : Nat → Nat} (hN : N ≤ 9000) (hL9 : L ≤ 9000) : ∀ (D : Nat) (Q : AQ) (σ : AS) (t k dp : Nat), modR σ → NodeS σ N L tab cl kids own → cl t → sizeT (tab t) ≤ D → FI σ 1175 0 = (k : Int) → k + sizeT (tab t) ≤ 2001 → dp + D ≤ 100000 → (∀ σ', fX flF flA σ σ' → (∀ a j, j < k → AI σ' 13 a j = AI σ 13 a j) → FI σ' 1175 0 = ((k + sizeT (tab t) : Nat) : Int) → flM σ' k (flatT (tab t) dp) → Q none σ') → wp (D + 1) m_M_flat [vr 11 0, vi (t : Nat), vi (dp : Nat)] σ Q := by
  intro D
  induction D with
  | zero =>
    intro Q σ t k dp hm hn hc hs
    exfalso
    obtain ⟨h1, h2⟩ := (hn.2.2.2 t (hn.2.2.1 t hc)).2.2.2 hc
    rw [h1.size] at hs
    simp [sizeT, boughT] at hs
  | succ D ih =>
    intro Q σ t k dp hmr hn hc hs hk hk2 hdp kk
    obtain ⟨hm, hl, -⟩ := id hmr
    have ht := hn.2.2.1 t hc
    obtain ⟨n1, n2, n3, n4⟩ := id hn
    obtain ⟨t1, t2, t3, t4⟩ := n4 t ht
    obtain ⟨t5, t6⟩ := t4 hc
    have hsz := t5.size
    rw [sizeT_bough] at hsz
    have e1 : ∀ (a j : Nat) (v : Int) (s : AS) (a' j' : Nat), AI (sAI s 13 a j v) 13 a' j' = if a' = a ∧ j' = j then v else AI s 13 a' j' := fun a j v s a' j' => by rw [AI_sAI]; simp
    have m : ∀ {s : AS} {a j : Nat} {v : Int}, 59 ≤ a → a ≤ 62 → fX flF flA s (sAI s 13 a j v) := fun h1 h2 => fX_sAI ⟨rfl, h1, h2⟩
    -- over the kids
    have loop : ∀ (cs done : List Nat) (v : Int) (σ1 : AS), kids t = done ++ cs → chM σ L own t (AI σ 13 56 t) cs v → fX flF flA σ σ1 → (∀ a j, j < k → AI σ1 13 a j = AI σ 13 a j) → FI σ1 1175 0 = ((k + 1 + sizeT (listT (done.map tab)) : Nat) : Int) → AI σ1 13 59 k = AI σ 13 52 t → AI σ1 13 60 k = AI σ 13 53 t → AI σ1 13 61 k = (done.length : Nat) → AI σ1 13 62 k = (dp : Nat) → flM σ1 (k + 1) (flatT (listT (done.map tab)) (dp + 1)) → Ex (wp (D + 1)) m_M_flat Q 61 [some (vr 11 0), some (vi (t : Nat)), some (vi (dp : Nat)), some (vi (k : Nat)), some (vi v)] [] σ1 := by
      intro cs
      induction cs with
      | nil =>
        intro done v σ1 hd hch x1 y1 y2 z1 z2 z3 z4 z5
        have hv : v = -1 := hch
        subst hv
        rw [List.append_nil] at hd
        refine x_iload i_M_flat_61 rfl ?_
        refine x_iconst i_M_flat_63 ?_
        refine x_icmp_eq_t i_M_flat_64 rfl ?_
        rw [hd] at hsz
        refine x_vret i_M_flat_103 rfl ?_
        refine kk σ1 x1 y1 (by rw [y2]; omega) ?_
        rcases t5 with ⟨k1, n, k2, k3, k4, k5⟩ | ⟨k1, k2, k3⟩ | ⟨k1, c, a, b, k2, k3, k4, k5⟩
        · rw [hd] at k5
          subst k5
          rw [k3]
          exact ⟨by rw [z1, k1]; rfl, by rw [z2, k4], by rw [z3]; rfl, z4, trivial⟩
        · rw [k3, hd]
          exact ⟨by rw [z1, k1]; rfl, by rw [z2, k2]; rfl, by rw [z3, lenT_list, List.length_map], z4, z5⟩
        · rw [hd] at k4
          subst k4
          rw [k5]
          refine ⟨by rw [z1, k1]; rfl, by rw [z2, k3], by rw [z3]; rfl, z4, ?_⟩
          simpa [listT, flatT] using z5
      | cons c cs ihc =>
        intro done v σ1 hd hch x1 y1 y2 z1 z2 z3 z4 z5
        obtain ⟨l, rfl, l2, l3, l4, l5, l6⟩ := hch
        obtain ⟨hm, hl, -⟩ := hmr.keep x1
        have ai : ∀ a j, a < 59 → AI σ1 13 a j = AI σ 13 a j := fun a j h => x1.2.2.1 _ _ _ (fun q => by have := q.2.1; omega)
        have hcc : cl c := t3 c (by rw [hd]; simp)
        have hsc : sizeT (listT (done.map tab)) + sizeT (tab c) + sizeT (listT (cs.map tab)) = sizeT (listT ((kids t).map tab)) := by
          rw [hd, List.map_append, sizeT_app, List.map_cons, listT, sizeT]; omega
        have hklen : done.length ≤ sizeT (listT (done.map tab)) := by
          have g := len_sizeT (done.map tab) (fun u hu => by
            obtain ⟨i, hi, rfl⟩ := List.mem_map.mp hu
            have hi2 := t3 i (by rw [hd]; exact List.mem_append_left _ hi)
            have := ((n4 i (n3 i hi2)).2.2.2 hi2).1.size
            rw [sizeT_bough] at this
            omega)
          rw [List.length_map] at g
          exact g
        refine x_iload i_M_flat_61 rfl ?_
        refine x_iconst i_M_flat_63 ?_
        refine x_icmp_eq_f i_M_flat_64 (by omega) ?_
        refine x_aload_n i_M_flat_67 rfl ?_
        refine x_getR (c2 := 13) i_M_flat_68 rfl rfl (hm _ _ rfl) ?_
        refine x_iload_n i_M_flat_71 rfl ?_
        refine x_dup2 i_M_flat_72 ?_
        refine x_iaload i_M_flat_73 (k := k) rfl (lt_len hl rfl (by omega)) ?_
        rw [z3]
        refine x_iconst i_M_flat_74 ?_
        refine x_iadd i_M_flat_75 (by omega) ?_
        refine x_iastore i_M_flat_76 (k := k) rfl (lt_len hl rfl (by omega)) ?_
        refine x_aload_n i_M_flat_77 rfl ?_
        refine x_aload_n i_M_flat_78 rfl ?_
        refine x_getR (c2 := 13) i_M_flat_79 rfl rfl (hm _ _ rfl) ?_
        refine x_iload i_M_flat_82 rfl ?_
        refine x_iaload i_M_flat_84 (k := l) rfl (lt_len hl rfl (by omega)) ?_
        rw [e1, if_neg (by omega), ai _ _ (by decide), l4]
        refine x_iload_n i_M_flat_85 rfl ?_
        refine x_iconst i_M_flat_86 ?_
        refine x_iadd i_M_flat_87 (by omega) ?_
        have x2 : fX flF flA σ (sAI σ1 13 61 k ((done.length : Nat) + 1)) := x1.tr (m (by decide) (by decide))
        have ai2 : ∀ a j, ¬ (a = 61 ∧ j = k) → AI (sAI σ1 13 61 k ((done.length : Nat) + 1)) 13 a j = AI σ1 13 a j := fun a j h => by rw [e1, if_neg h]
        have ai3 : AI (sAI σ1 13 61 k ((done.length : Nat) + 1)) 13 61 k = ((done.length + 1 : Nat) : Int) := by rw [e1, if_pos ⟨rfl, rfl⟩]; omega
        have f2 : FI (sAI σ1 13 61 k ((done.length : Nat) + 1)) 1175 0 = ((k + 1 + sizeT (listT (done.map tab)) : Nat) : Int) := y2
        generalize sAI σ1 13 61 k ((done.length : Nat) + 1) = σ2 at x2 ai2 ai3 f2
        have keep : ∀ a j, 52 ≤ a → a ≤ 58 → AI σ2 13 a j = AI σ 13 a j := fun a j w1 w2 => x2.2.2.1 _ _ _ (fun q => by have := q.2.1; omega)
        have hn2 : NodeS σ2 N L tab cl kids own := hn.same keep (x2.1 _ _ (fun q => by have := q.1; omega)) (x2.1 _ _ (fun q => by have := q.1; omega))
        rw [show (dp : Int) + 1 = ((dp + 1 : Nat) : Int) by omega]
        refine x_cv2 i_M_flat_88 rfl rfl rfl ?_
        refine ih _ σ2 c (k + 1 + sizeT (listT (done.map tab))) (dp + 1) (hmr.keep x2) hn2 hcc (by omega) f2 (by omega) (by omega) (fun σ3 x3 j3 f3 w3 => ?_)
        obtain ⟨hm, hl, -⟩ := (hmr.keep x2).keep x3
        refine x_aload_n i_M_flat_91 rfl ?_
        refine x_getR (c2 := 13) i_M_flat_92 rfl rfl (hm _ _ rfl) ?_
        refine x_iload i_M_flat_95 rfl ?_
        refine x_iaload i_M_flat_97 (k := l) rfl (lt_len hl rfl (by omega)) ?_
        rw [show AI σ3 13 58 l = AI σ 13 58 l from (x2.tr x3).2.2.1 _ _ _ (fun q => by have := q.2.1; omega)]
        refine x_istore (ls' := [_, _, _, _, _]) i_M_flat_98 rfl rfl ?_
        refine x_goto i_M_flat_100 ?_
        have dm : (done ++ [c]).map tab = done.map tab ++ [tab c] := by simp
        have ds : sizeT (listT (done.map tab ++ [tab c])) = sizeT (listT (done.map tab)) + sizeT (tab c) := by rw [sizeT_app]; simp [listT, sizeT]
        refine ihc (done ++ [c]) _ σ3 (by rw [hd]; simp) l6 (x2.tr x3) (fun a j hj => ?_) (by rw [f3, dm, ds]; omega) ?_ ?_ ?_ ?_ ?_
        · rw [j3 a j (by omega), ai2 _ _ (by omega)]; exact y1 a j hj
        · rw [j3 _ _ (by omega), ai2 _ _ (by omega)]; exact z1
        · rw [j3 _ _ (by omega), ai2 _ _ (by omega)]; exact z2
        · rw [j3 _ _ (by omega), ai3]; simp
        · rw [j3 _ _ (by omega), ai2 _ _ (by omega)]; exact z4
        · rw [dm, flatT_app, flM_app, flatT_len]
          refine ⟨z5.keep _ _ (fun a j w1 w2 w3 w4 => ?_), by simpa [listT, flatT] using w3⟩
          rw [flatT_len] at w4
          rw [j3 _ _ (by omega), ai2 _ _ (by omega)]
    refine x_in (ls := [some _, some _, some _, none, none]) rfl rfl ?_
    refine x_aload_n i_M_flat_0 rfl ?_
    refine x_getI i_M_flat_1 rfl rfl ?_
    refine x_istore_n (ls' := [_, _, _, _, _]) i_M_flat_4 rfl rfl ?_
    refine x_aload_n i_M_flat_5 rfl ?_
    refine x_dup i_M_flat_6 ?_
    refine x_getI i_M_flat_7 rfl rfl ?_
    refine x_iconst i_M_flat_10 ?_
    refine x_iadd i_M_flat_11 (by omega) ?_
    refine x_putI i_M_flat_12 rfl rfl ?_
    refine x_aload_n i_M_flat_15 rfl ?_
    refine x_getR (c2 := 13) i_M_flat_16 rfl rfl (hm _ _ rfl) ?_
    refine x_iload_n i_M_flat_19 rfl ?_
    refine x_aload_n i_M_flat_20 rfl ?_
    refine x_getR (c2 := 13) i_M_flat_21 rfl rfl (hm _ _ rfl) ?_
    refine x_iload_n i_M_flat_24 rfl ?_
    rw [hk]
    generalize hσ1 : sFI σ 1175 0 ((k : Int) + 1) = σ1
    have x1 : fX flF flA σ σ1 := by rw [← hσ1]; exact fX_sFI ⟨rfl, rfl⟩
    have f1 : FI σ1 1175 0 = ((k + 1 : Nat) : Int) := by rw [← hσ1]; simp [FI_sFI]
    have a1 : ∀ a j, AI σ1 13 a j = AI σ 13 a j := by intro a j; rw [← hσ1]; rfl
    obtain ⟨hm, hl, -⟩ := hmr.keep x1
    clear hσ1
    refine x_iaload i_M_flat_25 rfl (lt_len hl rfl (by omega)) ?_
    rw [a1]
    refine x_iastore i_M_flat_26 rfl (lt_len hl rfl (by omega)) ?_
    refine x_aload_n i_M_flat_27 rfl ?_
    refine x_getR (c2 := 13) i_M_flat_28 rfl rfl (hm _ _ rfl) ?_
    refine x_iload_n i_M_flat_31 rfl ?_
    refine x_aload_n i_M_flat_32 rfl ?_
    refine x_getR (c2 := 13) i_M_flat_33 rfl rfl (hm _ _ rfl) ?_
    refine x_iload_n i_M_flat_36 rfl ?_
    refine x_iaload i_M_flat_37 rfl (lt_len hl rfl (by omega)) ?_
    rw [e1, if_neg (by omega), a1]
    refine x_iastore i_M_flat_38 rfl (lt_len hl rfl (by omega)) ?_
    refine x_aload_n i_M_flat_39 rfl ?_
    refine x_getR (c2 := 13) i_M_flat_40 rfl rfl (hm _ _ rfl) ?_
    refine x_iload_n i_M_flat_43 rfl ?_
    refine x_iload_n i_M_flat_44 rfl ?_
    refine x_iastore i_M_flat_45 rfl (lt_len hl rfl (by omega)) ?_
    refine x_aload_n i_M_flat_46 rfl ?_
    refine x_getR (c2 := 13) i_M_flat_47 rfl rfl (hm _ _ rfl) ?_
    refine x_iload_n i_M_flat_50 rfl ?_
    refine x_iconst i_M_flat_51 ?_
    refine x_iastore i_M_flat_52 rfl (lt_len hl rfl (by omega)) ?_
    refine x_aload_n i_M_flat_53 rfl ?_
    refine x_getR (c2 := 13) i_M_flat_54 rfl rfl (hm _ _ rfl) ?_
    refine x_iload_n i_M_flat_57 rfl ?_
    refine x_iaload i_M_flat_58 rfl (lt_len hl rfl (by omega)) ?_
    rw [e1, if_neg (by omega), e1, if_neg (by omega), e1, if_neg (by omega), e1, if_neg (by omega), a1]
    refine x_istore (ls' := [_, _, _, _, _]) i_M_flat_59 rfl rfl ?_
    refine loop (kids t) [] _ _ rfl t1 (x1.tr ((((m (by decide) (by decide)).tr (m (by decide) (by decide))).tr (m (by decide) (by decide))).tr (m (by decide) (by decide)))) (fun a j hj => by simp only [e1]; rw [if_neg (by omega), if_neg (by omega), if_neg (by omega), if_neg (by omega), a1]) (by show FI σ1 1175 0 = _; rw [f1]; simp [listT, sizeT]) ?_ ?_ ?_ ?_ trivial
    · simp [e1]
    · simp [e1]
    · simp [e1]
    · simp [e1]


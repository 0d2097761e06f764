/-! THE MODEL: names, alternatives -/
def meA (k a : Nat) : Prop := (k = 13 ∧ 45 ≤ a ∧ a ≤ 47) ∨ (k = 14 ∧ 1 ≤ a ∧ a ≤ 2)
theorem meX_mp {σ σ' : AS} (hx : fX fnA meA σ σ') : mpX σ σ' := hx.mono (fun _ _ q => q.elim) (fun k a q => by rcases q with q | q; exact Or.inl ⟨q.1, q.2.1, by have := q.2.2; omega⟩; exact Or.inr q)
theorem RunM.memo {e : EM} {σ σ' : AS} {st : ES} {F N L : Nat} {tab : Nat → TT} {cl : Nat → Prop} {kids : Nat → List Nat} {own : Nat → Nat} (h : RunM σ e st F N L tab cl kids own) (hx : fX fnA meA σ σ') {r p : Nat} (hr : r < 8) (hp : p ≤ 240) (hk : ∀ k a j, j ≠ r * 241 + p → AI σ' k a j = AI σ k a j) {v : Option Ans} (hv : memM σ' e tab cl (r * 241 + p) p (some v)) : RunM σ' e (memS st (r * 241 + p) v) F N L tab cl kids own := by
  obtain ⟨⟨b1, b2, b3, b4⟩, a2, a3, a4, a5⟩ := h
  have fi : ∀ f, FI σ' f 0 = FI σ f 0 := fun f => hx.1 _ _ (fun q => q)
  have ai : ∀ a j, 48 ≤ a → AI σ' 13 a j = AI σ 13 a j := fun a j h => hx.2.2.1 _ _ _ (fun q => by rcases q with q | q <;> omega)
  refine ⟨⟨b1.run (meX_mp hx), b2.same (fun f _ _ _ => fi f), b3.same (fun a h _ => ai _ _ h), by rw [viewM_same (fun a h _ => ai _ _ h)]; exact b4⟩, by rw [fi]; exact a2, by rw [fi]; exact a3, a4.same (fun a j _ _ => ai _ _ (by omega)) (fi _) (fi _), fun r' p' hr' hp' => ?_⟩
  by_cases w : r' * 241 + p' = r * 241 + p
  · have e1 : p' = p := by omega
    rw [w, e1]
    rw [show (memS st (r * 241 + p) v).2.2 (r * 241 + p) = some v from if_pos rfl]
    exact hv
  · rw [show (memS st (r * 241 + p) v).2.2 (r' * 241 + p') = st.2.2 (r' * 241 + p') from if_neg w]
    have := a5 r' p' hr' hp'
    revert this
    generalize st.2.2 (r' * 241 + p') = u
    intro this
    match u, this with
    | none, t => exact ⟨by rw [hk _ _ _ w]; exact t.1, by rw [hk _ _ _ w]; exact t.2⟩
    | some none, t => exact ⟨by rw [hk _ _ _ w]; exact t.1, by rw [hk _ _ _ w]; exact t.2⟩
    | some (some q), t =>
      refine ⟨by rw [hk _ _ _ w]; exact t.1, ?_⟩
      rw [hk 13 45 _ w, hk 13 46 _ w, hk 13 47 _ w]
      exact t.2
def ruledM (e : EM) (k : Nat) (r p : Nat) (st : ES) : RR :=
  let q := altE e.2.1 e.1.2 e.2.2 k 9 (e.2.2 r) p (memS st (r * 241 + p) none)
  if q.1 < -5 then q else (q.1, q.2.1, q.2.2.1, memS q.2.2.2 (r * 241 + p) (some (q.1, q.2.1, q.2.2.1)))
section
variable {d : Nat} {Q : AQ} {e : EM} {σ : AS} {st : ES} {F N L : Nat} {tab : Nat → TT} {cl : Nat → Prop} {kids : Nat → List Nat} {own : Nat → Nat}
theorem c_M_named {k dep : Nat} (ha : AltM e d k dep 9) (h : RunM σ e st F N L tab cl kids own) {r p : Nat} (hr : r < 8) (hd : dnM σ r) (hp : p ≤ e.1.2) (hF : F ≤ dep) (hde : FI σ 1145 0 = (dep : Int)) (hat : AI σ 13 48 F ≤ (p : Int)) (hN : N ≤ 4 * st.1.1 + dep) (hL : L ≤ 3 * st.1.1) (hnew : st.2.2 (r * 241 + p) = none) (kk : PostM e Q 2 2 σ st.1.1 F N L tab cl kids p (ruledM e k r p st)) : wp (d + 1) m_M_named [vr 11 0, vi (r : Nat), vi (p : Nat)] σ Q := by
  obtain ⟨⟨⟨⟨hm, hl, lb1, lb2, lb3⟩, law, -, -, -, hz, -, -⟩, -⟩, a2, a3, a4, a5⟩ := id h
  have hk : r * 241 + p < 1928 := by omega
  have m0 := a5 r p hr (by omega)
  rw [hnew] at m0
  obtain ⟨m1, m2⟩ := m0
  obtain ⟨al, l1, l2⟩ := law r hr hd
  have ai : ∀ (s : AS) (k a j : Nat) (v : Int) (k' a' j' : Nat), AI (sAI s k a j v) k' a' j' = if k' = k ∧ a' = a ∧ j' = j then v else AI s k' a' j' := fun s k a j v k' a' j' => AI_sAI s k a j v k' a' j'
  refine x_in (ls := [some _, some _, some _, none, none]) rfl rfl ?_
  refine x_sipush i_M_named_0 ?_
  refine x_iload_n i_M_named_3 rfl ?_
  refine x_imul i_M_named_4 (by omega) ?_
  refine x_iload_n i_M_named_5 rfl ?_
  refine x_iadd i_M_named_6 (by omega) ?_
  rw [show (241 : Int) * (r : Nat) + (p : Nat) = ((r * 241 + p : Nat) : Int) by omega]
  refine x_istore_n (ls' := [_, _, _, _, _]) i_M_named_7 rfl rfl ?_
  refine x_aload_n i_M_named_8 rfl ?_
  refine x_getR (c2 := 13) i_M_named_9 rfl rfl (hm _ _ rfl) ?_
  refine x_iload_n i_M_named_12 rfl ?_
  refine x_iaload i_M_named_13 rfl (lt_len hl rfl hk) ?_
  rw [m1]
  refine x_if_eq_t i_M_named_14 rfl ?_
  refine x_aload_n i_M_named_73 rfl ?_
  refine x_getR (c2 := 14) i_M_named_74 rfl rfl (hm _ _ rfl) ?_
  refine x_iload_n i_M_named_77 rfl ?_
  refine x_baload i_M_named_78 rfl (by rw [lb3]; exact hk) ?_
  rw [m2]
  refine x_if_eq_t i_M_named_79 rfl ?_
  refine x_aload_n i_M_named_90 rfl ?_
  refine x_getR (c2 := 14) i_M_named_91 rfl rfl (hm _ _ rfl) ?_
  refine x_iload_n i_M_named_94 rfl ?_
  refine x_iconst i_M_named_95 ?_
  refine x_bastore i_M_named_96 rfl (by rw [lb3]; exact hk) (Or.inr rfl) ?_
  generalize hσ : sAI σ 14 2 (r * 241 + p) 1 = σ1
  have x1 : fX fnA meA σ σ1 := by rw [← hσ]; exact fX_sAI (Or.inr ⟨rfl, by decide, by decide⟩)
  have h1 : RunM σ1 e (memS st (r * 241 + p) none) F N L tab cl kids own := h.memo x1 hr (by omega) (fun k a j hj => by rw [← hσ, ai, if_neg (fun w => hj w.2.2)]) ⟨by rw [← hσ, ai, if_neg (by omega)]; exact m1, by rw [← hσ, ai, if_pos ⟨rfl, rfl, rfl⟩]⟩
  have y1 := meX_mp x1
  have hm1 : mFld σ1 := by intro f n w; rw [x1.2.1]; exact hm f n w
  have hl1 : mLns σ1 := by intro f n w; rw [x1.2.2.2.2.1]; exact hl f n w
  have q1 : ∀ a j, 48 ≤ a → AI σ1 13 a j = AI σ 13 a j := fun a j h => x1.2.2.1 _ _ _ (fun q => by rcases q with q | q <;> omega)
  have q2 : FI σ1 1145 0 = FI σ 1145 0 := x1.1 _ _ (fun q => q)
  refine x_aload_n i_M_named_97 rfl ?_
  refine x_aload_n i_M_named_98 rfl ?_
  refine x_getR (c2 := 13) i_M_named_99 rfl rfl (hm1 _ _ rfl) ?_
  refine x_iload_n i_M_named_102 rfl ?_
  refine x_iaload i_M_named_103 rfl (lt_len hl1 rfl hr) ?_
  rw [y1.lo (by decide), l1]
  refine x_iload_n i_M_named_104 rfl ?_
  refine x_cv2 i_M_named_105 rfl rfl rfl ?_
  refine ha (e.2.2 r) al _ σ1 _ F N L tab cl kids own p h1 (l2.run y1) hp hF (by rw [q2]; exact hde) (by rw [q1 _ _ (by decide)]; exact hat) hN hL ?_
  intro σ2 N2 L2 tab2 cl2 kids2 own2 ho
  unfold ruledM at kk
  generalize altE e.2.1 e.1.2 e.2.2 k 9 (e.2.2 r) p (memS st (r * 241 + p) none) = q at ho kk
  have ho := ho.from (s0 := st.1.1) (L := L) (p := p) y1 (fun a j w _ _ => q1 a j w) (q1 _ _ (by decide)) q2 (Nat.le_refl _) (Nat.le_refl _) (fun _ _ => ⟨rfl, id, id, rfl, q1 _ _ (by decide), q1 _ _ (by decide)⟩) (Nat.le_refl _) (Nat.le_refl _) (Nat.le_refl _)
  obtain ⟨o1, o2, o3, o4, o5, o6, o7, o8, o9, o10⟩ := id ho
  have hm2 : mFld σ2 := o2.1.1.1
  have hl2 : mLns σ2 := o2.1.1.2.1
  obtain ⟨lc1, lc2, lc3⟩ := o2.1.1.2.2
  simp only [] at kk
  refine x_istore (ls' := [_, _, _, _, _]) i_M_named_108 rfl rfl ?_
  refine x_aload_n i_M_named_110 rfl ?_
  refine x_getI i_M_named_111 rfl rfl ?_
  by_cases he : q.1 < -5
  · rw [if_pos he] at kk
    rw [o7 he]
    have := kk σ2 N2 L2 tab2 cl2 kids2 own2 ho
    rw [retM_0 (by omega)] at this
    refine x_if_eq_f i_M_named_114 (by omega) ?_
    refine x_iconst i_M_named_117 ?_
    refine x_zret i_M_named_118 rfl (by omega) ?_
    exact this
  · rw [if_neg he] at kk
    obtain ⟨u1, u2, u3, u4, u5, u6⟩ := o8 (by omega)
    rw [u1.2.1]
    refine x_if_eq_t i_M_named_114 rfl ?_
    clear o7 o8
    refine x_aload_n i_M_named_119 rfl ?_
    refine x_getR (c2 := 14) i_M_named_120 rfl rfl (hm2 _ _ rfl) ?_
    refine x_iload_n i_M_named_123 rfl ?_
    refine x_iconst i_M_named_124 ?_
    refine x_bastore i_M_named_125 rfl (by rw [lc3]; exact hk) (Or.inl rfl) ?_
    have goal : ∀ z : Int, z = (if 0 ≤ q.1 then 1 else 2) → ∀ σ3, σ3 = sAI (sAI (sAI (sAI (sAI σ2 14 2 (r * 241 + p) 0) 13 45 (r * 241 + p) z) 13 46 (r * 241 + p) (FI σ2 1147 0)) 13 47 (r * 241 + p) (FI σ2 1148 0)) 14 1 (r * 241 + p) (FI σ2 1152 0) → Q (some (vi (retM q))) σ3 := by
      intro z hz1 σ3 h3
      have x3 : fX fnA meA σ2 σ3 := by
        rw [h3]
        exact ((((fX_sAI (Or.inr ⟨rfl, by decide, by decide⟩)).tr (fX_sAI (Or.inl ⟨rfl, by decide, by decide⟩))).tr (fX_sAI (Or.inl ⟨rfl, by decide, by decide⟩))).tr (fX_sAI (Or.inl ⟨rfl, by decide, by decide⟩))).tr (fX_sAI (Or.inr ⟨rfl, by decide, by decide⟩))
      have fi : ∀ f, FI σ3 f 0 = FI σ2 f 0 := fun f => x3.1 _ _ (fun q => q)
      have q3 : ∀ a j, 48 ≤ a → AI σ3 13 a j = AI σ2 13 a j := fun a j h => x3.2.2.1 _ _ _ (fun q => by rcases q with q | q <;> omega)
      have v1 : AI σ3 14 1 (r * 241 + p) = bI q.2.2.1 := by rw [h3, ai, if_pos ⟨rfl, rfl, rfl⟩]; exact u6
      have v2 : AI σ3 13 45 (r * 241 + p) = z := by rw [h3]; simp [ai]
      have v3 : AI σ3 13 46 (r * 241 + p) = FI σ2 1147 0 := by rw [h3]; simp [ai]
      have v4 : AI σ3 13 47 (r * 241 + p) = FI σ2 1148 0 := by rw [h3]; simp [ai]
      have h4 : RunM σ3 e (memS q.2.2.2 (r * 241 + p) (some (q.1, q.2.1, q.2.2.1))) F N2 L2 tab2 cl2 kids2 own2 := by
        refine u1.memo x3 hr (by omega) (fun k a j hj => by rw [h3, ai, if_neg (fun w => hj w.2.2), ai, if_neg (fun w => hj w.2.2), ai, if_neg (fun w => hj w.2.2), ai, if_neg (fun w => hj w.2.2), ai, if_neg (fun w => hj w.2.2)]) ⟨v1, ?_⟩
        rcases o10 with w | w | w
        · omega
        · exact Or.inl ⟨w, by rw [v2, hz1, if_neg (by omega)]⟩
        · obtain ⟨t1, t2, t3, o, t4, t5, t6⟩ := o9 w
          exact Or.inr ⟨t1, t2, by rw [v2, hz1, if_pos w], by rw [v3]; exact t3, o, by rw [v4]; exact t4, t5, t6⟩
      refine kk σ3 N2 L2 tab2 cl2 kids2 own2 ⟨o1.tr (meX_mp x3), h4.1, fun a j w1 w2 w3 => by rw [q3 a j w1]; exact o3 a j w1 w2 w3, by rw [q3 _ _ (by decide)]; exact o4, by rw [fi]; exact o5, o6, fun w => absurd w he, fun _ => ⟨h4, u2, fun i hi => by rw [q3 52 i (by decide), q3 53 i (by decide)]; exact u3 i hi, u4, u5, by rw [fi]; exact u6⟩, fun w => ?_, o10⟩
      obtain ⟨t1, t2, t3, o, t4, t5, t6⟩ := o9 w
      exact ⟨t1, t2, by rw [fi]; exact t3, o, by rw [fi]; exact t4, t5, t6⟩
    have fin : ∀ z : Int, z = (if 0 ≤ q.1 then 1 else 2) → Ex (wp d) m_M_named Q 141 [some (vr 11 0), some (vi (r : Nat)), some (vi (p : Nat)), some (vi ((r * 241 + p : Nat) : Int)), some (vi (retM q))] [vi z, vi ((r * 241 + p : Nat) : Int), vr 13 45] (sAI σ2 14 2 (r * 241 + p) 0) := by
      intro z hz1
      have hm := hm2
      have hl := hl2
      refine x_iastore i_M_named_141 rfl (lt_len hl rfl hk) ?_
      refine x_aload_n i_M_named_142 rfl ?_
      refine x_getR (c2 := 13) i_M_named_143 rfl rfl (hm _ _ rfl) ?_
      refine x_iload_n i_M_named_146 rfl ?_
      refine x_aload_n i_M_named_147 rfl ?_
      refine x_getI i_M_named_148 rfl rfl ?_
      refine x_iastore i_M_named_151 rfl (lt_len hl rfl hk) ?_
      refine x_aload_n i_M_named_152 rfl ?_
      refine x_getR (c2 := 13) i_M_named_153 rfl rfl (hm _ _ rfl) ?_
      refine x_iload_n i_M_named_156 rfl ?_
      refine x_aload_n i_M_named_157 rfl ?_
      refine x_getI i_M_named_158 rfl rfl ?_
      refine x_iastore i_M_named_161 rfl (lt_len hl rfl hk) ?_
      refine x_aload_n i_M_named_162 rfl ?_
      refine x_getR (c2 := 14) i_M_named_163 rfl rfl (hm _ _ rfl) ?_
      refine x_iload_n i_M_named_166 rfl ?_
      refine x_aload_n i_M_named_167 rfl ?_
      refine x_getI i_M_named_168 rfl rfl ?_
      refine x_bastore i_M_named_171 rfl (by show _ < LN σ2 14 1; rw [lc2]; exact hk) (by show FI σ2 1152 0 = 0 ∨ FI σ2 1152 0 = 1; rw [u6]; exact bI_01 _) ?_
      refine x_iload i_M_named_172 rfl ?_
      refine x_zret i_M_named_174 rfl (by unfold retM; split <;> omega) ?_
      exact goal z hz1 _ rfl
    have hm := hm2
    refine x_aload_n i_M_named_126 rfl ?_
    refine x_getR (c2 := 13) i_M_named_127 rfl rfl (hm _ _ rfl) ?_
    refine x_iload_n i_M_named_130 rfl ?_
    refine x_iload i_M_named_131 rfl ?_
    by_cases h0 : 0 ≤ q.1
    · rw [if_pos h0] at fin
      rw [retM_1 h0] at fin ⊢
      refine x_if_eq_f i_M_named_133 (by decide) ?_
      refine x_iconst i_M_named_136 ?_
      refine x_goto i_M_named_137 ?_
      exact fin 1 rfl
    · rw [if_neg h0] at fin
      rw [retM_0 (by omega)] at fin ⊢
      refine x_if_eq_t i_M_named_133 rfl ?_
      refine x_iconst i_M_named_140 ?_
      exact fin 2 rfl
end


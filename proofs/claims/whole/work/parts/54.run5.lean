/-! A RUN OF THE CLASS: sequence -/
def ItC (e : RE) (d dep n : Nat) (g : Item (PT n) → Nat → ES → RR) : Prop := ∀ (it : Item (PT n)) (a : Nat) (Q : AQ) (σ : AS) (st : ES) (N K : Nat) (tab : Nat → TT) (H : List Nat) (p : Nat), RS σ e st N K tab H → itR σ e.1.2.1 n it a → p ≤ eZ e → PostR e Q 0 3 σ st.1.1 N K tab H (g it p st) → wp d m_Run_item [vr 7 0, vr 4 a, vi (p : Nat), vi (dep : Nat)] σ Q
theorem joinE_many {p : Nat} {held : List TT} {q : Option TT} {c : Bool} {st : ES} (h : 2 ≤ held.length) : joinE p held q c st = if 2000 < sizeT (boughT held) then (-19, none, false, st) else ((p : Int), some (boughT held), c, st) := by
  match held, h with
  | a :: b :: l, _ => rfl
theorem take_app {α : Type} (H T : List α) : (H ++ T).take H.length = H := by simp
theorem drop_app {α : Type} (H T : List α) : (H ++ T).drop H.length = T := by simp
theorem map_ext_lt {N : Nat} {tab tab' : Nat → TT} {T : List Nat} (hT : ∀ i ∈ T, i < N) (h : ∀ j, j < N → tab' j = tab j) : T.map tab' = T.map tab := List.map_congr_left (fun i hi => h i (hT i hi))
theorem oN_map {N : Nat} {tab tab' : Nat → TT} {o : Option Nat} (hT : oN N o) (h : ∀ j, j < N → tab' j = tab j) : o.map tab' = o.map tab := by
  cases o with
  | none => rfl
  | some i => simp only [Option.map_some]; rw [h i (hT i rfl)]
theorem oN.up {N N' : Nat} {o : Option Nat} (h : oN N o) (hN : N ≤ N') : oN N' o := fun i hi => Nat.lt_of_lt_of_le (h i hi) hN
theorem bI_t {b : Bool} (h : bI b ≠ 0) : b = true := by
  cases b with
  | true => rfl
  | false => exact absurd rfl h
theorem bI_f {b : Bool} (h : bI b = 0) : b = false := by
  cases b with
  | true => exact absurd h (by decide)
  | false => rfl
theorem oI_neg {o : Option Nat} : oI o = -1 ↔ o = none := by
  cases o with
  | none => exact ⟨fun _ => rfl, fun _ => rfl⟩
  | some i => exact ⟨fun h => by simp only [oI] at h; omega, fun h => by cases h⟩
theorem oI_ge (o : Option Nat) : -1 ≤ oI o := by cases o <;> simp only [oI] <;> omega
theorem TrS.lt {σ : AS} {N K : Nat} {tab : Nat → TT} {H : List Nat} (h : TrS σ N K tab H) : ∀ i ∈ H, i < N := by
  obtain ⟨so, nu, fk, sz, va, ki, he, -, -, -, -, -, -, -, -, -, z2, -⟩ := h
  intro i hi
  obtain ⟨k, hk⟩ := List.mem_iff_getElem?.mp hi
  exact (z2 k i hk).2
section
variable {d : Nat} {Q : AQ} {σ : AS} {e : RE} {st : ES} {N K : Nat} {tab : Nat → TT} {H : List Nat}
theorem c_P_just {n : Nat} {b : Nat} {it : Item (PT n)} {a : Nat} (hi : itR σ b n it a) (kk : Q (some (vi (bI (justI it)))) σ) : wp (d + 1) m_Part_justQuoted [vr 4 a] σ Q := by
  obtain ⟨i1, i2, -⟩ := hi
  have fin : ∀ b : Bool, justI it = b → Q (some (vi (bI b))) σ := fun b hb => by rw [hb] at kk; exact kk
  refine x_in (ls := [some _]) rfl rfl ?_
  refine x_aload_n i_Part_justQuoted_0 rfl ?_
  refine x_getI i_Part_justQuoted_1 rfl rfl ?_
  rw [i1]
  refine x_if_ne i_Part_justQuoted_4 (fun h1 => ?_) (fun h1 => ?_)
  · refine x_iconst i_Part_justQuoted_18 ?_
    refine x_zret i_Part_justQuoted_19 rfl (by omega) ?_
    exact fin false (decide_eq_false (by omega))
  · refine x_aload_n i_Part_justQuoted_7 rfl ?_
    refine x_getI i_Part_justQuoted_8 rfl rfl ?_
    rw [i2]
    refine x_if_ne i_Part_justQuoted_11 (fun h2 => ?_) (fun h2 => ?_)
    · refine x_iconst i_Part_justQuoted_18 ?_
      refine x_zret i_Part_justQuoted_19 rfl (by omega) ?_
      exact fin false (decide_eq_false (by omega))
    · refine x_iconst i_Part_justQuoted_14 ?_
      refine x_goto i_Part_justQuoted_15 ?_
      refine x_zret i_Part_justQuoted_19 rfl (by omega) ?_
      exact fin true (decide_eq_true (by omega))
theorem c_R_seq {dep n : Nat} {g : Item (PT n) → Nat → ES → RR} (hg : ItC e (d + 4) dep n g) {s : List (Item (PT n))} {a : Nat} {p : Nat} (hp : p ≤ eZ e) (h : RS σ e st N K tab H) (hs : sqR σ e.1.2.1 n s a) (kk : PostR e Q (-5) 2 σ st.1.1 N K tab H (seqE g justI s p false [] none st)) : wp (d + 5) m_Run_sequence [vr 7 0, vr 8 a, vi (p : Nat), vi (dep : Nat)] σ Q := by
  have loop : ∀ (s : List (Item (PT n))) (o : Option Nat) (σ1 : AS) (st1 : ES) (N1 K1 : Nat) (tab1 : Nat → TT) (T : List Nat) (oq : Option Nat) (cut : Bool) (p1 m : Nat), RS σ1 e st1 N1 K1 tab1 (H ++ T) → runX σ σ1 → itsR σ1 e.1.2.1 n s o → p1 ≤ eZ e → N ≤ N1 → (∀ j, j < N → tab1 j = tab j) → st.1.1 ≤ st1.1.1 → N1 + 2 * m + 2 * st.1.1 ≤ N + 2 * st1.1.1 → K1 + 3 * m + 3 * st.1.1 ≤ K + 3 * st1.1.1 → T.length ≤ m → (s = [] → 1 ≤ m) → oN N1 oq → PostR e Q (-5) 2 σ st.1.1 N K tab H (seqE g justI s p1 cut (T.map tab1) (oq.map tab1) st1) → Ex (wp (d + 4)) m_Run_sequence Q 24 [some (vr 7 0), some (vr 8 a), some (vi (p : Nat)), some (vi (dep : Nat)), some (vi (H.length : Nat)), some (vi (p1 : Nat)), some (vi (oI oq)), some (vi (bI cut)), some (vo 4 o)] [] σ1 := by
    intro s
    induction s with
    | nil =>
      intro o σ1 st1 N1 K1 tab1 T oq cut p1 m h1 x1 hs hp1 hN ht hst b1 b2 b3 b4 hoq kk
      have ho : o = none := hs
      subst ho
      have b4 := b4 rfl
      have hcut := bI_01 cut
      simp only [seqE] at kk
      refine x_aload i_Run_sequence_24 rfl ?_
      refine x_ifnull_t i_Run_sequence_26 rfl ?_
      refine x_aload_n i_Run_sequence_139 rfl ?_
      refine x_iload i_Run_sequence_140 rfl ?_
      refine x_putZ i_Run_sequence_142 rfl rfl (by omega) ?_
      have y : tX (fun f a => (f = 706 ∨ f = 712) ∧ a = 0) noA σ1 (sFI σ1 712 0 (bI cut)) := tX_sFI ⟨Or.inr rfl, rfl⟩
      have h2 := h1.set y
      have f1 : FI (sFI σ1 712 0 (bI cut)) 712 0 = bI cut := by simp [FI_sFI]
      generalize sFI σ1 712 0 (bI cut) = σ2 at y h2 f1
      have x2 : runX σ σ2 := x1.tr (y.mono (fun f a q => Or.inl ⟨by rcases q.1 with w | w <;> omega, by rcases q.1 with w | w <;> omega, q.2⟩) (fun _ q => q.elim))
      obtain ⟨⟨⟨v1, v2, v3, v4⟩, -⟩, tr2, -, ⟨c1, c2, c3, c4, c5, c6⟩, -⟩ := id h2
      obtain ⟨-, -, -, ⟨d1, d2, d3, d4, d5, d6⟩, -⟩ := id h
      rw [List.length_append] at c6
      have lT : (H ++ T).length = H.length + T.length := List.length_append
      -- the end, whatever the tree
      have fin : ∀ (v : Int) (σ3 : AS) (N3 K3 : Nat) (tab3 : Nat → TT) (H3 : List Nat), trX σ2 σ3 → TrS σ3 N3 K3 tab3 H3 → N1 ≤ N3 → (∀ j, j < N1 → tab3 j = tab1 j) → bndR st1 N3 K3 H3 → (∀ σ4, RS σ4 e st1 N3 K3 tab3 H3 → runX σ σ4 → FI σ4 712 0 = bI cut → FI σ4 706 0 = v → Q (some (vi (if v = -2 then -19 else (p1 : Int)))) σ4) → Ex (wp (d + 4)) m_Run_sequence Q 157 [some (vr 7 0), some (vr 8 a), some (vi (p : Nat)), some (vi (dep : Nat)), some (vi (H.length : Nat)), some (vi (p1 : Nat)), some (vi (oI oq)), some (vi (bI cut)), some (vo 4 none)] [vi v, vr 7 0] σ3 := by
        intro v σ3 N3 K3 tab3 H3 y3 t3 n3 j3 b3 k3
        have h3 := h2.tr y3 t3 n3 j3 b3
        have y4 : tX (fun f a => (f = 706 ∨ f = 712) ∧ a = 0) noA σ3 (sFI σ3 706 0 v) := tX_sFI ⟨Or.inl rfl, rfl⟩
        have k4 := k3 _ (h3.set y4) ((x2.tr y3.run).tr (y4.mono (fun f a q => Or.inl ⟨by rcases q.1 with w | w <;> omega, by rcases q.1 with w | w <;> omega, q.2⟩) (fun _ q => q.elim))) (by rw [FI_sFI, if_neg (by omega), y3.1 _ _ (fun q => by have := q.1; omega)]; exact f1) (by simp [FI_sFI])
        refine x_putI i_Run_sequence_157 rfl rfl ?_
        refine x_aload_n i_Run_sequence_160 rfl ?_
        refine x_getI i_Run_sequence_161 rfl rfl ?_
        refine x_bipush i_Run_sequence_164 ?_
        rw [show FI (sFI σ3 706 0 v) 706 0 = v by simp [FI_sFI]]
        refine x_icmp_ne i_Run_sequence_166 (fun h9 => ?_) (fun h9 => ?_)
        · refine x_iload i_Run_sequence_174 rfl ?_
          rw [if_neg (by omega)] at k4
          refine x_iret i_Run_sequence_176 rfl ?_
          exact k4
        · refine x_bipush i_Run_sequence_169 ?_
          refine x_goto i_Run_sequence_171 ?_
          rw [if_pos (by omega)] at k4
          refine x_iret i_Run_sequence_176 rfl ?_
          exact k4
      refine x_aload_n i_Run_sequence_145 rfl ?_
      refine x_aload_n i_Run_sequence_146 rfl ?_
      refine x_getR (c2 := 9) i_Run_sequence_147 rfl rfl (by assumption) ?_
      refine x_iload i_Run_sequence_150 rfl ?_
      refine x_iload i_Run_sequence_152 rfl ?_
      refine x_cv2 i_Run_sequence_154 rfl rfl rfl ?_
      refine c_T_joined tr2 (mk := H.length) (q := oI oq) (by omega) (by omega) (by omega) (fun a1 σ3 a2 a3 => ?_) (fun i a1 a2 σ3 a3 a4 => ?_) (fun a1 a2 => ?_) (fun a1 a2 σ3 tab3 a3 a4 a5 a6 => ?_)
      · have eT : T = [] := List.eq_nil_of_length_eq_zero (by omega)
        subst eT
        rw [take_app] at a2
        refine fin _ σ3 N1 K1 tab1 H a3 a2 (Nat.le_refl _) (fun _ _ => rfl) ⟨c1, c2, c3, c4, c5, by omega⟩ (fun σ4 z1 z2 z3 z4 => ?_)
        rw [if_neg (by have := oI_ge oq; omega)]
        exact kk σ4 N1 K1 tab1 H ⟨z1, z2, hN, ht, ⟨[], by simp⟩, hst, fun _ => ⟨by show N1 + 2 + 2 * st.1.1 ≤ N + 2 * st1.1.1; omega, by show K1 + 2 + 3 * st.1.1 ≤ K + 3 * st1.1.1; omega, z3, fun _ => rfl⟩, fun _ => ⟨by show (p1 : Int) ≤ _; omega, oq, z4, hoq, rfl⟩, Or.inr (Or.inr (by show 0 ≤ (p1 : Int); omega))⟩
      · rw [drop_app] at a1
        subst a1
        rw [take_app] at a3
        refine fin _ σ3 N1 K1 tab1 H a4 a3 (Nat.le_refl _) (fun _ _ => rfl) ⟨c1, c2, c3, c4, c5, by omega⟩ (fun σ4 z1 z2 z3 z4 => ?_)
        rw [if_neg (by omega)]
        exact kk σ4 N1 K1 tab1 H ⟨z1, z2, hN, ht, ⟨[], by simp⟩, hst, fun _ => ⟨by show N1 + 2 + 2 * st.1.1 ≤ N + 2 * st1.1.1; omega, by show K1 + 2 + 3 * st.1.1 ≤ K + 3 * st1.1.1; omega, z3, fun _ => rfl⟩, fun _ => ⟨by show (p1 : Int) ≤ _; omega, some i, z4, fun j hj => by cases hj; exact a2, rfl⟩, Or.inr (Or.inr (by show 0 ≤ (p1 : Int); omega))⟩
      · rw [drop_app] at a2
        rw [joinE_many (by rw [List.length_map]; omega), if_pos a2] at kk
        refine fin _ σ2 N1 K1 tab1 (H ++ T) (tX.rf _ _ _) tr2 (Nat.le_refl _) (fun _ _ => rfl) ⟨c1, c2, c3, c4, c5, by omega⟩ (fun σ4 z1 z2 z3 z4 => ?_)
        exact kk σ4 N1 K1 tab1 (H ++ T) (OutR.err z1 z2 hN ht ⟨T, rfl⟩ hst (by show (-19 : Int) < -9; decide))
      · rw [drop_app] at a2 a4
        rw [take_app] at a3
        rw [joinE_many (by rw [List.length_map]; omega), if_neg (by omega)] at kk
        refine fin _ σ3 _ _ tab3 H a6 a3 (by omega) a5 ⟨c1, c2, c3, by omega, by omega, by omega⟩ (fun σ4 z1 z2 z3 z4 => ?_)
        rw [if_neg (by omega)]
        exact kk σ4 _ _ tab3 H ⟨z1, z2, by omega, fun j hj => by rw [a5 j (by omega), ht j hj], ⟨[], by simp⟩, hst, fun _ => ⟨by show N1 + 1 + 2 + 2 * st.1.1 ≤ N + 2 * st1.1.1; omega, by show K1 + ((H ++ T).length - H.length) + 2 + 3 * st.1.1 ≤ K + 3 * st1.1.1; omega, z3, fun _ => rfl⟩, fun _ => ⟨by show (p1 : Int) ≤ _; omega, some N1, z4, fun j hj => by cases hj; omega, by simp [a4]⟩, Or.inr (Or.inr (by show 0 ≤ (p1 : Int); omega))⟩
    | cons it s ih =>
      intro o σ1 st1 N1 K1 tab1 T oq cut p1 m h1 x1 hs hp1 hN ht hst b1 b2 b3 b4 hoq kk
      obtain ⟨i, rfl, s2, s3⟩ := hs
      have hcut := bI_01 cut
      have lT : (H ++ T).length = H.length + T.length := List.length_append
      simp only [seqE] at kk
      have mid : ∀ (σ2 : AS) (p2 : Int), (∀ v : Int, v = 0 ∨ v = 1 → (∀ b, FI σ2 712 0 = bI b → v = bI (cut || b)) → Ex (wp (d + 4)) m_Run_sequence Q 59 [some (vr 7 0), some (vr 8 a), some (vi (p : Nat)), some (vi (dep : Nat)), some (vi (H.length : Nat)), some (vi p2), some (vi (oI oq)), some (vi v), some (vr 4 i)] [] σ2) → Ex (wp (d + 4)) m_Run_sequence Q 40 [some (vr 7 0), some (vr 8 a), some (vi (p : Nat)), some (vi (dep : Nat)), some (vi (H.length : Nat)), some (vi p2), some (vi (oI oq)), some (vi (bI cut)), some (vr 4 i)] [] σ2 := by
        intro σ2 p2 k2
        refine x_iload i_Run_sequence_40 rfl ?_
        refine x_if_ne i_Run_sequence_42 (fun h1 => ?_) (fun h1 => ?_)
        · refine x_iconst i_Run_sequence_52 ?_
          refine x_goto i_Run_sequence_53 ?_
          refine x_istore (ls' := [_, _, _, _, _, _, _, _, _]) i_Run_sequence_57 rfl rfl ?_
          exact k2 1 (Or.inr rfl) (fun b _ => by rw [bI_t h1]; rfl)
        · have hc : cut = false := bI_f h1
          subst hc
          refine x_aload_n i_Run_sequence_45 rfl ?_
          refine x_getI i_Run_sequence_46 rfl rfl ?_
          refine x_if_eq i_Run_sequence_49 (fun h2 => ?_) (fun h2 => ?_)
          · refine x_iconst i_Run_sequence_56 ?_
            refine x_istore (ls' := [_, _, _, _, _, _, _, _, _]) i_Run_sequence_57 rfl rfl ?_
            exact k2 0 (Or.inl rfl) (fun b hb => by rw [bI_f (hb.symm.trans h2)]; rfl)
          · refine x_iconst i_Run_sequence_52 ?_
            refine x_goto i_Run_sequence_53 ?_
            refine x_istore (ls' := [_, _, _, _, _, _, _, _, _]) i_Run_sequence_57 rfl rfl ?_
            exact k2 1 (Or.inr rfl) (fun b hb => by rw [bI_t (fun w => h2 (hb.trans w))]; rfl)
      refine x_aload i_Run_sequence_24 rfl ?_
      refine x_ifnull_f i_Run_sequence_26 (by intro q; cases q) ?_
      refine x_aload_n i_Run_sequence_29 rfl ?_
      refine x_aload i_Run_sequence_30 rfl ?_
      refine x_iload i_Run_sequence_32 rfl ?_
      refine x_iload_n i_Run_sequence_34 rfl ?_
      refine x_cv3 i_Run_sequence_35 rfl rfl rfl ?_
      refine hg it i _ σ1 st1 N1 K1 tab1 (H ++ T) p1 h1 s2 hp1 ?_
      intro σ2 N2 K2 tab2 H2 ho
      generalize g it p1 st1 = r at ho kk
      obtain ⟨u1, u2, u3, u4, ⟨E, u5⟩, u6, u7, u8, u9⟩ := ho
      refine x_istore (ls' := [_, _, _, _, _, _, _, _, _]) i_Run_sequence_38 rfl rfl ?_
      refine mid σ2 _ (fun v hv hvb => ?_)
      obtain ⟨⟨⟨v1, v2, v3, v4⟩, -⟩, tr2, -, ⟨c1, c2, c3, c4, c5, c6⟩, -⟩ := id u1
      refine x_iload i_Run_sequence_59 rfl ?_
      refine x_if_ge i_Run_sequence_61 (fun h5 => ?_) (fun h5 => ?_)
      · have r0 : ¬ r.1 < 0 := by omega
        rw [if_neg r0] at kk
        obtain ⟨t1, t2, t3, t4⟩ := u7 (by omega)
        have t5 := t4 h5
        obtain ⟨y1, o2, y2, y3, y4⟩ := u8 h5
        have v0 := hvb _ t3
        have e1 : ((r.1.toNat : Nat) : Int) = r.1 := by omega
        have hTl : ∀ i ∈ T, i < N1 := fun i hi => h1.2.1.lt i (List.mem_append_right _ hi)
        refine x_aload i_Run_sequence_82 rfl ?_
        refine x_cv0 i_Run_sequence_84 rfl rfl rfl ?_
        refine c_P_just (itR.run s2 u2) ?_
        -- what follows, at the end of a round
        have next : ∀ (σ3 : AS) (T3 : List Nat) (oq3 : Option Nat), RS σ3 e r.2.2.2 N2 K2 tab2 (H ++ T3) → runX σ1 σ3 → T3.length ≤ m + 1 → oN N2 oq3 → PostR e Q (-5) 2 σ st.1.1 N K tab H (seqE g justI s r.1.toNat (cut || r.2.2.1) (T3.map tab2) (oq3.map tab2) r.2.2.2) → Ex (wp (d + 4)) m_Run_sequence Q 129 [some (vr 7 0), some (vr 8 a), some (vi (p : Nat)), some (vi (dep : Nat)), some (vi (H.length : Nat)), some (vi r.1), some (vi (oI oq3)), some (vi v), some (vr 4 i)] [] σ3 := by
          intro σ3 T3 oq3 z1 z2 z3 z4 z5
          have := ih (FR σ3 406 i) σ3 _ N2 K2 tab2 T3 oq3 (cut || r.2.2.1) r.1.toNat (m + 1) z1 (x1.tr z2) (by rw [z2.2.1]; exact itsR.run s3 z2) (by omega) (by omega) (fun j hj => by rw [u4 j (by omega), ht j hj]) (by omega) (by omega) (by omega) z3 (fun _ => by omega) z4 z5
          refine x_aload i_Run_sequence_129 rfl ?_
          refine x_getO (c2 := 4) i_Run_sequence_131 rfl rfl ?_
          refine x_astore (ls' := [_, _, _, _, _, _, _, _, _]) i_Run_sequence_134 rfl rfl ?_
          refine x_goto i_Run_sequence_136 ?_
          rw [e1, ← v0] at this
          exact this
        cases hj : justI it with
        | true =>
          rw [if_pos hj] at kk
          refine x_if_eq_f i_Run_sequence_87 (by decide) ?_
          refine x_iload i_Run_sequence_90 rfl ?_
          refine x_iconst i_Run_sequence_92 ?_
          refine x_icmp_ne i_Run_sequence_93 (fun h7 => ?_) (fun h7 => ?_)
          · have : oq ≠ none := fun q => h7 (oI_neg.mpr q)
            refine x_iload i_Run_sequence_103 rfl ?_
            refine x_istore (ls' := [_, _, _, _, _, _, _, _, _]) i_Run_sequence_105 rfl rfl ?_
            refine x_goto i_Run_sequence_107 ?_
            refine next σ2 T oq (by rw [← t5]; exact u1) u2 (by omega) (hoq.up u3) ?_
            rw [map_ext_lt hTl u4, oN_map hoq u4]
            cases oq with
            | none => exact absurd rfl this
            | some q => exact kk
          · have : oq = none := oI_neg.mp h7
            subst this
            refine x_aload_n i_Run_sequence_96 rfl ?_
            refine x_getI i_Run_sequence_97 rfl rfl ?_
            refine x_goto i_Run_sequence_100 ?_
            refine x_istore (ls' := [_, _, _, _, _, _, _, _, _]) i_Run_sequence_105 rfl rfl ?_
            refine x_goto i_Run_sequence_107 ?_
            rw [y2]
            refine next σ2 T o2 (by rw [← t5]; exact u1) u2 (by omega) y3 ?_
            rw [map_ext_lt hTl u4, y4]
            exact kk
        | false =>
          rw [if_neg (by rw [hj]; decide)] at kk
          refine x_if_eq_t i_Run_sequence_87 rfl ?_
          refine x_aload_n i_Run_sequence_110 rfl ?_
          refine x_getI i_Run_sequence_111 rfl rfl ?_
          refine x_iconst i_Run_sequence_114 ?_
          rw [y2]
          refine x_icmp_eq i_Run_sequence_115 (fun h7 => ?_) (fun h7 => ?_)
          · have : o2 = none := oI_neg.mp h7
            subst this
            refine next σ2 T oq (by rw [← t5]; exact u1) u2 (by omega) (hoq.up u3) ?_
            rw [map_ext_lt hTl u4, oN_map hoq u4]
            rw [← y4] at kk
            simpa using kk
          · cases o2 with
            | none => exact absurd rfl h7
            | some i2 =>
              have hi2 := y3 i2 rfl
              refine x_aload_n i_Run_sequence_118 rfl ?_
              refine x_getR (c2 := 9) i_Run_sequence_119 rfl rfl (by assumption) ?_
              refine x_aload_n i_Run_sequence_122 rfl ?_
              refine x_getI i_Run_sequence_123 rfl rfl ?_
              rw [y2]
              rw [t5] at tr2 c6
              rw [lT] at c6
              refine x_cv1 i_Run_sequence_126 rfl rfl rfl ?_
              refine c_T_hold tr2 hi2 (by omega) (fun σ3 a1 a2 => ?_)
              rw [List.append_assoc] at a1
              refine next σ3 (T ++ [i2]) oq (RS.tr (show RS σ2 e r.2.2.2 N2 K2 tab2 (H ++ T) by rw [← t5]; exact u1) a2 a1 (Nat.le_refl _) (fun _ _ => rfl) ⟨c1, c2, c3, c4, c5, ?_⟩) (u2.tr a2.run) (by simp; omega) (hoq.up u3) ?_
              · simp only [List.length_append, List.length_singleton]
                have := h1.2.2.2.1.2.2.2.2.2
                rw [lT] at this
                omega
              · rw [List.map_append, map_ext_lt hTl u4, oN_map hoq u4]
                rw [← y4] at kk
                exact kk
      · rw [if_pos h5] at kk
        have hH2 : H.length ≤ H2.length := by rw [u5]; simp
        have hH3 : H2.take H.length = H := by rw [u5]; simp [List.append_assoc]
        refine x_aload_n i_Run_sequence_64 rfl ?_
        refine x_getR (c2 := 9) i_Run_sequence_65 rfl rfl (by assumption) ?_
        refine x_iload i_Run_sequence_68 rfl ?_
        refine x_cv1 i_Run_sequence_70 rfl rfl rfl ?_
        refine c_T_drop tr2 hH2 (fun σ3 a1 a2 => ?_)
        rw [hH3] at a1
        have g1 : RS σ3 e r.2.2.2 N2 K2 tab2 H := u1.tr a2 a1 (Nat.le_refl _) (fun _ _ => rfl) ⟨c1, c2, c3, c4, c5, by omega⟩
        refine x_aload_n i_Run_sequence_73 rfl ?_
        refine x_iload i_Run_sequence_74 rfl ?_
        refine x_putZ i_Run_sequence_76 rfl rfl (by omega) ?_
        refine x_iload i_Run_sequence_79 rfl ?_
        have y : tX (fun f a => (f = 706 ∨ f = 712) ∧ a = 0) noA σ3 (sFI σ3 712 0 v) := tX_sFI ⟨Or.inr rfl, rfl⟩
        have x4 : runX σ (sFI σ3 712 0 v) := ((x1.tr u2).tr a2.run).tr (y.mono (fun f a q => Or.inl ⟨by rcases q.1 with w | w <;> omega, by rcases q.1 with w | w <;> omega, q.2⟩) (fun _ q => q.elim))
        refine x_iret i_Run_sequence_81 rfl ?_
        refine kk _ N2 K2 tab2 H ⟨g1.set y, x4, by omega, fun j hj => by rw [u4 j (by omega), ht j hj], ⟨[], by simp⟩, by show st.1.1 ≤ r.2.2.2.1.1; omega, fun w => ?_, fun w => absurd w (by show ¬ 0 ≤ r.1; omega), by show r.1 < -9 ∨ r.1 = -5 ∨ 0 ≤ r.1; omega⟩
        have w : -5 ≤ r.1 := w
        obtain ⟨t1, t2, t3, t4⟩ := u7 w
        exact ⟨by show N2 + 2 + 2 * st.1.1 ≤ N + 2 * r.2.2.2.1.1; omega, by show K2 + 2 + 3 * st.1.1 ≤ K + 3 * r.2.2.2.1.1; omega, by rw [FI_sFI, if_pos ⟨rfl, rfl⟩]; exact hvb _ t3, fun _ => rfl⟩
  refine x_in (ls := [some _, some _, some _, some _, none, none, none, none, none]) rfl rfl ?_
  obtain ⟨⟨⟨v1, v2, v3, v4⟩, -⟩, tr, -⟩ := id h
  refine x_aload_n i_Run_sequence_0 rfl ?_
  refine x_getR (c2 := 9) i_Run_sequence_1 rfl rfl (by assumption) ?_
  refine x_cv0 i_Run_sequence_4 rfl rfl rfl ?_
  refine c_T_mark tr ?_
  refine x_istore (ls' := [_, _, _, _, _, _, _, _, _]) i_Run_sequence_7 rfl rfl ?_
  refine x_iload_n i_Run_sequence_9 rfl ?_
  refine x_istore (ls' := [_, _, _, _, _, _, _, _, _]) i_Run_sequence_10 rfl rfl ?_
  refine x_iconst i_Run_sequence_12 ?_
  refine x_istore (ls' := [_, _, _, _, _, _, _, _, _]) i_Run_sequence_13 rfl rfl ?_
  refine x_iconst i_Run_sequence_15 ?_
  refine x_istore (ls' := [_, _, _, _, _, _, _, _, _]) i_Run_sequence_16 rfl rfl ?_
  refine x_aload_n i_Run_sequence_18 rfl ?_
  refine x_getO (c2 := 4) i_Run_sequence_19 rfl rfl ?_
  refine x_astore (ls' := [_, _, _, _, _, _, _, _, _]) i_Run_sequence_22 rfl rfl ?_
  exact loop s _ σ st N K tab [] none false p 0 (by simpa using h) (tX.rf _ _ _) hs.2 hp (Nat.le_refl _) (fun _ _ => rfl) (Nat.le_refl _) (by omega) (by omega) (by simp) (fun q => absurd q hs.1) (fun i hi => by cases hi) kk
end


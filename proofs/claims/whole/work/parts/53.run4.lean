/-! A RUN OF THE CLASS: ruled, alternatives, sequence -/
theorem runX.lo {σ σ' : AS} (hx : runX σ σ') {f a : Nat} (hf : f < 600) : FI σ' f a = FI σ f a := hx.1 f a (fun q => by rcases q with q | q <;> have := q.1 <;> omega)
abbrev itR (σ : AS) (b n : Nat) (it : Item (PT n)) (a : Nat) : Prop := itemR σ (dnR σ b) (altR σ (dnR σ b) n) it a
abbrev itsR (σ : AS) (b n : Nat) (s : List (Item (PT n))) (o : Option Nat) : Prop := chnR (FR σ 406) (itR σ b n) s o
abbrev sqR (σ : AS) (b n : Nat) (s : List (Item (PT n))) (a : Nat) : Prop := s ≠ [] ∧ itsR σ b n s (FR σ 800 a)
abbrev sqsR (σ : AS) (b n : Nat) (ss : List (List (Item (PT n)))) (o : Option Nat) : Prop := chnR (FR σ 801) (sqR σ b n) ss o
theorem dnR.run {σ σ' : AS} (hx : runX σ σ') (b : Nat) : dnR σ' b = dnR σ b := by unfold dnR; rw [hx.2.2.2.1]
theorem altR.run {σ σ' : AS} {b n : Nat} {alt : PT n} {o : Option Nat} (h : altR σ (dnR σ b) n alt o) (hx : runX σ σ') : altR σ' (dnR σ' b) n alt o := h.tx hx (fun f a hf q => by rcases q with q | q <;> have := q.1 <;> omega)
theorem itR.run {σ σ' : AS} {b n : Nat} {it : Item (PT n)} {a : Nat} (h : itR σ b n it a) (hx : runX σ σ') : itR σ' b n it a := by
  obtain ⟨c1, c2, c3, c4, c5, c6, c7, c8⟩ := h
  refine ⟨by rw [hx.lo (by decide)]; exact c1, by rw [hx.lo (by decide)]; exact c2, c3, c4, fun h => ?_, fun h => by rw [hx.lo (by decide), dnR.run hx]; exact c6 h, fun h => by rw [hx.2.1]; exact (c7 h).run hx, fun h => by rw [hx.2.1]; exact (c8 h).run hx⟩
  obtain ⟨t, d1, d2, d3, d4, d5⟩ := c5 h
  exact ⟨t, by rw [hx.2.1]; exact d1, by rw [hx.lo (by decide)]; exact d2, by rw [hx.lo (by decide)]; exact d3, by rw [hx.lo (by decide)]; exact d4, d5⟩
theorem itsR.run {σ σ' : AS} {b n : Nat} {s : List (Item (PT n))} {o : Option Nat} (h : itsR σ b n s o) (hx : runX σ σ') : itsR σ' b n s o := chnR.mono (by rw [hx.2.1]) (fun _ _ h => itR.run h hx) _ _ h
theorem sqR.run {σ σ' : AS} {b n : Nat} {s : List (Item (PT n))} {a : Nat} (h : sqR σ b n s a) (hx : runX σ σ') : sqR σ' b n s a := ⟨h.1, by rw [hx.2.1]; exact itsR.run h.2 hx⟩
theorem sqsR.run {σ σ' : AS} {b n : Nat} {ss : List (List (Item (PT n)))} {o : Option Nat} (h : sqsR σ b n ss o) (hx : runX σ σ') : sqsR σ' b n ss o := chnR.mono (by rw [hx.2.1]) (fun _ _ h => sqR.run h hx) _ _ h
theorem OutR.lim {e : RE} {lim : Int} {c c' : Nat} {σ σ' : AS} {s0 N K N' K' : Nat} {tab tab' : Nat → TT} {H H' : List Nat} {r : RR} (h : OutR e (-5) c σ s0 N K tab H r σ' N' K' tab' H') (hc : c' ≤ c) (hl : -5 ≤ lim) : OutR e lim c' σ s0 N K tab H r σ' N' K' tab' H' := by
  obtain ⟨a1, a2, a3, a4, a5, a6, a7, a8⟩ := h
  exact ⟨a1, a2, a3, a4, a5, a6, fun hr => by
    obtain ⟨c1, c2, c3, c4⟩ := a7 hr
    exact ⟨c1, by omega, c3, fun _ => c4 hr⟩, a8⟩
theorem RS.rows {e : RE} {st : ES} {N K : Nat} {tab : Nat → TT} {H : List Nat} {σ σ' : AS} (h : RS σ e st N K tab H) (hx : tX (fun f a => f = 601 ∧ 3 ≤ a ∧ a ≤ 5) (fun a => 3 ≤ a ∧ a ≤ 5) σ σ') {mem' : Nat → Option (Option Ans)} {ma mt ms : Nat → Int} (m1 : rowF σ' 3 3 1928 1928 ma) (m2 : rowF σ' 4 4 1928 1928 mt) (m3 : rowF σ' 5 5 1928 1928 ms) (m4 : ∀ k, k < 1928 → memR e N tab ma mt ms k (mem' k)) : RS σ' e (st.1, st.2.1, mem') N K tab H := by
  obtain ⟨a1, a2, ⟨c1, c2, c3, c4, c5⟩, a4, a5, -⟩ := h
  have k0 : ∀ f, f ≠ 601 → FI σ' f 0 = FI σ f 0 := fun f p => hx.1 f 0 (fun w => p w.1)
  exact ⟨a1.keep hx (fun f a hf q => by have := q.1; omega) (fun r hr q => by have := q.2.1; omega) (fun r hr q => by have := q.1; omega), a2.keep hx (fun r hr _ q => by have := q.2.2; omega) (fun r hr _ q => by have := q.2; omega), ⟨by rw [k0 _ (by decide)]; exact c1, by rw [k0 _ (by decide)]; exact c2, by rw [k0 _ (by decide)]; exact c3, by rw [k0 _ (by decide)]; exact c4, by rw [k0 _ (by decide)]; exact c5⟩, a4, a5, ma, mt, ms, m1, m2, m3, m4⟩
/-- the contract of alternatives, k more around -/
def AltC (e : RE) (d k dep n : Nat) : Prop := ∀ (alt : PT n) (o : Option Nat) (Q : AQ) (σ : AS) (st : ES) (N K : Nat) (tab : Nat → TT) (H : List Nat) (p : Nat), RS σ e st N K tab H → altR σ (dnR σ e.1.2.1) n alt o → p ≤ eZ e → PostR e Q (-5) 2 σ st.1.1 N K tab H (altE e.2.1 (eZ e) e.2.2 k n alt p st) → wp d m_Run_alternatives [vr 7 0, vo 8 o, vi (p : Nat), vi (dep : Nat)] σ Q
def ruledE (e : RE) (k : Nat) (r p : Nat) (st : ES) : RR :=
  let q := altE e.2.1 (eZ e) e.2.2 k 9 (e.2.2 r) p (memS st (r * 241 + p) none)
  if q.1 < -5 then q else (q.1, q.2.1, q.2.2.1, memS q.2.2.2 (r * 241 + p) (some (q.1, q.2.1, q.2.2.1)))
section
variable {d : Nat} {Q : AQ} {σ : AS} {e : RE} {st : ES} {N K : Nat} {tab : Nat → TT} {H : List Nat}
theorem c_G_body {g b r : Nat} (hb : FR σ 100 g = some b) (hl : LN σ 16 b = 8) (hr : r < 8) (kk : Q (some (vo 8 (AR σ 16 b r))) σ) : wp (d + 1) m_Grammar_body [vr 1 g, vi (r : Nat)] σ Q := by
  refine x_in (ls := [some _, some _]) rfl rfl ?_
  refine x_iload_n i_Grammar_body_0 rfl ?_
  refine x_if_lt_f i_Grammar_body_1 (by omega) ?_
  refine x_iload_n i_Grammar_body_4 rfl ?_
  refine x_bipush i_Grammar_body_5 ?_
  refine x_icmp_ge_f i_Grammar_body_7 (by omega) ?_
  refine x_iload_n i_Grammar_body_10 rfl ?_
  refine x_aload_n i_Grammar_body_11 rfl ?_
  refine x_getR (c2 := 16) i_Grammar_body_12 rfl rfl (by assumption) ?_
  refine x_alen i_Grammar_body_15 (by omega) ?_
  rw [hl]
  refine x_icmp_ge_f i_Grammar_body_16 (by omega) ?_
  refine x_aload_n i_Grammar_body_19 rfl ?_
  refine x_getR (c2 := 16) i_Grammar_body_20 rfl rfl (by assumption) ?_
  refine x_iload_n i_Grammar_body_23 rfl ?_
  refine x_aaload i_Grammar_body_24 (by omega) rfl (by omega) ?_
  refine x_goto i_Grammar_body_25 ?_
  refine x_aret (c := 8) i_Grammar_body_29 rfl ?_
  exact kk
theorem c_R_ruled {k dep : Nat} (ha : AltC e (d + 2) k dep 9) (h : RS σ e st N K tab H) {r p : Nat} (hr : r < 8) (hd : dnR σ e.1.2.1 r) (hp : p ≤ eZ e) (kk : PostR e Q (-5) 2 σ st.1.1 N K tab H (ruledE e k r p st)) : wp (d + 3) m_Run_ruled [vr 7 0, vi (r : Nat), vi (p : Nat), vi (dep : Nat)] σ Q := by
  obtain ⟨⟨⟨v1, v2, v3, v4⟩, w1, w2, -, ⟨w3, w4⟩, -, -, z1, -⟩, -, ⟨c1, c2, c3, c4, c5⟩, -, -, ma, mt, ms, m1, m2, m3, m4⟩ := id h
  have hk : r * 241 + p < 1928 := by omega
  refine x_in (ls := [some _, some _, some _, some _, none, none]) rfl rfl ?_
  refine x_iload_n i_Run_ruled_0 rfl ?_
  refine x_sipush i_Run_ruled_1 ?_
  refine x_imul i_Run_ruled_4 (by omega) ?_
  refine x_iload_n i_Run_ruled_5 rfl ?_
  refine x_iadd i_Run_ruled_6 (by omega) ?_
  refine x_istore (ls' := [_, _, _, _, _, _]) i_Run_ruled_7 rfl rfl ?_
  refine x_aload_n i_Run_ruled_9 rfl ?_
  refine x_getR (c2 := 6) i_Run_ruled_10 rfl rfl (by assumption) ?_
  refine x_iload i_Run_ruled_13 rfl ?_
  refine x_bipush i_Run_ruled_15 ?_
  rw [show ((r : Nat) : Int) * 241 + (p : Int) = ((r * 241 + p : Nat) : Int) by omega]
  refine x_cv2 i_Run_ruled_17 rfl rfl rfl ?_
  refine c_put m1 rfl hk (fun σ1 g1 x1 x2 => ?_)
  have y1 : tX (fun f a => f = 601 ∧ 3 ≤ a ∧ a ≤ 5) (fun a => 3 ≤ a ∧ a ≤ 5) σ σ1 := x1.tx ⟨rfl, by omega, by omega⟩ ⟨by omega, by omega⟩
  have r1 : runX σ σ1 := y1.mono (fun f a q => Or.inr ⟨q.1, q.2.1, by omega⟩) (fun a q => ⟨q.1, by omega⟩)
  have h1 : RS σ1 e (memS st (r * 241 + p) none) N K tab H := h.rows y1 g1 (m2.keep x1 (by omega) (by omega)) (m3.keep x1 (by omega) (by omega)) (fun j hj => by
    by_cases q : j = r * 241 + p
    · rw [if_pos q, q]; exact up_eq _ _ _
    · rw [if_neg q]
      have := m4 j hj
      revert this
      generalize st.2.2 j = v
      intro this
      match v, this with
      | none, t => exact (up_ne q).trans t
      | some none, t => exact (up_ne q).trans t
      | some (some u), t => exact ⟨(up_ne q).trans t.1, t.2⟩)
  have w1 : FR σ1 704 0 = some e.1.1 := by rw [r1.2.1]; exact w1
  have w2 : FR σ1 100 e.1.1 = some e.1.2.1 := by rw [r1.2.1]; exact w2
  have w3 : LN σ1 16 e.1.2.1 = 8 := by rw [r1.2.2.2.2.1]; exact w3
  have w5 : AR σ1 16 e.1.2.1 = AR σ 16 e.1.2.1 := by rw [r1.2.2.2.1]
  refine x_aload_n i_Run_ruled_20 rfl ?_
  refine x_aload_n i_Run_ruled_21 rfl ?_
  refine x_getR (c2 := 1) i_Run_ruled_22 rfl rfl (by assumption) ?_
  refine x_iload_n i_Run_ruled_25 rfl ?_
  refine x_cv1 i_Run_ruled_26 rfl rfl rfl ?_
  refine c_G_body w2 w3 hr ?_
  rw [w5]
  refine x_iload_n i_Run_ruled_29 rfl ?_
  refine x_iload_n i_Run_ruled_30 rfl ?_
  refine x_cv3 i_Run_ruled_31 rfl rfl rfl ?_
  refine ha (e.2.2 r) _ _ σ1 _ N K tab H p h1 ((w4 r hr hd).run r1) hp ?_
  intro σ2 N2 K2 tab2 H2 ho
  refine x_istore (ls' := [_, _, _, _, _, _]) i_Run_ruled_34 rfl rfl ?_
  refine x_iload i_Run_ruled_36 rfl ?_
  refine x_bipush i_Run_ruled_38 ?_
  unfold ruledE at kk
  generalize hq : altE e.2.1 (eZ e) e.2.2 k 9 (e.2.2 r) p (memS st (r * 241 + p) none) = q at ho kk
  simp only [] at kk
  have ho2 := ho.from r1 (Nat.le_refl _) (fun _ _ => rfl) (Nat.le_refl _) (Nat.le_refl _) (Nat.le_refl _)
  refine x_icmp_lt i_Run_ruled_40 (fun h5 => ?_) (fun h5 => ?_)
  · rw [if_pos h5] at kk
    refine x_iload i_Run_ruled_88 rfl ?_
    refine x_iret i_Run_ruled_90 rfl ?_
    exact kk σ2 N2 K2 tab2 H2 ho2
  · rw [if_neg (by omega)] at kk
    obtain ⟨u1, u2, u3, u4, u5, u6, u7, u8, u9⟩ := ho2
    obtain ⟨t1, t2, t3, t4⟩ := u7 h5
    obtain ⟨⟨⟨v1, v2, v3, v4⟩, -⟩, -, -, -, -, ma', mt', ms', n1, n2, n3, n4⟩ := id u1
    refine x_aload_n i_Run_ruled_43 rfl ?_
    refine x_getR (c2 := 6) i_Run_ruled_44 rfl rfl (by assumption) ?_
    refine x_iload i_Run_ruled_47 rfl ?_
    refine x_iload i_Run_ruled_49 rfl ?_
    refine x_cv2 i_Run_ruled_51 rfl rfl rfl ?_
    refine c_put n1 rfl hk (fun σ3 g3 x3 x3b => ?_)
    rw [← x3.2.1] at v1 v2 v3
    have f6 : FI σ3 706 0 = FI σ2 706 0 := x3.1 _ _ (by omega)
    have f7 : FI σ3 712 0 = FI σ2 712 0 := x3.1 _ _ (by omega)
    refine x_aload_n i_Run_ruled_54 rfl ?_
    refine x_getR (c2 := 6) i_Run_ruled_55 rfl rfl (by assumption) ?_
    refine x_iload i_Run_ruled_58 rfl ?_
    refine x_aload_n i_Run_ruled_60 rfl ?_
    refine x_getI i_Run_ruled_61 rfl rfl ?_
    refine x_cv2 i_Run_ruled_64 rfl rfl rfl ?_
    refine c_put (n2.keep x3 (by omega) (by omega)) rfl hk (fun σ4 g4 x4 x4b => ?_)
    rw [← x4.2.1] at v3
    have f8 : FI σ4 706 0 = FI σ2 706 0 := (x4.1 _ _ (by omega)).trans f6
    have f9 : FI σ4 712 0 = FI σ2 712 0 := (x4.1 _ _ (by omega)).trans f7
    have fin : Ex (wp (d + 2)) m_Run_ruled Q 85 [some (vr 7 0), some (vi (r : Nat)), some (vi (p : Nat)), some (vi (dep : Nat)), some (vi ((r * 241 + p : Nat) : Int)), some (vi q.1)] [vi (bI q.2.2.1), vi ((r * 241 + p : Nat) : Int), vr 6 5] σ4 := by
      refine x_cv2 i_Run_ruled_85 rfl rfl rfl ?_
      refine c_put ((n3.keep x3 (by omega) (by omega)).keep x4 (by omega) (by omega)) rfl hk (fun σ5 g5 x5 x5b => ?_)
      have t : ∀ {r : Nat} {a b : AS}, rowX r r a b → 3 ≤ r → r ≤ 5 → tX (fun f a => f = 601 ∧ 3 ≤ a ∧ a ≤ 5) (fun a => 3 ≤ a ∧ a ≤ 5) a b := fun h a b => h.tx ⟨rfl, a, b⟩ ⟨a, b⟩
      have y : tX (fun f a => f = 601 ∧ 3 ≤ a ∧ a ≤ 5) (fun a => 3 ≤ a ∧ a ≤ 5) σ2 σ5 := ((t x3 (by omega) (by omega)).tr (t x4 (by omega) (by omega))).tr (t x5 (by omega) (by omega))
      have f10 : FI σ5 706 0 = FI σ2 706 0 := (x5.1 _ _ (by omega)).trans f8
      have f11 : FI σ5 712 0 = FI σ2 712 0 := (x5.1 _ _ (by omega)).trans f9
      refine x_iload i_Run_ruled_88 rfl ?_
      refine x_iret i_Run_ruled_90 rfl ?_
      refine kk σ5 N2 K2 tab2 H2 ⟨u1.rows y ((g3.keep x4 (by omega) (by omega)).keep x5 (by omega) (by omega)) (g4.keep x5 (by omega) (by omega)) g5 (fun j hj => ?_), u2.tr (y.mono (fun f a q => Or.inr ⟨q.1, q.2.1, by omega⟩) (fun a q => ⟨q.1, by omega⟩)), u3, u4, u5, u6, fun _ => ⟨t1, t2, by rw [f11]; exact t3, t4⟩, fun hh => ?_, u9⟩
      · by_cases w : j = r * 241 + p
        · rw [if_pos w, w]
          refine ⟨up_eq _ _ _, up_eq _ _ _, ?_⟩
          rcases u9 with w | w | w
          · omega
          · exact Or.inl w
          · obtain ⟨s1, o, s2, s3, s4⟩ := u8 w
            exact Or.inr ⟨w, s1, o, by rw [up_eq, ← s2, ← f6], s3, s4⟩
        · rw [if_neg w]
          have := n4 j hj
          revert this
          generalize q.2.2.2.2.2 j = v
          intro this
          match v, this with
          | none, t => exact (up_ne w).trans t
          | some none, t => exact (up_ne w).trans t
          | some (some u), t => exact ⟨(up_ne w).trans t.1, (up_ne w).trans t.2.1, t.2.2.elim Or.inl (fun ⟨a, b, o, c, cc⟩ => Or.inr ⟨a, b, o, (up_ne w).trans c, cc⟩)⟩
      · obtain ⟨s1, o, s2, s3, s4⟩ := u8 hh
        exact ⟨s1, o, by rw [f10]; exact s2, s3, s4⟩
    refine x_aload_n i_Run_ruled_67 rfl ?_
    refine x_getR (c2 := 6) i_Run_ruled_68 rfl rfl (by assumption) ?_
    refine x_iload i_Run_ruled_71 rfl ?_
    refine x_aload_n i_Run_ruled_73 rfl ?_
    refine x_getI i_Run_ruled_74 rfl rfl ?_
    rw [f9, t3]
    cases hb : q.2.2.1 with
    | false =>
      rw [hb] at fin
      refine x_if_eq_t i_Run_ruled_77 rfl ?_
      refine x_iconst i_Run_ruled_84 ?_
      exact fin
    | true =>
      rw [hb] at fin
      refine x_if_eq_f i_Run_ruled_77 (by decide) ?_
      refine x_iconst i_Run_ruled_80 ?_
      refine x_goto i_Run_ruled_81 ?_
      exact fin
/-- the contract of sequence -/
def SqC (e : RE) (d dep n : Nat) (f : List (Item (PT n)) → Nat → ES → RR) : Prop := ∀ (s : List (Item (PT n))) (a : Nat) (Q : AQ) (σ : AS) (st : ES) (N K : Nat) (tab : Nat → TT) (H : List Nat) (p : Nat), RS σ e st N K tab H → sqR σ e.1.2.1 n s a → p ≤ eZ e → PostR e Q (-5) 2 σ st.1.1 N K tab H (f s p st) → wp d m_Run_sequence [vr 7 0, vr 8 a, vi (p : Nat), vi (dep : Nat)] σ Q
theorem c_R_alts {dep n : Nat} {f : List (Item (PT n)) → Nat → ES → RR} (hf : SqC e d dep n f) {ss : List (List (Item (PT n)))} {o0 : Option Nat} (hss : ss ≠ []) {p : Nat} (hp : p ≤ eZ e) (h : RS σ e st N K tab H) (hs : sqsR σ e.1.2.1 n ss o0) (kk : PostR e Q (-5) 2 σ st.1.1 N K tab H (altsE f ss p st)) : wp (d + 1) m_Run_alternatives [vr 7 0, vo 8 o0, vi (p : Nat), vi (dep : Nat)] σ Q := by
  have loop : ∀ (ss : List (List (Item (PT n)))) (o : Option Nat) (σ1 : AS) (st1 : ES) (N1 K1 : Nat) (tab1 : Nat → TT), RS σ1 e st1 N1 K1 tab1 H → runX σ σ1 → sqsR σ1 e.1.2.1 n ss o → N ≤ N1 → (∀ j, j < N → tab1 j = tab j) → st.1.1 ≤ st1.1.1 → N1 + 2 * st.1.1 ≤ N + 2 * st1.1.1 → K1 + 3 * st.1.1 ≤ K + 3 * st1.1.1 → (ss = [] → N1 + 2 + 2 * st.1.1 ≤ N + 2 * st1.1.1 ∧ K1 + 2 + 3 * st.1.1 ≤ K + 3 * st1.1.1) → PostR e Q (-5) 2 σ st.1.1 N K tab H (altsE f ss p st1) → Ex (wp d) m_Run_alternatives Q 3 [some (vr 7 0), some (vo 8 o0), some (vi (p : Nat)), some (vi (dep : Nat)), some (vo 8 o), none] [] σ1 := by
    intro ss
    induction ss with
    | nil =>
      intro o σ1 st1 N1 K1 tab1 h1 x1 hs hN ht hst b1 b2 b3 kk
      have ho : o = none := hs
      subst ho
      obtain ⟨b4, b5⟩ := b3 rfl
      refine x_aload i_Run_alternatives_3 rfl ?_
      refine x_ifnull_t i_Run_alternatives_5 rfl ?_
      refine x_aload_n i_Run_alternatives_45 rfl ?_
      refine x_iconst i_Run_alternatives_46 ?_
      refine x_putI i_Run_alternatives_47 rfl rfl ?_
      refine x_aload_n i_Run_alternatives_50 rfl ?_
      refine x_iconst i_Run_alternatives_51 ?_
      refine x_putZ i_Run_alternatives_52 rfl rfl (by omega) ?_
      refine x_bipush i_Run_alternatives_55 ?_
      have y : tX (fun f a => (f = 706 ∨ f = 712) ∧ a = 0) noA σ1 (sFI (sFI σ1 706 0 (-1)) 712 0 0) := (tX_sFI ⟨Or.inl rfl, rfl⟩).tr (tX_sFI ⟨Or.inr rfl, rfl⟩)
      refine x_iret i_Run_alternatives_57 rfl ?_
      exact kk _ N1 K1 tab1 H ⟨h1.set y, x1.tr (y.mono (fun f a q => Or.inl ⟨by rcases q.1 with w | w <;> omega, by rcases q.1 with w | w <;> omega, q.2⟩) (fun _ q => q.elim)), hN, ht, ⟨[], by simp⟩, hst, fun _ => ⟨b4, b5, rfl, fun _ => rfl⟩, fun w => absurd w n50, Or.inr (Or.inl rfl)⟩
    | cons s ss ih =>
      intro o σ1 st1 N1 K1 tab1 h1 x1 hs hN ht hst b1 b2 b3 kk
      obtain ⟨a, rfl, s2, s3⟩ := hs
      refine x_aload i_Run_alternatives_3 rfl ?_
      refine x_ifnull_f i_Run_alternatives_5 (by intro q; cases q) ?_
      refine x_aload_n i_Run_alternatives_8 rfl ?_
      refine x_aload i_Run_alternatives_9 rfl ?_
      refine x_iload_n i_Run_alternatives_11 rfl ?_
      refine x_iload_n i_Run_alternatives_12 rfl ?_
      refine x_cv3 i_Run_alternatives_13 rfl rfl rfl ?_
      refine hf s a _ σ1 st1 N1 K1 tab1 H p h1 s2 hp ?_
      intro σ2 N2 K2 tab2 H2 ho
      refine x_istore (ls' := [_, _, _, _, _, _]) i_Run_alternatives_16 rfl rfl ?_
      refine x_iload i_Run_alternatives_18 rfl ?_
      refine x_bipush i_Run_alternatives_20 ?_
      simp only [altsE] at kk
      generalize f s p st1 = r at ho kk
      have ho2 := ho.from x1 hN ht hst b1 b2
      refine x_icmp_ne i_Run_alternatives_22 (fun h5 => ?_) (fun h5 => ?_)
      · rw [if_neg (fun q => h5 q.1)] at kk
        refine x_iload i_Run_alternatives_32 rfl ?_
        refine x_iret i_Run_alternatives_34 rfl ?_
        exact kk σ2 N2 K2 tab2 H2 ho2
      · obtain ⟨u1, u2, u3, u4, u5, u6, u7, u8, u9⟩ := ho2
        obtain ⟨t1, t2, t3, t4⟩ := u7 (by omega)
        refine x_aload_n i_Run_alternatives_25 rfl ?_
        refine x_getI i_Run_alternatives_26 rfl rfl ?_
        rw [t3]
        cases hb : r.2.2.1 with
        | true =>
          rw [if_neg (fun q => by rw [hb] at q; cases q.2)] at kk
          refine x_if_eq_f i_Run_alternatives_29 (by decide) ?_
          refine x_iload i_Run_alternatives_32 rfl ?_
          refine x_iret i_Run_alternatives_34 rfl ?_
          exact kk σ2 N2 K2 tab2 H2 ⟨u1, u2, u3, u4, u5, u6, u7, u8, u9⟩
        | false =>
          rw [if_pos ⟨h5, hb⟩] at kk
          have t5 := t4 (by omega)
          subst t5
          refine x_if_eq_t i_Run_alternatives_29 rfl ?_
          refine x_aload i_Run_alternatives_35 rfl ?_
          refine x_getO (c2 := 8) i_Run_alternatives_37 rfl rfl ?_
          refine x_astore (ls' := [_, _, _, _, _, _]) i_Run_alternatives_40 rfl rfl ?_
          refine x_goto i_Run_alternatives_42 ?_
          refine Ex.weak (ls := [_, _, _, _, _, none]) ⟨Or.inr rfl, Or.inr rfl, Or.inr rfl, Or.inr rfl, Or.inr rfl, Or.inl rfl, trivial⟩ ?_
          rw [ho.2.1.2.1]
          exact ih _ σ2 _ N2 K2 tab2 u1 u2 (sqsR.run s3 ho.2.1) u3 u4 u6 (by omega) (by omega) (fun _ => ⟨t1, t2⟩) kk
  refine x_in (ls := [some _, some _, some _, some _, none, none]) rfl rfl ?_
  refine x_aload_n i_Run_alternatives_0 rfl ?_
  refine x_astore (ls' := [_, _, _, _, _, _]) i_Run_alternatives_1 rfl rfl ?_
  exact loop ss o0 σ st N K tab h (tX.rf _ _ _) hs (Nat.le_refl _) (fun _ _ => rfl) (Nat.le_refl _) (Nat.le_refl _) (Nat.le_refl _) (fun q => absurd q hss) kk
end


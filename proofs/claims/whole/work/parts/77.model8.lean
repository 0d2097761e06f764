/-! THE MODEL: alternatives -/
abbrev itmM (σ : AS) (n : Nat) (it : Item (PT n)) (i : Nat) : Prop := itemM σ (dnM σ) (altM σ (dnM σ) n) it i
abbrev itsM (σ : AS) (n : Nat) (s : List (Item (PT n))) (v : Int) : Prop := chnA (AI σ 13 32) (itmM σ n) s v
abbrev sqM (σ : AS) (n : Nat) (s : List (Item (PT n))) (k : Nat) : Prop := k < 260 ∧ s ≠ [] ∧ itsM σ n s (AI σ 13 28 k)
abbrev sqsM (σ : AS) (n : Nat) (ss : List (List (Item (PT n)))) (v : Int) : Prop := chnA (AI σ 13 29) (sqM σ n) ss v
theorem itmM.run {σ σ' : AS} (hx : mpX σ σ') {n : Nat} {it : Item (PT n)} {i : Nat} (h : itmM σ n it i) : itmM σ' n it i := itemM.keep (fun a j _ ha => hx.lo (by omega)) (fun r q => by rw [dnM.run hx]; exact q) (fun x a w => altM.run hx w) it i h
theorem itsM.run {σ σ' : AS} (hx : mpX σ σ') {n : Nat} {s : List (Item (PT n))} {v : Int} (h : itsM σ n s v) : itsM σ' n s v := chnA.mono (fun a => hx.lo (by decide)) (fun _ _ w => itmM.run hx w) _ _ h
theorem sqM.run {σ σ' : AS} (hx : mpX σ σ') {n : Nat} {s : List (Item (PT n))} {k : Nat} (h : sqM σ n s k) : sqM σ' n s k := ⟨h.1, h.2.1, by rw [hx.lo (by decide)]; exact itsM.run hx h.2.2⟩
theorem sqsM.run {σ σ' : AS} (hx : mpX σ σ') {n : Nat} {ss : List (List (Item (PT n)))} {v : Int} (h : sqsM σ n ss v) : sqsM σ' n ss v := chnA.mono (fun a => hx.lo (by decide)) (fun _ _ w => sqM.run hx w) _ _ h
def SqM (e : EM) (d dep n : Nat) (f : List (Item (PT n)) → Nat → ES → RR) : Prop := ∀ (s : List (Item (PT n))) (k : Nat) (Q : AQ) (σ : AS) (st : ES) (F N L : Nat) (tab : Nat → TT) (cl : Nat → Prop) (kids : Nat → List Nat) (own : Nat → Nat) (p : Nat), RunM σ e st F N L tab cl kids own → sqM σ n s k → p ≤ e.1.2 → F ≤ dep → FI σ 1145 0 = (dep : Int) → AI σ 13 48 F ≤ (p : Int) → N ≤ 4 * st.1.1 + dep → L ≤ 3 * st.1.1 → PostM e Q 2 2 σ st.1.1 F N L tab cl kids p (f s p st) → wp d m_M_seqAt [vr 11 0, vi (k : Nat), vi (p : Nat)] σ Q
section
variable {d : Nat} {Q : AQ} {e : EM} {σ : AS} {st : ES} {F N L : Nat} {tab : Nat → TT} {cl : Nat → Prop} {kids : Nat → List Nat} {own : Nat → Nat}
theorem c_M_altAt {dep n : Nat} {f : List (Item (PT n)) → Nat → ES → RR} (hf : SqM e (d + 1) dep n f) {ss : List (List (Item (PT n)))} {a : Nat} (ha : a < 260) (hss : ss ≠ []) {p : Nat} (h : RunM σ e st F N L tab cl kids own) (hs : sqsM σ n ss (AI σ 13 27 a)) (hp : p ≤ e.1.2) (hF : F ≤ dep) (hde : FI σ 1145 0 = (dep : Int)) (hat : AI σ 13 48 F ≤ (p : Int)) (hN : N ≤ 4 * st.1.1 + dep) (hL : L ≤ 3 * st.1.1) (kk : PostM e Q 2 2 σ st.1.1 F N L tab cl kids p (altsE f ss p st)) : wp (d + 2) m_M_altAt [vr 11 0, vi (a : Nat), vi (p : Nat)] σ Q := by
  have loop : ∀ (ss : List (List (Item (PT n)))) (v : Int) (σ1 : AS) (st1 : ES) (N1 L1 : Nat) (tab1 : Nat → TT) (cl1 : Nat → Prop) (kids1 : Nat → List Nat) (own1 : Nat → Nat), RunM σ1 e st1 F N1 L1 tab1 cl1 kids1 own1 → mpX σ σ1 → sqsM σ1 n ss v → (∀ a j, 48 ≤ a → a ≤ 51 → j < F → AI σ1 13 a j = AI σ 13 a j) → AI σ1 13 48 F = AI σ 13 48 F → FI σ1 1145 0 = FI σ 1145 0 → N ≤ N1 → (∀ i, i < N → tab1 i = tab i ∧ (cl i → cl1 i) ∧ (cl1 i → cl i) ∧ kids1 i = kids i ∧ AI σ1 13 52 i = AI σ 13 52 i ∧ AI σ1 13 53 i = AI σ 13 53 i) → st.1.1 ≤ st1.1.1 → N1 + 4 * st.1.1 ≤ N + 4 * st1.1.1 → L1 + 3 * st.1.1 ≤ L + 3 * st1.1.1 → (ss = [] → N1 + 2 + 4 * st.1.1 ≤ N + 4 * st1.1.1 ∧ L1 + 2 + 3 * st.1.1 ≤ L + 3 * st1.1.1) → PostM e Q 2 2 σ st.1.1 F N L tab cl kids p (altsE f ss p st1) → Ex (wp (d + 1)) m_M_altAt Q 7 [some (vr 11 0), some (vi (a : Nat)), some (vi (p : Nat)), some (vi v), none] [] σ1 := by
    intro ss
    induction ss with
    | nil =>
      intro v σ1 st1 N1 L1 tab1 cl1 kids1 own1 h1 x1 hs y1 y2 y3 hN1 ht hst b1 b2 b3 kk
      have hv : v = -1 := hs
      subst hv
      obtain ⟨b4, b5⟩ := b3 rfl
      have z := psX1 σ1 0
      refine x_iload_n i_M_altAt_7 rfl ?_
      refine x_iconst i_M_altAt_8 ?_
      refine x_icmp_eq_t i_M_altAt_9 rfl ?_
      refine x_aload_n i_M_altAt_54 rfl ?_
      refine x_iconst i_M_altAt_55 ?_
      refine x_cv1 i_M_altAt_56 rfl rfl rfl ?_
      refine c_M_fails (Or.inl rfl) ?_
      have := kk _ N1 L1 tab1 cl1 kids1 own1 ⟨x1.tr (psX_mp z), (h1.set z).1, fun a j w1 w2 w3 => by rw [psX_ai z]; exact y1 a j w1 w2 w3, by rw [psX_ai z]; exact y2, y3, hst, fun w => absurd w (by show ¬ ((-5 : Int) < -5); decide), fun _ => ⟨h1.set z, hN1, fun i hi => by rw [psX_ai z, psX_ai z]; exact ht i hi, b4, b5, by simp [FI_sFI, bI, altsE]⟩, fun w => absurd w n50, Or.inr (Or.inl rfl)⟩
      refine x_zret i_M_altAt_59 rfl (by omega) ?_
      exact this
    | cons s ss ih =>
      intro v σ1 st1 N1 L1 tab1 cl1 kids1 own1 h1 x1 hs y1 y2 y3 hN1 ht hst b1 b2 b3 kk
      obtain ⟨k, rfl, s2, s3⟩ := hs
      refine x_iload_n i_M_altAt_7 rfl ?_
      refine x_iconst i_M_altAt_8 ?_
      refine x_icmp_eq_f i_M_altAt_9 (by omega) ?_
      refine x_aload_n i_M_altAt_12 rfl ?_
      refine x_iload_n i_M_altAt_13 rfl ?_
      refine x_iload_n i_M_altAt_14 rfl ?_
      refine x_cv2 i_M_altAt_15 rfl rfl rfl ?_
      refine hf s k _ σ1 st1 F N1 L1 tab1 cl1 kids1 own1 p h1 s2 hp hF (by rw [y3]; exact hde) (by rw [y2]; exact hat) (by omega) (by omega) ?_
      intro σ2 N2 L2 tab2 cl2 kids2 own2 ho
      simp only [altsE] at kk
      generalize f s p st1 = r at ho kk
      have ho2 := ho.from x1 y1 y2 y3 hst hN1 ht b1 b2 (Nat.le_refl p)
      obtain ⟨o1, o2, o3, o4, o5, o6, o7, o8, o9, o10⟩ := id ho2
      have hm : mFld σ2 := o2.1.1.1
      have hl : mLns σ2 := o2.1.1.2.1
      refine x_istore (ls' := [_, _, _, _, _]) i_M_altAt_18 rfl rfl ?_
      refine x_aload_n i_M_altAt_20 rfl ?_
      refine x_getI i_M_altAt_21 rfl rfl ?_
      by_cases he : r.1 < -5
      · rw [if_neg (fun w => by omega)] at kk
        have := kk σ2 N2 L2 tab2 cl2 kids2 own2 ho2
        rw [retM_0 (by omega)] at this
        rw [o7 he]
        refine x_if_eq_f i_M_altAt_24 (by omega) ?_
        refine x_iconst i_M_altAt_27 ?_
        refine x_zret i_M_altAt_28 rfl (by omega) ?_
        exact this
      · obtain ⟨u1, u2, u3, u4, u5, u6⟩ := o8 (by omega)
        rw [u1.2.1]
        refine x_if_eq_t i_M_altAt_24 rfl ?_
        refine x_iload i_M_altAt_29 rfl ?_
        by_cases h0 : 0 ≤ r.1
        · rw [if_neg (fun w => by omega)] at kk
          have := kk σ2 N2 L2 tab2 cl2 kids2 own2 ho2
          rw [retM_1 h0] at this ⊢
          refine x_if_ne_t i_M_altAt_31 (by decide) ?_
          refine x_iload i_M_altAt_41 rfl ?_
          refine x_zret i_M_altAt_43 rfl (by omega) ?_
          exact this
        · have h5 : r.1 = -5 := by clear o9; omega
          rw [retM_0 (by omega)]
          refine x_if_ne_f i_M_altAt_31 rfl ?_
          refine x_aload_n i_M_altAt_34 rfl ?_
          refine x_getI i_M_altAt_35 rfl rfl ?_
          rw [u6]
          cases hb : r.2.2.1 with
          | true =>
            rw [if_neg (fun w => by rw [hb] at w; cases w.2)] at kk
            have := kk σ2 N2 L2 tab2 cl2 kids2 own2 ho2
            rw [retM_0 (by omega)] at this
            refine x_if_eq_f i_M_altAt_38 (by decide) ?_
            refine x_iload i_M_altAt_41 rfl ?_
            refine x_zret i_M_altAt_43 rfl (by omega) ?_
            exact this
          | false =>
            rw [if_pos ⟨h5, hb⟩] at kk
            have hk := (sqM.run ho.1 s2).1
            refine x_if_eq_t i_M_altAt_38 rfl ?_
            refine x_aload_n i_M_altAt_44 rfl ?_
            refine x_getR (c2 := 13) i_M_altAt_45 rfl rfl (hm _ _ rfl) ?_
            refine x_iload_n i_M_altAt_48 rfl ?_
            refine x_iaload i_M_altAt_49 rfl (lt_len hl rfl hk) ?_
            refine x_istore_n (ls' := [_, _, _, _, _]) i_M_altAt_50 rfl rfl ?_
            refine x_goto i_M_altAt_51 ?_
            refine Ex.weak (ls := [_, _, _, _, none]) ⟨Or.inr rfl, Or.inr rfl, Or.inr rfl, Or.inr rfl, Or.inl rfl, trivial⟩ ?_
            exact ih _ σ2 _ N2 L2 tab2 cl2 kids2 own2 u1 o1 (by rw [ho.1.lo (by decide)]; exact sqsM.run ho.1 s3) o3 o4 o5 u2 u3 o6 (by omega) (by omega) (fun _ => ⟨u4, u5⟩) kk
  obtain ⟨⟨⟨⟨hm, hl, -⟩, -⟩, -⟩, -⟩ := id h
  refine x_in (ls := [some _, some _, some _, none, none]) rfl rfl ?_
  refine x_aload_n i_M_altAt_0 rfl ?_
  refine x_getR (c2 := 13) i_M_altAt_1 rfl rfl (hm _ _ rfl) ?_
  refine x_iload_n i_M_altAt_4 rfl ?_
  refine x_iaload i_M_altAt_5 rfl (lt_len hl rfl ha) ?_
  refine x_istore_n (ls' := [_, _, _, _, _]) i_M_altAt_6 rfl rfl ?_
  exact loop ss _ σ st N L tab cl kids own h (fX.rf _ _ _) hs (fun _ _ _ _ _ => rfl) rfl rfl (Nat.le_refl _) (fun _ _ => ⟨rfl, id, id, rfl, rfl, rfl⟩) (Nat.le_refl _) (Nat.le_refl _) (Nat.le_refl _) (fun q => absurd q hss) kk
end


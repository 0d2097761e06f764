/-! THE MODEL's may(): the rounds -/
def mnA (k a : Nat) : Prop := (k = 14 ∧ a = 0) ∨ (k = 13 ∧ a = 42)
def mnX (σ σ' : AS) : Prop := fX (fun _ _ => False) mnA σ σ'
def comX (σ σ' : AS) : Prop := fX (fun _ _ => False) (fun k a => k = 13 ∧ a = 42) σ σ'
theorem comX.mn {σ σ' : AS} (h : comX σ σ') : mnX σ σ' := h.mono (fun _ _ q => q) (fun _ _ q => Or.inr q)
def ralM (σ : AS) (dn : Nat → Prop) (R : Nat → Option (PT 9)) : Prop := ∀ r, r < 8 → match R r with | none => AI σ 13 26 r = -1 | some alt => ∃ a : Nat, AI σ 13 26 r = (a : Int) ∧ altM σ dn 9 alt a
theorem mnX.ai {σ σ' : AS} (h : mnX σ σ') {a j : Nat} (w : a ≠ 42) : AI σ' 13 a j = AI σ 13 a j := h.2.2.1 _ _ _ (fun q => by unfold mnA at q; omega)
theorem ralM.mn {σ σ' : AS} {dn : Nat → Prop} {R : Nat → Option (PT 9)} (h : ralM σ dn R) (hx : mnX σ σ') : ralM σ' dn R := by
  intro r hr
  have := h r hr
  revert this
  cases R r with
  | none => intro w; show AI σ' 13 26 r = -1; rw [hx.ai (by decide)]; exact w
  | some alt =>
    rintro ⟨a, h1, h2⟩
    exact ⟨a, by rw [hx.ai (by decide)]; exact h1, altM.keep (fun a j w1 w2 => hx.ai (by omega)) (fun _ w => w) 9 _ _ h2⟩
section
variable {d : Nat} {Q : AQ} {σ : AS} {R : Nat → Option (PT 9)} {dn : Nat → Prop}
theorem M_mayRound (hmr : modR σ) (hR : ralM σ dn R) {k : Nat} (kk : ∀ σ1, mnX σ σ1 → notM σ1 (rnsN R (k + 1)) → Ex (wp (d + 32)) m_M_may Q 77 [some (vr 11 0), some (vi (k : Nat)), some (vi ((8 : Nat) : Int)), none] [] σ1) : ∀ (m n : Nat) (σ1 : AS), n + m = 8 → mnX σ σ1 → notM σ1 (rndN R (rnsN R k) n) → Ex (wp (d + 32)) m_M_may Q 31 [some (vr 11 0), some (vi (k : Nat)), some (vi (n : Nat)), none] [] σ1 := by
  intro m
  induction m with
  | zero =>
    intro n σ1 hn hx hN
    have e : n = 8 := by omega
    subst e
    refine x_iload_n i_M_may_31 rfl ?_
    refine x_bipush i_M_may_32 ?_
    refine x_icmp_ge_t i_M_may_34 (by omega) ?_
    exact kk σ1 hx hN
  | succ m ih =>
    intro n σ1 hn hx hN
    have hn8 : n < 8 := by omega
    have hm1 := hmr.keep hx
    obtain ⟨hm, hl, hb0, -⟩ := id hm1
    have ok := okN_rnd (okN_rns R k) n
    have hr := hR.mn hx n hn8
    have st : ∀ b, ruNo R (rndN R (rnsN R k) n) n = b → Ex (wp (d + 32)) m_M_may Q 70 [some (vr 11 0), some (vi (k : Nat)), some (vi (n : Nat)), none] [vi (bI b), vi (n : Nat), vr 14 0] σ1 := by
      intro b hb
      refine x_bastore i_M_may_70 (k := n) rfl (by rw [hb0]; exact hn8) (bI_01 _) ?_
      refine x_iinc (ls' := [_, _, _, _]) i_M_may_71 rfl (by omega) rfl ?_
      refine x_goto i_M_may_74 ?_
      refine ih (n + 1) _ (by omega) (hx.tr (fX_sAI (Or.inl ⟨rfl, rfl⟩))) (fun r hr => ?_)
      show _ = bI (setB (rndN R (rnsN R k) n) n (rndN R (rnsN R k) n n || ruNo R (rndN R (rnsN R k) n) n) r)
      rw [okN_new ok, AI_sAI]
      unfold setB
      by_cases w : r = n
      · rw [if_pos ⟨rfl, rfl, w⟩, if_pos w, hb]
      · rw [if_neg (fun q => w q.2.2), if_neg w]
        exact hN r hr
    refine x_iload_n i_M_may_31 rfl ?_
    refine x_bipush i_M_may_32 ?_
    refine x_icmp_ge_f i_M_may_34 (by omega) ?_
    refine x_aload_n i_M_may_37 rfl ?_
    refine x_getR (c2 := 14) i_M_may_38 rfl rfl (hm _ _ rfl) ?_
    refine x_iload_n i_M_may_41 rfl ?_
    refine x_aload_n i_M_may_42 rfl ?_
    refine x_getR (c2 := 13) i_M_may_43 rfl rfl (hm _ _ rfl) ?_
    refine x_iload_n i_M_may_46 rfl ?_
    refine x_iaload i_M_may_47 (k := n) rfl (lt_len hl rfl hn8) ?_
    cases hRn : R n with
    | none =>
      rw [hRn] at hr
      have hr : AI σ1 13 26 n = -1 := hr
      rw [hr]
      refine x_iconst i_M_may_48 ?_
      refine x_icmp_eq_t i_M_may_49 rfl ?_
      refine x_iconst i_M_may_69 ?_
      exact st false (by unfold ruNo; rw [hRn])
    | some alt =>
      rw [hRn] at hr
      obtain ⟨a, h1, h2⟩ := hr
      have e : ruNo R (rndN R (rnsN R k) n) n = altNo (rndN R (rnsN R k) n) 9 alt := by unfold ruNo; rw [hRn]
      rw [h1]
      refine x_iconst i_M_may_48 ?_
      refine x_icmp_eq_f i_M_may_49 (by omega) ?_
      refine x_aload_n i_M_may_52 rfl ?_
      refine x_aload_n i_M_may_53 rfl ?_
      refine x_getR (c2 := 13) i_M_may_54 rfl rfl (hm _ _ rfl) ?_
      refine x_iload_n i_M_may_57 rfl ?_
      refine x_iaload i_M_may_58 (k := n) rfl (lt_len hl rfl hn8) ?_
      rw [h1]
      refine x_cv1 i_M_may_59 rfl rfl rfl ?_
      refine c_M_mayAlt hm1 hN 9 _ (by omega) alt a _ h2 ?_
      cases hb : altNo (rndN R (rnsN R k) n) 9 alt with
      | true =>
        refine x_if_eq_f i_M_may_62 (by decide) ?_
        refine x_iconst i_M_may_65 ?_
        refine x_goto i_M_may_66 ?_
        exact st true (e.trans hb)
      | false =>
        refine x_if_eq_t i_M_may_62 rfl ?_
        refine x_iconst i_M_may_69 ?_
        exact st false (e.trans hb)
theorem M_mayRounds (hmr : modR σ) (hR : ralM σ dn R) (kk : ∀ σ1, mnX σ σ1 → notM σ1 (nulG R) → Ex (wp (d + 32)) m_M_may Q 83 [some (vr 11 0), some (vi ((9 : Nat) : Int)), none, none] [] σ1) : ∀ (m k : Nat) (σ1 : AS), k + m = 9 → mnX σ σ1 → notM σ1 (rnsN R k) → Ex (wp (d + 32)) m_M_may Q 23 [some (vr 11 0), some (vi (k : Nat)), none, none] [] σ1 := by
  intro m
  induction m with
  | zero =>
    intro k σ1 hk hx hN
    have e : k = 9 := by omega
    subst e
    rw [rnsN_9] at hN
    refine x_iload_n i_M_may_23 rfl ?_
    refine x_bipush i_M_may_24 ?_
    refine x_icmp_ge_t i_M_may_26 (by omega) ?_
    exact kk σ1 hx hN
  | succ m ih =>
    intro k σ1 hk hx hN
    refine x_iload_n i_M_may_23 rfl ?_
    refine x_bipush i_M_may_24 ?_
    refine x_icmp_ge_f i_M_may_26 (by omega) ?_
    refine x_iconst i_M_may_29 ?_
    refine x_istore_n (ls' := [_, _, _, _]) i_M_may_30 rfl rfl ?_
    refine M_mayRound hmr hR (fun σ2 x2 h2 => ?_) 8 0 σ1 rfl hx hN
    refine x_iinc (ls' := [_, _, _, _]) i_M_may_77 rfl (by omega) rfl ?_
    refine x_goto i_M_may_80 ?_
    refine Ex.weak (ls := [_, _, none, _]) ⟨Or.inr rfl, Or.inr rfl, Or.inl rfl, Or.inr rfl, trivial⟩ ?_
    exact ih (k + 1) σ2 (by omega) x2 h2
theorem M_mayHeads (hmr : modR σ) (hR : ralM σ dn R) (hN : notM σ (nulG R)) (kk : ∀ σ1, comX σ σ1 → (∀ r, r < 8 → bN (AI σ1 13 42 r) (hdG R r)) → Ex (wp (d + 32)) m_M_may Q 127 [some (vr 11 0), some (vi ((8 : Nat) : Int)), none, none] [] σ1) : ∀ (m n : Nat) (σ1 : AS), n + m = 8 → comX σ σ1 → (∀ r, r < n → bN (AI σ1 13 42 r) (hdG R r)) → Ex (wp (d + 32)) m_M_may Q 85 [some (vr 11 0), some (vi (n : Nat)), none, none] [] σ1 := by
  intro m
  induction m with
  | zero =>
    intro n σ1 hn hx hc
    have e : n = 8 := by omega
    subst e
    refine x_iload_n i_M_may_85 rfl ?_
    refine x_bipush i_M_may_86 ?_
    refine x_icmp_ge_t i_M_may_88 (by omega) ?_
    exact kk σ1 hx hc
  | succ m ih =>
    intro n σ1 hn hx hc
    have hn8 : n < 8 := by omega
    have hm1 := hmr.keep hx
    obtain ⟨hm, hl, -⟩ := id hm1
    have hr := hR.mn hx.mn n hn8
    have hN1 : notM σ1 (nulG R) := fun r hr => by rw [hx.2.2.1 _ _ _ (fun q => absurd q.1 (by decide))]; exact hN r hr
    have st : ∀ z, bN z (hdG R n) → Ex (wp (d + 32)) m_M_may Q 120 [some (vr 11 0), some (vi (n : Nat)), none, none] [vi z, vi (n : Nat), vr 13 42] σ1 := by
      intro z hz
      refine x_iastore i_M_may_120 (k := n) rfl (lt_len hl rfl hn8) ?_
      refine x_iinc (ls' := [_, _, _, _]) i_M_may_121 rfl (by omega) rfl ?_
      refine x_goto i_M_may_124 ?_
      refine ih (n + 1) _ (by omega) (hx.tr (fX_sAI ⟨rfl, rfl⟩)) (fun r hr => ?_)
      rw [AI_sAI]
      by_cases w : r = n
      · rw [if_pos ⟨rfl, rfl, w⟩, w]; exact hz
      · rw [if_neg (fun q => w q.2.2)]; exact hc r (by omega)
    refine x_iload_n i_M_may_85 rfl ?_
    refine x_bipush i_M_may_86 ?_
    refine x_icmp_ge_f i_M_may_88 (by omega) ?_
    refine x_aload_n i_M_may_91 rfl ?_
    refine x_getR (c2 := 13) i_M_may_92 rfl rfl (hm _ _ rfl) ?_
    refine x_iload_n i_M_may_95 rfl ?_
    refine x_aload_n i_M_may_96 rfl ?_
    refine x_getR (c2 := 13) i_M_may_97 rfl rfl (hm _ _ rfl) ?_
    refine x_iload_n i_M_may_100 rfl ?_
    refine x_iaload i_M_may_101 (k := n) rfl (lt_len hl rfl hn8) ?_
    cases hRn : R n with
    | none =>
      rw [hRn] at hr
      have hr : AI σ1 13 26 n = -1 := hr
      have e : hdG R n = fun _ => false := by funext q; unfold hdG; rw [hRn]
      rw [hr]
      refine x_iconst i_M_may_102 ?_
      refine x_icmp_ne_f i_M_may_103 rfl ?_
      refine x_iconst i_M_may_106 ?_
      refine x_goto i_M_may_107 ?_
      exact st 0 (by rw [e]; exact bN_0)
    | some alt =>
      rw [hRn] at hr
      obtain ⟨a, h1, h2⟩ := hr
      have e : hdG R n = altHd (nulG R) 9 alt := by funext q; unfold hdG; rw [hRn]
      rw [h1]
      refine x_iconst i_M_may_102 ?_
      refine x_icmp_ne_t i_M_may_103 (by omega) ?_
      refine x_aload_n i_M_may_110 rfl ?_
      refine x_aload_n i_M_may_111 rfl ?_
      refine x_getR (c2 := 13) i_M_may_112 rfl rfl (hm _ _ rfl) ?_
      refine x_iload_n i_M_may_115 rfl ?_
      refine x_iaload i_M_may_116 (k := n) rfl (lt_len hl rfl hn8) ?_
      rw [h1]
      refine x_cv1 i_M_may_117 rfl rfl rfl ?_
      refine c_M_leftAlt hm1 hN1 9 _ (by omega) alt a _ h2 (fun z hz => ?_)
      exact st z (by rw [e]; exact hz)
end
/-- rows below r of round j are through; of row r what is below q -/
def cloM (σ : AS) (R : Nat → Option (PT 9)) (j r q : Nat) : Prop := ∃ C : Nat → Nat → Bool, (∀ a, a < 8 → bN (AI σ 13 42 a) (C a)) ∧ (∀ a b, a < 8 → b < 8 → C a b = true → warG R 8 a b = true) ∧ (∀ a b, a < 8 → b < 8 → warG R (min j 8) a b = true → C a b = true) ∧ ∀ a b, a < 8 → b < 8 → (a < r ∨ (a = r ∧ j < q)) → warG R (min (j + 1) 8) a b = true → C a b = true
section
variable {σ : AS} {R : Nat → Option (PT 9)} {j r q : Nat}
theorem cloM.yes (h : cloM σ R j r q) (hr : r < 8) (hq : q < 8) (h1 : iAnd (iShr (AI σ 13 42 r) (q : Nat)) 1 = 1) : cloM (sAI σ 13 42 r (iOr (AI σ 13 42 r) (AI σ 13 42 q))) R j r (q + 1) := by
  obtain ⟨C, c1, c2, c3, c4⟩ := h
  have hc : C r q = true := by
    rw [bN_bit2 (c1 r hr) hq] at h1
    exact bI_1 h1
  refine ⟨fun a b => if a = r then C r b || C q b else C a b, fun a ha => ?_, fun a b ha hb w => ?_, fun a b ha hb w => ?_, fun a b ha hb w1 w => ?_⟩
  · rw [AI_sAI]
    by_cases e : a = r
    · rw [if_pos ⟨rfl, rfl, e⟩]
      exact (bN_or (c1 r hr) (c1 q hq)).cg (fun k _ => (if_pos e).symm)
    · rw [if_neg (fun u => e u.2.2)]
      exact (c1 a ha).cg (fun k _ => (if_neg e).symm)
  · have w : (if a = r then C r b || C q b else C a b) = true := w
    by_cases e : a = r
    · rw [if_pos e] at w
      subst e
      rcases Bool.or_eq_true _ _ |>.mp w with w | w
      · exact c2 _ _ ha hb w
      · exact war_tr 8 q _ _ hq (c2 _ _ ha hq hc) (c2 _ _ hq hb w)
    · rw [if_neg e] at w
      exact c2 _ _ ha hb w
  · have g := c3 a b ha hb w
    show (if a = r then C r b || C q b else C a b) = true
    by_cases e : a = r
    · rw [if_pos e, ← e, g]; rfl
    · rw [if_neg e]; exact g
  · show (if a = r then C r b || C q b else C a b) = true
    by_cases e : a = r
    · subst e
      rw [if_pos rfl]
      by_cases ej : j = q
      · subst ej
        rw [Nat.min_eq_left (show j + 1 ≤ 8 by omega)] at w
        rw [Nat.min_eq_left (show j ≤ 8 by omega)] at c3
        unfold warG at w
        simp only [Bool.or_eq_true, Bool.and_eq_true] at w
        rcases w with w | ⟨w, w'⟩
        · rw [c3 a b ha hb w]; rfl
        · rw [c3 j b hq hb w', Bool.or_true]
      · have g := c4 a b ha hb (by omega) w
        rw [g]; rfl
    · rw [if_neg e]
      exact c4 a b ha hb (by omega) w
theorem cloM.no (h : cloM σ R j r q) (hr : r < 8) (hq : q < 8) (h1 : iAnd (iShr (AI σ 13 42 r) (q : Nat)) 1 ≠ 1) : cloM σ R j r (q + 1) := by
  obtain ⟨C, c1, c2, c3, c4⟩ := h
  have hc : C r q = false := by
    cases g : C r q with
    | false => rfl
    | true => rw [bN_bit2 (c1 r hr) hq, g] at h1; exact absurd rfl h1
  refine ⟨C, c1, c2, c3, fun a b ha hb w1 w => ?_⟩
  by_cases e : a = r ∧ j = q
  · obtain ⟨rfl, rfl⟩ := e
    rw [Nat.min_eq_left (show j + 1 ≤ 8 by omega)] at w
    rw [Nat.min_eq_left (show j ≤ 8 by omega)] at c3
    unfold warG at w
    simp only [Bool.or_eq_true, Bool.and_eq_true] at w
    rcases w with w | ⟨w, w'⟩
    · exact c3 a b ha hb w
    · have := c3 a j ha hq w
      rw [hc] at this
      cases this
  · exact c4 a b ha hb (by omega) w
theorem cloM.nxr (h : cloM σ R j r 8) : cloM σ R j (r + 1) 0 := by
  obtain ⟨C, c1, c2, c3, c4⟩ := h
  refine ⟨C, c1, c2, c3, fun a b ha hb w1 w => ?_⟩
  by_cases e : a = r
  · by_cases ej : j < 8
    · exact c4 a b ha hb (Or.inr ⟨e, ej⟩) w
    · rw [Nat.min_eq_right (show 8 ≤ j + 1 by omega)] at w
      rw [Nat.min_eq_right (show 8 ≤ j by omega)] at c3
      exact c3 a b ha hb w
  · exact c4 a b ha hb (Or.inl (by omega)) w
theorem cloM.nxj (h : cloM σ R j 8 0) : cloM σ R (j + 1) 0 0 := by
  obtain ⟨C, c1, c2, c3, c4⟩ := h
  exact ⟨C, c1, c2, fun a b ha hb w => c4 a b ha hb (Or.inl ha) w, fun a b ha hb w1 w => absurd w1 (by omega)⟩
theorem cloM.st (h : ∀ r, r < 8 → bN (AI σ 13 42 r) (hdG R r)) : cloM σ R 0 0 0 := ⟨hdG R, h, fun a b _ _ w => war_le (n := 0) (Nat.zero_le 8) w, fun a b _ _ w => w, fun a b _ _ w1 _ => absurd w1 (by omega)⟩
theorem cloM.en (h : cloM σ R 9 0 0) : ∀ r, r < 8 → iAnd (iShr (AI σ 13 42 r) (r : Nat)) 1 = bI (slfG R r) := by
  obtain ⟨C, c1, c2, c3, c4⟩ := h
  intro r hr
  rw [bN_bit2 (c1 r hr) hr]
  have : C r r = slfG R r := by
    show C r r = warG R 8 r r
    rw [Bool.eq_iff_iff]
    exact ⟨fun w => c2 r r hr hr w, fun w => c3 r r hr hr w⟩
  rw [this]
end
section
variable {d : Nat} {Q : AQ} {σ : AS} {R : Nat → Option (PT 9)} {dn : Nat → Prop}
theorem M_closeQ (hmr : modR σ) {j r : Nat} (hr : r < 8) (kk : ∀ σ1, comX σ σ1 → cloM σ1 R j (r + 1) 0 → Ex (wp d) m_M_may Q 186 [some (vr 11 0), some (vi (j : Nat)), some (vi (r : Nat)), some (vi ((8 : Nat) : Int))] [] σ1) : ∀ (m q : Nat) (σ1 : AS), q + m = 8 → comX σ σ1 → cloM σ1 R j r q → Ex (wp d) m_M_may Q 145 [some (vr 11 0), some (vi (j : Nat)), some (vi (r : Nat)), some (vi (q : Nat))] [] σ1 := by
  intro m
  induction m with
  | zero =>
    intro q σ1 hq hx hc
    have e : q = 8 := by omega
    subst e
    refine x_iload_n i_M_may_145 rfl ?_
    refine x_bipush i_M_may_146 ?_
    refine x_icmp_ge_t i_M_may_148 (by omega) ?_
    exact kk σ1 hx hc.nxr
  | succ m ih =>
    intro q σ1 hq hx hc
    have hq8 : q < 8 := by omega
    obtain ⟨hm, hl, -⟩ := hmr.keep hx
    refine x_iload_n i_M_may_145 rfl ?_
    refine x_bipush i_M_may_146 ?_
    refine x_icmp_ge_f i_M_may_148 (by omega) ?_
    refine x_aload_n i_M_may_151 rfl ?_
    refine x_getR (c2 := 13) i_M_may_152 rfl rfl (hm _ _ rfl) ?_
    refine x_iload_n i_M_may_155 rfl ?_
    refine x_iaload i_M_may_156 (k := r) rfl (lt_len hl rfl hr) ?_
    refine x_iload_n i_M_may_157 rfl ?_
    refine x_ishr i_M_may_158 ?_
    refine x_iconst i_M_may_159 ?_
    refine x_iand i_M_may_160 ?_
    refine x_iconst i_M_may_161 ?_
    by_cases g : iAnd (iShr (AI σ1 13 42 r) (q : Nat)) 1 = 1
    · refine x_icmp_ne_f i_M_may_162 g ?_
      refine x_aload_n i_M_may_165 rfl ?_
      refine x_getR (c2 := 13) i_M_may_166 rfl rfl (hm _ _ rfl) ?_
      refine x_iload_n i_M_may_169 rfl ?_
      refine x_dup2 i_M_may_170 ?_
      refine x_iaload i_M_may_171 (k := r) rfl (lt_len hl rfl hr) ?_
      refine x_aload_n i_M_may_172 rfl ?_
      refine x_getR (c2 := 13) i_M_may_173 rfl rfl (hm _ _ rfl) ?_
      refine x_iload_n i_M_may_176 rfl ?_
      refine x_iaload i_M_may_177 (k := q) rfl (lt_len hl rfl hq8) ?_
      refine x_ior i_M_may_178 ?_
      refine x_iastore i_M_may_179 (k := r) rfl (lt_len hl rfl hr) ?_
      refine x_iinc (ls' := [_, _, _, _]) i_M_may_180 rfl (by omega) rfl ?_
      refine x_goto i_M_may_183 ?_
      exact ih (q + 1) _ (by omega) (hx.tr (fX_sAI ⟨rfl, rfl⟩)) (hc.yes hr hq8 g)
    · refine x_icmp_ne_t i_M_may_162 g ?_
      refine x_iinc (ls' := [_, _, _, _]) i_M_may_180 rfl (by omega) rfl ?_
      refine x_goto i_M_may_183 ?_
      exact ih (q + 1) σ1 (by omega) hx (hc.no hr hq8 g)
theorem M_closeR (hmr : modR σ) {j : Nat} (kk : ∀ σ1, comX σ σ1 → cloM σ1 R (j + 1) 0 0 → Ex (wp d) m_M_may Q 192 [some (vr 11 0), some (vi (j : Nat)), some (vi ((8 : Nat) : Int)), none] [] σ1) : ∀ (m r : Nat) (σ1 : AS), r + m = 8 → comX σ σ1 → cloM σ1 R j r 0 → Ex (wp d) m_M_may Q 137 [some (vr 11 0), some (vi (j : Nat)), some (vi (r : Nat)), none] [] σ1 := by
  intro m
  induction m with
  | zero =>
    intro r σ1 hr hx hc
    have e : r = 8 := by omega
    subst e
    refine x_iload_n i_M_may_137 rfl ?_
    refine x_bipush i_M_may_138 ?_
    refine x_icmp_ge_t i_M_may_140 (by omega) ?_
    exact kk σ1 hx hc.nxj
  | succ m ih =>
    intro r σ1 hr hx hc
    refine x_iload_n i_M_may_137 rfl ?_
    refine x_bipush i_M_may_138 ?_
    refine x_icmp_ge_f i_M_may_140 (by omega) ?_
    refine x_iconst i_M_may_143 ?_
    refine x_istore_n (ls' := [_, _, _, _]) i_M_may_144 rfl rfl ?_
    refine M_closeQ hmr (by omega) (fun σ2 x2 h2 => ?_) 8 0 σ1 rfl hx hc
    refine x_iinc (ls' := [_, _, _, _]) i_M_may_186 rfl (by omega) rfl ?_
    refine x_goto i_M_may_189 ?_
    refine Ex.weak (ls := [_, _, _, none]) ⟨Or.inr rfl, Or.inr rfl, Or.inr rfl, Or.inl rfl, trivial⟩ ?_
    exact ih (r + 1) σ2 (by omega) x2 h2
theorem M_closeJ (hmr : modR σ) (kk : ∀ σ1, comX σ σ1 → cloM σ1 R 9 0 0 → Q none σ1) : ∀ (m j : Nat) (σ1 : AS), j + m = 9 → comX σ σ1 → cloM σ1 R j 0 0 → Ex (wp d) m_M_may Q 129 [some (vr 11 0), some (vi (j : Nat)), none, none] [] σ1 := by
  intro m
  induction m with
  | zero =>
    intro j σ1 hj hx hc
    have e : j = 9 := by omega
    subst e
    refine x_iload_n i_M_may_129 rfl ?_
    refine x_bipush i_M_may_130 ?_
    refine x_icmp_ge_t i_M_may_132 (by omega) ?_
    refine x_vret i_M_may_198 rfl ?_
    exact kk σ1 hx hc
  | succ m ih =>
    intro j σ1 hj hx hc
    refine x_iload_n i_M_may_129 rfl ?_
    refine x_bipush i_M_may_130 ?_
    refine x_icmp_ge_f i_M_may_132 (by omega) ?_
    refine x_iconst i_M_may_135 ?_
    refine x_istore_n (ls' := [_, _, _, _]) i_M_may_136 rfl rfl ?_
    refine M_closeR hmr (fun σ2 x2 h2 => ?_) 8 0 σ1 rfl hx hc
    refine x_iinc (ls' := [_, _, _, _]) i_M_may_192 rfl (by omega) rfl ?_
    refine x_goto i_M_may_195 ?_
    refine Ex.weak (ls := [_, _, none, _]) ⟨Or.inr rfl, Or.inr rfl, Or.inl rfl, Or.inr rfl, trivial⟩ ?_
    exact ih (j + 1) σ2 (by omega) x2 h2
theorem c_M_may (hmr : modR σ) (hR : ralM σ dn R) (kk : ∀ σ', mnX σ σ' → notM σ' (nulG R) → (∀ r, r < 8 → iAnd (iShr (AI σ' 13 42 r) (r : Nat)) 1 = bI (slfG R r)) → Q none σ') : wp (d + 33) m_M_may [vr 11 0] σ Q := by
  have loop : ∀ (m n : Nat) (σ1 : AS), n + m = 8 → mnX σ σ1 → (∀ r, r < n → AI σ1 14 0 r = bI false) → Ex (wp (d + 32)) m_M_may Q 2 [some (vr 11 0), some (vi (n : Nat)), none, none] [] σ1 := by
    intro m
    induction m with
    | zero =>
      intro n σ1 hn hx h0
      have e : n = 8 := by omega
      subst e
      refine x_iload_n i_M_may_2 rfl ?_
      refine x_bipush i_M_may_3 ?_
      refine x_icmp_ge_t i_M_may_5 (by omega) ?_
      refine x_iconst i_M_may_21 ?_
      refine x_istore_n (ls' := [_, _, _, _]) i_M_may_22 rfl rfl ?_
      refine M_mayRounds (hmr.keep hx) (hR.mn hx) (fun σ2 x2 h2 => ?_) 9 0 σ1 rfl (fX.rf _ _ _) h0
      have x12 := hx.tr x2
      refine x_iconst i_M_may_83 ?_
      refine x_istore_n (ls' := [_, _, _, _]) i_M_may_84 rfl rfl ?_
      refine M_mayHeads (hmr.keep x12) (hR.mn x12) h2 (fun σ3 x3 h3 => ?_) 8 0 σ2 rfl (fX.rf _ _ _) (fun r hr => absurd hr (Nat.not_lt_zero _))
      have x13 := x12.tr x3.mn
      have h23 : notM σ3 (nulG R) := fun r hr => by rw [x3.2.2.1 _ _ _ (fun q => absurd q.1 (by decide))]; exact h2 r hr
      refine x_iconst i_M_may_127 ?_
      refine x_istore_n (ls' := [_, _, _, _]) i_M_may_128 rfl rfl ?_
      refine M_closeJ (hmr.keep x13) (fun σ4 x4 h4 => ?_) 9 0 σ3 rfl (fX.rf _ _ _) (cloM.st h3)
      exact kk σ4 (x13.tr x4.mn) (fun r hr => by rw [x4.2.2.1 _ _ _ (fun q => absurd q.1 (by decide))]; exact h23 r hr) h4.en
    | succ m ih =>
      intro n σ1 hn hx h0
      have hn8 : n < 8 := by omega
      obtain ⟨hm, hl, hb0, -⟩ := hmr.keep hx
      refine x_iload_n i_M_may_2 rfl ?_
      refine x_bipush i_M_may_3 ?_
      refine x_icmp_ge_f i_M_may_5 (by omega) ?_
      refine x_aload_n i_M_may_8 rfl ?_
      refine x_getR (c2 := 14) i_M_may_9 rfl rfl (hm _ _ rfl) ?_
      refine x_iload_n i_M_may_12 rfl ?_
      refine x_iconst i_M_may_13 ?_
      refine x_bastore i_M_may_14 (k := n) rfl (by rw [hb0]; exact hn8) (Or.inl rfl) ?_
      refine x_iinc (ls' := [_, _, _, _]) i_M_may_15 rfl (by omega) rfl ?_
      refine x_goto i_M_may_18 ?_
      refine ih (n + 1) _ (by omega) (hx.tr (fX_sAI (Or.inl ⟨rfl, rfl⟩))) (fun r hr => ?_)
      rw [AI_sAI]
      by_cases w : r = n
      · rw [if_pos ⟨rfl, rfl, w⟩]; rfl
      · rw [if_neg (fun q => w q.2.2)]; exact h0 r (by omega)
  refine x_in (ls := [some _, none, none, none]) rfl rfl ?_
  refine x_iconst i_M_may_0 ?_
  refine x_istore_n (ls' := [_, _, _, _]) i_M_may_1 rfl rfl ?_
  exact loop 8 0 σ rfl (fX.rf _ _ _) (fun r hr => absurd hr (Nat.not_lt_zero _))
end


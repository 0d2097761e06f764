/-! THE MODEL: parts -/
theorem match_lit {inp : Nat → Int} {size kind atom p : Nat} {lo hi : Int} {st : ES} (h : kind ≤ 1) : matchE inp size kind atom lo hi p st = if p < size ∧ lo ≤ inp p ∧ inp p ≤ hi then (((p + 1 : Nat) : Int), some (.num (inp p).toNat), false, st) else (-5, none, false, expE atom p st) := by
  have : kind = 0 ∨ kind = 1 := by omega
  rcases this with rfl | rfl <;> simp [matchE, fitsE]
theorem match_digit {inp : Nat → Int} {size atom p : Nat} {lo hi : Int} {st : ES} : matchE inp size 2 atom lo hi p st = if p < size ∧ 48 ≤ inp p ∧ inp p ≤ 57 then (((p + 1 : Nat) : Int), some (.num (inp p - 48).toNat), false, st) else (-5, none, false, expE atom p st) := by simp [matchE, fitsE]
theorem match_any {inp : Nat → Int} {size atom p : Nat} {lo hi : Int} {st : ES} : matchE inp size 3 atom lo hi p st = if p < size then (((p + 1 : Nat) : Int), some (.num (inp p).toNat), false, st) else (-5, none, false, expE atom p st) := by simp [matchE, fitsE]
theorem match_end {inp : Nat → Int} {size atom p : Nat} {lo hi : Int} {st : ES} : matchE inp size 4 atom lo hi p st = if p < size then (-5, none, false, expE atom p st) else ((p : Int), none, false, st) := by simp [matchE]
section
variable {d : Nat} {Q : AQ} {e : EM} {σ σ' : AS} {st : ES} {F N L : Nat} {tab : Nat → TT} {cl : Nat → Prop} {kids : Nat → List Nat} {own : Nat → Nat}
/-- DONE there, nothing -/
theorem c_M_doneHere (h : RunM σ e st F N L tab cl kids own) {p s0 : Nat} (hs : st.1.1 = s0 + 1) (hp : p ≤ e.1.2) (b : Bool) (kk : PostM e Q 3 3 σ s0 F N L tab cl kids p ((p : Int), none, b, st)) : wp (d + 1) m_M_done [vr 11 0, vi (p : Nat), vi (-1), vi (bI b)] σ Q := by
  refine c_M_done (bI_01 b) ?_
  have y := psX3 σ (p : Nat) (-1) (bI b)
  have := kk _ N L tab cl kids own (OutM.plain (h.set y) (psX_mp y) (fun a j _ _ _ => by rw [psX_ai y]) (by rw [psX_ai y]) rfl (by show s0 + 1 ≤ st.1.1; omega) (by decide) (by decide) (by simp [FI_sFI]) (fun _ => ⟨Int.le_refl _, by show (p : Int) ≤ _; omega, by simp [FI_sFI], none, by simp [FI_sFI, oI], fun i hi => (by cases hi), rfl⟩) (Or.inr (by show 0 ≤ (p : Int); omega)) (fun a i _ => by rw [psX_ai y]))
  rw [retM_1 (by show 0 ≤ (p : Int); omega)] at this
  exact this
theorem retM_01 (r : RR) : retM r = 0 ∨ retM r = 1 := by unfold retM; split <;> omega
theorem c_M_goes {k dep n : Nat} (ha : ∀ n, AltM e (d + 2) k dep n) (h : RunM σ e st F N L tab cl kids own) {it : Item (PT n)} {pn p s0 : Nat} (hpr : prtM σ n it pn) (g : GoH e σ st dep F N L p) (hs : st.1.1 = s0 + 1) (hmem : st.1.2.2 + 1 ≤ st.1.1) (kk : PostM e Q 3 3 σ s0 F N L tab cl kids p (goM e k n it p st)) : wp (d + 4) m_M_goes [vr 11 0, vi (pn : Nat), vi (p : Nat)] σ Q := by
  obtain ⟨⟨⟨⟨hm, hl, hlb⟩, hlaw, hin, hln, hsz, hz, hlt, hby⟩, hcn, hok, hvw⟩, a2, a3, a4, a5⟩ := id h
  obtain ⟨hp, hF, hdep, hde, hat, hN, hL⟩ := id g
  obtain ⟨j5, j7, j8, j9, j10, j11, j12, j13⟩ := id hpr
  have hst : st.1.1 ≤ 1000 := hcn.2.2.2.1
  have ha3 : AltM e (d + 3) k dep n := (ha n).up
  -- the byte there
  have main : ∀ (x : Int) (b : Int), (p < e.1.2 → x = 1 ∧ b = e.2.1 p) → (¬ p < e.1.2 → x = 0 ∧ b = -1) → Ex (wp (d + 3)) m_M_goes Q 30 [some (vr 11 0), some (vi (pn : Nat)), some (vi (p : Nat)), some (vi x), some (vi b), none, none] [] σ := by
    intro x b hb1 hb2
    have hb3 : -1 ≤ b ∧ b ≤ 255 := by
      by_cases w : p < e.1.2
      · have := hby p w
        rw [(hb1 w).2]; omega
      · rw [(hb2 w).2]; omega
    have no : (it.1.1 ≤ 6) → PostM e Q 3 3 σ s0 F N L tab cl kids p (-5, none, false, expE it.1.2.2 p st) → ∀ v : Int, wp (d + 3) m_M_atomAt [vr 11 0, vi (pn : Nat), vi (p : Nat), vi 0, vi v] σ (fun r u => ∃ z : Int, r = some (vi z) ∧ (z = 0 ∨ z = 1) ∧ Q (some (vi z)) u) := by
      intro hk kk2 v
      obtain ⟨e3, e4⟩ := j9 hk
      refine c_M_atomNo h hs (by omega) hp hat j5 e3 e4 ?_
      intro σ2 N2 L2 tab2 cl2 kids2 own2 ho
      exact ⟨_, rfl, retM_01 _, kk2 σ2 N2 L2 tab2 cl2 kids2 own2 ho⟩
    have yes : ∀ v : Nat, v < 256 → p < e.1.2 → PostM e Q 3 3 σ s0 F N L tab cl kids p (((p + 1 : Nat) : Int), some (.num v), false, st) → wp (d + 3) m_M_atomAt [vr 11 0, vi (pn : Nat), vi (p : Nat), vi 1, vi (v : Nat)] σ (fun r u => ∃ z : Int, r = some (vi z) ∧ (z = 0 ∨ z = 1) ∧ Q (some (vi z)) u) := by
      intro v hv hp2 kk2
      refine c_M_atomYes h hs (by omega) hp2 hv ?_
      intro σ2 N2 L2 tab2 cl2 kids2 own2 ho
      exact ⟨_, rfl, retM_01 _, kk2 σ2 N2 L2 tab2 cl2 kids2 own2 ho⟩
    refine x_aload_n i_M_goes_30 rfl ?_
    refine x_getR (c2 := 13) i_M_goes_31 rfl rfl (hm _ _ rfl) ?_
    refine x_iload_n i_M_goes_34 rfl ?_
    refine x_iaload i_M_goes_35 rfl (lt_len hl rfl j5) ?_
    rw [j7]
    have c0 : it.1.1 = 0 ∨ it.1.1 = 1 ∨ it.1.1 = 2 ∨ it.1.1 = 3 ∨ it.1.1 = 4 ∨ it.1.1 = 5 ∨ it.1.1 = 6 ∨ it.1.1 = 7 ∨ it.1.1 = 8 ∨ it.1.1 = 9 ∨ it.1.1 = 10 ∨ it.1.1 = 11 ∨ it.1.1 = 12 := by omega
    -- ' ', [ ]
    have t01 : it.1.1 ≤ 1 → Ex (wp (d + 3)) m_M_goes Q 100 [some (vr 11 0), some (vi (pn : Nat)), some (vi (p : Nat)), some (vi x), some (vi b), none, none] [] σ := by
      intro hk
      obtain ⟨e1, e2⟩ := j8 hk
      unfold goM at kk
      rw [if_neg (by omega), if_neg (by omega), if_pos (by omega), match_lit hk] at kk
      have no2 : ¬ (p < e.1.2 ∧ it.2.1.1 ≤ e.2.1 p ∧ e.2.1 p ≤ it.2.1.2) → Ex (wp (d + 3)) m_M_goes Q 133 [some (vr 11 0), some (vi (pn : Nat)), some (vi (p : Nat)), some (vi x), some (vi b), none, none] [vi (p : Nat), vi (pn : Nat), vr 11 0] σ := by
        intro w
        rw [if_neg w] at kk
        refine x_iconst i_M_goes_133 ?_
        refine x_iload i_M_goes_134 rfl ?_
        refine x_cv4 i_M_goes_136 rfl rfl rfl ?_
        refine (no (by omega) kk b).mono ?_
        rintro r u ⟨z, rfl, hz, hQ⟩
        refine x_zret i_M_goes_139 rfl hz ?_
        exact hQ
      refine x_aload_n i_M_goes_100 rfl ?_
      refine x_iload_n i_M_goes_101 rfl ?_
      refine x_iload_n i_M_goes_102 rfl ?_
      refine x_iload_n i_M_goes_103 rfl ?_
      by_cases w : p < e.1.2
      · obtain ⟨rfl, rfl⟩ := hb1 w
        refine x_if_eq_f i_M_goes_104 (by decide) ?_
        refine x_iload i_M_goes_107 rfl ?_
        refine x_aload_n i_M_goes_109 rfl ?_
        refine x_getR (c2 := 13) i_M_goes_110 rfl rfl (hm _ _ rfl) ?_
        refine x_iload_n i_M_goes_113 rfl ?_
        refine x_iaload i_M_goes_114 rfl (lt_len hl rfl j5) ?_
        rw [e1]
        refine x_icmp_lt i_M_goes_115 (fun g1 => ?_) (fun g1 => ?_)
        · exact no2 (by omega)
        · refine x_iload i_M_goes_118 rfl ?_
          refine x_aload_n i_M_goes_120 rfl ?_
          refine x_getR (c2 := 13) i_M_goes_121 rfl rfl (hm _ _ rfl) ?_
          refine x_iload_n i_M_goes_124 rfl ?_
          refine x_iaload i_M_goes_125 rfl (lt_len hl rfl j5) ?_
          rw [e2]
          refine x_icmp_gt i_M_goes_126 (fun g2 => ?_) (fun g2 => ?_)
          · exact no2 (by omega)
          · rw [if_pos ⟨w, by omega, by omega⟩] at kk
            have hbp := (hby p w).2
            refine x_iconst i_M_goes_129 ?_
            refine x_goto i_M_goes_130 ?_
            refine x_iload i_M_goes_134 rfl ?_
            have := yes (e.2.1 p).toNat (by omega) w kk
            rw [show (((e.2.1 p).toNat : Nat) : Int) = e.2.1 p by omega] at this
            refine x_cv4 i_M_goes_136 rfl rfl rfl ?_
            refine this.mono ?_
            rintro r u ⟨z, rfl, hz, hQ⟩
            refine x_zret i_M_goes_139 rfl hz ?_
            exact hQ
      · obtain ⟨rfl, rfl⟩ := hb2 w
        refine x_if_eq_t i_M_goes_104 rfl ?_
        exact no2 (fun u => w u.1)
    rcases c0 with hk | hk | hk | hk | hk | hk | hk | hk | hk | hk | hk | hk | hk
    · rw [hk, show ((mKind 0 : Nat) : Int) = 0 from rfl]
      refine x_switch (off := 64) (tg := 100) i_M_goes_36 (by omega) rfl (by decide) ?_
      exact t01 (by omega)
    · rw [hk, show ((mKind 1 : Nat) : Int) = 1 from rfl]
      refine x_switch (off := 64) (tg := 100) i_M_goes_36 (by omega) rfl (by decide) ?_
      exact t01 (by omega)
    · rw [hk, show ((mKind 2 : Nat) : Int) = 2 from rfl]
      unfold goM at kk
      rw [if_neg (by omega), if_neg (by omega), if_pos (by omega), hk, match_digit] at kk
      have no2 : ¬ (p < e.1.2 ∧ 48 ≤ e.2.1 p ∧ e.2.1 p ≤ 57) → Ex (wp (d + 3)) m_M_goes Q 161 [some (vr 11 0), some (vi (pn : Nat)), some (vi (p : Nat)), some (vi x), some (vi b), none, none] [vi (p : Nat), vi (pn : Nat), vr 11 0] σ := by
        intro w
        rw [if_neg w] at kk
        refine x_iconst i_M_goes_161 ?_
        refine x_iload i_M_goes_162 rfl ?_
        refine x_bipush i_M_goes_164 ?_
        refine x_isub i_M_goes_166 (by omega) ?_
        refine x_cv4 i_M_goes_167 rfl rfl rfl ?_
        refine (no (by omega) kk _).mono ?_
        rintro r u ⟨z, rfl, hz, hQ⟩
        refine x_zret i_M_goes_170 rfl hz ?_
        exact hQ
      refine x_switch (off := 104) (tg := 140) i_M_goes_36 (by omega) rfl (by decide) ?_
      refine x_aload_n i_M_goes_140 rfl ?_
      refine x_iload_n i_M_goes_141 rfl ?_
      refine x_iload_n i_M_goes_142 rfl ?_
      refine x_iload i_M_goes_143 rfl ?_
      refine x_bipush i_M_goes_145 ?_
      refine x_icmp_lt i_M_goes_147 (fun g1 => ?_) (fun g1 => ?_)
      · refine no2 (fun u => ?_)
        rw [(hb1 u.1).2] at g1
        omega
      · refine x_iload i_M_goes_150 rfl ?_
        refine x_bipush i_M_goes_152 ?_
        refine x_icmp_gt i_M_goes_154 (fun g2 => ?_) (fun g2 => ?_)
        · refine no2 (fun u => ?_)
          rw [(hb1 u.1).2] at g2
          omega
        · have w : p < e.1.2 := Classical.byContradiction (fun u => by rw [(hb2 u).2] at g1; omega)
          obtain ⟨rfl, rfl⟩ := hb1 w
          rw [if_pos ⟨w, by omega, by omega⟩] at kk
          refine x_iconst i_M_goes_157 ?_
          refine x_goto i_M_goes_158 ?_
          refine x_iload i_M_goes_162 rfl ?_
          refine x_bipush i_M_goes_164 ?_
          refine x_isub i_M_goes_166 (by omega) ?_
          have := yes (e.2.1 p - 48).toNat (by omega) w kk
          rw [show (((e.2.1 p - 48).toNat : Nat) : Int) = e.2.1 p - 48 by omega] at this
          refine x_cv4 i_M_goes_167 rfl rfl rfl ?_
          refine this.mono ?_
          rintro r u ⟨z, rfl, hz, hQ⟩
          refine x_zret i_M_goes_170 rfl hz ?_
          exact hQ
    · rw [hk, show ((mKind 3 : Nat) : Int) = 3 from rfl]
      unfold goM at kk
      rw [if_neg (by omega), if_neg (by omega), if_pos (by omega), hk, match_any] at kk
      refine x_switch (off := 135) (tg := 171) i_M_goes_36 (by omega) rfl (by decide) ?_
      refine x_aload_n i_M_goes_171 rfl ?_
      refine x_iload_n i_M_goes_172 rfl ?_
      refine x_iload_n i_M_goes_173 rfl ?_
      refine x_iload_n i_M_goes_174 rfl ?_
      refine x_iload i_M_goes_175 rfl ?_
      by_cases w : p < e.1.2
      · obtain ⟨rfl, rfl⟩ := hb1 w
        rw [if_pos w] at kk
        have hbp := hby p w
        have := yes (e.2.1 p).toNat (by omega) w kk
        rw [show (((e.2.1 p).toNat : Nat) : Int) = e.2.1 p by omega] at this
        refine x_cv4 i_M_goes_177 rfl rfl rfl ?_
        refine this.mono ?_
        rintro r u ⟨z, rfl, hz, hQ⟩
        refine x_zret i_M_goes_180 rfl hz ?_
        exact hQ
      · obtain ⟨rfl, rfl⟩ := hb2 w
        rw [if_neg w] at kk
        refine x_cv4 i_M_goes_177 rfl rfl rfl ?_
        refine (no (by omega) kk _).mono ?_
        rintro r u ⟨z, rfl, hz, hQ⟩
        refine x_zret i_M_goes_180 rfl hz ?_
        exact hQ
    · rw [hk, show ((mKind 4 : Nat) : Int) = 4 from rfl]
      unfold goM at kk
      rw [if_neg (by omega), if_neg (by omega), if_pos (by omega), hk, match_end] at kk
      obtain ⟨e3, e4⟩ := j9 (by omega)
      refine x_switch (off := 145) (tg := 181) i_M_goes_36 (by omega) rfl (by decide) ?_
      refine x_iload_n i_M_goes_181 rfl ?_
      by_cases w : p < e.1.2
      · obtain ⟨rfl, rfl⟩ := hb1 w
        rw [if_pos w] at kk
        refine x_if_ne_t i_M_goes_182 (by decide) ?_
        refine x_aload_n i_M_goes_193 rfl ?_
        refine x_aload_n i_M_goes_194 rfl ?_
        refine x_getI i_M_goes_195 rfl rfl ?_
        rw [a3]
        refine x_iload_n i_M_goes_198 rfl ?_
        refine x_iconst i_M_goes_199 ?_
        refine x_aload_n i_M_goes_200 rfl ?_
        refine x_getR (c2 := 13) i_M_goes_201 rfl rfl (hm _ _ rfl) ?_
        refine x_iload_n i_M_goes_204 rfl ?_
        refine x_iaload i_M_goes_205 rfl (lt_len hl rfl j5) ?_
        rw [e3]
        refine x_ishl i_M_goes_206 ?_
        refine x_cv3 i_M_goes_207 rfl rfl rfl ?_
        refine c_M_expE h (by omega) hp hat e4 (fun σ1 h1 x1 => ?_)
        refine x_aload_n i_M_goes_210 rfl ?_
        refine x_iconst i_M_goes_211 ?_
        refine x_cv1 i_M_goes_212 rfl rfl rfl ?_
        refine c_M_fails (Or.inl rfl) ?_
        have y := psX1 σ1 0
        obtain ⟨z1, z2, z3⟩ := frX_lo x1
        have := kk _ N L tab cl kids own (OutM.plain (h1.set y) ((frX_mp x1).tr (psX_mp y)) (fun a j w1 w2 w3 => by rw [psX_ai y]; exact z1 a j w1 w2 w3) (by rw [psX_ai y]; exact z2) z3 (by show s0 + 1 ≤ st.1.1; omega) (by decide) (by decide) (by simp [FI_sFI, bI]) (fun w => absurd w n50) (Or.inl rfl) (fun a i ha => by rw [psX_ai y]; exact x1.1.2.2.1 _ _ _ (fun q => by have := q.2.2; omega)))
        refine x_zret i_M_goes_215 rfl (by omega) ?_
        exact this
      · obtain ⟨rfl, rfl⟩ := hb2 w
        rw [if_neg w] at kk
        refine x_if_ne_f i_M_goes_182 rfl ?_
        refine x_aload_n i_M_goes_185 rfl ?_
        refine x_iload_n i_M_goes_186 rfl ?_
        refine x_iconst i_M_goes_187 ?_
        refine x_iconst i_M_goes_188 ?_
        refine x_cv3 i_M_goes_189 rfl rfl rfl ?_
        refine c_M_doneHere h hs hp false ?_
        intro σ2 N2 L2 tab2 cl2 kids2 own2 ho
        have := kk σ2 N2 L2 tab2 cl2 kids2 own2 ho
        refine x_zret i_M_goes_192 rfl (retM_01 _) ?_
        exact this
    · rw [hk, show ((mKind 5 : Nat) : Int) = 5 from rfl]
      unfold goM at kk
      rw [if_neg (by omega), if_neg (by omega), if_neg (by omega), if_neg (by omega)] at kk
      refine x_switch (off := 259) (tg := 295) i_M_goes_36 (by omega) rfl (by decide) ?_
      exact g_not ha3 h hpr g hk (PostM.step hs kk)
    · rw [hk, show ((mKind 6 : Nat) : Int) = 6 from rfl]
      unfold goM at kk
      rw [if_neg (by omega), if_neg (by omega), if_neg (by omega), if_neg (by omega)] at kk
      refine x_switch (off := 333) (tg := 369) i_M_goes_36 (by omega) rfl (by decide) ?_
      exact g_as ha3 h hpr g hk (PostM.step hs kk)
    · rw [hk, show ((mKind 7 : Nat) : Int) = 7 from rfl]
      unfold goM at kk
      rw [if_neg (by omega), if_pos hk] at kk
      refine x_switch (off := 180) (tg := 216) i_M_goes_36 (by omega) rfl (by decide) ?_
      refine x_aload_n i_M_goes_216 rfl ?_
      refine x_iload_n i_M_goes_217 rfl ?_
      refine x_iconst i_M_goes_218 ?_
      refine x_iconst i_M_goes_219 ?_
      refine x_cv3 i_M_goes_220 rfl rfl rfl ?_
      refine c_M_doneHere h hs hp true ?_
      intro σ2 N2 L2 tab2 cl2 kids2 own2 ho
      have := kk σ2 N2 L2 tab2 cl2 kids2 own2 ho
      refine x_zret i_M_goes_223 rfl (retM_01 _) ?_
      exact this
    · rw [hk, show ((mKind 8 : Nat) : Int) = 8 from rfl]
      unfold goM at kk
      rw [if_neg (by omega), if_neg (by omega), if_neg (by omega), if_neg (by omega)] at kk
      refine x_switch (off := 212) (tg := 248) i_M_goes_36 (by omega) rfl (by decide) ?_
      exact g_try ha3 h hpr g hk (PostM.step hs kk)
    · rw [hk, show ((mKind 9 : Nat) : Int) = 9 from rfl]
      unfold goM at kk
      rw [if_neg (by omega), if_neg (by omega), if_neg (by omega), if_neg (by omega)] at kk
      refine x_switch (off := 233) (tg := 269) i_M_goes_36 (by omega) rfl (by decide) ?_
      exact g_look ha3 h hpr g hk (PostM.step hs kk)
    · rw [hk, show ((mKind 10 : Nat) : Int) = 12 from rfl]
      unfold goM at kk
      rw [if_neg (by omega), if_neg (by omega), if_neg (by omega), if_pos hk] at kk
      obtain ⟨a, b1, b2⟩ := j11 (by omega)
      obtain ⟨a', b3, b4⟩ := j12 hk
      refine x_switchD (tg := 471) i_M_goes_36 (by decide) (by decide) ?_
      refine x_aload_n i_M_goes_471 rfl ?_
      refine x_aload_n i_M_goes_472 rfl ?_
      refine x_getR (c2 := 13) i_M_goes_473 rfl rfl (hm _ _ rfl) ?_
      refine x_iload_n i_M_goes_476 rfl ?_
      refine x_iaload i_M_goes_477 rfl (lt_len hl rfl j5) ?_
      rw [b1]
      refine x_aload_n i_M_goes_478 rfl ?_
      refine x_getR (c2 := 13) i_M_goes_479 rfl rfl (hm _ _ rfl) ?_
      refine x_iload_n i_M_goes_482 rfl ?_
      refine x_iaload i_M_goes_483 rfl (lt_len hl rfl j5) ?_
      rw [b3]
      refine x_iload_n i_M_goes_484 rfl ?_
      refine x_cv3 i_M_goes_485 rfl rfl rfl ?_
      refine c_M_chain hdep (ha n) h b2 b4 hp (by omega) hde hat hN hL rfl rfl ?_
      intro σ2 N2 L2 tab2 cl2 kids2 own2 ho
      have := PostM.step hs kk σ2 N2 L2 tab2 cl2 kids2 own2 ho
      refine x_zret i_M_goes_488 rfl (retM_01 _) ?_
      exact this
    · rw [hk, show ((mKind 11 : Nat) : Int) = 11 from rfl]
      unfold goM at kk
      rw [if_neg (by omega), if_neg (by omega), if_neg (by omega), if_neg (by omega)] at kk
      refine x_switch (off := 200) (tg := 236) i_M_goes_36 (by omega) rfl (by decide) ?_
      exact g_group ha3 h hpr g hk (PostM.step hs kk)
    · rw [hk, show ((mKind 12 : Nat) : Int) = 10 from rfl]
      unfold goM at kk
      rw [if_pos hk] at kk
      obtain ⟨e1, e2, e3⟩ := j10 hk
      refine x_switch (off := 188) (tg := 224) i_M_goes_36 (by omega) rfl (by decide) ?_
      refine x_aload_n i_M_goes_224 rfl ?_
      refine x_aload_n i_M_goes_225 rfl ?_
      refine x_getR (c2 := 13) i_M_goes_226 rfl rfl (hm _ _ rfl) ?_
      refine x_iload_n i_M_goes_229 rfl ?_
      refine x_iaload i_M_goes_230 rfl (lt_len hl rfl j5) ?_
      rw [e1]
      refine x_iload_n i_M_goes_231 rfl ?_
      cases hv : st.2.2 (it.1.2.2 * 241 + p) with
      | none =>
        rw [hv] at kk
        refine x_cv2 i_M_goes_232 rfl rfl rfl ?_
        refine c_M_named (ha 9) h e2 e3 hp (by omega) hde hat hN hL hv ?_
        intro σ2 N2 L2 tab2 cl2 kids2 own2 ho
        have := PostM.step hs kk σ2 N2 L2 tab2 cl2 kids2 own2 ho
        refine x_zret i_M_goes_235 rfl (retM_01 _) ?_
        exact this
      | some v =>
        rw [hv] at kk
        refine x_cv2 i_M_goes_232 rfl rfl rfl ?_
        refine c_M_memo h hs hmem e2 hp hv ?_
        intro σ2 N2 L2 tab2 cl2 kids2 own2 ho
        have := kk σ2 N2 L2 tab2 cl2 kids2 own2 ho
        refine x_zret i_M_goes_235 rfl (retM_01 _) ?_
        exact this
  refine x_in (ls := [some _, some _, some _, none, none, none, none]) rfl rfl ?_
  refine x_iload_n i_M_goes_0 rfl ?_
  refine x_aload_n i_M_goes_1 rfl ?_
  refine x_getI i_M_goes_2 rfl rfl ?_
  rw [hsz]
  refine x_icmp_ge i_M_goes_5 (fun g1 => ?_) (fun g1 => ?_)
  · refine x_iconst i_M_goes_12 ?_
    refine x_istore_n (ls' := [_, _, _, _, _, _, _]) i_M_goes_13 rfl rfl ?_
    refine x_iload_n i_M_goes_14 rfl ?_
    refine x_if_eq_t i_M_goes_15 rfl ?_
    refine x_iconst i_M_goes_27 ?_
    refine x_istore (ls' := [_, _, _, _, _, _, _]) i_M_goes_28 rfl rfl ?_
    exact main 0 (-1) (fun w => by omega) (fun _ => ⟨rfl, rfl⟩)
  · have hp2 : p < e.1.2 := by omega
    refine x_iconst i_M_goes_8 ?_
    refine x_goto i_M_goes_9 ?_
    refine x_istore_n (ls' := [_, _, _, _, _, _, _]) i_M_goes_13 rfl rfl ?_
    refine x_iload_n i_M_goes_14 rfl ?_
    refine x_if_eq_f i_M_goes_15 (by decide) ?_
    refine x_aload_n i_M_goes_18 rfl ?_
    refine x_getR (c2 := 13) i_M_goes_19 rfl rfl (by assumption) ?_
    refine x_iload_n i_M_goes_22 rfl ?_
    refine x_iaload i_M_goes_23 (k := p) rfl (by rw [hln]; omega) ?_
    rw [(hby p hp2).1]
    refine x_goto i_M_goes_24 ?_
    refine x_istore (ls' := [_, _, _, _, _, _, _]) i_M_goes_28 rfl rfl ?_
    exact main 1 _ (fun _ => ⟨rfl, rfl⟩) (fun w => absurd hp2 w)
end


/-! THE LAW's loop -/
theorem iAnd_15 (x : Int) : 0 ≤ iAnd x 15 ∧ iAnd x 15 ≤ 15 := by
  unfold iAnd
  generalize Int32.ofInt x = y
  rw [show Int32.ofInt 15 = (15 : Int32) from rfl]
  have h1 : (y &&& 15).toBitVec = y.toBitVec &&& 15#32 := rfl
  have h2 : (y &&& 15).toInt = (y.toBitVec &&& 15#32).toInt := by rw [← h1]; rfl
  have h3 : (y.toBitVec &&& 15#32).toNat ≤ 15 := by
    rw [BitVec.toNat_and]
    exact Nat.and_le_right
  rw [h2, BitVec.toInt_eq_toNat_of_lt (by omega)]
  omega
theorem ar_s {a b c k e : Nat} (h : b ≤ e + k * c) (g : a ≤ b + k) : a ≤ e + k * (c + 1) := by
  rw [Nat.mul_succ, ← Nat.add_assoc]
  exact Nat.le_trans g (Nat.add_le_add_right h k)
/-- ahead of call c -/
def lwI (L : Nat) (X : Nat → Int) (c : Nat) (σ : AS) (S : SS) : Prop := clS σ S ∧ moS σ S ∧ okG S.2.1 ∧ occ σ ∧ (AI σ 18 0 = X ∧ LN σ 18 0 = L) ∧ nC σ ≤ 400 + 1024 * c ∧ nS σ ≤ 2000000 + 8192 * c
/-- the class has answered, the MODEL not yet -/
def mdI (L : Nat) (X : Nat → Int) (c : Nat) (σ : AS) (S' S : SS) : Prop := clS σ S' ∧ moS σ S ∧ okG S'.2.1 ∧ occ σ ∧ (AI σ 18 0 = X ∧ LN σ 18 0 = L) ∧ nC σ ≤ 400 + 1024 * (c + 1) ∧ nS σ ≤ 2000000 + 8192 * (c + 1)
theorem lwI.st {L : Nat} {X : Nat → Int} {c : Nat} {σ : AS} {S : SS} (h : lwI L X c σ S) : mdI L X c σ S S := by
  obtain ⟨h1, h2, h3, h4, h5, h6, h7⟩ := h
  exact ⟨h1, h2, h3, h4, h5, by omega, by omega⟩
theorem lwI.cls {L : Nat} {X : Nat → Int} {c : Nat} {σ σ1 : AS} {S S1 : SS} (h : lwI L X c σ S) (x : clX σ σ1) (n : noN σ σ1) (k : clS σ1 S1) (o : S1.2.1 = S.2.1) : mdI L X c σ1 S1 S := by
  obtain ⟨h1, h2, h3, h4, ⟨h5, h5'⟩, h6, h7⟩ := h
  obtain ⟨n1, n2, n3⟩ := n
  have x18 := x.2 18 0 (Or.inr (Or.inr (Or.inl rfl)))
  exact ⟨k, h2.keepC x, by rw [o]; exact h3, h4.mono (fun k => by rw [n1]; exact Nat.le_refl _), ⟨x18.1.trans h5, x18.2.2.trans h5'⟩, by omega, by omega⟩
theorem lwI.gr {L : Nat} {X : Nat → Int} {c : Nat} {σ σ1 : AS} {S S1 : SS} (h : lwI L X c σ S) (x : caX σ σ1) (k : clS σ1 S1) (o : okG S1.2.1) (n1 : nC σ1 ≤ nC σ + 1024) (n2 : nS σ1 ≤ nS σ + 8192) : mdI L X c σ1 S1 S := by
  obtain ⟨h1, h2, h3, h4, ⟨h5, h5'⟩, h6, h7⟩ := h
  have e1 : nC σ1 ≤ 400 + 1024 * (c + 1) := ar_s h6 n1
  have e2 : nS σ1 ≤ 2000000 + 8192 * (c + 1) := ar_s h7 n2
  exact ⟨k, x.1 S h2, o, h4.mono x.2.1, ⟨x.2.2.1.trans h5, x.2.2.2.trans h5'⟩, e1, e2⟩
theorem mdI.mo {L : Nat} {X : Nat → Int} {c : Nat} {σ σ1 : AS} {S S1 : SS} (h : mdI L X c σ S1 S) (x : moX σ σ1) (m : moS σ1 S1) : lwI L X (c + 1) σ1 S1 := by
  obtain ⟨h1, h2, h3, h4, ⟨h5, h5'⟩, h6, h7⟩ := h
  obtain ⟨x1, x2, x3, x4, x5, x6, x7, x8, x9⟩ := id x
  exact ⟨h1.keepM x, m, h3, h4.mono (fun k => by rw [x7]; exact Nat.le_refl _), ⟨(funext fun j => x4 18 0 j (by decide) (by decide)).trans h5, by rw [x6]; exact h5'⟩, by omega, by omega⟩
theorem gG_feed (S : SS) (n w : Int) : (doFeed S n w).2.2.1 = S.2.1 := by
  unfold doFeed
  split
  · rfl
  · split <;> rfl
theorem gG_parse (S : SS) (n w : Int) : (doParse S n w).2.2.1 = S.2.1 := by
  unfold doParse
  split <;> rfl
theorem gG_drawn (S : SS) (r z n m : Int) : (doDrawn S r z n m).2.2.1 = S.2.1 := by
  unfold doDrawn
  split <;> rfl
section
variable {L c : Nat} {X : Nat → Int} {σ : AS} {S : SS}
theorem L_feed (h : lwI L X c σ S) (w : 5 * c + 5 ≤ L) (hL0 : L ≤ 2560) (kk : ∀ σ' S', lwI L X (c + 1) σ' S' → Ex (wp 2042) m_L_law lawQ 422 [some (vr 18 0), some (vr 10 0), some (vr 11 0), some (vi ((5 * c : Nat) : Int))] [] σ') : Ex (wp 2042) m_L_law lawQ 96 [some (vr 18 0), some (vr 10 0), some (vr 11 0), some (vi ((5 * c : Nat) : Int))] [] σ := by
  obtain ⟨-, -, -, -, ⟨hA, hL⟩, -⟩ := id h
  refine x_aload_n i_L_law_96 rfl ?_
  refine x_aload_n i_L_law_97 rfl ?_
  refine x_iload_n i_L_law_98 rfl ?_
  refine x_iconst i_L_law_99 ?_
  refine x_iadd i_L_law_100 (by omega) ?_
  refine x_saload i_L_law_101 (k := 5 * c + 1) (by omega) (by rw [hL]; omega) ?_
  rw [hA]
  refine x_aload_n i_L_law_102 rfl ?_
  refine x_iload_n i_L_law_103 rfl ?_
  refine x_iconst i_L_law_104 ?_
  refine x_iadd i_L_law_105 (by omega) ?_
  refine x_saload i_L_law_106 (k := 5 * c + 2) (by omega) (by rw [hL]; omega) ?_
  rw [hA]
  refine x_cv2 i_L_law_107 rfl rfl rfl ?_
  refine c_CP_feed h.1 (fun σ1 x1 n1 k1 => ?_)
  have m := h.cls x1 n1 k1 (gG_feed _ _ _)
  obtain ⟨-, -, -, -, ⟨hA, hL⟩, -⟩ := id m
  refine x_aload_n i_L_law_110 rfl ?_
  refine x_aload_n i_L_law_111 rfl ?_
  refine x_iload_n i_L_law_112 rfl ?_
  refine x_iconst i_L_law_113 ?_
  refine x_iadd i_L_law_114 (by omega) ?_
  refine x_saload i_L_law_115 (k := 5 * c + 1) (by omega) (by rw [hL]; omega) ?_
  rw [hA]
  refine x_aload_n i_L_law_116 rfl ?_
  refine x_iload_n i_L_law_117 rfl ?_
  refine x_iconst i_L_law_118 ?_
  refine x_iadd i_L_law_119 (by omega) ?_
  refine x_saload i_L_law_120 (k := 5 * c + 2) (by omega) (by rw [hL]; omega) ?_
  rw [hA]
  refine x_cv2 i_L_law_121 rfl rfl rfl ?_
  refine c_M_feed m.2.1 (fun σ2 x2 k2 => ?_)
  refine x_icmp_eq_t i_L_law_124 rfl ?_
  exact kk σ2 _ (m.mo x2 k2)
theorem L_grammar (h : lwI L X c σ S) (w : 5 * c + 5 ≤ L) (hL0 : L ≤ 2560) (kk : ∀ σ' S', lwI L X (c + 1) σ' S' → Ex (wp 2042) m_L_law lawQ 422 [some (vr 18 0), some (vr 10 0), some (vr 11 0), some (vi ((5 * c : Nat) : Int))] [] σ') : Ex (wp 2042) m_L_law lawQ 129 [some (vr 18 0), some (vr 10 0), some (vr 11 0), some (vi ((5 * c : Nat) : Int))] [] σ := by
  obtain ⟨-, -, -, -, ⟨hA, hL⟩, -⟩ := id h
  refine x_aload_n i_L_law_129 rfl ?_
  refine x_cv0 i_L_law_130 rfl rfl rfl ?_
  refine c_CP_grammar h.1 h.2.2.2.1 (fun σ1 x1 k1 o1 n1 s1 => ?_)
  have m := h.gr x1 k1 (o1 h.2.2.1) n1 s1
  obtain ⟨-, -, -, -, ⟨hA, hL⟩, -⟩ := id m
  refine x_aload_n i_L_law_133 rfl ?_
  refine x_cv0 i_L_law_134 rfl rfl rfl ?_
  refine c_M_grammar m.2.1 (fun σ2 x2 k2 => ?_)
  refine x_icmp_eq_t i_L_law_137 rfl ?_
  exact kk σ2 _ (m.mo x2 k2)
theorem L_input (h : lwI L X c σ S) (w : 5 * c + 5 ≤ L) (hL0 : L ≤ 2560) (kk : ∀ σ' S', lwI L X (c + 1) σ' S' → Ex (wp 2042) m_L_law lawQ 422 [some (vr 18 0), some (vr 10 0), some (vr 11 0), some (vi ((5 * c : Nat) : Int))] [] σ') : Ex (wp 2042) m_L_law lawQ 142 [some (vr 18 0), some (vr 10 0), some (vr 11 0), some (vi ((5 * c : Nat) : Int))] [] σ := by
  obtain ⟨-, -, -, -, ⟨hA, hL⟩, -⟩ := id h
  refine x_aload_n i_L_law_142 rfl ?_
  refine x_cv0 i_L_law_143 rfl rfl rfl ?_
  refine c_CP_input h.1 (fun σ1 x1 n1 k1 => ?_)
  have m := h.cls x1 n1 k1 rfl
  obtain ⟨-, -, -, -, ⟨hA, hL⟩, -⟩ := id m
  refine x_aload_n i_L_law_146 rfl ?_
  refine x_cv0 i_L_law_147 rfl rfl rfl ?_
  refine c_M_input m.2.1 (fun σ2 x2 k2 => ?_)
  refine x_icmp_eq_t i_L_law_150 rfl ?_
  exact kk σ2 _ (m.mo x2 k2)
theorem L_parse (h : lwI L X c σ S) (w : 5 * c + 5 ≤ L) (hL0 : L ≤ 2560) (kk : ∀ σ' S', lwI L X (c + 1) σ' S' → Ex (wp 2042) m_L_law lawQ 422 [some (vr 18 0), some (vr 10 0), some (vr 11 0), some (vi ((5 * c : Nat) : Int))] [] σ') : Ex (wp 2042) m_L_law lawQ 155 [some (vr 18 0), some (vr 10 0), some (vr 11 0), some (vi ((5 * c : Nat) : Int))] [] σ := by
  obtain ⟨-, -, -, -, ⟨hA, hL⟩, -⟩ := id h
  refine x_aload_n i_L_law_155 rfl ?_
  refine x_aload_n i_L_law_156 rfl ?_
  refine x_iload_n i_L_law_157 rfl ?_
  refine x_iconst i_L_law_158 ?_
  refine x_iadd i_L_law_159 (by omega) ?_
  refine x_saload i_L_law_160 (k := 5 * c + 1) (by omega) (by rw [hL]; omega) ?_
  rw [hA]
  refine x_aload_n i_L_law_161 rfl ?_
  refine x_iload_n i_L_law_162 rfl ?_
  refine x_iconst i_L_law_163 ?_
  refine x_iadd i_L_law_164 (by omega) ?_
  refine x_saload i_L_law_165 (k := 5 * c + 2) (by omega) (by rw [hL]; omega) ?_
  rw [hA]
  refine x_cv2 i_L_law_166 rfl rfl rfl ?_
  refine wp.le (d := 251) (by decide) (c_CP_parse h.1 (fun σ1 x1 n1 k1 => ?_))
  have m := h.cls x1 n1 k1 (gG_parse _ _ _)
  obtain ⟨-, -, -, -, ⟨hA, hL⟩, -⟩ := id m
  refine x_aload_n i_L_law_169 rfl ?_
  refine x_aload_n i_L_law_170 rfl ?_
  refine x_iload_n i_L_law_171 rfl ?_
  refine x_iconst i_L_law_172 ?_
  refine x_iadd i_L_law_173 (by omega) ?_
  refine x_saload i_L_law_174 (k := 5 * c + 1) (by omega) (by rw [hL]; omega) ?_
  rw [hA]
  refine x_aload_n i_L_law_175 rfl ?_
  refine x_iload_n i_L_law_176 rfl ?_
  refine x_iconst i_L_law_177 ?_
  refine x_iadd i_L_law_178 (by omega) ?_
  refine x_saload i_L_law_179 (k := 5 * c + 2) (by omega) (by rw [hL]; omega) ?_
  rw [hA]
  refine x_cv2 i_L_law_180 rfl rfl rfl ?_
  refine wp.le (d := 2003) (by decide) (c_M_parse m.2.1 (fun σ2 x2 k2 => ?_))
  refine x_icmp_eq_t i_L_law_183 rfl ?_
  exact kk σ2 _ (m.mo x2 k2)
theorem L_told (h : lwI L X c σ S) (w : 5 * c + 5 ≤ L) (hL0 : L ≤ 2560) (kk : ∀ σ' S', lwI L X (c + 1) σ' S' → Ex (wp 2042) m_L_law lawQ 422 [some (vr 18 0), some (vr 10 0), some (vr 11 0), some (vi ((5 * c : Nat) : Int))] [] σ') : Ex (wp 2042) m_L_law lawQ 188 [some (vr 18 0), some (vr 10 0), some (vr 11 0), some (vi ((5 * c : Nat) : Int))] [] σ := by
  obtain ⟨-, -, -, -, ⟨hA, hL⟩, -⟩ := id h
  refine x_aload_n i_L_law_188 rfl ?_
  refine x_aload_n i_L_law_189 rfl ?_
  refine x_iload_n i_L_law_190 rfl ?_
  refine x_iconst i_L_law_191 ?_
  refine x_iadd i_L_law_192 (by omega) ?_
  refine x_saload i_L_law_193 (k := 5 * c + 1) (by omega) (by rw [hL]; omega) ?_
  rw [hA]
  refine x_cv1 i_L_law_194 rfl rfl rfl ?_
  refine c_CP_told h.1 ?_
  have m := h.st
  refine x_aload_n i_L_law_197 rfl ?_
  refine x_aload_n i_L_law_198 rfl ?_
  refine x_iload_n i_L_law_199 rfl ?_
  refine x_iconst i_L_law_200 ?_
  refine x_iadd i_L_law_201 (by omega) ?_
  refine x_saload i_L_law_202 (k := 5 * c + 1) (by omega) (by rw [hL]; omega) ?_
  rw [hA]
  refine x_cv1 i_L_law_203 rfl rfl rfl ?_
  refine c_M_told m.2.1 ?_
  refine x_icmp_eq_t i_L_law_206 rfl ?_
  exact kk σ _ (m.mo (moX.rf _) m.2.1)
theorem L_node (h : lwI L X c σ S) (w : 5 * c + 5 ≤ L) (hL0 : L ≤ 2560) (kk : ∀ σ' S', lwI L X (c + 1) σ' S' → Ex (wp 2042) m_L_law lawQ 422 [some (vr 18 0), some (vr 10 0), some (vr 11 0), some (vi ((5 * c : Nat) : Int))] [] σ') : Ex (wp 2042) m_L_law lawQ 211 [some (vr 18 0), some (vr 10 0), some (vr 11 0), some (vi ((5 * c : Nat) : Int))] [] σ := by
  obtain ⟨-, -, -, -, ⟨hA, hL⟩, -⟩ := id h
  refine x_aload_n i_L_law_211 rfl ?_
  refine x_aload_n i_L_law_212 rfl ?_
  refine x_iload_n i_L_law_213 rfl ?_
  refine x_iconst i_L_law_214 ?_
  refine x_iadd i_L_law_215 (by omega) ?_
  refine x_saload i_L_law_216 (k := 5 * c + 1) (by omega) (by rw [hL]; omega) ?_
  rw [hA]
  refine x_aload_n i_L_law_217 rfl ?_
  refine x_iload_n i_L_law_218 rfl ?_
  refine x_iconst i_L_law_219 ?_
  refine x_iadd i_L_law_220 (by omega) ?_
  refine x_saload i_L_law_221 (k := 5 * c + 2) (by omega) (by rw [hL]; omega) ?_
  rw [hA]
  refine x_cv2 i_L_law_222 rfl rfl rfl ?_
  refine c_CP_node h.1 ?_
  have m := h.st
  refine x_aload_n i_L_law_225 rfl ?_
  refine x_aload_n i_L_law_226 rfl ?_
  refine x_iload_n i_L_law_227 rfl ?_
  refine x_iconst i_L_law_228 ?_
  refine x_iadd i_L_law_229 (by omega) ?_
  refine x_saload i_L_law_230 (k := 5 * c + 1) (by omega) (by rw [hL]; omega) ?_
  rw [hA]
  refine x_aload_n i_L_law_231 rfl ?_
  refine x_iload_n i_L_law_232 rfl ?_
  refine x_iconst i_L_law_233 ?_
  refine x_iadd i_L_law_234 (by omega) ?_
  refine x_saload i_L_law_235 (k := 5 * c + 2) (by omega) (by rw [hL]; omega) ?_
  rw [hA]
  refine x_cv2 i_L_law_236 rfl rfl rfl ?_
  refine c_M_node m.2.1 ?_
  refine x_icmp_eq_t i_L_law_239 rfl ?_
  exact kk σ _ (m.mo (moX.rf _) m.2.1)
theorem L_worth (h : lwI L X c σ S) (w : 5 * c + 5 ≤ L) (hL0 : L ≤ 2560) (kk : ∀ σ' S', lwI L X (c + 1) σ' S' → Ex (wp 2042) m_L_law lawQ 422 [some (vr 18 0), some (vr 10 0), some (vr 11 0), some (vi ((5 * c : Nat) : Int))] [] σ') : Ex (wp 2042) m_L_law lawQ 244 [some (vr 18 0), some (vr 10 0), some (vr 11 0), some (vi ((5 * c : Nat) : Int))] [] σ := by
  obtain ⟨-, -, -, -, ⟨hA, hL⟩, -⟩ := id h
  refine x_aload_n i_L_law_244 rfl ?_
  refine x_cv0 i_L_law_245 rfl rfl rfl ?_
  refine c_CP_worth h.1 ?_
  have m := h.st
  refine x_aload_n i_L_law_248 rfl ?_
  refine x_cv0 i_L_law_249 rfl rfl rfl ?_
  refine wp.le (d := 2003) (by decide) (c_M_worth m.2.1 (fun σ2 x2 k2 => ?_))
  refine x_icmp_eq_t i_L_law_252 rfl ?_
  exact kk σ2 _ (m.mo x2 k2)
theorem L_text (h : lwI L X c σ S) (w : 5 * c + 5 ≤ L) (hL0 : L ≤ 2560) (kk : ∀ σ' S', lwI L X (c + 1) σ' S' → Ex (wp 2042) m_L_law lawQ 422 [some (vr 18 0), some (vr 10 0), some (vr 11 0), some (vi ((5 * c : Nat) : Int))] [] σ') : Ex (wp 2042) m_L_law lawQ 257 [some (vr 18 0), some (vr 10 0), some (vr 11 0), some (vi ((5 * c : Nat) : Int))] [] σ := by
  obtain ⟨-, -, -, -, ⟨hA, hL⟩, -⟩ := id h
  refine x_aload_n i_L_law_257 rfl ?_
  refine x_aload_n i_L_law_258 rfl ?_
  refine x_iload_n i_L_law_259 rfl ?_
  refine x_iconst i_L_law_260 ?_
  refine x_iadd i_L_law_261 (by omega) ?_
  refine x_saload i_L_law_262 (k := 5 * c + 1) (by omega) (by rw [hL]; omega) ?_
  rw [hA]
  refine x_cv1 i_L_law_263 rfl rfl rfl ?_
  refine c_CP_text h.1 (fun σ1 x1 n1 k1 => ?_)
  have m := h.cls x1 n1 k1 rfl
  obtain ⟨-, -, -, -, ⟨hA, hL⟩, -⟩ := id m
  refine x_aload_n i_L_law_266 rfl ?_
  refine x_aload_n i_L_law_267 rfl ?_
  refine x_iload_n i_L_law_268 rfl ?_
  refine x_iconst i_L_law_269 ?_
  refine x_iadd i_L_law_270 (by omega) ?_
  refine x_saload i_L_law_271 (k := 5 * c + 1) (by omega) (by rw [hL]; omega) ?_
  rw [hA]
  refine x_cv1 i_L_law_272 rfl rfl rfl ?_
  refine c_M_text m.2.1 ?_
  refine x_icmp_eq_t i_L_law_275 rfl ?_
  exact kk σ1 _ (m.mo (moX.rf _) m.2.1)
theorem L_rule (h : lwI L X c σ S) (w : 5 * c + 5 ≤ L) (hL0 : L ≤ 2560) (kk : ∀ σ' S', lwI L X (c + 1) σ' S' → Ex (wp 2042) m_L_law lawQ 422 [some (vr 18 0), some (vr 10 0), some (vr 11 0), some (vi ((5 * c : Nat) : Int))] [] σ') : Ex (wp 2042) m_L_law lawQ 280 [some (vr 18 0), some (vr 10 0), some (vr 11 0), some (vi ((5 * c : Nat) : Int))] [] σ := by
  obtain ⟨-, -, -, -, ⟨hA, hL⟩, -⟩ := id h
  refine x_aload_n i_L_law_280 rfl ?_
  refine x_aload_n i_L_law_281 rfl ?_
  refine x_iload_n i_L_law_282 rfl ?_
  refine x_iconst i_L_law_283 ?_
  refine x_iadd i_L_law_284 (by omega) ?_
  refine x_saload i_L_law_285 (k := 5 * c + 1) (by omega) (by rw [hL]; omega) ?_
  rw [hA]
  refine x_aload_n i_L_law_286 rfl ?_
  refine x_iload_n i_L_law_287 rfl ?_
  refine x_iconst i_L_law_288 ?_
  refine x_iadd i_L_law_289 (by omega) ?_
  refine x_saload i_L_law_290 (k := 5 * c + 2) (by omega) (by rw [hL]; omega) ?_
  rw [hA]
  refine x_cv2 i_L_law_291 rfl rfl rfl ?_
  refine c_CP_rule h.1 ?_
  have m := h.st
  refine x_aload_n i_L_law_294 rfl ?_
  refine x_aload_n i_L_law_295 rfl ?_
  refine x_iload_n i_L_law_296 rfl ?_
  refine x_iconst i_L_law_297 ?_
  refine x_iadd i_L_law_298 (by omega) ?_
  refine x_saload i_L_law_299 (k := 5 * c + 1) (by omega) (by rw [hL]; omega) ?_
  rw [hA]
  refine x_aload_n i_L_law_300 rfl ?_
  refine x_iload_n i_L_law_301 rfl ?_
  refine x_iconst i_L_law_302 ?_
  refine x_iadd i_L_law_303 (by omega) ?_
  refine x_saload i_L_law_304 (k := 5 * c + 2) (by omega) (by rw [hL]; omega) ?_
  rw [hA]
  refine x_cv2 i_L_law_305 rfl rfl rfl ?_
  refine c_M_rule m.2.1 ?_
  refine x_icmp_eq_t i_L_law_308 rfl ?_
  exact kk σ _ (m.mo (moX.rf _) m.2.1)
theorem L_atom (h : lwI L X c σ S) (w : 5 * c + 5 ≤ L) (hL0 : L ≤ 2560) (kk : ∀ σ' S', lwI L X (c + 1) σ' S' → Ex (wp 2042) m_L_law lawQ 422 [some (vr 18 0), some (vr 10 0), some (vr 11 0), some (vi ((5 * c : Nat) : Int))] [] σ') : Ex (wp 2042) m_L_law lawQ 313 [some (vr 18 0), some (vr 10 0), some (vr 11 0), some (vi ((5 * c : Nat) : Int))] [] σ := by
  obtain ⟨-, -, -, -, ⟨hA, hL⟩, -⟩ := id h
  refine x_aload_n i_L_law_313 rfl ?_
  refine x_aload_n i_L_law_314 rfl ?_
  refine x_iload_n i_L_law_315 rfl ?_
  refine x_iconst i_L_law_316 ?_
  refine x_iadd i_L_law_317 (by omega) ?_
  refine x_saload i_L_law_318 (k := 5 * c + 1) (by omega) (by rw [hL]; omega) ?_
  rw [hA]
  refine x_aload_n i_L_law_319 rfl ?_
  refine x_iload_n i_L_law_320 rfl ?_
  refine x_iconst i_L_law_321 ?_
  refine x_iadd i_L_law_322 (by omega) ?_
  refine x_saload i_L_law_323 (k := 5 * c + 2) (by omega) (by rw [hL]; omega) ?_
  rw [hA]
  refine x_cv2 i_L_law_324 rfl rfl rfl ?_
  refine c_CP_atom h.1 ?_
  have m := h.st
  refine x_aload_n i_L_law_327 rfl ?_
  refine x_aload_n i_L_law_328 rfl ?_
  refine x_iload_n i_L_law_329 rfl ?_
  refine x_iconst i_L_law_330 ?_
  refine x_iadd i_L_law_331 (by omega) ?_
  refine x_saload i_L_law_332 (k := 5 * c + 1) (by omega) (by rw [hL]; omega) ?_
  rw [hA]
  refine x_aload_n i_L_law_333 rfl ?_
  refine x_iload_n i_L_law_334 rfl ?_
  refine x_iconst i_L_law_335 ?_
  refine x_iadd i_L_law_336 (by omega) ?_
  refine x_saload i_L_law_337 (k := 5 * c + 2) (by omega) (by rw [hL]; omega) ?_
  rw [hA]
  refine x_cv2 i_L_law_338 rfl rfl rfl ?_
  refine c_M_atom_ m.2.1 ?_
  refine x_icmp_eq_t i_L_law_341 rfl ?_
  exact kk σ _ (m.mo (moX.rf _) m.2.1)
theorem L_drawn (h : lwI L X c σ S) (w : 5 * c + 5 ≤ L) (hL0 : L ≤ 2560) (kk : ∀ σ' S', lwI L X (c + 1) σ' S' → Ex (wp 2042) m_L_law lawQ 422 [some (vr 18 0), some (vr 10 0), some (vr 11 0), some (vi ((5 * c : Nat) : Int))] [] σ') : Ex (wp 2042) m_L_law lawQ 346 [some (vr 18 0), some (vr 10 0), some (vr 11 0), some (vi ((5 * c : Nat) : Int))] [] σ := by
  obtain ⟨-, -, -, -, ⟨hA, hL⟩, -⟩ := id h
  refine x_aload_n i_L_law_346 rfl ?_
  refine x_aload_n i_L_law_347 rfl ?_
  refine x_iload_n i_L_law_348 rfl ?_
  refine x_iconst i_L_law_349 ?_
  refine x_iadd i_L_law_350 (by omega) ?_
  refine x_saload i_L_law_351 (k := 5 * c + 1) (by omega) (by rw [hL]; omega) ?_
  rw [hA]
  refine x_aload_n i_L_law_352 rfl ?_
  refine x_iload_n i_L_law_353 rfl ?_
  refine x_iconst i_L_law_354 ?_
  refine x_iadd i_L_law_355 (by omega) ?_
  refine x_saload i_L_law_356 (k := 5 * c + 2) (by omega) (by rw [hL]; omega) ?_
  rw [hA]
  refine x_aload_n i_L_law_357 rfl ?_
  refine x_iload_n i_L_law_358 rfl ?_
  refine x_iconst i_L_law_359 ?_
  refine x_iadd i_L_law_360 (by omega) ?_
  refine x_saload i_L_law_361 (k := 5 * c + 3) (by omega) (by rw [hL]; omega) ?_
  rw [hA]
  refine x_aload_n i_L_law_362 rfl ?_
  refine x_iload_n i_L_law_363 rfl ?_
  refine x_iconst i_L_law_364 ?_
  refine x_iadd i_L_law_365 (by omega) ?_
  refine x_saload i_L_law_366 (k := 5 * c + 4) (by omega) (by rw [hL]; omega) ?_
  rw [hA]
  refine x_cv4 i_L_law_367 rfl rfl rfl ?_
  refine wp.le (d := 251) (by decide) (c_CP_drawn h.1 h.2.2.1 (fun σ1 x1 n1 k1 => ?_))
  have m := h.cls x1 n1 k1 (gG_drawn _ _ _ _ _)
  obtain ⟨-, -, -, -, ⟨hA, hL⟩, -⟩ := id m
  refine x_aload_n i_L_law_370 rfl ?_
  refine x_aload_n i_L_law_371 rfl ?_
  refine x_iload_n i_L_law_372 rfl ?_
  refine x_iconst i_L_law_373 ?_
  refine x_iadd i_L_law_374 (by omega) ?_
  refine x_saload i_L_law_375 (k := 5 * c + 1) (by omega) (by rw [hL]; omega) ?_
  rw [hA]
  refine x_aload_n i_L_law_376 rfl ?_
  refine x_iload_n i_L_law_377 rfl ?_
  refine x_iconst i_L_law_378 ?_
  refine x_iadd i_L_law_379 (by omega) ?_
  refine x_saload i_L_law_380 (k := 5 * c + 2) (by omega) (by rw [hL]; omega) ?_
  rw [hA]
  refine x_aload_n i_L_law_381 rfl ?_
  refine x_iload_n i_L_law_382 rfl ?_
  refine x_iconst i_L_law_383 ?_
  refine x_iadd i_L_law_384 (by omega) ?_
  refine x_saload i_L_law_385 (k := 5 * c + 3) (by omega) (by rw [hL]; omega) ?_
  rw [hA]
  refine x_aload_n i_L_law_386 rfl ?_
  refine x_iload_n i_L_law_387 rfl ?_
  refine x_iconst i_L_law_388 ?_
  refine x_iadd i_L_law_389 (by omega) ?_
  refine x_saload i_L_law_390 (k := 5 * c + 4) (by omega) (by rw [hL]; omega) ?_
  rw [hA]
  refine x_cv4 i_L_law_391 rfl rfl rfl ?_
  refine wp.le (d := 373) (by decide) (c_M_drawn m.2.1 h.2.2.1 (fun σ2 x2 k2 => ?_))
  refine x_icmp_eq_t i_L_law_394 rfl ?_
  exact kk σ2 _ (m.mo x2 k2)
theorem L_count (h : lwI L X c σ S) (w : 5 * c + 5 ≤ L) (hL0 : L ≤ 2560) (kk : ∀ σ' S', lwI L X (c + 1) σ' S' → Ex (wp 2042) m_L_law lawQ 422 [some (vr 18 0), some (vr 10 0), some (vr 11 0), some (vi ((5 * c : Nat) : Int))] [] σ') : Ex (wp 2042) m_L_law lawQ 399 [some (vr 18 0), some (vr 10 0), some (vr 11 0), some (vi ((5 * c : Nat) : Int))] [] σ := by
  obtain ⟨-, -, -, -, ⟨hA, hL⟩, -⟩ := id h
  refine x_aload_n i_L_law_399 rfl ?_
  refine x_aload_n i_L_law_400 rfl ?_
  refine x_iload_n i_L_law_401 rfl ?_
  refine x_iconst i_L_law_402 ?_
  refine x_iadd i_L_law_403 (by omega) ?_
  refine x_saload i_L_law_404 (k := 5 * c + 1) (by omega) (by rw [hL]; omega) ?_
  rw [hA]
  refine x_cv1 i_L_law_405 rfl rfl rfl ?_
  refine c_CP_count h.1 ?_
  have m := h.st
  refine x_aload_n i_L_law_408 rfl ?_
  refine x_aload_n i_L_law_409 rfl ?_
  refine x_iload_n i_L_law_410 rfl ?_
  refine x_iconst i_L_law_411 ?_
  refine x_iadd i_L_law_412 (by omega) ?_
  refine x_saload i_L_law_413 (k := 5 * c + 1) (by omega) (by rw [hL]; omega) ?_
  rw [hA]
  refine x_cv1 i_L_law_414 rfl rfl rfl ?_
  refine c_M_count m.2.1 ?_
  refine x_icmp_eq_t i_L_law_417 rfl ?_
  exact kk σ _ (m.mo (moX.rf _) m.2.1)
theorem L_call (h : lwI L X c σ S) (w : 5 * c + 5 ≤ L) (hL0 : L ≤ 2560) (kk : ∀ σ' S', lwI L X (c + 1) σ' S' → Ex (wp 2042) m_L_law lawQ 422 [some (vr 18 0), some (vr 10 0), some (vr 11 0), some (vi ((5 * c : Nat) : Int))] [] σ') : Ex (wp 2042) m_L_law lawQ 26 [some (vr 18 0), some (vr 10 0), some (vr 11 0), some (vi ((5 * c : Nat) : Int))] [] σ := by
  obtain ⟨-, -, -, -, ⟨hA, hL⟩, -⟩ := id h
  refine x_aload_n i_L_law_26 rfl ?_
  refine x_iload_n i_L_law_27 rfl ?_
  refine x_saload i_L_law_28 (k := 5 * c) rfl (by rw [hL]; omega) ?_
  rw [hA]
  refine x_bipush i_L_law_29 ?_
  refine x_iand i_L_law_31 ?_
  obtain ⟨v0, v1⟩ := iAnd_15 (X (5 * c))
  generalize iAnd (X (5 * c)) 15 = v at v0 v1
  have hk : v = 0 ∨ v = 1 ∨ v = 2 ∨ v = 3 ∨ v = 4 ∨ v = 5 ∨ v = 6 ∨ v = 7 ∨ v = 8 ∨ v = 9 ∨ v = 10 ∨ v = 11 ∨ 12 ≤ v := by omega
  rcases hk with rfl | rfl | rfl | rfl | rfl | rfl | rfl | rfl | rfl | rfl | rfl | rfl | hk
  · refine x_switch (off := 64) (tg := 96) i_L_law_32 (by omega) rfl (by decide) ?_
    exact L_feed h w hL0 kk
  · refine x_switch (off := 97) (tg := 129) i_L_law_32 (by omega) rfl (by decide) ?_
    exact L_grammar h w hL0 kk
  · refine x_switch (off := 110) (tg := 142) i_L_law_32 (by omega) rfl (by decide) ?_
    exact L_input h w hL0 kk
  · refine x_switch (off := 123) (tg := 155) i_L_law_32 (by omega) rfl (by decide) ?_
    exact L_parse h w hL0 kk
  · refine x_switch (off := 156) (tg := 188) i_L_law_32 (by omega) rfl (by decide) ?_
    exact L_told h w hL0 kk
  · refine x_switch (off := 179) (tg := 211) i_L_law_32 (by omega) rfl (by decide) ?_
    exact L_node h w hL0 kk
  · refine x_switch (off := 212) (tg := 244) i_L_law_32 (by omega) rfl (by decide) ?_
    exact L_worth h w hL0 kk
  · refine x_switch (off := 225) (tg := 257) i_L_law_32 (by omega) rfl (by decide) ?_
    exact L_text h w hL0 kk
  · refine x_switch (off := 248) (tg := 280) i_L_law_32 (by omega) rfl (by decide) ?_
    exact L_rule h w hL0 kk
  · refine x_switch (off := 281) (tg := 313) i_L_law_32 (by omega) rfl (by decide) ?_
    exact L_atom h w hL0 kk
  · refine x_switch (off := 314) (tg := 346) i_L_law_32 (by omega) rfl (by decide) ?_
    exact L_drawn h w hL0 kk
  · refine x_switch (off := 367) (tg := 399) i_L_law_32 (by omega) rfl (by decide) ?_
    exact L_count h w hL0 kk
  · refine x_switchD (tg := 422) i_L_law_32 (by omega) (by decide) ?_
    exact kk σ S (h.st.mo (moX.rf _) h.2.1)
end
theorem L_run {L : Nat} {X : Nat → Int} (hL0 : L ≤ 2560) : ∀ (m c : Nat) (σ : AS) (S : SS), L < 5 * (c + m) + 5 → 5 * c ≤ L → lwI L X c σ S → Ex (wp 2042) m_L_law lawQ 18 [some (vr 18 0), some (vr 10 0), some (vr 11 0), some (vi ((5 * c : Nat) : Int))] [] σ := by
  have done : ∀ (c : Nat) (σ : AS) (S : SS), 5 * c ≤ L → lwI L X c σ S → Ex (wp 2042) m_L_law lawQ 428 [some (vr 18 0), some (vr 10 0), some (vr 11 0), some (vi ((5 * c : Nat) : Int))] [] σ := by
    intro c σ S hc h
    obtain ⟨-, -, -, -, -, h6, h7⟩ := h
    refine x_iconst i_L_law_428 ?_
    refine x_zret i_L_law_429 rfl (Or.inr rfl) ?_
    exact ⟨rfl, by omega, by omega⟩
  intro m
  induction m with
  | zero =>
    intro c σ S hm hc h
    obtain ⟨-, -, -, -, ⟨hA, hL⟩, -⟩ := id h
    refine x_iload_n i_L_law_18 rfl ?_
    refine x_aload_n i_L_law_19 rfl ?_
    refine x_alen i_L_law_20 (by omega) ?_
    rw [hL]
    refine x_iconst i_L_law_21 ?_
    refine x_isub i_L_law_22 (by omega) ?_
    refine x_icmp_gt_t i_L_law_23 (by omega) ?_
    exact done c σ S hc h
  | succ m ih =>
    intro c σ S hm hc h
    obtain ⟨-, -, -, -, ⟨hA, hL⟩, -⟩ := id h
    refine x_iload_n i_L_law_18 rfl ?_
    refine x_aload_n i_L_law_19 rfl ?_
    refine x_alen i_L_law_20 (by omega) ?_
    rw [hL]
    refine x_iconst i_L_law_21 ?_
    refine x_isub i_L_law_22 (by omega) ?_
    by_cases w : 5 * c + 5 ≤ L
    · refine x_icmp_gt_f i_L_law_23 (by omega) ?_
      refine L_call h w hL0 (fun σ' S' h' => ?_)
      refine x_iinc (ls' := [_, _, _, _]) i_L_law_422 rfl (by omega) rfl ?_
      refine x_goto i_L_law_425 ?_
      rw [show ((5 * c : Nat) : Int) + 5 = ((5 * (c + 1) : Nat) : Int) by omega]
      exact ih (c + 1) σ' S' (by omega) (by omega) h'
    · refine x_icmp_gt_t i_L_law_23 (by omega) ?_
      exact done c σ S hc h
/-! THE LAW's start -/
theorem cpB.cl {τ : AS} (h : cpB τ) (k : cpK τ) (h77 : 77 ≤ CN τ 13) : clS τ SS0 := by
  obtain ⟨⟨f0, f1, f2, f3, f4, f5⟩, ⟨r0, r1, r2⟩, hr, hl, hg⟩ := h
  obtain ⟨k6, k13, k1, k15, k16, k2, k7, k9, k10⟩ := k
  obtain ⟨a1, a2, a3, a4, a5, a6, a7, a8, a9, a10, a11, a12, a13⟩ := hg
  have t0 : tpOK (0, fun _ => 0) := ⟨Nat.zero_le _, fun i hi => absurd hi (Nat.not_lt_zero _)⟩
  refine ⟨0, 1, 1, 1, 1, 21, 21, 22, 22, Or.inl ⟨rfl, rfl⟩, f0, f1, f2, f3, f4, f5, t0, t0, r0, r1, ⟨0, _, r2⟩, ⟨by omega, a1, by omega, a2, a3, by omega, a4, ⟨by omega, by omega, by omega, by omega⟩, ⟨Or.inl ⟨by omega, by omega⟩, by omega, Or.inl ⟨by omega, by omega⟩, by omega⟩, ⟨a5.1, a5.2.1, a5.2.2.1, a5.2.2.2.1, a5.2.2.2.2.1, fun k hk => a5.2.2.2.2.2 k hk⟩, ⟨a6.1, a6.2.1, a6.2.2.1, a6.2.2.2.1, a6.2.2.2.2.1, fun k hk => absurd hk (Nat.not_lt_zero _)⟩, a7, a8, fun r _ => a9 r, a10, a11, Nat.zero_le _, (fun i a hi => by cases hi), fun r hr => ?_, fun r hr => ?_⟩, hr, hl, by omega, h77⟩
  · rw [a12, bN_bit bN_0 hr]
    rfl
  · rw [a13, bN_bit bN_0 hr]
    rfl
theorem whole_law {L : Nat} {xs : Nat → Int32} (hL0 : L ≤ 2560) : Ex (wp 2042) m_L_law lawQ 0 [some (vr 18 0), none, none, none] [] (lawS L xs) := by
  obtain ⟨c1, n1, s1⟩ := @nO_old (lawS L xs) 10
  have e10 : CN (lawS L xs) 10 = 0 := rfl
  have cz : ∀ k, CN (lawS L xs) k = if k = 18 then 1 else 0 := fun _ => rfl
  have hz : ∀ k, CN (nO (lawS L xs) 10) k = if k = 10 ∨ k = 18 then 1 else 0 := by
    intro k
    rw [c1 k, cz k, cz 10]
    by_cases w : k = 10
    · subst w; simp
    · simp [w]
  have nz : nC (lawS L xs) = 0 := rfl
  have sz : nS (lawS L xs) = 0 := rfl
  have X0 : AI (nO (lawS L xs) 10) 18 0 = AI (lawS L xs) 18 0 := rfl
  have L0 : LN (nO (lawS L xs) 10) 18 0 = L := rfl
  have k10' : cF 10 = 6 := rfl
  refine x_new i_L_law_0 ?_
  refine x_dup i_L_law_3 ?_
  rw [e10]
  generalize nO (lawS L xs) 10 = τ0 at hz n1 s1 X0 L0
  refine x_ci0 i_L_law_4 rfl rfl rfl ?_
  refine c_CP_init hz (fun τ1 o1 b1 k1 a13 a11 a14 a17 a18 n2 s2 => ?_)
  obtain ⟨c2, n3, s3⟩ := @nO_old τ1 11
  have z2 : ∀ f, f / 100 = 11 → FI (nO τ1 11) f 0 = 0 := fun f hf => by rw [FI_nO, if_pos ⟨hf, a11.symm⟩]
  have x2 : newX τ1 (nO τ1 11) := newX_nO τ1 11
  have k11' : cF 11 = 84 := rfl
  refine x_astore_n (ls' := [_, _, _, _]) i_L_law_7 rfl rfl ?_
  refine x_new i_L_law_8 ?_
  refine x_dup i_L_law_11 ?_
  rw [a11]
  generalize nO τ1 11 = τ2 at c2 n3 s3 z2 x2
  refine x_ci0 i_L_law_12 rfl rfl rfl ?_
  refine c_M_init (by rw [c2 13, if_neg (by decide)]; exact a13) (by rw [c2 14, if_neg (by decide)]; exact a14) (by rw [c2 17, if_neg (by decide)]; exact a17) z2 (fun τ3 o3 m3 e13 e14 e17 ek n4 s4 => ?_)
  have kx : kpX (fun g x => g / 100 = 11 ∧ x = 0) τ1 τ3 := x2.kp.tr2 o3.kp (fun _ _ _ v => v)
  have b3 : cpB τ3 := b1.kp k1 kx (fun g x v => v.1)
  obtain ⟨q6, q13, q1, q15, q16, q2, q7, q9, q10⟩ := k1
  have ck : ∀ k, k ≠ 13 → k ≠ 14 → k ≠ 17 → k ≠ 11 → CN τ3 k = CN τ1 k := fun k w1 w2 w3 w4 => by rw [ek k w1 w2 w3, c2 k, if_neg w4]
  have k3 : cpK τ3 := ⟨by rw [ck 6 (by decide) (by decide) (by decide) (by decide)]; exact q6, by omega, by rw [ck 1 (by decide) (by decide) (by decide) (by decide)]; exact q1, by rw [ck 15 (by decide) (by decide) (by decide) (by decide)]; exact q15, by rw [ck 16 (by decide) (by decide) (by decide) (by decide)]; exact q16, by rw [ck 2 (by decide) (by decide) (by decide) (by decide)]; exact q2, by rw [ck 7 (by decide) (by decide) (by decide) (by decide)]; exact q7, by rw [ck 9 (by decide) (by decide) (by decide) (by decide)]; exact q9, by rw [ck 10 (by decide) (by decide) (by decide) (by decide)]; exact q10⟩
  have c11 : CN τ3 11 = 1 := by rw [ek 11 (by decide) (by decide) (by decide), c2 11, if_pos rfl, a11]
  have c18 : CN τ3 18 = 1 := by rw [ck 18 (by decide) (by decide) (by decide) (by decide)]; exact a18
  have hk3 := id k3
  obtain ⟨-, -, -, -, -, p2, p7, p9, p10⟩ := hk3
  have ho : occ τ3 := ⟨by omega, by omega, by omega, by omega, by omega, by omega, by omega, by omega⟩
  have o18 : 0 < CN τ0 18 := by rw [hz 18]; simp
  have o18' : 0 < CN τ1 18 := by omega
  have hX : AI τ3 18 0 = AI (lawS L xs) 18 0 := (funext fun j => ((kx.2.1 18 0 j o18').1.trans (o1.2.1 18 0 j o18).1)).trans X0
  have hL : LN τ3 18 0 = L := ((kx.2.2.1 18 0 o18').trans (o1.2.2.1 18 0 o18)).trans L0
  have hI : lwI L (AI (lawS L xs) 18 0) 0 τ3 SS0 := ⟨b3.cl k3 (by omega), m3, (fun a ha => by cases ha), ho, ⟨hX, hL⟩, by omega, by omega⟩
  refine x_astore_n (ls' := [_, _, _, _]) i_L_law_15 rfl rfl ?_
  refine x_iconst i_L_law_16 ?_
  refine x_istore_n (ls' := [_, _, _, _]) i_L_law_17 rfl rfl ?_
  exact L_run hL0 (L + 1) 0 τ3 SS0 (by omega) (by omega) hI


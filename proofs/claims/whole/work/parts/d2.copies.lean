/-! THE MODEL's grammar(): the old one kept beside -/
section
variable {d : Nat} {Q : AQ} {σ : AS}
theorem c_M_row (hm : mFld σ) {i : Nat} (hi : i < 10) (kk : Q (some (vr 13 (27 + i))) σ) : wp (d + 1) m_M_row [vr 11 0, vi (i : Nat)] σ Q := by
  have hk : i = 0 ∨ i = 1 ∨ i = 2 ∨ i = 3 ∨ i = 4 ∨ i = 5 ∨ i = 6 ∨ i = 7 ∨ i = 8 ∨ i = 9 := by omega
  refine x_in (ls := [some _, some _]) rfl rfl ?_
  refine x_iload_n i_M_row_0 rfl ?_
  rcases hk with rfl | rfl | rfl | rfl | rfl | rfl | rfl | rfl | rfl | rfl
  · refine x_switch (off := 51) (tg := 52) i_M_row_1 (by omega) rfl (by decide) ?_
    refine x_aload_n i_M_row_52 rfl ?_
    refine x_getR (c2 := 13) i_M_row_53 rfl rfl (hm _ _ rfl) ?_
    refine x_aret (c := 13) i_M_row_56 rfl ?_
    exact kk
  · refine x_switch (off := 56) (tg := 57) i_M_row_1 (by omega) rfl (by decide) ?_
    refine x_aload_n i_M_row_57 rfl ?_
    refine x_getR (c2 := 13) i_M_row_58 rfl rfl (hm _ _ rfl) ?_
    refine x_aret (c := 13) i_M_row_61 rfl ?_
    exact kk
  · refine x_switch (off := 61) (tg := 62) i_M_row_1 (by omega) rfl (by decide) ?_
    refine x_aload_n i_M_row_62 rfl ?_
    refine x_getR (c2 := 13) i_M_row_63 rfl rfl (hm _ _ rfl) ?_
    refine x_aret (c := 13) i_M_row_66 rfl ?_
    exact kk
  · refine x_switch (off := 66) (tg := 67) i_M_row_1 (by omega) rfl (by decide) ?_
    refine x_aload_n i_M_row_67 rfl ?_
    refine x_getR (c2 := 13) i_M_row_68 rfl rfl (hm _ _ rfl) ?_
    refine x_aret (c := 13) i_M_row_71 rfl ?_
    exact kk
  · refine x_switch (off := 71) (tg := 72) i_M_row_1 (by omega) rfl (by decide) ?_
    refine x_aload_n i_M_row_72 rfl ?_
    refine x_getR (c2 := 13) i_M_row_73 rfl rfl (hm _ _ rfl) ?_
    refine x_aret (c := 13) i_M_row_76 rfl ?_
    exact kk
  · refine x_switch (off := 76) (tg := 77) i_M_row_1 (by omega) rfl (by decide) ?_
    refine x_aload_n i_M_row_77 rfl ?_
    refine x_getR (c2 := 13) i_M_row_78 rfl rfl (hm _ _ rfl) ?_
    refine x_aret (c := 13) i_M_row_81 rfl ?_
    exact kk
  · refine x_switch (off := 81) (tg := 82) i_M_row_1 (by omega) rfl (by decide) ?_
    refine x_aload_n i_M_row_82 rfl ?_
    refine x_getR (c2 := 13) i_M_row_83 rfl rfl (hm _ _ rfl) ?_
    refine x_aret (c := 13) i_M_row_86 rfl ?_
    exact kk
  · refine x_switch (off := 86) (tg := 87) i_M_row_1 (by omega) rfl (by decide) ?_
    refine x_aload_n i_M_row_87 rfl ?_
    refine x_getR (c2 := 13) i_M_row_88 rfl rfl (hm _ _ rfl) ?_
    refine x_aret (c := 13) i_M_row_91 rfl ?_
    exact kk
  · refine x_switch (off := 91) (tg := 92) i_M_row_1 (by omega) rfl (by decide) ?_
    refine x_aload_n i_M_row_92 rfl ?_
    refine x_getR (c2 := 13) i_M_row_93 rfl rfl (hm _ _ rfl) ?_
    refine x_aret (c := 13) i_M_row_96 rfl ?_
    exact kk
  · refine x_switchD (tg := 97) i_M_row_1 (by omega) (by decide) ?_
    refine x_aload_n i_M_row_97 rfl ?_
    refine x_getR (c2 := 13) i_M_row_98 rfl rfl (hm _ _ rfl) ?_
    refine x_aret (c := 13) i_M_row_101 rfl ?_
    exact kk
def copI (S D : Nat) (σ σ' : AS) (i k : Nat) : Prop := fX (fun _ _ => False) (fun k a => k = 13 ∧ D ≤ a ∧ a ≤ D + 9) σ σ' ∧ ∀ i' k', i' < 10 → k' < 260 → (i' < i ∨ (i' = i ∧ k' < k)) → AI σ' 13 (D + i') k' = AI σ 13 (S + i') k'
theorem copI.set {S D : Nat} (hSD : S + 10 ≤ D ∨ D + 10 ≤ S) {σ σ' : AS} {i k : Nat} (h : copI S D σ σ' i k) (hi : i < 10) (hk : k < 260) : copI S D σ (sAI σ' 13 (D + i) k (AI σ' 13 (S + i) k)) i (k + 1) := by
  obtain ⟨h1, h2⟩ := h
  refine ⟨h1.tr (fX_sAI ⟨rfl, by omega, by omega⟩), fun i' k' w1 w2 w3 => ?_⟩
  rw [AI_sAI]
  by_cases e : i' = i ∧ k' = k
  · obtain ⟨rfl, rfl⟩ := e
    rw [if_pos ⟨rfl, rfl, rfl⟩, h1.2.2.1 _ _ _ (fun q => by omega)]
  · rw [if_neg (fun q => e ⟨by omega, by omega⟩)]
    exact h2 i' k' w1 w2 (by omega)
theorem copI.nx {S D : Nat} {σ σ' : AS} {i : Nat} (h : copI S D σ σ' i 260) : copI S D σ σ' (i + 1) 0 := ⟨h.1, fun i' k' w1 w2 w3 => h.2 i' k' w1 w2 (by omega)⟩
theorem modR.cop {S D : Nat} {σ σ' : AS} {i k : Nat} (h : copI S D σ σ' i k) (g : modR σ) : modR σ' := g.keep h.1
theorem besM.cop {S D : Nat} {σ σ' : AS} {i k : Nat} (h : copI S D σ σ' i k) (g : besM σ) : besM σ' := g.keep (by rw [h.1.2.1]) h.1.2.2.2.1 h.1.2.2.2.2.1
theorem M_copIn {S D : Nat} {b : Bool} (hb : (b = true ∧ S = 27 ∧ D = 64) ∨ (b = false ∧ S = 64 ∧ D = 27)) (hm0 : modR σ) (hbe0 : besM σ) {i : Nat} (hi : i < 10) (kk : ∀ σ2, copI S D σ σ2 (i + 1) 0 → Ex (wp d) m_M_copies Q 2 [some (vr 11 0), some (vi (bI b)), some (vi ((i + 1 : Nat) : Int)), none, none] [] σ2) : ∀ (n k : Nat) (σ1 : AS), k + n = 260 → copI S D σ σ1 i k → Ex (wp d) m_M_copies Q 17 [some (vr 11 0), some (vi (bI b)), some (vi (i : Nat)), some (vr 13 (27 + i)), some (vi (k : Nat))] [] σ1 := by
  intro n
  induction n with
  | zero =>
    intro k σ1 hk h
    have hk : k = 260 := by omega
    subst hk
    refine x_iload i_M_copies_17 rfl ?_
    refine x_sipush i_M_copies_19 ?_
    refine x_icmp_ge_t i_M_copies_22 (by omega) ?_
    refine x_iinc (ls' := [_, _, _, _, _]) i_M_copies_64 rfl (by omega) rfl ?_
    refine x_goto i_M_copies_67 ?_
    refine Ex.weak (ls := [_, _, _, none, none]) ⟨Or.inr rfl, Or.inr rfl, Or.inr rfl, Or.inl rfl, Or.inl rfl, trivial⟩ ?_
    exact kk σ1 h.nx
  | succ n ih =>
    intro k σ1 hk h
    have hmr := modR.cop h hm0
    obtain ⟨be1, be2, be3⟩ := besM.cop h hbe0
    obtain ⟨hm, hl, -⟩ := id hmr
    have hk2 : k < 260 := by omega
    have l27 : k < LN σ1 13 (27 + i) := by
      have : mLen (27 + i) = some 260 := by
        have hk : i = 0 ∨ i = 1 ∨ i = 2 ∨ i = 3 ∨ i = 4 ∨ i = 5 ∨ i = 6 ∨ i = 7 ∨ i = 8 ∨ i = 9 := by omega
        rcases hk with rfl | rfl | rfl | rfl | rfl | rfl | rfl | rfl | rfl | rfl <;> rfl
      rw [hl _ _ this]; exact hk2
    have b64 := be3 i (by omega)
    have l64 : k < LN σ1 13 (64 + i) := by rw [b64.2]; exact hk2
    have next : ∀ σ2, copI S D σ σ2 i (k + 1) → Ex (wp d) m_M_copies Q 58 [some (vr 11 0), some (vi (bI b)), some (vi (i : Nat)), some (vr 13 (27 + i)), some (vi (k : Nat))] [] σ2 := by
      intro σ2 h2
      refine x_iinc (ls' := [_, _, _, _, _]) i_M_copies_58 rfl (by omega) rfl ?_
      refine x_goto i_M_copies_61 ?_
      exact ih (k + 1) σ2 (by omega) h2
    have hs := h.set (by omega) hi hk2
    refine x_iload i_M_copies_17 rfl ?_
    refine x_sipush i_M_copies_19 ?_
    refine x_icmp_ge_f i_M_copies_22 (by omega) ?_
    refine x_iload_n i_M_copies_25 rfl ?_
    rcases hb with ⟨rfl, rfl, rfl⟩ | ⟨rfl, rfl, rfl⟩
    · refine x_if_eq_f i_M_copies_26 (by decide) ?_
      refine x_aload_n i_M_copies_29 rfl ?_
      refine x_getR (c2 := 17) i_M_copies_30 rfl rfl (hm _ _ rfl) ?_
      refine x_iload_n i_M_copies_33 rfl ?_
      refine x_aaload i_M_copies_34 (by omega) (k := i) rfl (by rw [be2]; omega) ?_
      rw [b64.1]
      refine x_iload i_M_copies_35 rfl ?_
      refine x_aload_n i_M_copies_37 rfl ?_
      refine x_iload i_M_copies_38 rfl ?_
      refine x_iaload i_M_copies_40 (k := k) rfl l27 ?_
      refine x_iastore i_M_copies_41 (k := k) rfl l64 ?_
      refine x_goto i_M_copies_42 ?_
      exact next _ hs
    · refine x_if_eq_t i_M_copies_26 rfl ?_
      refine x_aload_n i_M_copies_45 rfl ?_
      refine x_iload i_M_copies_46 rfl ?_
      refine x_aload_n i_M_copies_48 rfl ?_
      refine x_getR (c2 := 17) i_M_copies_49 rfl rfl (hm _ _ rfl) ?_
      refine x_iload_n i_M_copies_52 rfl ?_
      refine x_aaload i_M_copies_53 (by omega) (k := i) rfl (by rw [be2]; omega) ?_
      rw [b64.1]
      refine x_iload i_M_copies_54 rfl ?_
      refine x_iaload i_M_copies_56 (k := k) rfl l64 ?_
      refine x_iastore i_M_copies_57 (k := k) rfl l27 ?_
      exact next _ hs
theorem c_M_copies {S D : Nat} {b : Bool} (hb : (b = true ∧ S = 27 ∧ D = 64) ∨ (b = false ∧ S = 64 ∧ D = 27)) (hm0 : modR σ) (hbe0 : besM σ) (kk : ∀ σ', copI S D σ σ' 10 0 → Q none σ') : wp (d + 2) m_M_copies [vr 11 0, vi (bI b)] σ Q := by
  have loop : ∀ (n i : Nat) (σ1 : AS), i + n = 10 → copI S D σ σ1 i 0 → Ex (wp (d + 1)) m_M_copies Q 2 [some (vr 11 0), some (vi (bI b)), some (vi (i : Nat)), none, none] [] σ1 := by
    intro n
    induction n with
    | zero =>
      intro i σ1 hi h
      have hi : i = 10 := by omega
      subst hi
      refine x_iload_n i_M_copies_2 rfl ?_
      refine x_bipush i_M_copies_3 ?_
      refine x_icmp_ge_t i_M_copies_5 (by omega) ?_
      refine x_vret i_M_copies_70 rfl ?_
      exact kk σ1 h
    | succ n ih =>
      intro i σ1 hi h
      obtain ⟨hm, hl, -⟩ := modR.cop h hm0
      refine x_iload_n i_M_copies_2 rfl ?_
      refine x_bipush i_M_copies_3 ?_
      refine x_icmp_ge_f i_M_copies_5 (by omega) ?_
      refine x_aload_n i_M_copies_8 rfl ?_
      refine x_iload_n i_M_copies_9 rfl ?_
      refine x_cv1 i_M_copies_10 rfl rfl rfl ?_
      refine c_M_row hm (i := i) (by omega) ?_
      refine x_astore_n (ls' := [_, _, _, _, _]) i_M_copies_13 rfl rfl ?_
      refine x_iconst i_M_copies_14 ?_
      refine x_istore (ls' := [_, _, _, _, _]) i_M_copies_15 rfl rfl ?_
      exact M_copIn hb hm0 hbe0 (by omega) (fun σ2 h2 => ih (i + 1) σ2 (by omega) h2) 260 0 σ1 rfl h
  refine x_in (ls := [some _, some _, none, none, none]) rfl rfl ?_
  refine x_iconst i_M_copies_0 ?_
  refine x_istore_n (ls' := [_, _, _, _, _]) i_M_copies_1 rfl rfl ?_
  exact loop 10 0 σ rfl ⟨fX.rf _ _ _, fun i' k' w1 w2 w3 => by omega⟩
end
/-- only the first 260 count -/
theorem altM.keep2 {σ σ' : AS} {dn dn' : Nat → Prop} (h : ∀ a j, j < 260 → 27 ≤ a → a ≤ 36 → AI σ' 13 a j = AI σ 13 a j) (hd : ∀ r, dn r → dn' r) : ∀ (n : Nat) (alt : PT n) (a : Nat), altM σ dn n alt a → altM σ' dn' n alt a
  | 0, _, _, w => w
  | n + 1, alt, a, ⟨h1, h2, h3⟩ => by
    refine ⟨h1, h2, ?_⟩
    rw [h _ _ h1 (by decide) (by decide)]
    refine chnA.keepB (fun s k hs => ?_) _ _ h3
    obtain ⟨b1, b2, b3⟩ := hs
    refine ⟨⟨b1, b2, ?_⟩, h _ _ b1 (by decide) (by decide)⟩
    rw [h _ _ b1 (by decide) (by decide)]
    refine chnA.keepB (fun it i hi => ?_) _ _ b3
    obtain ⟨a1, a2, a3, a4, p, a5, a6, a7, a8, a9, a10, a11, a12⟩ := hi
    refine ⟨⟨a1, by rw [h _ _ a1 (by decide) (by decide)]; exact a2, a3, a4, p, a5, by rw [h _ _ a1 (by decide) (by decide)]; exact a6, by rw [h _ _ a5 (by decide) (by decide)]; exact a7, fun w => by rw [h _ _ a5 (by decide) (by decide), h _ _ a5 (by decide) (by decide)]; exact a8 w, fun w => by rw [h _ _ a5 (by decide) (by decide)]; exact a9 w, fun w => by rw [h _ _ a5 (by decide) (by decide)]; exact ⟨(a10 w).1, (a10 w).2.1, hd _ (a10 w).2.2⟩, fun w => ?_, fun w => ?_⟩, h _ _ a1 (by decide) (by decide)⟩
    · obtain ⟨c, c1, c2⟩ := a11 w
      exact ⟨c, by rw [h _ _ a5 (by decide) (by decide)]; exact c1, altM.keep2 h hd n _ _ c2⟩
    · obtain ⟨c, c1, c2⟩ := a12 w
      exact ⟨c, by rw [h _ _ a5 (by decide) (by decide)]; exact c1, altM.keep2 h hd n _ _ c2⟩


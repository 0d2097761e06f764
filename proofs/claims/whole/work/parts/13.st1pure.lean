section
variable {L : Nat} {xs : Nat → Int32} {σ : AS}
theorem sameS {ls : List (Option AV)} {st st' : List AV} (ok : okS L xs σ) (hl : okL σ ls) (h : okK σ st') : okS L xs σ ∧ okL σ ls ∧ okK σ st' ∧ Grow σ σ := ⟨ok, hl, h, Grow.rf σ⟩
set_option maxHeartbeats 4000000 in
theorem st1_pure {m pc len x y nx : Nat} {i : Jvm.ClassFile.Instr} {ls : List (Option AV)} {st : List AV} {f : AF} (hck : ckI m pc i len x y = true) (h : St1 pc i x y nx ls st σ f) (ok : okS L xs σ) (hl : okL σ ls) (hk : okK σ st) : okS L xs f.2.2.2 ∧ okL f.2.2.2 f.2.1 ∧ okK f.2.2.2 f.2.2.1 ∧ Grow σ f.2.2.2 := by
  cases i with
  | iconst n =>
    subst h
    simp only [ckI, Bool.and_eq_true, inR_iff] at hck
    exact ⟨ok, hl, okK_cons.mpr ⟨hck.2, hk⟩, Grow.rf σ⟩
  | bipush n =>
    subst h
    simp only [ckI, Bool.and_eq_true, inR_iff] at hck
    exact ⟨ok, hl, okK_cons.mpr ⟨hck.1.2, hk⟩, Grow.rf σ⟩
  | sipush n =>
    subst h
    simp only [ckI, Bool.and_eq_true, inR_iff] at hck
    exact ⟨ok, hl, okK_cons.mpr ⟨hck.1.2, hk⟩, Grow.rf σ⟩
  | ldc j =>
    subst h
    simp only [ckI, Bool.and_eq_true] at hck
    refine ⟨ok, hl, okK_cons.mpr ⟨?_, hk⟩, Grow.rf σ⟩
    by_cases hy : y = 0
    · rw [if_pos hy] at hck ⊢
      obtain ⟨e, he, -, -, e3⟩ := lkB_mem hck.2
      have := (ck_k e he).2
      show InR (x : Int)
      unfold InR; omega
    · rw [if_neg hy] at hck ⊢
      obtain ⟨e, he, h1⟩ := List.any_eq_true.mp hck.2
      simp only [Bool.and_eq_true, Nat.beq_eq] at h1
      have : ∀ e ∈ sId, e.1 < 10 := by decide +kernel
      show x < 10
      rw [← h1.1]; exact this e he
  | ldc_w j =>
    obtain ⟨hy, rfl⟩ := h
    simp only [ckI, Bool.and_eq_true] at hck
    refine ⟨ok, hl, okK_cons.mpr ⟨?_, hk⟩, Grow.rf σ⟩
    obtain ⟨e, he, -, -, e3⟩ := lkB_mem hck.2
    have := (ck_k e he).2
    show InR (x : Int)
    unfold InR; omega
  | aconst_null =>
    subst h
    exact ⟨ok, hl, okK_cons.mpr ⟨(fun a h => by cases h), hk⟩, Grow.rf σ⟩
  | iload_n k =>
    obtain ⟨v, hv, rfl⟩ := h
    exact ⟨ok, hl, okK_cons.mpr ⟨hl _ _ hv, hk⟩, Grow.rf σ⟩
  | iload k =>
    obtain ⟨v, hv, rfl⟩ := h
    exact ⟨ok, hl, okK_cons.mpr ⟨hl _ _ hv, hk⟩, Grow.rf σ⟩
  | aload_n k =>
    obtain ⟨v, hv, rfl⟩ := h
    exact ⟨ok, hl, okK_cons.mpr ⟨hl _ _ hv, hk⟩, Grow.rf σ⟩
  | aload k =>
    obtain ⟨v, hv, rfl⟩ := h
    exact ⟨ok, hl, okK_cons.mpr ⟨hl _ _ hv, hk⟩, Grow.rf σ⟩
  | istore_n k =>
    obtain ⟨v, t, rfl, hlt, rfl⟩ := h
    obtain ⟨hv, hk⟩ := okK_cons.mp hk
    exact ⟨ok, okL_set hl hv, hk, Grow.rf σ⟩
  | istore k =>
    obtain ⟨v, t, rfl, hlt, rfl⟩ := h
    obtain ⟨hv, hk⟩ := okK_cons.mp hk
    exact ⟨ok, okL_set hl hv, hk, Grow.rf σ⟩
  | astore_n k =>
    obtain ⟨v, t, rfl, hlt, rfl⟩ := h
    obtain ⟨hv, hk⟩ := okK_cons.mp hk
    exact ⟨ok, okL_set hl hv, hk, Grow.rf σ⟩
  | astore k =>
    obtain ⟨v, t, rfl, hlt, rfl⟩ := h
    obtain ⟨hv, hk⟩ := okK_cons.mp hk
    exact ⟨ok, okL_set hl hv, hk, Grow.rf σ⟩
  | iinc k n =>
    obtain ⟨v, hv, rfl⟩ := h
    exact ⟨ok, okL_set hl (inr_wr _), hk, Grow.rf σ⟩
  | dup =>
    obtain ⟨v, t, rfl, rfl⟩ := h
    exact ⟨ok, hl, okK_cons.mpr ⟨(okK_cons.mp hk).1, hk⟩, Grow.rf σ⟩
  | dup2 =>
    obtain ⟨v, w, t, rfl, rfl⟩ := h
    exact ⟨ok, hl, okK_cons.mpr ⟨(okK_cons.mp hk).1, okK_cons.mpr ⟨(okK_cons.mp (okK_cons.mp hk).2).1, hk⟩⟩, Grow.rf σ⟩
  | pop =>
    obtain ⟨v, t, rfl, rfl⟩ := h
    exact ⟨ok, hl, (okK_cons.mp hk).2, Grow.rf σ⟩
  | iadd =>
    obtain ⟨a, b, t, rfl, rfl⟩ := h
    exact ⟨ok, hl, okK_cons.mpr ⟨inr_wr _, (okK_cons.mp (okK_cons.mp hk).2).2⟩, Grow.rf σ⟩
  | isub =>
    obtain ⟨a, b, t, rfl, rfl⟩ := h
    exact ⟨ok, hl, okK_cons.mpr ⟨inr_wr _, (okK_cons.mp (okK_cons.mp hk).2).2⟩, Grow.rf σ⟩
  | imul =>
    obtain ⟨a, b, t, rfl, rfl⟩ := h
    exact ⟨ok, hl, okK_cons.mpr ⟨inr_wr _, (okK_cons.mp (okK_cons.mp hk).2).2⟩, Grow.rf σ⟩
  | idiv =>
    obtain ⟨a, b, t, rfl, -, rfl⟩ := h
    exact ⟨ok, hl, okK_cons.mpr ⟨inr_toInt _, (okK_cons.mp (okK_cons.mp hk).2).2⟩, Grow.rf σ⟩
  | irem =>
    obtain ⟨a, b, t, rfl, -, rfl⟩ := h
    exact ⟨ok, hl, okK_cons.mpr ⟨inr_toInt _, (okK_cons.mp (okK_cons.mp hk).2).2⟩, Grow.rf σ⟩
  | iand =>
    obtain ⟨a, b, t, rfl, rfl⟩ := h
    exact ⟨ok, hl, okK_cons.mpr ⟨inr_toInt _, (okK_cons.mp (okK_cons.mp hk).2).2⟩, Grow.rf σ⟩
  | ior =>
    obtain ⟨a, b, t, rfl, rfl⟩ := h
    exact ⟨ok, hl, okK_cons.mpr ⟨inr_toInt _, (okK_cons.mp (okK_cons.mp hk).2).2⟩, Grow.rf σ⟩
  | ishl =>
    obtain ⟨a, b, t, rfl, rfl⟩ := h
    exact ⟨ok, hl, okK_cons.mpr ⟨inr_toInt _, (okK_cons.mp (okK_cons.mp hk).2).2⟩, Grow.rf σ⟩
  | ishr =>
    obtain ⟨a, b, t, rfl, rfl⟩ := h
    exact ⟨ok, hl, okK_cons.mpr ⟨inr_toInt _, (okK_cons.mp (okK_cons.mp hk).2).2⟩, Grow.rf σ⟩
  | iushr =>
    obtain ⟨a, b, t, rfl, rfl⟩ := h
    exact ⟨ok, hl, okK_cons.mpr ⟨inr_toInt _, (okK_cons.mp (okK_cons.mp hk).2).2⟩, Grow.rf σ⟩
  | ifCond c o =>
    obtain ⟨a, t, rfl, ⟨-, rfl⟩ | ⟨-, rfl⟩⟩ := h
    all_goals exact ⟨ok, hl, (okK_cons.mp hk).2, Grow.rf σ⟩
  | if_icmp c o =>
    obtain ⟨a, b, t, rfl, ⟨-, rfl⟩ | ⟨-, rfl⟩⟩ := h
    all_goals exact ⟨ok, hl, (okK_cons.mp (okK_cons.mp hk).2).2, Grow.rf σ⟩
  | ifnull o =>
    obtain ⟨c, r, t, rfl, ⟨-, rfl⟩ | ⟨-, rfl⟩⟩ := h
    all_goals exact ⟨ok, hl, (okK_cons.mp hk).2, Grow.rf σ⟩
  | ifnonnull o =>
    obtain ⟨c, r, t, rfl, ⟨-, rfl⟩ | ⟨-, rfl⟩⟩ := h
    all_goals exact ⟨ok, hl, (okK_cons.mp hk).2, Grow.rf σ⟩
  | goto o =>
    subst h
    exact ⟨ok, hl, hk, Grow.rf σ⟩
  | tableswitch d lo hi os =>
    obtain ⟨a, t, off, tg, rfl, -, -, rfl⟩ := h
    exact ⟨ok, hl, (okK_cons.mp hk).2, Grow.rf σ⟩
  | getfield j =>
    obtain ⟨a, t, rfl, rfl⟩ := h
    exact ⟨ok, hl, okK_cons.mpr ⟨okV_gF ok _ _, (okK_cons.mp hk).2⟩, Grow.rf σ⟩
  | putfield j =>
    obtain ⟨v, a, t, rfl, hp, rfl⟩ := h
    obtain ⟨hv, hk2⟩ := okK_cons.mp hk
    have hk3 := (okK_cons.mp hk2).2
    clear hk hk2
    rcases v with n | ⟨c, r⟩ | k
    · exact ⟨okS_sFI ok hv, hl, hk3, Grow.rf σ⟩
    · refine ⟨okS_sFR ok ?_, hl, hk3, Grow.rf σ⟩
      intro r' e
      subst e
      obtain ⟨h2, h | h⟩ := hp
      · cases h
      · rw [h]; exact hv r' rfl
    · exact hp.elim
  | iaload =>
    obtain ⟨j, c, a, t, rfl, -, -, -, rfl⟩ := h
    exact ⟨ok, hl, okK_cons.mpr ⟨ok.2.2.1 _ _ _, (okK_cons.mp (okK_cons.mp hk).2).2⟩, Grow.rf σ⟩
  | baload =>
    obtain ⟨j, a, t, rfl, -, -, rfl⟩ := h
    exact ⟨ok, hl, okK_cons.mpr ⟨ok.2.2.1 _ _ _, (okK_cons.mp (okK_cons.mp hk).2).2⟩, Grow.rf σ⟩
  | aaload =>
    obtain ⟨j, c, a, t, rfl, -, -, -, rfl⟩ := h
    exact ⟨ok, hl, okK_cons.mpr ⟨fun r h => ok.2.2.2.1 _ _ _ _ h, (okK_cons.mp (okK_cons.mp hk).2).2⟩, Grow.rf σ⟩
  | iastore =>
    obtain ⟨v, j, a, t, rfl, -, -, rfl⟩ := h
    obtain ⟨hv, hk⟩ := okK_cons.mp hk
    exact ⟨okS_sAI ok hv (by omega), hl, (okK_cons.mp (okK_cons.mp hk).2).2, Grow.rf σ⟩
  | bastore =>
    obtain ⟨v, j, a, t, rfl, -, -, -, rfl⟩ := h
    obtain ⟨hv, hk⟩ := okK_cons.mp hk
    exact ⟨okS_sAI ok hv (by omega), hl, (okK_cons.mp (okK_cons.mp hk).2).2, Grow.rf σ⟩
  | aastore =>
    obtain ⟨v, j, c, a, t, rfl, -, -, -, rfl⟩ := h
    obtain ⟨hv, hk⟩ := okK_cons.mp hk
    exact ⟨okS_sAR ok (hv v rfl), hl, (okK_cons.mp (okK_cons.mp hk).2).2, Grow.rf σ⟩
  | arraylength =>
    obtain ⟨c, a, t, rfl, -, rfl⟩ := h
    exact ⟨ok, hl, okK_cons.mpr ⟨inr_nat (ok.2.2.2.2.1 _ _), (okK_cons.mp hk).2⟩, Grow.rf σ⟩
  | newarray ty =>
    obtain ⟨n, t, rfl, h0, h1, rfl⟩ := h
    simp only [ckI, Bool.and_eq_true, Bool.or_eq_true, Nat.beq_eq] at hck
    have hg := grow_nA (σ := σ) x n.toNat
    refine ⟨okS_nA ok ?_ (by omega), okL_le hg.1 hl, okK_cons.mpr ⟨?_, okK_le hg.1 (okK_cons.mp hk).2⟩, hg⟩
    · rcases hck.2 with h | h <;> omega
    · intro a h
      cases h
      show CN σ x < CN (nA σ x n.toNat) x
      rw [CN_nA, if_pos rfl]
      omega
  | anewarray j =>
    obtain ⟨n, t, rfl, h0, h1, rfl⟩ := h
    simp only [ckI, Bool.and_eq_true, Bool.or_eq_true, Nat.beq_eq] at hck
    have hg := grow_nA (σ := σ) x n.toNat
    refine ⟨okS_nA ok ?_ (by omega), okL_le hg.1 hl, okK_cons.mpr ⟨?_, okK_le hg.1 (okK_cons.mp hk).2⟩, hg⟩
    · rcases hck.2 with h | h <;> omega
    · intro a h
      cases h
      show CN σ x < CN (nA σ x n.toNat) x
      rw [CN_nA, if_pos rfl]
      omega
  | multianewarray j d =>
    obtain ⟨n, k, t, rfl, h0, h1, h2, h3, rfl⟩ := h
    obtain ⟨hs, hg⟩ := okS_nM (n := n.toNat) (k := k.toNat) ok (by omega) (by omega)
    refine ⟨hs, okL_le hg.1 hl, okK_cons.mpr ⟨?_, okK_le hg.1 (okK_cons.mp (okK_cons.mp hk).2).2⟩, hg⟩
    intro a h
    cases h
    show CN σ 17 < CN (nRows (nA σ 17 n.toNat) n.toNat k.toNat) 17
    rw [CN_nRows, if_neg (by omega), CN_nA, if_pos rfl]
    omega
  | new j =>
    subst h
    simp only [ckI, Bool.and_eq_true] at hck
    obtain ⟨e, he, -, -, e3⟩ := lkB_mem hck.2
    have hc : x < 12 := by rw [← e3]; exact (ck_c e he).1
    have hg := grow_nO (σ := σ) x
    refine ⟨okS_nO ok hc, okL_le hg.1 hl, okK_cons.mpr ⟨?_, okK_le hg.1 hk⟩, hg⟩
    intro a h
    cases h
    show CN σ x < CN (nO σ x) x
    rw [CN_nO, if_pos rfl]
    omega
  | invokevirtual j =>
    rcases h with ⟨-, k, t, rfl, -, rfl⟩ | ⟨-, n, k, t, rfl, -, -, -, rfl⟩
    · exact ⟨ok, hl, okK_cons.mpr ⟨inr_nat (sL_le k), (okK_cons.mp hk).2⟩, Grow.rf σ⟩
    · exact ⟨ok, hl, okK_cons.mpr ⟨inr_nat (sC_le _ _), (okK_cons.mp (okK_cons.mp hk).2).2⟩, Grow.rf σ⟩
  | invokespecial j =>
    obtain ⟨-, c, a, t, rfl, -, rfl⟩ := h
    exact ⟨ok, hl, (okK_cons.mp hk).2, Grow.rf σ⟩
  | _ => exact h.elim
end

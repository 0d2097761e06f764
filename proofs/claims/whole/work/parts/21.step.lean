section
variable {p : Program} {l : Launch} {e : Env} {R : Room} {s : State} {m : MethodId} {args : Array Value} {below : List Frame} {meth : Method} {c : Code} {H : Heap} {locs : List Loc} {Q : State → Prop}
variable {D : va_G} {ty : Nat → ClassId} {B : Nat} {sa sv : Nat → Nat} {b L : Nat} {xs : Nat → Int32} {σ : AS} {ad : Nat → Nat → Nat} {al : List (Nat × Nat)} {mls : Array Slot} {mm n0 s0 : Nat}
theorem oI_i0 {a : Int} (ha : InR a) : (Int32.ofInt a = 0 ↔ a = 0) ∧ (Int32.ofInt a < 0 ↔ a < 0) ∧ (0 ≤ Int32.ofInt a ↔ 0 ≤ a) ∧ (0 < Int32.ofInt a ↔ 0 < a) ∧ (Int32.ofInt a ≤ 0 ↔ a ≤ 0) := by
  rw [oI_0]
  exact ⟨oI_eq ha inr_0, oI_lt ha inr_0, oI_le inr_0 ha, oI_lt inr_0 ha, oI_le ha inr_0⟩
theorem ck_objm : Cond.instanceMethod objectInit ∈ WW := WW_in (k := 120) (by decide +kernel) rfl
theorem ck_objc : Cond.code objectInit ⟨#[0xb1]⟩ 1 none ∈ WW := WW_in (k := 121) (by decide +kernel) rfl
set_option maxHeartbeats 16000000 in
set_option maxRecDepth 100000 in
theorem st1_ok {pc len x y nx : Nat} {i : Jvm.ClassFile.Instr} {ls : List (Option AV)} {st : List AV} {f : AF} (hc : Ctx mm p s m args meth c D ty B sa sv b L xs) (hi : ins mm pc = some (i, len, x, y, nx)) (h : St1 pc i x y nx ls st σ f) (ok : okS L xs σ) (hl0 : okL σ ls) (hk0 : okK σ st) (hR : Rep D ty B σ ad al H) (hS : va_S (fun q => B ≤ q) s.heap H locs) (hl : LR ad sa mls (mL mm) ls) (h18 : ad 18 0 = b) (hn : n0 ≤ nC σ) (hs0 : s0 ≤ nS σ) (hr1 : nC f.2.2.2 - n0 ≤ R.cells) (hr2 : nS f.2.2.2 - s0 ≤ R.slots) (hfr : 5 ≤ R.frames) (hlo : 200 ≤ R.locals)
    (kk : ∀ al' ad' H' locs' mls', Rep D ty B f.2.2.2 ad' al' H' → va_S (fun q => B ≤ q) s.heap H' locs' → LR ad' sa mls' (mL mm) f.2.1 → adX σ ad ad' → W p l e R s m args below meth c H' locs' (nC f.2.2.2 - n0) (nS f.2.2.2 - s0) Q (F0 m f.1 mls' (f.2.2.1.map (vV ad' sa)))) :
    W p l e R s m args below meth c H locs (nC σ - n0) (nS σ - s0) Q (F0 m pc mls (st.map (vV ad sa))) := by
  obtain ⟨hmm, hdec, rfl, hck⟩ := ck_all hi
  have hcx := hc
  obtain ⟨hx, hb, hml, hown, hts, hE, hB, hin⟩ := hc
  cases i with
  | iconst n =>
    obtain rfl : len = 1 := by simp only [ckI, Bool.and_eq_true, Nat.beq_eq] at hck; exact hck.1
    subst h
    exact lv_iconst hx hb hdec rfl (kk al ad H locs mls hR hS hl (adX_refl σ ad))
  | bipush n =>
    have hv : (Int8.ofInt n).toInt32 = Int32.ofInt n := by simp only [ckI, Bool.and_eq_true, decide_eq_true_eq] at hck; exact hck.2
    obtain rfl : len = 2 := by simp only [ckI, Bool.and_eq_true, Nat.beq_eq] at hck; exact hck.1.1
    subst h
    exact lv_bipush hx hb hdec hv (kk al ad H locs mls hR hS hl (adX_refl σ ad))
  | sipush n =>
    have hv : (Int16.ofInt n).toInt32 = Int32.ofInt n := by simp only [ckI, Bool.and_eq_true, decide_eq_true_eq] at hck; exact hck.2
    obtain rfl : len = 3 := by simp only [ckI, Bool.and_eq_true, Nat.beq_eq] at hck; exact hck.1.1
    subst h
    exact lv_sipush hx hb hdec hv (kk al ad H locs mls hR hS hl (adX_refl σ ad))
  | ldc j =>
    have hz := hck
    obtain rfl : len = 2 := by simp only [ckI, Bool.and_eq_true, Nat.beq_eq] at hck; exact hck.1
    simp only [ckI, Bool.and_eq_true] at hz
    subst h
    by_cases hy : y = 0
    · have hz2 := hz.2
      rw [if_pos hy] at hz2
      obtain ⟨q, hq, e1, e2, e3⟩ := lkB_mem hz2
      have hw := (ck_k q hq).1
      rw [e1, e2, e3] at hw
      have k2 := kk al ad H locs mls hR hS hl (adX_refl σ ad)
      dsimp only at k2
      rw [if_pos hy] at k2
      exact lv_ldc hx hb hown (hts _ (WW_in hw rfl)) hdec k2
    · have hz2 := hz.2
      rw [if_neg hy] at hz2
      obtain ⟨q, hq, h1⟩ := List.any_eq_true.mp hz2
      simp only [Bool.and_eq_true, Nat.beq_eq] at h1
      have hall : ∀ q ∈ sId, q.1 < 10 ∧ q.2.1 = sOwn q.1 ∧ q.2.2 = sIdx q.1 := by decide +kernel
      obtain ⟨g1, g2, g3⟩ := hall q hq
      have hR1 := hE.2.2.1 q.1 g1
      rw [← g2, ← g3, h1.1, h1.2.1, h1.2.2] at hR1
      have k2 := kk al ad H locs mls hR hS hl (adX_refl σ ad)
      dsimp only at k2
      rw [if_neg hy] at k2
      exact va_ldcS hx hb hown hR1 hdec k2
  | ldc_w j =>
    have hz := hck
    obtain rfl : len = 3 := by simp only [ckI, Bool.and_eq_true, Nat.beq_eq] at hck; exact hck.1.1
    simp only [ckI, Bool.and_eq_true] at hz
    obtain ⟨hy, rfl⟩ := h
    obtain ⟨q, hq, e1, e2, e3⟩ := lkB_mem hz.2
    have hw := (ck_k q hq).1
    rw [e1, e2, e3] at hw
    exact lv_ldcw hx hb hown (hts _ (WW_in hw rfl)) hdec (kk al ad H locs mls hR hS hl (adX_refl σ ad))
  | aconst_null =>
    obtain rfl : len = 1 := by simp only [ckI, Bool.and_eq_true, Nat.beq_eq] at hck; exact hck
    subst h
    exact lv_null hx hb hdec (kk al ad H locs mls hR hS hl (adX_refl σ ad))
  | iload_n k =>
    obtain rfl : len = 1 := by simp only [ckI, Bool.and_eq_true, Nat.beq_eq] at hck; exact hck
    obtain ⟨v, hv, rfl⟩ := h
    exact lv_iload_n hx hb hdec rfl (hl.2.2.2 _ _ hv) (kk al ad H locs mls hR hS hl (adX_refl σ ad))
  | iload k =>
    obtain rfl : len = 2 := by simp only [ckI, Bool.and_eq_true, Nat.beq_eq] at hck; exact hck
    obtain ⟨v, hv, rfl⟩ := h
    exact lv_iload hx hb hdec (hl.2.2.2 _ _ hv) (kk al ad H locs mls hR hS hl (adX_refl σ ad))
  | aload_n k =>
    obtain rfl : len = 1 := by simp only [ckI, Bool.and_eq_true, Nat.beq_eq] at hck; exact hck
    obtain ⟨v, hv, rfl⟩ := h
    have k2 := kk al ad H locs mls hR hS hl (adX_refl σ ad)
    have hv2 := hl.2.2.2 _ _ hv
    rcases v with ⟨cc, r⟩ | k
    · cases r with
      | none => exact lv_aload_nN hx hb hdec rfl hv2 k2
      | some a => exact lv_aload_n hx hb hdec rfl hv2 k2
    · exact lv_aload_n hx hb hdec rfl hv2 k2
  | aload k =>
    obtain rfl : len = 2 := by simp only [ckI, Bool.and_eq_true, Nat.beq_eq] at hck; exact hck
    obtain ⟨v, hv, rfl⟩ := h
    have k2 := kk al ad H locs mls hR hS hl (adX_refl σ ad)
    have hv2 := hl.2.2.2 _ _ hv
    rcases v with ⟨cc, r⟩ | k
    · cases r with
      | none => exact lv_aloadN hx hb hdec hv2 k2
      | some a => exact lv_aload hx hb hdec hv2 k2
    · exact lv_aload hx hb hdec hv2 k2
  | istore_n k =>
    obtain rfl : len = 1 := by simp only [ckI, Bool.and_eq_true, Nat.beq_eq] at hck; exact hck
    obtain ⟨v, t, rfl, hlt, rfl⟩ := h
    exact lv_istore_n hx hb hdec rfl hl.has (by rw [← hl.2.1]; exact hlt) rfl (fun ls1 h1 => kk al ad H locs ls1 hR hS (LR.store hl.2.1 h1 rfl) (adX_refl σ ad))
  | istore k =>
    obtain rfl : len = 2 := by simp only [ckI, Bool.and_eq_true, Nat.beq_eq] at hck; exact hck
    obtain ⟨v, t, rfl, hlt, rfl⟩ := h
    exact lv_istore hx hb hdec hl.has (by rw [← hl.2.1]; exact hlt) rfl (fun ls1 h1 => kk al ad H locs ls1 hR hS (LR.store hl.2.1 h1 rfl) (adX_refl σ ad))
  | astore_n k =>
    obtain rfl : len = 1 := by simp only [ckI, Bool.and_eq_true, Nat.beq_eq] at hck; exact hck
    obtain ⟨v, t, rfl, hlt, rfl⟩ := h
    rcases v with ⟨cc, r⟩ | k9
    · cases r with
      | none => exact lv_astore_nN hx hb hdec rfl hl.has (by rw [← hl.2.1]; exact hlt) rfl (fun ls1 h1 => kk al ad H locs ls1 hR hS (LR.store hl.2.1 h1 rfl) (adX_refl σ ad))
      | some a => exact lv_astore_n hx hb hdec rfl hl.has (by rw [← hl.2.1]; exact hlt) rfl (fun ls1 h1 => kk al ad H locs ls1 hR hS (LR.store hl.2.1 h1 rfl) (adX_refl σ ad))
    · exact lv_astore_n hx hb hdec rfl hl.has (by rw [← hl.2.1]; exact hlt) rfl (fun ls1 h1 => kk al ad H locs ls1 hR hS (LR.store hl.2.1 h1 rfl) (adX_refl σ ad))
  | astore k =>
    obtain rfl : len = 2 := by simp only [ckI, Bool.and_eq_true, Nat.beq_eq] at hck; exact hck
    obtain ⟨v, t, rfl, hlt, rfl⟩ := h
    rcases v with ⟨cc, r⟩ | k9
    · cases r with
      | none => exact lv_astoreN hx hb hdec hl.has (by rw [← hl.2.1]; exact hlt) rfl (fun ls1 h1 => kk al ad H locs ls1 hR hS (LR.store hl.2.1 h1 rfl) (adX_refl σ ad))
      | some a => exact lv_astore hx hb hdec hl.has (by rw [← hl.2.1]; exact hlt) rfl (fun ls1 h1 => kk al ad H locs ls1 hR hS (LR.store hl.2.1 h1 rfl) (adX_refl σ ad))
    · exact lv_astore hx hb hdec hl.has (by rw [← hl.2.1]; exact hlt) rfl (fun ls1 h1 => kk al ad H locs ls1 hR hS (LR.store hl.2.1 h1 rfl) (adX_refl σ ad))
  | iinc k n =>
    obtain rfl : len = 3 := by simp only [ckI, Bool.and_eq_true, Nat.beq_eq] at hck; exact hck.1
    obtain ⟨v, hv, rfl⟩ := h
    obtain ⟨k9, hk9⟩ := List.getElem?_of_mem (lvO_mem (ad := ad) (sa := sa) (q := (k, vV ad sa (vi v))).mpr ⟨vi v, hv, rfl⟩)
    exact lv_iinc (k := k9) (x := Int32.ofInt v) hx hb hdec hl.has hk9 rfl (by rw [← hl.2.1]; exact (List.getElem?_eq_some_iff.mp hv).1) rfl (fun ls1 h1 => kk al ad H locs ls1 hR hS (LR.store hl.2.1 h1 (by rw [oI_add]; rfl)) (adX_refl σ ad))
  | dup =>
    obtain rfl : len = 1 := by simp only [ckI, Bool.and_eq_true, Nat.beq_eq] at hck; exact hck
    obtain ⟨v, t, rfl, rfl⟩ := h
    exact lv_dup hx hb hdec (vV_cat ad sa v) (kk al ad H locs mls hR hS hl (adX_refl σ ad))
  | dup2 =>
    obtain rfl : len = 1 := by simp only [ckI, Bool.and_eq_true, Nat.beq_eq] at hck; exact hck
    obtain ⟨v, w, t, rfl, rfl⟩ := h
    exact lv_dup2_11 hx hb hdec (vV_cat ad sa v) (vV_cat ad sa w) (kk al ad H locs mls hR hS hl (adX_refl σ ad))
  | pop =>
    obtain rfl : len = 1 := by simp only [ckI, Bool.and_eq_true, Nat.beq_eq] at hck; exact hck
    obtain ⟨v, t, rfl, rfl⟩ := h
    exact lv_pop hx hb hdec (vV_cat ad sa v) (kk al ad H locs mls hR hS hl (adX_refl σ ad))
  | iadd =>
    obtain rfl : len = 1 := by simp only [ckI, Bool.and_eq_true, Nat.beq_eq] at hck; exact hck
    obtain ⟨a, b9, t, rfl, rfl⟩ := h
    exact lv_iadd hx hb hdec (by rw [oI_add]; exact kk al ad H locs mls hR hS hl (adX_refl σ ad))
  | isub =>
    obtain rfl : len = 1 := by simp only [ckI, Bool.and_eq_true, Nat.beq_eq] at hck; exact hck
    obtain ⟨a, b9, t, rfl, rfl⟩ := h
    exact lv_isub hx hb hdec (by rw [oI_sub]; exact kk al ad H locs mls hR hS hl (adX_refl σ ad))
  | imul =>
    obtain rfl : len = 1 := by simp only [ckI, Bool.and_eq_true, Nat.beq_eq] at hck; exact hck
    obtain ⟨a, b9, t, rfl, rfl⟩ := h
    exact lv_imul hx hb hdec (by rw [oI_mul]; exact kk al ad H locs mls hR hS hl (adX_refl σ ad))
  | idiv =>
    obtain rfl : len = 1 := by simp only [ckI, Bool.and_eq_true, Nat.beq_eq] at hck; exact hck
    obtain ⟨a, b9, t, rfl, hne, rfl⟩ := h
    have hb9 : InR b9 := (okK_cons.mp hk0).1
    have k2 := kk al ad H locs mls hR hS hl (adX_refl σ ad)
    simp only [List.map_cons, vV, iDiv, oI_toInt] at k2
    exact lv_idiv hx hb hdec (by rw [(oI_i0 hb9).1]; exact hne) k2
  | irem =>
    obtain rfl : len = 1 := by simp only [ckI, Bool.and_eq_true, Nat.beq_eq] at hck; exact hck
    obtain ⟨a, b9, t, rfl, hne, rfl⟩ := h
    have hb9 : InR b9 := (okK_cons.mp hk0).1
    have k2 := kk al ad H locs mls hR hS hl (adX_refl σ ad)
    simp only [List.map_cons, vV, iRem, oI_toInt] at k2
    exact lv_irem hx hb hdec (by rw [(oI_i0 hb9).1]; exact hne) k2
  | iand =>
    obtain rfl : len = 1 := by simp only [ckI, Bool.and_eq_true, Nat.beq_eq] at hck; exact hck
    obtain ⟨a, b9, t, rfl, rfl⟩ := h
    have k2 := kk al ad H locs mls hR hS hl (adX_refl σ ad)
    simp only [List.map_cons, vV, iAnd, oI_toInt] at k2
    exact lv_iand hx hb hdec k2
  | ior =>
    obtain rfl : len = 1 := by simp only [ckI, Bool.and_eq_true, Nat.beq_eq] at hck; exact hck
    obtain ⟨a, b9, t, rfl, rfl⟩ := h
    have k2 := kk al ad H locs mls hR hS hl (adX_refl σ ad)
    simp only [List.map_cons, vV, iOr, oI_toInt] at k2
    exact lv_ior hx hb hdec k2
  | ishl =>
    obtain rfl : len = 1 := by simp only [ckI, Bool.and_eq_true, Nat.beq_eq] at hck; exact hck
    obtain ⟨a, b9, t, rfl, rfl⟩ := h
    have k2 := kk al ad H locs mls hR hS hl (adX_refl σ ad)
    simp only [List.map_cons, vV, iShl, oI_toInt] at k2
    exact lv_ishl hx hb hdec k2
  | ishr =>
    obtain rfl : len = 1 := by simp only [ckI, Bool.and_eq_true, Nat.beq_eq] at hck; exact hck
    obtain ⟨a, b9, t, rfl, rfl⟩ := h
    have k2 := kk al ad H locs mls hR hS hl (adX_refl σ ad)
    simp only [List.map_cons, vV, iShr, oI_toInt] at k2
    exact lv_ishr hx hb hdec k2
  | iushr =>
    obtain rfl : len = 1 := by simp only [ckI, Bool.and_eq_true, Nat.beq_eq] at hck; exact hck
    obtain ⟨a, b9, t, rfl, rfl⟩ := h
    have k2 := kk al ad H locs mls hR hS hl (adX_refl σ ad)
    simp only [List.map_cons, vV, iUshr, oI_toInt] at k2
    exact lv_iushr hx hb hdec rfl k2
  | ifCond c9 o9 =>
    have ht : (pc : Int) + o9 = (x : Int) := by simp only [ckI, Bool.and_eq_true, decide_eq_true_eq] at hck; exact hck.2
    obtain rfl : len = 3 := by simp only [ckI, Bool.and_eq_true, Nat.beq_eq] at hck; exact hck.1
    obtain ⟨a, t, rfl, h⟩ := h
    have z := oI_i0 (okK_cons.mp hk0).1
    cases c9 with
    | eq =>
      exact lv_if_eq hx hb hdec ht (fun q => by
        rcases h with ⟨h1, rfl⟩ | ⟨h1, rfl⟩
        · exact kk al ad H locs mls hR hS hl (adX_refl σ ad)
        · exact absurd (z.1.mp q) h1) (fun q => by
        rcases h with ⟨h1, rfl⟩ | ⟨h1, rfl⟩
        · exact absurd (z.1.mpr h1) q
        · exact kk al ad H locs mls hR hS hl (adX_refl σ ad))
    | ne =>
      exact lv_if_ne hx hb hdec ht (fun q => by
        rcases h with ⟨h1, rfl⟩ | ⟨h1, rfl⟩
        · exact kk al ad H locs mls hR hS hl (adX_refl σ ad)
        · exact absurd (fun h2 => q (z.1.mpr h2)) h1) (fun q => by
        rcases h with ⟨h1, rfl⟩ | ⟨h1, rfl⟩
        · exact absurd (z.1.mp q) h1
        · exact kk al ad H locs mls hR hS hl (adX_refl σ ad))
    | lt =>
      exact lv_if_lt hx hb hdec ht (fun q => by
        rcases h with ⟨h1, rfl⟩ | ⟨h1, rfl⟩
        · exact kk al ad H locs mls hR hS hl (adX_refl σ ad)
        · exact absurd (z.2.1.mp q) h1) (fun q => by
        rcases h with ⟨h1, rfl⟩ | ⟨h1, rfl⟩
        · exact absurd (z.2.1.mpr h1) q
        · exact kk al ad H locs mls hR hS hl (adX_refl σ ad))
    | ge =>
      exact lv_if_ge hx hb hdec ht (fun q => by
        rcases h with ⟨h1, rfl⟩ | ⟨h1, rfl⟩
        · exact kk al ad H locs mls hR hS hl (adX_refl σ ad)
        · exact absurd (z.2.2.1.mp q) h1) (fun q => by
        rcases h with ⟨h1, rfl⟩ | ⟨h1, rfl⟩
        · exact absurd (z.2.2.1.mpr h1) q
        · exact kk al ad H locs mls hR hS hl (adX_refl σ ad))
    | gt =>
      exact lv_if_gt hx hb hdec ht (fun q => by
        rcases h with ⟨h1, rfl⟩ | ⟨h1, rfl⟩
        · exact kk al ad H locs mls hR hS hl (adX_refl σ ad)
        · exact absurd (z.2.2.2.1.mp q) h1) (fun q => by
        rcases h with ⟨h1, rfl⟩ | ⟨h1, rfl⟩
        · exact absurd (z.2.2.2.1.mpr h1) q
        · exact kk al ad H locs mls hR hS hl (adX_refl σ ad))
    | le =>
      exact lv_if_le hx hb hdec ht (fun q => by
        rcases h with ⟨h1, rfl⟩ | ⟨h1, rfl⟩
        · exact kk al ad H locs mls hR hS hl (adX_refl σ ad)
        · exact absurd (z.2.2.2.2.mp q) h1) (fun q => by
        rcases h with ⟨h1, rfl⟩ | ⟨h1, rfl⟩
        · exact absurd (z.2.2.2.2.mpr h1) q
        · exact kk al ad H locs mls hR hS hl (adX_refl σ ad))
  | if_icmp c9 o9 =>
    have ht : (pc : Int) + o9 = (x : Int) := by simp only [ckI, Bool.and_eq_true, decide_eq_true_eq] at hck; exact hck.2
    obtain rfl : len = 3 := by simp only [ckI, Bool.and_eq_true, Nat.beq_eq] at hck; exact hck.1
    obtain ⟨a, b9, t, rfl, h⟩ := h
    have hb9 : InR b9 := (okK_cons.mp hk0).1
    have ha9 : InR a := (okK_cons.mp (okK_cons.mp hk0).2).1
    cases c9 with
    | eq =>
      exact lv_icmp_eq hx hb hdec ht (fun q => by
        rcases h with ⟨h1, rfl⟩ | ⟨h1, rfl⟩
        · exact kk al ad H locs mls hR hS hl (adX_refl σ ad)
        · exact absurd ((oI_eq ha9 hb9).mp q) h1) (fun q => by
        rcases h with ⟨h1, rfl⟩ | ⟨h1, rfl⟩
        · exact absurd ((oI_eq ha9 hb9).mpr h1) q
        · exact kk al ad H locs mls hR hS hl (adX_refl σ ad))
    | ne =>
      exact lv_icmp_ne hx hb hdec ht (fun q => by
        rcases h with ⟨h1, rfl⟩ | ⟨h1, rfl⟩
        · exact kk al ad H locs mls hR hS hl (adX_refl σ ad)
        · exact absurd (fun h2 => q ((oI_eq ha9 hb9).mpr h2)) h1) (fun q => by
        rcases h with ⟨h1, rfl⟩ | ⟨h1, rfl⟩
        · exact absurd ((oI_eq ha9 hb9).mp q) h1
        · exact kk al ad H locs mls hR hS hl (adX_refl σ ad))
    | lt =>
      exact lv_icmp_lt hx hb hdec ht (fun q => by
        rcases h with ⟨h1, rfl⟩ | ⟨h1, rfl⟩
        · exact kk al ad H locs mls hR hS hl (adX_refl σ ad)
        · exact absurd ((oI_lt ha9 hb9).mp q) h1) (fun q => by
        rcases h with ⟨h1, rfl⟩ | ⟨h1, rfl⟩
        · exact absurd ((oI_lt ha9 hb9).mpr h1) q
        · exact kk al ad H locs mls hR hS hl (adX_refl σ ad))
    | ge =>
      exact lv_icmp_ge hx hb hdec ht (fun q => by
        rcases h with ⟨h1, rfl⟩ | ⟨h1, rfl⟩
        · exact kk al ad H locs mls hR hS hl (adX_refl σ ad)
        · exact absurd ((oI_le hb9 ha9).mp q) h1) (fun q => by
        rcases h with ⟨h1, rfl⟩ | ⟨h1, rfl⟩
        · exact absurd ((oI_le hb9 ha9).mpr h1) q
        · exact kk al ad H locs mls hR hS hl (adX_refl σ ad))
    | gt =>
      exact lv_icmp_gt hx hb hdec ht (fun q => by
        rcases h with ⟨h1, rfl⟩ | ⟨h1, rfl⟩
        · exact kk al ad H locs mls hR hS hl (adX_refl σ ad)
        · exact absurd ((oI_lt hb9 ha9).mp q) h1) (fun q => by
        rcases h with ⟨h1, rfl⟩ | ⟨h1, rfl⟩
        · exact absurd ((oI_lt hb9 ha9).mpr h1) q
        · exact kk al ad H locs mls hR hS hl (adX_refl σ ad))
    | le =>
      exact lv_icmp_le hx hb hdec ht (fun q => by
        rcases h with ⟨h1, rfl⟩ | ⟨h1, rfl⟩
        · exact kk al ad H locs mls hR hS hl (adX_refl σ ad)
        · exact absurd ((oI_le ha9 hb9).mp q) h1) (fun q => by
        rcases h with ⟨h1, rfl⟩ | ⟨h1, rfl⟩
        · exact absurd ((oI_le ha9 hb9).mpr h1) q
        · exact kk al ad H locs mls hR hS hl (adX_refl σ ad))
  | ifnull o9 =>
    have ht : (pc : Int) + o9 = (x : Int) := by simp only [ckI, Bool.and_eq_true, decide_eq_true_eq] at hck; exact hck.2
    obtain rfl : len = 3 := by simp only [ckI, Bool.and_eq_true, Nat.beq_eq] at hck; exact hck.1
    obtain ⟨cc, r, t, rfl, ⟨h1, rfl⟩ | ⟨h1, rfl⟩⟩ := h
    · subst h1
      exact lv_ifnullN hx hb hdec ht (kk al ad H locs mls hR hS hl (adX_refl σ ad))
    · cases r with
      | none => exact absurd rfl h1
      | some a => exact lv_ifnull hx hb hdec (kk al ad H locs mls hR hS hl (adX_refl σ ad))
  | ifnonnull o9 =>
    have ht : (pc : Int) + o9 = (x : Int) := by simp only [ckI, Bool.and_eq_true, decide_eq_true_eq] at hck; exact hck.2
    obtain rfl : len = 3 := by simp only [ckI, Bool.and_eq_true, Nat.beq_eq] at hck; exact hck.1
    obtain ⟨cc, r, t, rfl, ⟨h1, rfl⟩ | ⟨h1, rfl⟩⟩ := h
    · cases r with
      | none => exact absurd rfl h1
      | some a => exact lv_ifnonnull hx hb hdec ht (kk al ad H locs mls hR hS hl (adX_refl σ ad))
    · subst h1
      exact lv_ifnonnullN hx hb hdec (kk al ad H locs mls hR hS hl (adX_refl σ ad))
  | goto o9 =>
    have ht : (pc : Int) + o9 = (x : Int) := by simp only [ckI, Bool.and_eq_true, decide_eq_true_eq] at hck; exact hck.2
    obtain rfl : len = 3 := by simp only [ckI, Bool.and_eq_true, Nat.beq_eq] at hck; exact hck.1
    subst h
    exact lv_goto hx hb hdec ht (kk al ad H locs mls hR hS hl (adX_refl σ ad))
  | tableswitch d lo hi9 os =>
    obtain ⟨a, t, off, tg, rfl, h1, ht, rfl⟩ := h
    have ha : InR a := (okK_cons.mp hk0).1
    have k2 := kk al ad H locs mls hR hS hl (adX_refl σ ad)
    have z := toInt_ofInt ha
    rcases h1 with ⟨h1, rfl⟩ | ⟨h1, h2⟩
    · exact lv_tableOut hx hb hdec (by rw [z]; exact h1) ht k2
    · exact lv_tableIn hx hb hdec (by rw [z]; exact fun q => h1 (Or.inl q)) (by rw [z]; exact fun q => h1 (Or.inr q)) (by rw [z]; exact h2) ht k2
  | getfield j =>
    have hlk : lk3 fL (mC mm) j x = true := by simp only [ckI, Bool.and_eq_true] at hck; exact hck.2
    obtain rfl : len = 3 := by simp only [ckI, Bool.and_eq_true, Nat.beq_eq] at hck; exact hck.1
    obtain ⟨a, t, rfl, rfl⟩ := h
    exact sp_get (u := []) hcx hdec hlk hR ((okK_cons.mp hk0).1 a rfl) (kk al ad H locs mls hR hS hl (adX_refl σ ad))
  | putfield j =>
    have hz := hck
    obtain rfl : len = 3 := by simp only [ckI, Bool.and_eq_true, Nat.beq_eq] at hck; exact hck.1.1
    obtain ⟨v, a, t, rfl, hp, rfl⟩ := h
    have hcn : nC (pF σ x a v) = nC σ ∧ nS (pF σ x a v) = nS σ := by rcases v with n | ⟨c, r⟩ | k <;> exact ⟨rfl, rfl⟩
    refine sp_put hcx hdec hz hR hS ((okK_cons.mp (okK_cons.mp hk0).2).1 a rfl) hp (fun H1 locs1 hR1 hS1 => ?_)
    have k2 := kk al ad H1 locs1 mls hR1 hS1 hl (adX_refl σ ad)
    dsimp only at k2
    rw [hcn.1, hcn.2] at k2
    exact k2
  | iaload =>
    obtain rfl : len = 1 := by simp only [ckI, Bool.and_eq_true, Nat.beq_eq] at hck; exact hck
    obtain ⟨i9, cc, a, t, rfl, hk, h0, h1, rfl⟩ := h
    have hi9 : InR i9 := (okK_cons.mp hk0).1
    exact sp_iald hcx hdec ok hR hS h18 hk ((okK_cons.mp (okK_cons.mp hk0).2).1 a rfl) hi9 h0 h1 (kk al ad H locs mls hR hS hl (adX_refl σ ad))
  | baload =>
    obtain rfl : len = 1 := by simp only [ckI, Bool.and_eq_true, Nat.beq_eq] at hck; exact hck
    obtain ⟨i9, a, t, rfl, h0, h1, rfl⟩ := h
    have hi9 : InR i9 := (okK_cons.mp hk0).1
    exact sp_bald hcx hdec hR ((okK_cons.mp (okK_cons.mp hk0).2).1 a rfl) hi9 h0 h1 (kk al ad H locs mls hR hS hl (adX_refl σ ad))
  | aaload =>
    obtain rfl : len = 1 := by simp only [ckI, Bool.and_eq_true, Nat.beq_eq] at hck; exact hck
    obtain ⟨i9, cc, a, t, rfl, hk, h0, h1, rfl⟩ := h
    have hi9 : InR i9 := (okK_cons.mp hk0).1
    exact sp_aald hcx hdec hR hk ((okK_cons.mp (okK_cons.mp hk0).2).1 a rfl) hi9 h0 h1 (kk al ad H locs mls hR hS hl (adX_refl σ ad))
  | iastore =>
    obtain rfl : len = 1 := by simp only [ckI, Bool.and_eq_true, Nat.beq_eq] at hck; exact hck
    obtain ⟨v, i9, a, t, rfl, h0, h1, rfl⟩ := h
    have hk1 := (okK_cons.mp hk0).2
    have hi9 : InR i9 := (okK_cons.mp hk1).1
    exact sp_iast hcx hdec hR hS ((okK_cons.mp (okK_cons.mp hk1).2).1 a rfl) hi9 h0 h1 (fun H1 locs1 hR1 hS1 => kk al ad H1 locs1 mls hR1 hS1 hl (adX_refl σ ad))
  | bastore =>
    obtain rfl : len = 1 := by simp only [ckI, Bool.and_eq_true, Nat.beq_eq] at hck; exact hck
    obtain ⟨v, i9, a, t, rfl, h0, h1, hv, rfl⟩ := h
    have hk1 := (okK_cons.mp hk0).2
    have hi9 : InR i9 := (okK_cons.mp hk1).1
    exact sp_zast hcx hdec hR hS ((okK_cons.mp (okK_cons.mp hk1).2).1 a rfl) hi9 h0 h1 hv (fun H1 locs1 hR1 hS1 => kk al ad H1 locs1 mls hR1 hS1 hl (adX_refl σ ad))
  | aastore =>
    obtain rfl : len = 1 := by simp only [ckI, Bool.and_eq_true, Nat.beq_eq] at hck; exact hck
    obtain ⟨v, i9, cc, a, t, rfl, hk, h0, h1, rfl⟩ := h
    have hk1 := (okK_cons.mp hk0).2
    have hi9 : InR i9 := (okK_cons.mp hk1).1
    exact sp_aast hcx hdec hR hS hk ((okK_cons.mp (okK_cons.mp hk1).2).1 a rfl) ((okK_cons.mp hk0).1 v rfl) hi9 h0 h1 (fun H1 locs1 hR1 hS1 => kk al ad H1 locs1 mls hR1 hS1 hl (adX_refl σ ad))
  | arraylength =>
    obtain rfl : len = 1 := by simp only [ckI, Bool.and_eq_true, Nat.beq_eq] at hck; exact hck
    obtain ⟨cc, a, t, rfl, hk, rfl⟩ := h
    exact sp_alen hcx hdec ok hR hS h18 hk ((okK_cons.mp hk0).1 a rfl) (kk al ad H locs mls hR hS hl (adX_refl σ ad))
  | newarray at1 =>
    have hz := hck
    obtain rfl : len = 2 := by simp only [ckI, Bool.and_eq_true, Nat.beq_eq] at hck; exact hck.1
    simp only [ckI, Bool.and_eq_true, Bool.or_eq_true, Nat.beq_eq, decide_eq_true_eq] at hz
    obtain ⟨n, t, rfl, h0, h1, rfl⟩ := h
    dsimp only at hr1 hr2
    rw [nC_nA] at hr1
    rw [nS_nA] at hr2
    exact sp_newa hcx hdec hz.2 ok hR hS h0 h1 (by omega) (by omega) (fun q H1 hR1 hS1 => by
      have hax : adX σ ad (adU ad x (CN σ x) q) := adU_x x q
      have k2 := kk _ _ H1 locs mls hR1 hS1 (hl.ext hl0 hax) hax
      dsimp only at k2
      rw [show nC (nA σ x n.toNat) - n0 = nC σ - n0 + 1 by rw [nC_nA]; omega, show nS (nA σ x n.toNat) - s0 = nS σ - s0 + n.toNat by rw [nS_nA]; omega] at k2
      simp only [List.map_cons, vV, Option.map_some, va_rf, adU_at] at k2
      rw [okK_map (okK_cons.mp hk0).2 hax] at k2
      exact k2)
  | anewarray j =>
    have hz := hck
    obtain rfl : len = 3 := by simp only [ckI, Bool.and_eq_true, Nat.beq_eq] at hck; exact hck.1
    simp only [ckI, Bool.and_eq_true, Bool.or_eq_true, Nat.beq_eq] at hz
    obtain ⟨n, t, rfl, h0, h1, rfl⟩ := h
    dsimp only at hr1 hr2
    rw [nC_nA] at hr1
    rw [nS_nA] at hr2
    exact sp_newq hcx hdec hz.2 ok hR hS h0 h1 (by omega) (by omega) (fun q H1 hR1 hS1 => by
      have hax : adX σ ad (adU ad x (CN σ x) q) := adU_x x q
      have k2 := kk _ _ H1 locs mls hR1 hS1 (hl.ext hl0 hax) hax
      dsimp only at k2
      rw [show nC (nA σ x n.toNat) - n0 = nC σ - n0 + 1 by rw [nC_nA]; omega, show nS (nA σ x n.toNat) - s0 = nS σ - s0 + n.toNat by rw [nS_nA]; omega] at k2
      simp only [List.map_cons, vV, Option.map_some, va_rf, adU_at] at k2
      rw [okK_map (okK_cons.mp hk0).2 hax] at k2
      exact k2)
  | new j =>
    have hz := hck
    obtain rfl : len = 3 := by simp only [ckI, Bool.and_eq_true, Nat.beq_eq] at hck; exact hck.1
    simp only [ckI, Bool.and_eq_true] at hz
    subst h
    dsimp only at hr1 hr2
    rw [nC_nO] at hr1
    rw [nS_nO] at hr2
    exact sp_new hcx hdec hz.2 ok hR hS (by omega) (by omega) (fun q H1 hR1 hS1 => by
      have hax : adX σ ad (adU ad x (CN σ x) q) := adU_x x q
      have k2 := kk _ _ H1 locs mls hR1 hS1 (hl.ext hl0 hax) hax
      dsimp only at k2
      rw [show nC (nO σ x) - n0 = nC σ - n0 + 1 by rw [nC_nO]; omega, show nS (nO σ x) - s0 = nS σ - s0 + cF x by rw [nS_nO]; omega] at k2
      simp only [List.map_cons, vV, Option.map_some, va_rf, adU_at] at k2
      rw [okK_map hk0 hax] at k2
      exact k2)
  | multianewarray j d =>
    have hz := hck
    simp only [ckI, Bool.and_eq_true, Nat.beq_eq] at hz
    obtain ⟨⟨⟨⟨rfl, rfl⟩, rfl⟩, hmc⟩, -⟩ := hz
    obtain ⟨n, k, t, rfl, h0, h1, h2, h3, rfl⟩ := h
    dsimp only at hr1 hr2
    obtain ⟨z1, z2⟩ := nC_nM (σ := σ) n.toNat k.toNat
    refine sp_multi hcx hmc hdec ok hR hS h0 h1 h2 h3 (by omega) (by omega) (fun al2 ad2 q H1 hax hq hR1 hS1 => ?_)
    have k2 := kk _ _ H1 locs mls hR1 hS1 (hl.ext hl0 hax) hax
    dsimp only at k2
    rw [show nC (nM σ n.toNat k.toNat) - n0 = nC σ - n0 + 1 + n.toNat by omega, show nS (nM σ n.toNat k.toNat) - s0 = nS σ - s0 + n.toNat + n.toNat * k.toNat by omega] at k2
    simp only [List.map_cons, vV, Option.map_some, va_rf, hq] at k2
    rw [okK_map (okK_cons.mp (okK_cons.mp hk0).2).2 hax] at k2
    exact k2
  | invokevirtual j =>
    have hz := hck
    obtain rfl : len = 3 := by simp only [ckI, Bool.and_eq_true, Nat.beq_eq] at hck; exact hck.1
    simp only [ckI, Bool.and_eq_true] at hz
    rcases h with ⟨rfl, k, t, rfl, ht, rfl⟩ | ⟨rfl, i9, k, t, rfl, ht, h0, h1, rfl⟩
    · have hz2 := hz.2
      rw [if_neg (by omega)] at hz2
      exact sp_len hcx hdec hz2 hS hl.1 (okK_cons.mp hk0).1 (by rw [cats]; exact ht) hfr hlo hr1 hr2 (fun locs1 hS1 => kk al ad H locs1 mls hR hS1 hl (adX_refl σ ad))
    · have hz2 := hz.2
      rw [if_neg (by omega)] at hz2
      have e9 : i9 = ((i9.toNat : Nat) : Int) := by omega
      have k2 := fun locs1 hS1 => kk al ad H locs1 mls hR hS1 hl (adX_refl σ ad)
      show W p l e R s m args below meth c H locs (nC σ - n0) (nS σ - s0) Q (F0 m pc mls (.int (Int32.ofInt i9) :: .ref (sa k) :: t.map (vV ad sa)))
      rw [e9]
      exact sp_at hcx hdec hz2 hS hl.1 (okK_cons.mp (okK_cons.mp hk0).2).1 (by omega) (by rw [cats]; exact ht) hfr hlo hr1 hr2 k2
  | invokespecial j =>
    have hz := hck
    obtain rfl : len = 3 := by simp only [ckI, Bool.and_eq_true, Nat.beq_eq] at hck; exact hck.1
    simp only [ckI, Bool.and_eq_true] at hz
    obtain ⟨rfl, cc, a, t, rfl, ht, rfl⟩ := h
    have hz2 := hz.2
    rw [if_neg (by omega)] at hz2
    obtain ⟨q, hq, h1⟩ := List.any_eq_true.mp hz2
    simp only [Bool.and_eq_true, Nat.beq_eq] at h1
    have hw := ck_o q hq
    rw [h1.1, h1.2] at hw
    refine W.objInit hx hb hown (hts _ (WW_in hw rfl)) (hts _ ck_objm) (hts _ ck_objc) rfl (by rw [hml]; exact hl.1) rfl hdec (by omega) (by rw [cats]; show 2 * 0 + t.length + 12 ≤ _; omega) ?_
    exact kk al ad H locs mls hR hS hl (adX_refl σ ad)
  | _ => exact h.elim
end

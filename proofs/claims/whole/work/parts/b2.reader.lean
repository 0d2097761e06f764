/-! THE CLASS's Reader: its state; signs -/
/-- C: 0 reader 1 grammar 2 bodies 3 found 4/5 atomsIn 6/7 quoted 8/9 firstUse 10 the tape's row -/
def RdK (σ : AS) (C : Nat → Nat) (t : TP) : Prop := (C 0 < CN σ 5 ∧ C 1 < CN σ 1 ∧ C 2 < CN σ 16 ∧ C 3 < CN σ 15) ∧ (21 ≤ C 4 ∧ C 4 < CN σ 6 ∧ 21 ≤ C 6 ∧ C 6 < CN σ 6 ∧ 21 ≤ C 8 ∧ C 8 < CN σ 6 ∧ C 4 ≠ C 6 ∧ C 4 ≠ C 8 ∧ C 6 ≠ C 8) ∧ (77 ≤ C 5 ∧ C 5 < CN σ 13 ∧ 77 ≤ C 7 ∧ C 7 < CN σ 13 ∧ 77 ≤ C 9 ∧ C 9 < CN σ 13 ∧ C 5 ≠ C 7 ∧ C 5 ≠ C 9 ∧ C 7 ≠ C 9) ∧ C 10 < 2 ∧ (FR σ 500 (C 0) = some (C 10) ∧ FR σ 501 (C 0) = some (C 1) ∧ FR σ 502 (C 0) = some (C 8) ∧ FR σ 100 (C 1) = some (C 2) ∧ FR σ 101 (C 1) = some (C 4) ∧ FR σ 102 (C 1) = some (C 3) ∧ FR σ 103 (C 1) = some (C 6)) ∧ LN σ 16 (C 2) = 8 ∧ LN σ 15 (C 3) = 32 ∧ tpOK t ∧ rowF σ (C 10) (C 10) 240 t.1 t.2
def fuF (names : List (Nat × Nat)) (r : Nat) : Int := match names.find? (fun y => y.2 == r) with | some y => (y.1 : Int) | none => -1
def atmR (σ : AS) (fa : Nat) (l : List AT) : Prop := ∀ (i : Nat) a, l[i]? = some a → ∃ tt, AR σ 15 fa i = some tt ∧ tt < CN σ 0 ∧ FI σ 1 tt = (a.2.1 : Int) ∧ FI σ 0 tt = (a.2.2.1 : Int) ∧ FI σ 3 tt = a.2.2.2.1 ∧ FI σ 4 tt = a.2.2.2.2
def RdS (σ : AS) (C : Nat → Nat) (t : TP) (st : RT) (opn : Nat) : Prop := RdK σ C t ∧ okT t st ∧ (∃ a : Nat, FI σ 503 (C 0) = (a : Int) ∧ a ≤ t.1 ∧ sk t a = st.1) ∧ FI σ 504 (C 0) = (opn : Int) ∧ FI σ 505 (C 0) = -1 ∧ FI σ 105 (C 1) = (st.2.1.length : Int) ∧ atmR σ (C 3) st.2.1 ∧ rowF σ (C 6) (C 7) 32 (litT st.2.1).length (fun i => (litT st.2.1).getD i 0) ∧ rowF σ (C 8) (C 9) 8 8 (fuF st.2.2)
def RdF (σ : AS) (C : Nat → Nat) (t : TP) (p opn : Nat) : Prop := RdK σ C t ∧ p ≤ t.1 ∧ (∃ a : Nat, FI σ 503 (C 0) = (a : Int) ∧ a ≤ t.1) ∧ FI σ 504 (C 0) = (opn : Int) ∧ FI σ 505 (C 0) = (p : Int) ∧ (∃ k : Nat, k ≤ 32 ∧ FI σ 105 (C 1) = (k : Int)) ∧ (∃ n f, rowF σ (C 6) (C 7) 32 n f) ∧ ∃ f, rowF σ (C 8) (C 9) 8 8 f
def rsF (rd : Nat) (f a : Nat) : Prop := 503 ≤ f ∧ f ≤ 505 ∧ a = rd
/-- only place, open, fault of the reader -/
def rsX (rd : Nat) (σ σ' : AS) : Prop := tX (rsF rd) noA σ σ'
theorem rsX_sFI {rd : Nat} {σ : AS} {f : Nat} {v : Int} (h1 : 503 ≤ f) (h2 : f ≤ 505) : rsX rd σ (sFI σ f rd v) := tX_sFI ⟨h1, h2, rfl⟩
theorem rsX.row {rd : Nat} {σ σ' : AS} (hx : rsX rd σ σ') {r c cap n : Nat} {f : Nat → Int} (h : rowF σ r c cap n f) : rowF σ' r c cap n f := tX.row hx h (fun q => by have := q.2.1; omega) (fun q => q)
theorem RdK.rs {rd : Nat} {σ σ' : AS} {C : Nat → Nat} {t : TP} (h : RdK σ C t) (hx : rsX rd σ σ') : RdK σ' C t := by
  obtain ⟨h1, h2, h3, h4, h5, h6, h7, h8, h9⟩ := h
  obtain ⟨b1, b2, b3, b4, b5, b6, b7⟩ := id hx
  unfold RdK
  rw [b2, b5, b6]
  exact ⟨h1, h2, h3, h4, h5, h6, h7, h8, hx.row h9⟩
theorem atmR.rs {rd : Nat} {σ σ' : AS} {fa : Nat} {l : List AT} (h : atmR σ fa l) (hx : rsX rd σ σ') : atmR σ' fa l := by
  intro i a hi
  obtain ⟨tt, c1, c2, c3, c4, c5, c6⟩ := h i a hi
  have fi : ∀ f, f < 503 → FI σ' f tt = FI σ f tt := fun f w => hx.1 _ _ (fun q => by have := q.1; omega)
  exact ⟨tt, by rw [hx.2.2.2.1]; exact c1, by rw [hx.2.2.2.2.2.1]; exact c2, by rw [fi _ (by decide)]; exact c3, by rw [fi _ (by decide)]; exact c4, by rw [fi _ (by decide)]; exact c5, by rw [fi _ (by decide)]; exact c6⟩
/-- the state behind a change of the reader's own fields -/
theorem RdS.rs {σ σ' : AS} {C : Nat → Nat} {t : TP} {st st' : RT} {opn opn' : Nat} (h : RdS σ C t st opn) (hx : rsX (C 0) σ σ') (ho : okT t st') (h2 : st'.2 = st.2) (a1 : ∃ a : Nat, FI σ' 503 (C 0) = (a : Int) ∧ a ≤ t.1 ∧ sk t a = st'.1) (a2 : FI σ' 504 (C 0) = (opn' : Int)) (a3 : FI σ' 505 (C 0) = -1) : RdS σ' C t st' opn' := by
  obtain ⟨b1, b2, b3, b4, b5, b6, b7, b8, b9⟩ := h
  unfold RdS
  rw [h2]
  exact ⟨b1.rs hx, ho, a1, a2, a3, by rw [hx.1 _ _ (fun q => by have := q.1; omega)]; exact b6, b7.rs hx, hx.row b8, hx.row b9⟩
theorem RdS.flt {σ σ' : AS} {C : Nat → Nat} {t : TP} {st : RT} {opn opn' p : Nat} (h : RdS σ C t st opn) (hx : rsX (C 0) σ σ') (hp : p ≤ t.1) (a1 : ∃ a : Nat, FI σ' 503 (C 0) = (a : Int) ∧ a ≤ t.1) (a2 : FI σ' 504 (C 0) = (opn' : Int)) (a3 : FI σ' 505 (C 0) = (p : Int)) : RdF σ' C t p opn' := by
  obtain ⟨b1, b2, b3, b4, b5, b6, b7, b8, b9⟩ := h
  exact ⟨b1.rs hx, hp, a1, a2, a3, ⟨_, b2.2.2, by rw [hx.1 _ _ (fun q => by have := q.1; omega)]; exact b6⟩, ⟨_, _, hx.row b8⟩, ⟨_, hx.row b9⟩⟩
theorem RdF.rs {σ σ' : AS} {C : Nat → Nat} {t : TP} {opn opn' p : Nat} (h : RdF σ C t p opn) (hx : rsX (C 0) σ σ') (a1 : ∃ a : Nat, FI σ' 503 (C 0) = (a : Int) ∧ a ≤ t.1) (a2 : FI σ' 504 (C 0) = (opn' : Int)) (a3 : FI σ' 505 (C 0) = (p : Int)) : RdF σ' C t p opn' := by
  obtain ⟨b1, b2, b3, b4, b5, ⟨k, b6, b7⟩, ⟨n, f, b8⟩, ⟨f2, b9⟩⟩ := h
  exact ⟨b1.rs hx, b2, a1, a2, a3, ⟨k, b6, by rw [hx.1 _ _ (fun q => by have := q.1; omega)]; exact b7⟩, ⟨n, f, hx.row b8⟩, ⟨f2, hx.row b9⟩⟩
theorem rAt_ch {t : TP} (a : Nat) : rAt t.1 t.2 (a : Int) = chT t a := by
  unfold rAt chT
  by_cases w : a < t.1
  · rw [if_pos ⟨by omega, by omega⟩, if_pos w, Int.toNat_natCast]
  · rw [if_neg (by omega), if_neg w]
section
variable {d : Nat} {Q : AQ} {σ : AS} {C : Nat → Nat} {t : TP} {st : RT} {opn : Nat}
theorem c_Rd_ahead (hK : RdK σ C t) {a : Nat} (ha : FI σ 503 (C 0) = (a : Int)) (ha2 : a ≤ t.1) (kk : ∀ σ', rsX (C 0) σ σ' → FI σ' 503 (C 0) = ((sk t a : Nat) : Int) → FI σ' 504 (C 0) = FI σ 504 (C 0) → FI σ' 505 (C 0) = FI σ 505 (C 0) → Q (some (vi (chT t (sk t a)))) σ') : wp (d + 3) m_Reader_ahead [vr 5 (C 0)] σ Q := by
  have loop : ∀ (k a : Nat) (σ1 : AS), t.1 - a = k → a ≤ t.1 → rsX (C 0) σ σ1 → FI σ1 503 (C 0) = (a : Int) → FI σ1 504 (C 0) = FI σ 504 (C 0) → FI σ1 505 (C 0) = FI σ 505 (C 0) → (∀ σ', rsX (C 0) σ σ' → FI σ' 503 (C 0) = ((sk t a : Nat) : Int) → FI σ' 504 (C 0) = FI σ 504 (C 0) → FI σ' 505 (C 0) = FI σ 505 (C 0) → Q (some (vi (chT t (sk t a)))) σ') → Ex (wp (d + 2)) m_Reader_ahead Q 0 [some (vr 5 (C 0))] [] σ1 := by
    intro k
    induction k with
    | zero =>
      intro a σ1 hk ha x1 f1 f2 f3 kk
      have e : a = t.1 := by omega
      subst e
      obtain ⟨-, -, -, -, ⟨q1, -⟩, -, -, ht, hr⟩ := id (hK.rs x1)
      rw [sk_stop (by omega)] at kk
      have hch : chT t t.1 = -1 := if_neg (by omega)
      have := kk σ1 x1 f1 f2 f3
      rw [hch] at this
      have ht1 := ht.1
      refine x_aload_n i_Reader_ahead_0 rfl ?_
      refine x_getI i_Reader_ahead_1 rfl rfl ?_
      rw [f1]
      refine x_aload_n i_Reader_ahead_4 rfl ?_
      refine x_getR (c2 := 6) i_Reader_ahead_5 rfl rfl (by assumption) ?_
      refine x_cv0 i_Reader_ahead_8 rfl rfl rfl ?_
      refine c_Row_size hr ?_
      refine x_icmp_ge_t i_Reader_ahead_11 (by omega) ?_
      refine x_aload_n i_Reader_ahead_43 rfl ?_
      refine x_getR (c2 := 6) i_Reader_ahead_44 rfl rfl (by assumption) ?_
      refine x_aload_n i_Reader_ahead_47 rfl ?_
      refine x_getI i_Reader_ahead_48 rfl rfl ?_
      rw [f1]
      refine x_cv1 i_Reader_ahead_51 rfl rfl rfl ?_
      refine c_at_out hr (Or.inr (Int.le_refl _)) ?_
      refine x_iret i_Reader_ahead_54 rfl ?_
      exact this
    | succ k ih =>
      intro a σ1 hk ha x1 f1 f2 f3 kk
      obtain ⟨-, -, -, -, ⟨q1, -⟩, -, -, ht, hr⟩ := id (hK.rs x1)
      have hlt : a < t.1 := by omega
      have ht1 := ht.1
      refine x_aload_n i_Reader_ahead_0 rfl ?_
      refine x_getI i_Reader_ahead_1 rfl rfl ?_
      rw [f1]
      refine x_aload_n i_Reader_ahead_4 rfl ?_
      refine x_getR (c2 := 6) i_Reader_ahead_5 rfl rfl (by assumption) ?_
      refine x_cv0 i_Reader_ahead_8 rfl rfl rfl ?_
      refine c_Row_size hr ?_
      refine x_icmp_ge_f i_Reader_ahead_11 (by omega) ?_
      refine x_aload_n i_Reader_ahead_14 rfl ?_
      refine x_getR (c2 := 6) i_Reader_ahead_15 rfl rfl (by assumption) ?_
      refine x_aload_n i_Reader_ahead_18 rfl ?_
      refine x_getI i_Reader_ahead_19 rfl rfl ?_
      rw [f1]
      refine x_cv1 i_Reader_ahead_22 rfl rfl rfl ?_
      refine c_at_in hr (j := a) rfl hlt ?_
      refine x_bipush i_Reader_ahead_25 ?_
      refine x_icmp_ne i_Reader_ahead_27 (fun g1 => ?_) (fun g1 => ?_)
      · rw [sk_stop (fun w => g1 w.2)] at kk
        have := kk σ1 x1 f1 f2 f3
        rw [show chT t a = t.2 a from if_pos hlt] at this
        refine x_aload_n i_Reader_ahead_43 rfl ?_
        refine x_getR (c2 := 6) i_Reader_ahead_44 rfl rfl (by assumption) ?_
        refine x_aload_n i_Reader_ahead_47 rfl ?_
        refine x_getI i_Reader_ahead_48 rfl rfl ?_
        rw [f1]
        refine x_cv1 i_Reader_ahead_51 rfl rfl rfl ?_
        refine c_at_in hr (j := a) rfl hlt ?_
        refine x_iret i_Reader_ahead_54 rfl ?_
        exact this
      · refine x_aload_n i_Reader_ahead_30 rfl ?_
        refine x_dup i_Reader_ahead_31 ?_
        refine x_getI i_Reader_ahead_32 rfl rfl ?_
        rw [f1]
        refine x_iconst i_Reader_ahead_35 ?_
        refine x_iadd i_Reader_ahead_36 (by omega) ?_
        refine x_putI i_Reader_ahead_37 rfl rfl ?_
        refine x_goto i_Reader_ahead_40 ?_
        refine ih (a + 1) _ (by omega) (by omega) (x1.tr (rsX_sFI (by decide) (by decide))) (by rw [FI_sFI, if_pos ⟨rfl, rfl⟩]; omega) (by rw [FI_sFI, if_neg (by omega)]; exact f2) (by rw [FI_sFI, if_neg (by omega)]; exact f3) ?_
        rw [sk_step hlt (by omega)] at kk
        exact kk
  refine x_in (ls := [some _]) rfl rfl ?_
  exact loop (t.1 - a) a σ rfl ha2 (tX.rf _ _ _) ha rfl rfl kk
theorem c_Rd_aheadS (h : RdS σ C t st opn) (kk : ∀ σ', rsX (C 0) σ σ' → RdS σ' C t st opn → FI σ' 503 (C 0) = (st.1 : Int) → Q (some (vi (chT t st.1))) σ') : wp (d + 3) m_Reader_ahead [vr 5 (C 0)] σ Q := by
  obtain ⟨b1, b2, ⟨a, b3, b31, b32⟩, b4, b5, -⟩ := id h
  refine c_Rd_ahead b1 b3 b31 (fun σ' x f1 f2 f3 => ?_)
  rw [b32] at f1
  have := kk σ' x (h.rs x b2 rfl ⟨st.1, f1, b2.1, b2.2.1⟩ (by rw [f2]; exact b4) (by rw [f3]; exact b5)) f1
  rw [b32]
  exact this
theorem c_Rd_failF {p : Nat} {q : Int} (hf : FI σ 505 (C 0) = (p : Int)) (kk : Q none σ) : wp (d + 1) m_Reader_fail [vr 5 (C 0), vi q] σ Q := by
  refine x_in (ls := [some _, some _]) rfl rfl ?_
  refine x_aload_n i_Reader_fail_0 rfl ?_
  refine x_getI i_Reader_fail_1 rfl rfl ?_
  rw [hf]
  refine x_iconst i_Reader_fail_4 ?_
  refine x_icmp_ne_t i_Reader_fail_5 (by omega) ?_
  refine x_vret i_Reader_fail_13 rfl ?_
  exact kk
theorem c_Rd_failS (h : RdS σ C t st opn) {a p : Nat} (ha : FI σ 503 (C 0) = (a : Int)) (ha2 : a ≤ t.1) (hp : p ≤ t.1) (kk : ∀ σ', rsX (C 0) σ σ' → RdF σ' C t p opn → FI σ' 503 (C 0) = (a : Int) → Q none σ') : wp (d + 1) m_Reader_fail [vr 5 (C 0), vi (p : Nat)] σ Q := by
  obtain ⟨b1, b2, b3, b4, b5, -⟩ := id h
  refine x_in (ls := [some _, some _]) rfl rfl ?_
  refine x_aload_n i_Reader_fail_0 rfl ?_
  refine x_getI i_Reader_fail_1 rfl rfl ?_
  rw [b5]
  refine x_iconst i_Reader_fail_4 ?_
  refine x_icmp_ne_f i_Reader_fail_5 rfl ?_
  refine x_aload_n i_Reader_fail_8 rfl ?_
  refine x_iload_n i_Reader_fail_9 rfl ?_
  refine x_putI i_Reader_fail_10 rfl rfl ?_
  have x := rsX_sFI (rd := C 0) (σ := σ) (f := 505) (v := (p : Int)) (by decide) (by decide)
  have e3 : FI (sFI σ 505 (C 0) (p : Int)) 503 (C 0) = (a : Int) := by rw [FI_sFI, if_neg (by omega)]; exact ha
  refine x_vret i_Reader_fail_13 rfl ?_
  exact kk _ x (h.flt x hp ⟨a, e3, ha2⟩ (by rw [FI_sFI, if_neg (by omega)]; exact b4) (by rw [FI_sFI, if_pos ⟨rfl, rfl⟩])) e3
theorem c_Rd_takesF {p : Nat} (hf : FI σ 505 (C 0) = (p : Int)) {c : Int} (kk : Q (some (vi 0)) σ) : wp (d + 1) m_Reader_takes [vr 5 (C 0), vi c] σ Q := by
  refine x_in (ls := [some _, some _]) rfl rfl ?_
  refine x_aload_n i_Reader_takes_0 rfl ?_
  refine x_getI i_Reader_takes_1 rfl rfl ?_
  rw [hf]
  refine x_iconst i_Reader_takes_4 ?_
  refine x_icmp_ne_t i_Reader_takes_5 (by omega) ?_
  refine x_iconst i_Reader_takes_16 ?_
  refine x_zret i_Reader_takes_17 rfl (by omega) ?_
  exact kk
theorem c_Rd_takes (h : RdS σ C t st opn) {c : Int} (hc : c ≠ -1) (kt : chT t st.1 = c → ∀ σ', rsX (C 0) σ σ' → RdS σ' C t (sk t (st.1 + 1), st.2) opn → Q (some (vi 1)) σ') (kf : chT t st.1 ≠ c → ∀ σ', rsX (C 0) σ σ' → RdS σ' C t st opn → FI σ' 503 (C 0) = (st.1 : Int) → Q (some (vi 0)) σ') : wp (d + 4) m_Reader_takes [vr 5 (C 0), vi c] σ Q := by
  obtain ⟨b1, b2, b3, b4, b5, -⟩ := id h
  have ht1 := b1.2.2.2.2.2.2.2.1.1
  refine x_in (ls := [some _, some _]) rfl rfl ?_
  refine x_aload_n i_Reader_takes_0 rfl ?_
  refine x_getI i_Reader_takes_1 rfl rfl ?_
  rw [b5]
  refine x_iconst i_Reader_takes_4 ?_
  refine x_icmp_ne_f i_Reader_takes_5 rfl ?_
  refine x_aload_n i_Reader_takes_8 rfl ?_
  refine x_cv0 i_Reader_takes_9 rfl rfl rfl ?_
  refine c_Rd_aheadS h (fun σ1 x1 h1 f1 => ?_)
  refine x_iload_n i_Reader_takes_12 rfl ?_
  refine x_icmp_eq i_Reader_takes_13 (fun g1 => ?_) (fun g1 => ?_)
  · have hlt := chT_lt (t := t) (a := st.1) (by rw [g1]; exact hc)
    refine x_aload_n i_Reader_takes_18 rfl ?_
    refine x_dup i_Reader_takes_19 ?_
    refine x_getI i_Reader_takes_20 rfl rfl ?_
    refine x_iconst i_Reader_takes_23 ?_
    refine x_iadd i_Reader_takes_24 (by omega) ?_
    refine x_putI i_Reader_takes_25 rfl rfl ?_
    refine x_iconst i_Reader_takes_28 ?_
    rw [f1]
    have x2 := rsX_sFI (rd := C 0) (σ := σ1) (f := 503) (v := (st.1 : Int) + 1) (by decide) (by decide)
    obtain ⟨c1, c2, c3, c4, c5, -⟩ := id h1
    refine x_zret i_Reader_takes_29 rfl (by omega) ?_
    exact kt g1 _ (x1.tr x2) (h1.rs x2 ⟨sk_le (by omega), sk_sk _ _, b2.2.2⟩ rfl ⟨st.1 + 1, by rw [FI_sFI, if_pos ⟨rfl, rfl⟩]; omega, by omega, rfl⟩ (by rw [FI_sFI, if_neg (by omega)]; exact c4) (by rw [FI_sFI, if_neg (by omega)]; exact c5))
  · refine x_iconst i_Reader_takes_16 ?_
    refine x_zret i_Reader_takes_17 rfl (by omega) ?_
    exact kf g1 σ1 x1 h1 f1
theorem c_Rd_mustF {p : Nat} (hf : FI σ 505 (C 0) = (p : Int)) {c : Int} (kk : Q none σ) : wp (d + 2) m_Reader_must [vr 5 (C 0), vi c] σ Q := by
  refine x_in (ls := [some _, some _]) rfl rfl ?_
  refine x_aload_n i_Reader_must_0 rfl ?_
  refine x_iload_n i_Reader_must_1 rfl ?_
  refine x_cv1 i_Reader_must_2 rfl rfl rfl ?_
  refine c_Rd_takesF hf ?_
  refine x_if_ne_f i_Reader_must_5 rfl ?_
  refine x_aload_n i_Reader_must_8 rfl ?_
  refine x_aload_n i_Reader_must_9 rfl ?_
  refine x_getI i_Reader_must_10 rfl rfl ?_
  refine x_cv1 i_Reader_must_13 rfl rfl rfl ?_
  refine c_Rd_failF hf ?_
  refine x_vret i_Reader_must_16 rfl ?_
  exact kk
theorem c_Rd_must (h : RdS σ C t st opn) {c : Int} (hc : c ≠ -1) (kt : chT t st.1 = c → ∀ σ', rsX (C 0) σ σ' → RdS σ' C t (sk t (st.1 + 1), st.2) opn → Q none σ') (kf : chT t st.1 ≠ c → ∀ σ', rsX (C 0) σ σ' → RdF σ' C t st.1 opn → Q none σ') : wp (d + 5) m_Reader_must [vr 5 (C 0), vi c] σ Q := by
  obtain ⟨b1, b2, b3, b4, b5, -⟩ := id h
  refine x_in (ls := [some _, some _]) rfl rfl ?_
  refine x_aload_n i_Reader_must_0 rfl ?_
  refine x_iload_n i_Reader_must_1 rfl ?_
  refine x_cv1 i_Reader_must_2 rfl rfl rfl ?_
  refine c_Rd_takes h hc (fun w σ1 x1 h1 => ?_) (fun w σ1 x1 h1 f1 => ?_)
  · refine x_if_ne_t i_Reader_must_5 (by decide) ?_
    refine x_vret i_Reader_must_16 rfl ?_
    exact kt w σ1 x1 h1
  · refine x_if_ne_f i_Reader_must_5 rfl ?_
    refine x_aload_n i_Reader_must_8 rfl ?_
    refine x_aload_n i_Reader_must_9 rfl ?_
    refine x_getI i_Reader_must_10 rfl rfl ?_
    rw [f1]
    refine x_cv1 i_Reader_must_13 rfl rfl rfl ?_
    refine c_Rd_failS h1 f1 b2.1 b2.1 (fun σ2 x2 h2 _ => ?_)
    refine x_vret i_Reader_must_16 rfl ?_
    exact kf w σ2 (x1.tr x2) h2
theorem c_Rd_isName {c : Int} (kk : Q (some (vi (bI (isNm c)))) σ) : wp (d + 1) m_Reader_isName [vi c] σ Q := by
  unfold isNm bI at kk
  refine x_in (ls := [some _]) rfl rfl ?_
  refine x_iload_n i_Reader_isName_0 rfl ?_
  refine x_bipush i_Reader_isName_1 ?_
  refine x_icmp_lt i_Reader_isName_3 (fun g1 => ?_) (fun g1 => ?_)
  · rw [decide_eq_false (by omega)] at kk
    refine x_iconst i_Reader_isName_16 ?_
    refine x_zret i_Reader_isName_17 rfl (by omega) ?_
    exact kk
  · refine x_iload_n i_Reader_isName_6 rfl ?_
    refine x_bipush i_Reader_isName_7 ?_
    refine x_icmp_gt i_Reader_isName_9 (fun g2 => ?_) (fun g2 => ?_)
    · rw [decide_eq_false (by omega)] at kk
      refine x_iconst i_Reader_isName_16 ?_
      refine x_zret i_Reader_isName_17 rfl (by omega) ?_
      exact kk
    · rw [decide_eq_true (by omega)] at kk
      refine x_iconst i_Reader_isName_12 ?_
      refine x_goto i_Reader_isName_13 ?_
      refine x_zret i_Reader_isName_17 rfl (by omega) ?_
      exact kk
theorem c_Rd_isSmall {c : Int} (kk : Q (some (vi (bI (isSm c)))) σ) : wp (d + 1) m_Reader_isSmall [vi c] σ Q := by
  unfold isSm bI at kk
  refine x_in (ls := [some _]) rfl rfl ?_
  refine x_iload_n i_Reader_isSmall_0 rfl ?_
  refine x_bipush i_Reader_isSmall_1 ?_
  refine x_icmp_lt i_Reader_isSmall_3 (fun g1 => ?_) (fun g1 => ?_)
  · rw [decide_eq_false (by omega)] at kk
    refine x_iconst i_Reader_isSmall_16 ?_
    refine x_zret i_Reader_isSmall_17 rfl (by omega) ?_
    exact kk
  · refine x_iload_n i_Reader_isSmall_6 rfl ?_
    refine x_bipush i_Reader_isSmall_7 ?_
    refine x_icmp_gt i_Reader_isSmall_9 (fun g2 => ?_) (fun g2 => ?_)
    · rw [decide_eq_false (by omega)] at kk
      refine x_iconst i_Reader_isSmall_16 ?_
      refine x_zret i_Reader_isSmall_17 rfl (by omega) ?_
      exact kk
    · rw [decide_eq_true (by omega)] at kk
      refine x_iconst i_Reader_isSmall_12 ?_
      refine x_goto i_Reader_isSmall_13 ?_
      refine x_zret i_Reader_isSmall_17 rfl (by omega) ?_
      exact kk
theorem c_Rd_partAheadF {p : Nat} (hf : FI σ 505 (C 0) = (p : Int)) (kk : Q (some (vi 0)) σ) : wp (d + 1) m_Reader_partAhead [vr 5 (C 0)] σ Q := by
  refine x_in (ls := [some _, none]) rfl rfl ?_
  refine x_aload_n i_Reader_partAhead_0 rfl ?_
  refine x_getI i_Reader_partAhead_1 rfl rfl ?_
  rw [hf]
  refine x_iconst i_Reader_partAhead_4 ?_
  refine x_icmp_eq_f i_Reader_partAhead_5 (by omega) ?_
  refine x_iconst i_Reader_partAhead_8 ?_
  refine x_zret i_Reader_partAhead_9 rfl (by omega) ?_
  exact kk
theorem c_Rd_partAhead (h : RdS σ C t st opn) (kk : ∀ σ', rsX (C 0) σ σ' → RdS σ' C t st opn → FI σ' 503 (C 0) = (st.1 : Int) → Q (some (vi (bI (ahP (chT t st.1))))) σ') : wp (d + 4) m_Reader_partAhead [vr 5 (C 0)] σ Q := by
  obtain ⟨b1, b2, b3, b4, b5, -⟩ := id h
  refine x_in (ls := [some _, none]) rfl rfl ?_
  refine x_aload_n i_Reader_partAhead_0 rfl ?_
  refine x_getI i_Reader_partAhead_1 rfl rfl ?_
  rw [b5]
  refine x_iconst i_Reader_partAhead_4 ?_
  refine x_icmp_eq_t i_Reader_partAhead_5 rfl ?_
  refine x_aload_n i_Reader_partAhead_10 rfl ?_
  refine x_cv0 i_Reader_partAhead_11 rfl rfl rfl ?_
  refine c_Rd_aheadS h (fun σ1 x1 h1 f1 => ?_)
  have kk := kk σ1 x1 h1 f1
  generalize chT t st.1 = c at kk ⊢
  have yes : ahP c = true → Ex (wp (d + 3)) m_Reader_partAhead Q 47 [some (vr 5 (C 0)), some (vi c)] [] σ1 := by
    intro w
    rw [w] at kk
    refine x_iconst i_Reader_partAhead_47 ?_
    refine x_goto i_Reader_partAhead_48 ?_
    refine x_zret i_Reader_partAhead_52 rfl (by omega) ?_
    exact kk
  have y3 : (c = 39 ∨ c = 91 ∨ c = 40) → ahP c = true := fun w => by unfold ahP; rw [decide_eq_true w]; rfl
  refine x_istore_n (ls' := [_, _]) i_Reader_partAhead_14 rfl rfl ?_
  refine x_iload_n i_Reader_partAhead_15 rfl ?_
  refine x_bipush i_Reader_partAhead_16 ?_
  refine x_icmp_eq i_Reader_partAhead_18 (fun g1 => ?_) (fun g1 => ?_)
  · exact yes (y3 (Or.inl g1))
  · refine x_iload_n i_Reader_partAhead_21 rfl ?_
    refine x_bipush i_Reader_partAhead_22 ?_
    refine x_icmp_eq i_Reader_partAhead_24 (fun g2 => ?_) (fun g2 => ?_)
    · exact yes (y3 (Or.inr (Or.inl g2)))
    · refine x_iload_n i_Reader_partAhead_27 rfl ?_
      refine x_bipush i_Reader_partAhead_28 ?_
      refine x_icmp_eq i_Reader_partAhead_30 (fun g3 => ?_) (fun g3 => ?_)
      · exact yes (y3 (Or.inr (Or.inr g3)))
      · have e : ahP c = (isNm c || isSm c) := by unfold ahP; rw [decide_eq_false (by omega), Bool.false_or]
        rw [e] at kk yes
        refine x_iload_n i_Reader_partAhead_33 rfl ?_
        refine x_cs1 i_Reader_partAhead_34 rfl rfl ?_
        refine c_Rd_isName ?_
        refine x_if_ne i_Reader_partAhead_37 (fun g4 => ?_) (fun g4 => ?_)
        · exact yes (by rw [bI_t g4]; rfl)
        · rw [bI_f g4, Bool.false_or] at kk yes
          refine x_iload_n i_Reader_partAhead_40 rfl ?_
          refine x_cs1 i_Reader_partAhead_41 rfl rfl ?_
          refine c_Rd_isSmall ?_
          refine x_if_eq i_Reader_partAhead_44 (fun g5 => ?_) (fun g5 => ?_)
          · rw [bI_f g5] at kk
            refine x_iconst i_Reader_partAhead_51 ?_
            refine x_zret i_Reader_partAhead_52 rfl (by omega) ?_
            exact kk
          · exact yes (bI_t g5)
end


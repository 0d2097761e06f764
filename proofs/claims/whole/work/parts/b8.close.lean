/-! THE CLASS's Reader: closeBytes, ' ' -/
theorem RdF.ob {σ σ' : AS} {C : Nat → Nat} {t : TP} {opn p : Nat} (h : RdF σ C t p opn) {c a : Nat} (hx : obX c a σ σ') (hc : c = 0 ∨ c = 4 ∨ c = 8) : RdF σ' C t p opn := by
  obtain ⟨b1, b2, ⟨x, b3, b31⟩, b4, b5, ⟨k, b6, b7⟩, ⟨n, f, b8⟩, ⟨f2, b9⟩⟩ := h
  obtain ⟨x1, x2, x3, x4, x5, x6, x7⟩ := id hx
  have fi : ∀ f y, f / 100 ≠ c → FI σ' f y = FI σ f y := fun f y w => (x1 f y (fun q => w q.1)).1
  have fr : ∀ f y, f / 100 ≠ c → FR σ' f y = FR σ f y := fun f y w => (x1 f y (fun q => w q.1)).2
  have c6 : c ≠ 6 := by omega
  obtain ⟨h1, h2, h3, h4, ⟨q1, q2, q3, q4, q5, q6, q7⟩, l1, l2, t2, t3⟩ := b1
  exact ⟨⟨by rw [x5]; exact h1, by rw [x5]; exact h2, by rw [x5]; exact h3, h4, ⟨by rw [fr _ _ (by omega)]; exact q1, by rw [fr _ _ (by omega)]; exact q2, by rw [fr _ _ (by omega)]; exact q3, by rw [fr _ _ (by omega)]; exact q4, by rw [fr _ _ (by omega)]; exact q5, by rw [fr _ _ (by omega)]; exact q6, by rw [fr _ _ (by omega)]; exact q7⟩, by rw [x4]; exact l1, by rw [x4]; exact l2, t2, hx.row c6 t3⟩, b2, ⟨x, by rw [fi _ _ (by omega)]; exact b3, b31⟩, by rw [fi _ _ (by omega)]; exact b4, by rw [fi _ _ (by omega)]; exact b5, ⟨k, b6, by rw [fi _ _ (by omega)]; exact b7⟩, ⟨n, f, hx.row c6 b8⟩, ⟨f2, hx.row c6 b9⟩⟩
theorem RdF.newO {σ : AS} {C : Nat → Nat} {t : TP} {opn p : Nat} (h : RdF σ C t p opn) {c : Nat} (hc : c = 0 ∨ c = 4 ∨ c = 8) : RdF (nO σ c) C t p opn := by
  obtain ⟨b1, b2, ⟨a, b3, b31⟩, b4, b5, ⟨k, b6, b7⟩, ⟨n, f, b8⟩, ⟨f2, b9⟩⟩ := h
  have hx : rdX C σ (nO σ c) := (rdX.rf C σ).nO hc
  have fi : ∀ f x, (f / 100 = 5 ∨ f / 100 = 1) → FI (nO σ c) f x = FI σ f x := fun f x w => by rw [FI_nO, if_neg (by omega)]
  exact ⟨b1.rd hx, b2, ⟨a, by rw [fi _ _ (by decide)]; exact b3, b31⟩, by rw [fi _ _ (by decide)]; exact b4, by rw [fi _ _ (by decide)]; exact b5, ⟨k, b6, by rw [fi _ _ (by decide)]; exact b7⟩, ⟨n, f, nO_row (by omega) b8⟩, ⟨f2, nO_row (by omega) b9⟩⟩
theorem RdF.quo {σ σ' : AS} {C : Nat → Nat} {t : TP} {opn p n : Nat} {f : Nat → Int} (h : RdF σ C t p opn) (hx : rowX (C 6) (C 7) σ σ') (hr : rowF σ' (C 6) (C 7) 32 n f) : RdF σ' C t p opn := by
  obtain ⟨b1, b2, ⟨x, b3, b31⟩, b4, b5, ⟨k, b6, b7⟩, -, ⟨f2, b9⟩⟩ := h
  have fi : ∀ f y, f ≠ 601 → FI σ' f y = FI σ f y := fun f y w => hx.1 f y (fun q => w q.1)
  obtain ⟨-, ⟨r1, r2, r3, r4, r5, r6, r7, r8, r9⟩, ⟨s1, s2, s3, s4, s5, s6, s7, s8, s9⟩, -⟩ := id b1
  exact ⟨b1.rd (hx.rd (Or.inl ⟨rfl, rfl⟩)), b2, ⟨x, by rw [fi _ _ (by decide)]; exact b3, b31⟩, by rw [fi _ _ (by decide)]; exact b4, by rw [fi _ _ (by decide)]; exact b5, ⟨k, b6, by rw [fi _ _ (by decide)]; exact b7⟩, ⟨n, f, hr⟩, ⟨f2, b9.keep hx (fun q => r9 q.symm) (fun q => s9 q.symm)⟩⟩
theorem RdA.quo {σ σ' : AS} {C : Nat → Nat} {t : TP} {st : RT} {opn : Nat} {q q' : List Int} (h : RdA σ C t st opn q) (hx : rowX (C 6) (C 7) σ σ') (hr : rowF σ' (C 6) (C 7) 32 q'.length (fun i => q'.getD i 0)) : RdA σ' C t st opn q' := by
  obtain ⟨b1, b2, ⟨x, b3, b31⟩, b4, b5, b6, b7, -, b9⟩ := h
  have fi : ∀ f y, f ≠ 601 → FI σ' f y = FI σ f y := fun f y w => hx.1 f y (fun q => w q.1)
  obtain ⟨-, ⟨r1, r2, r3, r4, r5, r6, r7, r8, r9⟩, ⟨s1, s2, s3, s4, s5, s6, s7, s8, s9⟩, -⟩ := id b1
  refine ⟨b1.rd (hx.rd (Or.inl ⟨rfl, rfl⟩)), b2, ⟨x, by rw [fi _ _ (by decide)]; exact b3, b31⟩, by rw [fi _ _ (by decide)]; exact b4, by rw [fi _ _ (by decide)]; exact b5, by rw [fi _ _ (by decide)]; exact b6, fun i a hi => ?_, hr, b9.keep hx (fun q => r9 q.symm) (fun q => s9 q.symm)⟩
  obtain ⟨tt, c1, c2, c3, c4, c5, c6⟩ := b7 i a hi
  exact ⟨tt, by rw [hx.2.2.2.1]; exact c1, by rw [hx.2.2.2.2.2.1]; exact c2, by rw [fi _ _ (by decide)]; exact c3, by rw [fi _ _ (by decide)]; exact c4, by rw [fi _ _ (by decide)]; exact c5, by rw [fi _ _ (by decide)]; exact c6⟩
theorem RdA.atm {σ : AS} {C : Nat → Nat} {t : TP} {st : RT} {l : List AT} {opn : Nat} {q : List Int} {rule p kind tt : Nat} {x y lo hi : Int} (h : RdA σ C t st opn q) (hl : st.2.1 = l ++ [(rule, p, kind, x, y)]) (h1 : AR σ 15 (C 3) l.length = some tt) (h2 : ∀ i, i < l.length → ∃ z, AR σ 15 (C 3) i = some z ∧ z < tt) : RdA (sFI (sFI σ 3 tt lo) 4 tt hi) C t (st.1, l ++ [(rule, p, kind, lo, hi)], st.2.2) opn q := by
  obtain ⟨b1, ⟨o1, o2, o3⟩, ⟨a, b3, b31⟩, b4, b5, b6, b7, b8, b9⟩ := h
  have x2 : obX 0 tt σ (sFI (sFI σ 3 tt lo) 4 tt hi) := ((obX.rf 0 tt σ).sFI rfl).sFI rfl
  have fi : ∀ f y, 100 ≤ f → FI (sFI (sFI σ 3 tt lo) 4 tt hi) f y = FI σ f y := fun f y w => (x2.1 f y (fun q => by omega)).1
  rw [hl] at b6 b7 o3
  have e : (l ++ [(rule, p, kind, lo, hi)]).length = (l ++ [(rule, p, kind, x, y)]).length := by simp
  obtain ⟨hh1, hh2, hh3, hh4, hh5, hh6, hh7, hh8, hh9⟩ := b1
  exact ⟨⟨hh1, hh2, hh3, hh4, hh5, hh6, hh7, hh8, x2.row (by decide) hh9⟩, ⟨o1, o2, by rw [e]; exact o3⟩, ⟨a, by rw [fi _ _ (by decide)]; exact b3, b31⟩, by rw [fi _ _ (by decide)]; exact b4, by rw [fi _ _ (by decide)]; exact b5, by rw [fi _ _ (by decide)]; rw [e]; exact b6, atmR_set b7 h1 h2, x2.row (by decide) b8, x2.row (by decide) b9⟩
theorem RdF.at_ {σ : AS} {C : Nat → Nat} {t : TP} {opn p a : Nat} {v : Int} (h : RdF σ C t p opn) (hv : v = (a : Int)) (ha : a ≤ t.1) : RdF (sFI σ 503 (C 0) v) C t p opn := by
  obtain ⟨b1, b2, b3, b4, b5, -⟩ := id h
  exact h.rs (rsX_sFI (by decide) (by decide)) ⟨a, by rw [FI_sFI, if_pos ⟨rfl, rfl⟩, hv], ha⟩ (by rw [FI_sFI, if_neg (by omega)]; exact b4) (by rw [FI_sFI, if_neg (by omega)]; exact b5)
theorem RdA.at_ {σ : AS} {C : Nat → Nat} {t : TP} {st : RT} {opn a : Nat} {q : List Int} {v : Int} (h : RdA σ C t st opn q) (hv : v = (a : Int)) (ha : a ≤ t.1) : RdA (sFI σ 503 (C 0) v) C t (sk t a, st.2) opn q := by
  obtain ⟨b1, b2, b3, b4, b5, -⟩ := id h
  exact h.rs (rsX_sFI (by decide) (by decide)) ⟨sk_le ha, sk_sk _ _, b2.2.2⟩ rfl ⟨a, by rw [FI_sFI, if_pos ⟨rfl, rfl⟩, hv], ha, rfl⟩ (by rw [FI_sFI, if_neg (by omega)]; exact b4) (by rw [FI_sFI, if_neg (by omega)]; exact b5)
section
variable {d : Nat} {Q : AQ} {σ : AS} {C : Nat → Nat} {t : TP} {st : RT} {opn : Nat}
theorem c_Rd_closeF {p a b : Nat} (h : RdF σ C t p opn) (ha : FI σ 503 (C 0) = (a : Int)) (ha2 : a ≤ t.1) (hb : FR σ 402 b = none) {c lo hi : Int} (hc : c ≠ -1) (kk : ∀ σ', rsX (C 0) σ σ' → RdF σ' C t p opn → Q none σ') : wp (d + 3) m_Reader_closeBytes [vr 5 (C 0), vr 4 b, vi c, vi lo, vi hi] σ Q := by
  obtain ⟨b1, b2, b3, b4, b5, -⟩ := id h
  obtain ⟨-, -, -, -, ⟨q1, -⟩, -, -, ht, hr⟩ := id b1
  have ht1 := ht.1
  have tail : ∀ σ1, rsX (C 0) σ σ1 → RdF σ1 C t p opn → Ex (wp (d + 2)) m_Reader_closeBytes Q 36 [some (vr 5 (C 0)), some (vr 4 b), some (vi c), some (vi lo), some (vi hi)] [] σ1 := by
    intro σ1 x1 h1
    have hb1 : FR σ1 402 b = none := by rw [x1.2.1]; exact hb
    refine x_aload_n i_Reader_closeBytes_36 rfl ?_
    refine x_getO (c2 := 0) i_Reader_closeBytes_37 rfl rfl ?_
    refine x_ifnull_t i_Reader_closeBytes_40 hb1 ?_
    refine x_vret i_Reader_closeBytes_60 rfl ?_
    exact kk σ1 x1 h1
  refine x_in (ls := [some _, some _, some _, some _, some _]) rfl rfl ?_
  refine x_aload_n i_Reader_closeBytes_0 rfl ?_
  refine x_getR (c2 := 6) i_Reader_closeBytes_1 rfl rfl (by assumption) ?_
  refine x_aload_n i_Reader_closeBytes_4 rfl ?_
  refine x_getI i_Reader_closeBytes_5 rfl rfl ?_
  rw [ha]
  refine x_cv1 i_Reader_closeBytes_8 rfl rfl rfl ?_
  refine c_at hr ?_
  rw [rAt_ch]
  refine x_iload_n i_Reader_closeBytes_11 rfl ?_
  refine x_icmp_eq i_Reader_closeBytes_12 (fun g1 => ?_) (fun g1 => ?_)
  · have hlt := chT_lt (t := t) (a := a) (by rw [g1]; exact hc)
    refine x_aload_n i_Reader_closeBytes_26 rfl ?_
    refine x_dup i_Reader_closeBytes_27 ?_
    refine x_getI i_Reader_closeBytes_28 rfl rfl ?_
    rw [ha]
    refine x_iconst i_Reader_closeBytes_31 ?_
    refine x_iadd i_Reader_closeBytes_32 (by omega) ?_
    refine x_putI i_Reader_closeBytes_33 rfl rfl ?_
    have x := rsX_sFI (rd := C 0) (σ := σ) (f := 503) (v := (a : Int) + 1) (by decide) (by decide)
    exact tail _ x (h.rs x ⟨a + 1, by rw [FI_sFI, if_pos ⟨rfl, rfl⟩]; omega, by omega⟩ (by rw [FI_sFI, if_neg (by omega)]; exact b4) (by rw [FI_sFI, if_neg (by omega)]; exact b5))
  · refine x_aload_n i_Reader_closeBytes_15 rfl ?_
    refine x_aload_n i_Reader_closeBytes_16 rfl ?_
    refine x_getI i_Reader_closeBytes_17 rfl rfl ?_
    rw [ha]
    refine x_cv1 i_Reader_closeBytes_20 rfl rfl rfl ?_
    refine c_Rd_failF b5 ?_
    refine x_goto i_Reader_closeBytes_23 ?_
    exact tail σ (tX.rf _ _ _) h
theorem c_Rd_closeA {q : List Int} {a b tt : Nat} (h : RdA σ C t st opn q) (ha : FI σ 503 (C 0) = (a : Int)) (ha2 : a ≤ t.1) (hb : FR σ 402 b = some tt) {c lo hi : Int} (hc : c ≠ -1) (kt : chT t a = c → a < t.1 → Q none (sFI (sFI (sFI σ 503 (C 0) ((a : Int) + 1)) 3 tt lo) 4 tt hi)) (kf : chT t a ≠ c → ∀ σ1 σ', rsX (C 0) σ σ1 → obX 0 tt σ1 σ' → RdF σ' C t a opn → Q none σ') : wp (d + 3) m_Reader_closeBytes [vr 5 (C 0), vr 4 b, vi c, vi lo, vi hi] σ Q := by
  obtain ⟨b1, b2, b3, b4, b5, -⟩ := id h
  obtain ⟨-, -, -, -, ⟨q1, -⟩, -, -, ht, hr⟩ := id b1
  have ht1 := ht.1
  have tail : ∀ σ1, FR σ1 = FR σ → Q none (sFI (sFI σ1 3 tt lo) 4 tt hi) → Ex (wp (d + 2)) m_Reader_closeBytes Q 36 [some (vr 5 (C 0)), some (vr 4 b), some (vi c), some (vi lo), some (vi hi)] [] σ1 := by
    intro σ1 x1 hQ
    have hb1 : FR σ1 402 b = some tt := by rw [x1]; exact hb
    refine x_aload_n i_Reader_closeBytes_36 rfl ?_
    refine x_getR (c2 := 0) i_Reader_closeBytes_37 rfl rfl (by assumption) ?_
    refine x_ifnull_f i_Reader_closeBytes_40 (by intro w; cases w) ?_
    have hb2 : FR (sFI σ1 3 tt lo) 402 b = some tt := hb1
    refine x_aload_n i_Reader_closeBytes_43 rfl ?_
    refine x_getR (c2 := 0) i_Reader_closeBytes_44 rfl rfl (by assumption) ?_
    refine x_iload_n i_Reader_closeBytes_47 rfl ?_
    refine x_putI i_Reader_closeBytes_48 rfl rfl ?_
    refine x_aload_n i_Reader_closeBytes_51 rfl ?_
    refine x_getR (c2 := 0) i_Reader_closeBytes_52 rfl rfl (by assumption) ?_
    refine x_iload i_Reader_closeBytes_55 rfl ?_
    refine x_putI i_Reader_closeBytes_57 rfl rfl ?_
    refine x_vret i_Reader_closeBytes_60 rfl ?_
    exact hQ
  refine x_in (ls := [some _, some _, some _, some _, some _]) rfl rfl ?_
  refine x_aload_n i_Reader_closeBytes_0 rfl ?_
  refine x_getR (c2 := 6) i_Reader_closeBytes_1 rfl rfl (by assumption) ?_
  refine x_aload_n i_Reader_closeBytes_4 rfl ?_
  refine x_getI i_Reader_closeBytes_5 rfl rfl ?_
  rw [ha]
  refine x_cv1 i_Reader_closeBytes_8 rfl rfl rfl ?_
  refine c_at hr ?_
  rw [rAt_ch]
  refine x_iload_n i_Reader_closeBytes_11 rfl ?_
  refine x_icmp_eq i_Reader_closeBytes_12 (fun g1 => ?_) (fun g1 => ?_)
  · have hlt := chT_lt (t := t) (a := a) (by rw [g1]; exact hc)
    refine x_aload_n i_Reader_closeBytes_26 rfl ?_
    refine x_dup i_Reader_closeBytes_27 ?_
    refine x_getI i_Reader_closeBytes_28 rfl rfl ?_
    rw [ha]
    refine x_iconst i_Reader_closeBytes_31 ?_
    refine x_iadd i_Reader_closeBytes_32 (by omega) ?_
    refine x_putI i_Reader_closeBytes_33 rfl rfl ?_
    exact tail _ rfl (kt g1 hlt)
  · refine x_aload_n i_Reader_closeBytes_15 rfl ?_
    refine x_aload_n i_Reader_closeBytes_16 rfl ?_
    refine x_getI i_Reader_closeBytes_17 rfl rfl ?_
    rw [ha]
    refine x_cv1 i_Reader_closeBytes_20 rfl rfl rfl ?_
    refine c_Rd_failA h ha ha2 ha2 (fun σ1 x1 h1 _ => ?_)
    refine x_goto i_Reader_closeBytes_23 ?_
    have x2 : obX 0 tt σ1 (sFI (sFI σ1 3 tt lo) 4 tt hi) := ((obX.rf 0 tt σ1).sFI rfl).sFI rfl
    exact tail σ1 x1.2.1 (kf g1 σ1 _ x1 x2 (h1.ob x2 (Or.inl rfl)))
theorem litT_app (l : List AT) (x : AT) : litT (l ++ [x]) = litT l ++ (if x.2.2.1 = 0 then [x.2.2.2.1] else []) := litT_snoc l x
theorem c_Rd_readQuoted {k rule : Nat} {dA : PT k} (h : RdS σ C t st opn) (ha : FI σ 503 (C 0) = (st.1 : Int)) (hc : chT t st.1 = 39) (kk : ∀ σ' b, parPost C t st opn k (quoP t rule dA st) σ σ' b → Q (some (vr 4 b)) σ') : wp (d + 4) m_Reader_readQuoted [vr 5 (C 0)] σ Q := by
  obtain ⟨b1, b2, b3, b4, b5, -⟩ := id h
  have ht := b1.2.2.2.2.2.2.2.1
  have ht1 := ht.1
  have hlt := chT_lt (t := t) (a := st.1) (by rw [hc]; decide)
  refine x_in (ls := [some _, none, none]) rfl rfl ?_
  refine x_aload_n i_Reader_readQuoted_0 rfl ?_
  refine x_iconst i_Reader_readQuoted_1 ?_
  refine x_cv1 i_Reader_readQuoted_2 rfl rfl rfl ?_
  refine c_Rd_newPart (kind := 0) (rule := rule) (q := litT st.2.1) (RdS_A.mp h) ha (by decide) (fun w => absurd w (by decide)) (fun _ hl σ1 x1 h1 f1 e1 e2 e3 e4 p1 e5 e6 e7 e8 e9 => ?_) (fun _ hl σ1 x1 h1 f1 e1 e2 e3 e4 => ?_)
  · -- there is room for the atom
    have hR0 : ¬ 32 ≤ st.2.1.length := by omega
    unfold quoP at kk
    rw [if_neg hR0] at kk
    refine x_astore_n (ls' := [_, _, _]) i_Reader_readQuoted_5 rfl rfl ?_
    refine x_aload_n i_Reader_readQuoted_6 rfl ?_
    refine x_dup i_Reader_readQuoted_7 ?_
    refine x_getI i_Reader_readQuoted_8 rfl rfl ?_
    rw [f1]
    refine x_iconst i_Reader_readQuoted_11 ?_
    refine x_iadd i_Reader_readQuoted_12 (by omega) ?_
    refine x_putI i_Reader_readQuoted_13 rfl rfl ?_
    have h2 := h1.at_ (a := st.1 + 1) (v := (st.1 : Int) + 1) (by omega) (by omega)
    have x2 : rdX C σ (sFI σ1 503 (C 0) ((st.1 : Int) + 1)) := x1.sFI (Or.inr (Or.inl ⟨by decide, by decide, rfl⟩))
    have f2 : FI (sFI σ1 503 (C 0) ((st.1 : Int) + 1)) 503 (C 0) = ((st.1 + 1 : Nat) : Int) := by rw [FI_sFI, if_pos ⟨rfl, rfl⟩]; omega
    have y2 : rsX (C 0) σ1 (sFI σ1 503 (C 0) ((st.1 : Int) + 1)) := rsX_sFI (by decide) (by decide)
    generalize sFI σ1 503 (C 0) ((st.1 : Int) + 1) = σ2 at h2 x2 f2 y2
    have keep2 : nC σ2 = nC σ + 2 ∧ CN σ2 = CN σ1 ∧ FR σ2 = FR σ1 ∧ AR σ2 = AR σ1 := ⟨by rw [y2.2.2.2.2.2.2.1, e1], y2.2.2.2.2.2.1, y2.2.1, y2.2.2.2.1⟩
    obtain ⟨k1, k2, k3, k4⟩ := keep2
    have fi2 : ∀ f x, f < 503 → FI σ2 f x = FI σ1 f x := fun f x w => y2.1 _ _ (fun q => by have := q.1; omega)
    obtain ⟨⟨-, -, -, -, ⟨q1, q2, -, -, -, -, q7⟩, -, -, -, hr⟩, -⟩ := id h2
    refine x_aload_n i_Reader_readQuoted_16 rfl ?_
    refine x_getR (c2 := 6) i_Reader_readQuoted_17 rfl rfl (by assumption) ?_
    refine x_aload_n i_Reader_readQuoted_20 rfl ?_
    refine x_getI i_Reader_readQuoted_21 rfl rfl ?_
    rw [f2]
    refine x_cv1 i_Reader_readQuoted_24 rfl rfl rfl ?_
    refine c_at hr ?_
    rw [rAt_ch]
    refine x_istore_n (ls' := [_, _, _]) i_Reader_readQuoted_27 rfl rfl ?_
    refine x_iload_n i_Reader_readQuoted_28 rfl ?_
    refine x_iconst i_Reader_readQuoted_29 ?_
    have bad : (chT t (st.1 + 1) = -1 ∨ chT t (st.1 + 1) = 39) → Ex (wp (d + 3)) m_Reader_readQuoted Q 39 [some (vr 5 (C 0)), some (vr 4 (CN σ 4)), some (vi (chT t (st.1 + 1)))] [] σ2 := by
      intro w
      rw [if_pos w] at kk
      refine x_aload_n i_Reader_readQuoted_39 rfl ?_
      refine x_aload_n i_Reader_readQuoted_40 rfl ?_
      refine x_getI i_Reader_readQuoted_41 rfl rfl ?_
      rw [f2]
      refine x_cv1 i_Reader_readQuoted_44 rfl rfl rfl ?_
      refine c_Rd_failA h2 f2 (by omega) (by omega) (fun σ3 x3 h3 _ => ?_)
      refine x_aload_n i_Reader_readQuoted_47 rfl ?_
      refine x_aret (c := 4) i_Reader_readQuoted_48 rfl ?_
      exact kk σ3 _ ⟨x2.tr x3.rd, Nat.le_refl _, h3, by rw [x3.2.2.2.2.2.2.1, k1]; omega⟩
    refine x_icmp_eq i_Reader_readQuoted_30 (fun g1 => ?_) (fun g1 => ?_)
    · exact bad (Or.inl g1)
    · refine x_iload_n i_Reader_readQuoted_33 rfl ?_
      refine x_bipush i_Reader_readQuoted_34 ?_
      refine x_icmp_ne i_Reader_readQuoted_36 (fun g2 => ?_) (fun g2 => ?_)
      · rw [if_neg (fun w => w.elim g1 g2)] at kk
        have hlt1 := chT_lt (t := t) (a := st.1 + 1) g1
        refine x_aload_n i_Reader_readQuoted_49 rfl ?_
        refine x_dup i_Reader_readQuoted_50 ?_
        refine x_getI i_Reader_readQuoted_51 rfl rfl ?_
        rw [f2]
        refine x_iconst i_Reader_readQuoted_54 ?_
        refine x_iadd i_Reader_readQuoted_55 (by omega) ?_
        refine x_putI i_Reader_readQuoted_56 rfl rfl ?_
        have h3 := h2.at_ (a := st.1 + 2) (v := ((st.1 + 1 : Nat) : Int) + 1) (by omega) (by omega)
        have x3 : rdX C σ (sFI σ2 503 (C 0) (((st.1 + 1 : Nat) : Int) + 1)) := x2.sFI (Or.inr (Or.inl ⟨by decide, by decide, rfl⟩))
        have f3 : FI (sFI σ2 503 (C 0) (((st.1 + 1 : Nat) : Int) + 1)) 503 (C 0) = ((st.1 + 2 : Nat) : Int) := by rw [FI_sFI, if_pos ⟨rfl, rfl⟩]; omega
        have y3 : rsX (C 0) σ2 (sFI σ2 503 (C 0) (((st.1 + 1 : Nat) : Int) + 1)) := rsX_sFI (by decide) (by decide)
        generalize sFI σ2 503 (C 0) (((st.1 + 1 : Nat) : Int) + 1) = σ3 at h3 x3 f3 y3
        have y13 : rsX (C 0) σ1 σ3 := y2.tr y3
        have e402 : FR σ3 402 (CN σ 4) = some (CN σ 0) := by rw [y13.2.1]; exact p1.2.2.2.1
        refine x_aload_n i_Reader_readQuoted_59 rfl ?_
        refine x_aload_n i_Reader_readQuoted_60 rfl ?_
        refine x_bipush i_Reader_readQuoted_61 ?_
        refine x_iload_n i_Reader_readQuoted_63 rfl ?_
        refine x_iload_n i_Reader_readQuoted_64 rfl ?_
        refine x_cv4 i_Reader_readQuoted_65 rfl rfl rfl ?_
        refine c_Rd_closeA h3 f3 (by omega) e402 (c := 39) (by decide) (fun g3 hlt2 => ?_) (fun g3 σ4 σ5 x4 x5 h5 => ?_)
        · rw [if_pos g3] at kk
          have h4 := h3.at_ (a := st.1 + 3) (v := ((st.1 + 2 : Nat) : Int) + 1) (by omega) (by omega)
          have x4 : rdX C σ (sFI σ3 503 (C 0) (((st.1 + 2 : Nat) : Int) + 1)) := x3.sFI (Or.inr (Or.inl ⟨by decide, by decide, rfl⟩))
          have y4 : rsX (C 0) σ3 (sFI σ3 503 (C 0) (((st.1 + 2 : Nat) : Int) + 1)) := rsX_sFI (by decide) (by decide)
          generalize sFI σ3 503 (C 0) (((st.1 + 2 : Nat) : Int) + 1) = σ4 at h4 x4 y4
          have y14 : rsX (C 0) σ1 σ4 := y13.tr y4
          have h5 := h4.atm (l := st.2.1) (rule := rule) (p := st.1) (kind := 0) (x := -1) (y := -1) (tt := CN σ 0) (lo := chT t (st.1 + 1)) (hi := chT t (st.1 + 1)) rfl (by rw [y14.2.2.2.1]; exact e5) (fun i hi => by rw [y14.2.2.2.1]; exact e6 i hi)
          have x5 : obX 0 (CN σ 0) σ4 (sFI (sFI σ4 3 (CN σ 0) (chT t (st.1 + 1))) 4 (CN σ 0) (chT t (st.1 + 1))) := ((obX.rf 0 (CN σ 0) σ4).sFI rfl).sFI rfl
          have v3 : FI (sFI (sFI σ4 3 (CN σ 0) (chT t (st.1 + 1))) 4 (CN σ 0) (chT t (st.1 + 1))) 3 (CN σ 0) = chT t (st.1 + 1) := by simp [FI_sFI]
          have v4 : FI (sFI (sFI σ4 3 (CN σ 0) (chT t (st.1 + 1))) 4 (CN σ 0) (chT t (st.1 + 1))) 4 (CN σ 0) = chT t (st.1 + 1) := by simp [FI_sFI]
          have v2 : FI (sFI (sFI σ4 3 (CN σ 0) (chT t (st.1 + 1))) 4 (CN σ 0) (chT t (st.1 + 1))) 2 (CN σ 0) = (st.2.1.length : Int) := by rw [FI_sFI, if_neg (by omega), FI_sFI, if_neg (by omega), y14.1 _ _ (fun q => by have := q.1; omega)]; exact e7
          have r5 := x4.ob x5 (Nat.le_refl _)
          generalize sFI (sFI σ4 3 (CN σ 0) (chT t (st.1 + 1))) 4 (CN σ 0) (chT t (st.1 + 1)) = σ5 at h5 x5 v3 v4 v2 r5
          obtain ⟨⟨-, -, -, -, ⟨-, q2, -, -, -, -, q7⟩, -⟩, -, -, -, -, -, -, r8, -⟩ := id h5
          have hl32 : (litT st.2.1).length < 32 := by
            have : (litT st.2.1).length ≤ st.2.1.length := by unfold litT; rw [List.length_map]; exact List.length_filter_le _ _
            omega
          refine x_aload_n i_Reader_readQuoted_68 rfl ?_
          refine x_getR (c2 := 1) i_Reader_readQuoted_69 rfl rfl (by assumption) ?_
          refine x_iload_n i_Reader_readQuoted_72 rfl ?_
          refine x_cv1 i_Reader_readQuoted_73 rfl rfl rfl ?_
          refine c_G_addQuoted q7 r8 (fun σ6 n6 f6 w6 r6 x6 => ?_)
          obtain ⟨rfl, rfl⟩ := w6 hl32
          have h6 := h5.quo (q' := litT st.2.1 ++ [chT t (st.1 + 1)]) x6 (by
            rw [List.length_append]
            refine rowF.eq r6 (fun j hj => ?_)
            simp at hj
            by_cases w : j = (litT st.2.1).length
            · subst w
              rw [up_eq]; simp
            · rw [up_ne w, List.getD_eq_getElem?_getD, List.getD_eq_getElem?_getD, List.getElem?_append_left (by omega)])
          have hS : RdS σ6 C t (sk t (st.1 + 3), st.2.1 ++ [(rule, st.1, 0, chT t (st.1 + 1), chT t (st.1 + 1))], st.2.2) opn := by
            refine RdS_A.mpr ?_
            show RdA σ6 C t _ opn (litT (st.2.1 ++ [(rule, st.1, 0, chT t (st.1 + 1), chT t (st.1 + 1))]))
            rw [litT_snoc, if_pos rfl]
            exact h6
          have fi6 : ∀ f x, f ≠ 601 → FI σ6 f x = FI σ5 f x := fun f x w => x6.1 f x (fun q => w q.1)
          have p6 : newP σ6 (CN σ 4) 0 (some (CN σ 0)) := by
            obtain ⟨p1, p2, p3, p4, p5, p6, p7⟩ := p1
            have s : ∀ f, 400 ≤ f → f < 500 → FI σ6 f (CN σ 4) = FI σ1 f (CN σ 4) ∧ FR σ6 f (CN σ 4) = FR σ1 f (CN σ 4) := fun f w1 w2 => ⟨by rw [fi6 _ _ (by omega), (x5.1 f _ (fun q => by omega)).1, y14.1 _ _ (fun q => by have := q.1; omega)], by rw [x6.2.1, (x5.1 f _ (fun q => by omega)).2, y14.2.1]⟩
            exact ⟨by rw [(s _ (by decide) (by decide)).1]; exact p1, by rw [(s _ (by decide) (by decide)).1]; exact p2, by rw [(s _ (by decide) (by decide)).1]; exact p3, by rw [(s _ (by decide) (by decide)).2]; exact p4, by rw [(s _ (by decide) (by decide)).2]; exact p5, by rw [(s _ (by decide) (by decide)).2]; exact p6, by rw [(s _ (by decide) (by decide)).2]; exact p7⟩
          have cn6 : CN σ6 = CN σ1 := by rw [x6.2.2.2.2.2.1, x5.2.2.2.2.1, y14.2.2.2.2.2.1]
          have nc6 : nC σ6 = nC σ + 2 := by rw [x6.2.2.2.2.2.2.1, x5.2.2.2.2.2.1, y14.2.2.2.2.2.2.1, e1]
          have := sk_ge t (st.1 + 3)
          refine x_aload_n i_Reader_readQuoted_76 rfl ?_
          refine x_aret (c := 4) i_Reader_readQuoted_77 rfl ?_
          exact kk σ6 _ ⟨r5.tr (x6.rd (Or.inl ⟨rfl, rfl⟩)), Nat.le_refl _, hS, itmS_atom (by rw [cn6, e2]; omega) p6 (by decide) (by rw [fi6 _ _ (by decide)]; exact v2) (by rw [fi6 _ _ (by decide)]; exact v3) (by rw [fi6 _ _ (by decide)]; exact v4) (by omega) (by rw [cn6, e4]; omega), by rw [nc6]; show nC σ + 2 + 1 ≤ nC σ + 4 * (sk t (st.1 + 3) - st.1); omega⟩
        · rw [if_neg g3] at kk
          obtain ⟨⟨-, -, -, -, ⟨-, q2, -, -, -, -, q7⟩, -⟩, -, -, -, -, -, ⟨n5, f5, r5⟩, -⟩ := id h5
          refine x_aload_n i_Reader_readQuoted_68 rfl ?_
          refine x_getR (c2 := 1) i_Reader_readQuoted_69 rfl rfl (by assumption) ?_
          refine x_iload_n i_Reader_readQuoted_72 rfl ?_
          refine x_cv1 i_Reader_readQuoted_73 rfl rfl rfl ?_
          refine c_G_addQuoted q7 r5 (fun σ6 n6 f6 _ r6 x6 => ?_)
          refine x_aload_n i_Reader_readQuoted_76 rfl ?_
          refine x_aret (c := 4) i_Reader_readQuoted_77 rfl ?_
          exact kk σ6 _ ⟨((x3.tr x4.rd).ob x5 (Nat.le_refl _)).tr (x6.rd (Or.inl ⟨rfl, rfl⟩)), Nat.le_refl _, h5.quo x6 r6, by rw [x6.2.2.2.2.2.2.1, x5.2.2.2.2.2.1, x4.2.2.2.2.2.2.1, y3.2.2.2.2.2.2.1, k1]; omega⟩
      · exact bad (Or.inr (by omega))
  · -- there is none
    have hR : quoP t rule dA st = .inl st.1 := by unfold quoP; rw [if_pos hl]
    rw [hR] at kk
    refine x_astore_n (ls' := [_, _, _]) i_Reader_readQuoted_5 rfl rfl ?_
    refine x_aload_n i_Reader_readQuoted_6 rfl ?_
    refine x_dup i_Reader_readQuoted_7 ?_
    refine x_getI i_Reader_readQuoted_8 rfl rfl ?_
    rw [f1]
    refine x_iconst i_Reader_readQuoted_11 ?_
    refine x_iadd i_Reader_readQuoted_12 (by omega) ?_
    refine x_putI i_Reader_readQuoted_13 rfl rfl ?_
    have h2 := h1.at_ (a := st.1 + 1) (v := (st.1 : Int) + 1) (by omega) (by omega)
    have x2 : rdX C σ (sFI σ1 503 (C 0) ((st.1 : Int) + 1)) := x1.sFI (Or.inr (Or.inl ⟨by decide, by decide, rfl⟩))
    have f2 : FI (sFI σ1 503 (C 0) ((st.1 : Int) + 1)) 503 (C 0) = ((st.1 + 1 : Nat) : Int) := by rw [FI_sFI, if_pos ⟨rfl, rfl⟩]; omega
    have k1 : nC (sFI σ1 503 (C 0) ((st.1 : Int) + 1)) = nC σ + 1 := e1
    have k2 : FR (sFI σ1 503 (C 0) ((st.1 : Int) + 1)) 402 (CN σ 4) = none := e4
    generalize sFI σ1 503 (C 0) ((st.1 : Int) + 1) = σ2 at h2 x2 f2 k1 k2
    obtain ⟨⟨-, -, -, -, ⟨q1, q2, -, -, -, -, q7⟩, -, -, -, hr⟩, -, -, c4, c5, -⟩ := id h2
    refine x_aload_n i_Reader_readQuoted_16 rfl ?_
    refine x_getR (c2 := 6) i_Reader_readQuoted_17 rfl rfl (by assumption) ?_
    refine x_aload_n i_Reader_readQuoted_20 rfl ?_
    refine x_getI i_Reader_readQuoted_21 rfl rfl ?_
    rw [f2]
    refine x_cv1 i_Reader_readQuoted_24 rfl rfl rfl ?_
    refine c_at hr ?_
    rw [rAt_ch]
    refine x_istore_n (ls' := [_, _, _]) i_Reader_readQuoted_27 rfl rfl ?_
    refine x_iload_n i_Reader_readQuoted_28 rfl ?_
    refine x_iconst i_Reader_readQuoted_29 ?_
    have bad : Ex (wp (d + 3)) m_Reader_readQuoted Q 39 [some (vr 5 (C 0)), some (vr 4 (CN σ 4)), some (vi (chT t (st.1 + 1)))] [] σ2 := by
      refine x_aload_n i_Reader_readQuoted_39 rfl ?_
      refine x_aload_n i_Reader_readQuoted_40 rfl ?_
      refine x_getI i_Reader_readQuoted_41 rfl rfl ?_
      refine x_cv1 i_Reader_readQuoted_44 rfl rfl rfl ?_
      refine c_Rd_failF c5 ?_
      refine x_aload_n i_Reader_readQuoted_47 rfl ?_
      refine x_aret (c := 4) i_Reader_readQuoted_48 rfl ?_
      exact kk σ2 _ ⟨x2, Nat.le_refl _, h2, by rw [k1]; omega⟩
    refine x_icmp_eq i_Reader_readQuoted_30 (fun g1 => ?_) (fun g1 => ?_)
    · exact bad
    · refine x_iload_n i_Reader_readQuoted_33 rfl ?_
      refine x_bipush i_Reader_readQuoted_34 ?_
      refine x_icmp_ne i_Reader_readQuoted_36 (fun g2 => ?_) (fun g2 => ?_)
      · have hlt1 := chT_lt (t := t) (a := st.1 + 1) g1
        refine x_aload_n i_Reader_readQuoted_49 rfl ?_
        refine x_dup i_Reader_readQuoted_50 ?_
        refine x_getI i_Reader_readQuoted_51 rfl rfl ?_
        rw [f2]
        refine x_iconst i_Reader_readQuoted_54 ?_
        refine x_iadd i_Reader_readQuoted_55 (by omega) ?_
        refine x_putI i_Reader_readQuoted_56 rfl rfl ?_
        have h3 := h2.at_ (a := st.1 + 2) (v := ((st.1 + 1 : Nat) : Int) + 1) (by omega) (by omega)
        have x3 : rdX C σ (sFI σ2 503 (C 0) (((st.1 + 1 : Nat) : Int) + 1)) := x2.sFI (Or.inr (Or.inl ⟨by decide, by decide, rfl⟩))
        have f3 : FI (sFI σ2 503 (C 0) (((st.1 + 1 : Nat) : Int) + 1)) 503 (C 0) = ((st.1 + 2 : Nat) : Int) := by rw [FI_sFI, if_pos ⟨rfl, rfl⟩]; omega
        have k3 : nC (sFI σ2 503 (C 0) (((st.1 + 1 : Nat) : Int) + 1)) = nC σ2 := rfl
        have k4 : FR (sFI σ2 503 (C 0) (((st.1 + 1 : Nat) : Int) + 1)) = FR σ2 := rfl
        generalize sFI σ2 503 (C 0) (((st.1 + 1 : Nat) : Int) + 1) = σ3 at h3 x3 f3 k3 k4
        refine x_aload_n i_Reader_readQuoted_59 rfl ?_
        refine x_aload_n i_Reader_readQuoted_60 rfl ?_
        refine x_bipush i_Reader_readQuoted_61 ?_
        refine x_iload_n i_Reader_readQuoted_63 rfl ?_
        refine x_iload_n i_Reader_readQuoted_64 rfl ?_
        refine x_cv4 i_Reader_readQuoted_65 rfl rfl rfl ?_
        refine c_Rd_closeF h3 f3 (by omega) (by rw [k4]; exact k2) (c := 39) (by decide) (fun σ4 x4 h4 => ?_)
        obtain ⟨⟨-, -, -, -, ⟨-, q2, -, -, -, -, q7⟩, -⟩, -, -, -, -, -, ⟨n5, f5, r5⟩, -⟩ := id h4
        refine x_aload_n i_Reader_readQuoted_68 rfl ?_
        refine x_getR (c2 := 1) i_Reader_readQuoted_69 rfl rfl (by assumption) ?_
        refine x_iload_n i_Reader_readQuoted_72 rfl ?_
        refine x_cv1 i_Reader_readQuoted_73 rfl rfl rfl ?_
        refine c_G_addQuoted q7 r5 (fun σ6 n6 f6 _ r6 x6 => ?_)
        refine x_aload_n i_Reader_readQuoted_76 rfl ?_
        refine x_aret (c := 4) i_Reader_readQuoted_77 rfl ?_
        exact kk σ6 _ ⟨(x3.tr x4.rd).tr (x6.rd (Or.inl ⟨rfl, rfl⟩)), Nat.le_refl _, h4.quo x6 r6, by rw [x6.2.2.2.2.2.2.1, x4.2.2.2.2.2.2.1, k3, k1]; omega⟩
      · exact bad
end


/-! THE CLASS's Reader: readRule -/
def cnR (R : Nat → Option (PT 9)) : Nat := ((List.range 8).filter (fun r => (R r).isSome)).length
def setR (R : Nat → Option (PT 9)) (r : Nat) (x : PT 9) : Nat → Option (PT 9) := fun k => if k = r then some x else R k
def cntL (l : List AT) (r : Nat) : Nat := (l.filter (fun a => a.1 == r)).length
theorem cnt_aux {R : Nat → Option (PT 9)} {r : Nat} {x : PT 9} (h : (R r).isSome = false) : ∀ n, ((List.range n).filter (fun k => (setR R r x k).isSome)).length = ((List.range n).filter (fun k => (R k).isSome)).length + (if r < n then 1 else 0)
  | 0 => by simp
  | n + 1 => by
    rw [List.range_succ, List.filter_append, List.filter_append, List.length_append, List.length_append, cnt_aux h n]
    by_cases w : n = r
    · subst w
      have e : (setR R n x n).isSome = true := by unfold setR; rw [if_pos rfl]; rfl
      rw [List.filter_cons_of_pos (by simpa using e), List.filter_cons_of_neg (by simp [h])]
      simp
    · have e : (setR R r x n).isSome = (R n).isSome := by unfold setR; rw [if_neg w]
      have e2 : List.filter (fun k => (setR R r x k).isSome) [n] = List.filter (fun k => (R k).isSome) [n] := by
        simp only [List.filter_cons, List.filter_nil, e]
      rw [e2]
      by_cases w2 : r < n
      · rw [if_pos w2, if_pos (by omega)]; omega
      · rw [if_neg w2, if_neg (by omega)]; omega
theorem cnR_set {R : Nat → Option (PT 9)} {r : Nat} {x : PT 9} (h : (R r).isSome = false) (hr : r < 8) : cnR (setR R r x) = cnR R + 1 := by
  unfold cnR
  rw [cnt_aux h 8, if_pos hr]
theorem cnR_le (R : Nat → Option (PT 9)) : cnR R ≤ 8 := by
  have := List.length_filter_le (fun r => (R r).isSome) (List.range 8)
  rw [List.length_range] at this
  exact this
theorem cntL_ext {rule : Nat} {l l' : List AT} (h : exA rule l l') (r : Nat) : cntL l' r = cntL l r + (if r = rule then l'.length - l.length else 0) := by
  obtain ⟨e, h1, h2⟩ := h
  subst h1
  unfold cntL
  rw [List.filter_append, List.length_append, List.length_append]
  congr 1
  split
  · rename_i w
    subst w
    rw [List.filter_eq_self.mpr (fun a ha => by have := (h2 a ha).1; simp [this])]
    omega
  · rename_i w
    rw [List.filter_eq_nil_iff.mpr (fun a ha => by have := (h2 a ha).1; simp; omega)]
    rfl
/-- the grammar so far -/
def RdG (σ : AS) (C : Nat → Nat) (R : Nat → Option (PT 9)) (st : RT) : Prop := (∀ r, r < 8 → bodG σ (dnN st.2.2) (R r) (AR σ 16 (C 2) r)) ∧ rowF σ (C 4) (C 5) 8 8 (fun r => (cntL st.2.1 r : Int)) ∧ (FI σ 104 (C 1) = (cnR R : Int) ∧ FI σ 106 (C 1) = 0 ∧ FI σ 107 (C 1) = 0) ∧ ∀ a ∈ st.2.1, (R a.1).isSome = true ∧ (a.2.2.1 = 0 → 0 ≤ a.2.2.2.1 ∧ a.2.2.2.1 ≤ 255)
def RdH (σ : AS) (C : Nat → Nat) : Prop := (∃ f, rowF σ (C 4) (C 5) 8 8 f) ∧ ∃ n : Nat, n ≤ 8 ∧ FI σ 104 (C 1) = (n : Int)
theorem bodG.mono {σ : AS} {dn dn' : Nat → Prop} {o : Option (PT 9)} {q : Option Nat} (h : bodG σ dn o q) {σ' : AS} (hp : psoX σ σ') (hd : ∀ r, dn r → dn' r) : bodG σ' dn' o q := by
  revert h
  cases o with
  | none => exact id
  | some alt => intro w; exact ⟨w.1, w.2.keep hp hd 9 alt _⟩
theorem RdG.rd {σ σ' : AS} {C : Nat → Nat} {R : Nat → Option (PT 9)} {st : RT} {t : TP} (h : RdG σ C R st) (hK : RdK σ C t) (hx : rdX C σ σ') : RdG σ' C R st := by
  obtain ⟨h1, h2, h3, h4⟩ := h
  obtain ⟨⟨k1, k2, k3, k4⟩, ⟨r1, r2, r3, r4, r5, r6, r7, r8, r9⟩, ⟨s1, s2, s3, s4, s5, s6, s7, s8, s9⟩, -⟩ := hK
  exact ⟨fun r hr => by rw [hx.2.2.2.1 16 _ _ k3 (fun q => by omega)]; exact (h1 r hr).mono hx.pso (fun r w => w), hx.row h2 r2 ⟨by omega, by omega⟩ s2 ⟨by omega, by omega⟩, ⟨by rw [hx.1 104 _ k2 (fun q => by have := q.1; omega) (fun q => by omega) (fun q => by omega)]; exact h3.1, by rw [hx.1 106 _ k2 (fun q => by have := q.1; omega) (fun q => by omega) (fun q => by omega)]; exact h3.2.1, by rw [hx.1 107 _ k2 (fun q => by have := q.1; omega) (fun q => by omega) (fun q => by omega)]; exact h3.2.2⟩, h4⟩
theorem RdH.rd {σ σ' : AS} {C : Nat → Nat} {t : TP} (h : RdH σ C) (hK : RdK σ C t) (hx : rdX C σ σ') : RdH σ' C := by
  obtain ⟨⟨f, h2⟩, ⟨n, h3, h4⟩⟩ := h
  obtain ⟨⟨k1, k2, k3, k4⟩, ⟨r1, r2, r3, r4, r5, r6, r7, r8, r9⟩, ⟨s1, s2, s3, s4, s5, s6, s7, s8, s9⟩, -⟩ := hK
  exact ⟨⟨f, hx.row h2 r2 ⟨by omega, by omega⟩ s2 ⟨by omega, by omega⟩⟩, n, h3, by rw [hx.1 104 _ k2 (fun q => by have := q.1; omega) (fun q => by omega) (fun q => by omega)]; exact h4⟩
theorem RdG.H {σ : AS} {C : Nat → Nat} {R : Nat → Option (PT 9)} {st : RT} (h : RdG σ C R st) : RdH σ C := ⟨⟨_, h.2.1⟩, _, cnR_le R, h.2.2.1.1⟩
def rulPost (C : Nat → Nat) (t : TP) (st : RT) (R : PR (Nat → Option (PT 9))) (σ0 σ σ' : AS) : Prop := newX σ0 σ' ∧ (match R with
  | .inl p => RdF σ' C t p 0 ∧ nC σ' ≤ nC σ + 4 * (t.1 + 1 - st.1) + 37
  | .inr x => RdS σ' C t x.2 0 ∧ RdG σ' C x.1 x.2 ∧ nC σ' ≤ nC σ + 4 * (x.2.1 - st.1)) ∧ nC σ ≤ nC σ' ∧ nS σ' + 7 * nC σ ≤ nS σ + 7 * nC σ'
section
variable {d : Nat} {Q : AQ} {σ : AS} {C : Nat → Nat} {t : TP} {st : RT}
theorem c_Rd_has {R : Nat → Option (PT 9)} {r : Nat} (hK : RdK σ C t) (h : RdG σ C R st) (hr : r < 8) (kk : Q (some (vi (bI (R r).isSome))) σ) : wp (d + 2) m_Grammar_has [vr 1 (C 1), vi (r : Nat)] σ Q := by
  obtain ⟨-, -, -, -, ⟨q1, q2, q3, q4, q5, q6, q7⟩, l1, l2, -⟩ := hK
  have hb := h.1 r hr
  refine x_in (ls := [some _, some _]) rfl rfl ?_
  refine x_aload_n i_Grammar_has_0 rfl ?_
  refine x_iload_n i_Grammar_has_1 rfl ?_
  refine x_cv1 i_Grammar_has_2 rfl rfl rfl ?_
  refine c_G_body q4 l1 hr ?_
  revert hb kk
  cases R r with
  | none =>
    intro kk hb
    refine x_ifnull_t i_Grammar_has_5 hb ?_
    refine x_iconst i_Grammar_has_12 ?_
    refine x_zret i_Grammar_has_13 rfl (by omega) ?_
    exact kk
  | some alt =>
    intro kk hb
    refine x_ifnull_f i_Grammar_has_5 hb.1 ?_
    refine x_iconst i_Grammar_has_8 ?_
    refine x_goto i_Grammar_has_9 ?_
    refine x_zret i_Grammar_has_13 rfl (by omega) ?_
    exact kk
theorem c_Rd_readRule {R : Nat → Option (PT 9)} {σ0 : AS} (hC : newC C σ0) (h0 : newX σ0 σ) (h : RdS σ C t st 0) (hG : RdG σ C R st) (kk : ∀ σ', rulPost C t st (rulP t R st) σ0 σ σ' → Q none σ') : wp (d + 80) m_Reader_readRule [vr 5 (C 0)] σ Q := by
  have ht := h.1.2.2.2.2.2.2.2.1
  have hin := chT_in ht st.1
  have ht1 := ht.1
  refine x_in (ls := [some _, none, none, none, none]) rfl rfl ?_
  refine x_aload_n i_Reader_readRule_0 rfl ?_
  refine x_cv0 i_Reader_readRule_1 rfl rfl rfl ?_
  refine c_Rd_aheadS h (fun σ1 x1 h1 f1 => ?_)
  have hG1 : RdG σ1 C R st := hG.rd h.1 x1.rd
  have n1 : nC σ1 = nC σ := x1.2.2.2.2.2.2.1
  have s1 : nS σ1 = nS σ := x1.2.2.2.2.2.2.2
  have X1 := h0.rs hC x1
  have bad : (¬ (isNm (chT t st.1) = true ∧ (R (chT t st.1 - 65).toNat).isSome = false)) → Ex (wp (d + 79)) m_Reader_readRule Q 28 [some (vr 5 (C 0)), some (vi (chT t st.1)), some (vi (chT t st.1 - 65)), none, none] [] σ1 := by
    intro w
    have hR : rulP t R st = .inl st.1 := by unfold rulP; rw [if_neg w]
    rw [hR] at kk
    refine x_aload_n i_Reader_readRule_28 rfl ?_
    refine x_aload_n i_Reader_readRule_29 rfl ?_
    refine x_getI i_Reader_readRule_30 rfl rfl ?_
    rw [f1]
    refine x_cv1 i_Reader_readRule_33 rfl rfl rfl ?_
    refine c_Rd_failS h1 f1 h1.2.1.1 h1.2.1.1 (fun σ2 x2 h2 f2 => ?_)
    refine x_vret i_Reader_readRule_36 rfl ?_
    exact kk σ2 ⟨X1.rs hC x2, ⟨h2, by rw [x2.2.2.2.2.2.2.1, n1]; omega⟩, by rw [x2.2.2.2.2.2.2.1, n1]; exact Nat.le_refl _, by rw [x2.2.2.2.2.2.2.1, x2.2.2.2.2.2.2.2, n1, s1]; exact Nat.le_refl _⟩
  refine x_istore_n (ls' := [_, _, _, _, _]) i_Reader_readRule_4 rfl rfl ?_
  refine x_iload_n i_Reader_readRule_5 rfl ?_
  refine x_bipush i_Reader_readRule_6 ?_
  refine x_isub i_Reader_readRule_8 (by omega) ?_
  refine x_istore_n (ls' := [_, _, _, _, _]) i_Reader_readRule_9 rfl rfl ?_
  refine x_iload_n i_Reader_readRule_10 rfl ?_
  refine x_cs1 i_Reader_readRule_11 rfl rfl ?_
  refine c_Rd_isName ?_
  cases hn : isNm (chT t st.1) with
  | false =>
    refine x_if_eq_t i_Reader_readRule_14 rfl ?_
    exact bad (fun w => by rw [hn] at w; exact absurd w.1 (by decide))
  | true =>
    have hn2 := isNm_in hn
    generalize hr : (chT t st.1 - 65).toNat = r at bad
    have hr8 : r < 8 := by omega
    have er : chT t st.1 - 65 = ((r : Nat) : Int) := by omega
    rw [er] at bad
    obtain ⟨-, -, -, -, ⟨q1, q2, q3, q4, q5, q6, q7⟩, -⟩ := id h1.1
    refine x_if_eq_f i_Reader_readRule_14 (by decide) ?_
    refine x_aload_n i_Reader_readRule_17 rfl ?_
    refine x_getR (c2 := 1) i_Reader_readRule_18 rfl rfl (by assumption) ?_
    refine x_iload_n i_Reader_readRule_21 rfl ?_
    rw [er]
    refine x_cv1 i_Reader_readRule_22 rfl rfl rfl ?_
    refine c_Rd_has h1.1 hG1 hr8 ?_
    cases hs : (R r).isSome with
    | true =>
      refine x_if_eq_f i_Reader_readRule_25 (by decide) ?_
      exact bad (fun w => by rw [hs] at w; exact absurd w.2 (by decide))
    | false =>
      have hlt := chT_lt (t := t) (a := st.1) (by omega)
      have ok1 := h1.2.1
      have tk := advW.tok (rule := r) ok1 (c := chT t st.1) rfl (by omega)
      unfold rulP at kk
      rw [hr, if_pos ⟨hn, hs⟩] at kk
      simp only [] at kk
      refine x_if_eq_t i_Reader_readRule_25 rfl ?_
      refine x_aload_n i_Reader_readRule_37 rfl ?_
      refine x_dup i_Reader_readRule_38 ?_
      refine x_getI i_Reader_readRule_39 rfl rfl ?_
      rw [f1]
      refine x_iconst i_Reader_readRule_42 ?_
      refine x_iadd i_Reader_readRule_43 (by omega) ?_
      refine x_putI i_Reader_readRule_44 rfl rfl ?_
      have h2 := RdS_A.mpr (RdA.at_ (RdS_A.mp h1) (a := st.1 + 1) (v := (st.1 : Int) + 1) (by omega) (by omega))
      have x2 : rsX (C 0) σ1 (sFI σ1 503 (C 0) ((st.1 : Int) + 1)) := rsX_sFI (by decide) (by decide)
      generalize sFI σ1 503 (C 0) ((st.1 : Int) + 1) = σ2 at h2 x2
      have ge1 := sk_ge t (st.1 + 1)
      -- behind a fault
      have rest : ∀ p σ5 (m0 : Nat) s, m0 ≤ 32 → newX σ0 σ5 → RdF σ5 C t p 0 → RdH σ5 C → nC σ ≤ nC σ5 → nC σ5 ≤ nC σ + 4 * (t.1 + 1 - st.1) + 37 → nS σ5 + 7 * nC σ ≤ nS σ + 7 * nC σ5 → (∀ σ', rulPost C t st (.inl p) σ0 σ σ' → Q none σ') → Ex (wp (d + 79)) m_Reader_readRule Q 73 [some (vr 5 (C 0)), some (vi (chT t st.1)), some (vi (r : Nat)), some (vi (m0 : Nat)), some (vr 8 s)] [] σ5 := by
        intro p σ5 m0 s hm0 X5 h5 ⟨⟨f, g1⟩, ⟨n, g2, g3⟩⟩ m1 m2 m3 kk
        obtain ⟨b1, -, -, -, -, ⟨kx, b6, b7⟩, -⟩ := id h5
        obtain ⟨-, -, -, -, ⟨q1, q2, q3, q4, q5, q6, q7⟩, -⟩ := id b1
        have ok3 := ok1.2.2
        refine x_aload_n i_Reader_readRule_73 rfl ?_
        refine x_getR (c2 := 1) i_Reader_readRule_74 rfl rfl (by assumption) ?_
        refine x_iload_n i_Reader_readRule_77 rfl ?_
        refine x_aload i_Reader_readRule_78 rfl ?_
        refine x_aload_n i_Reader_readRule_80 rfl ?_
        refine x_getR (c2 := 1) i_Reader_readRule_81 rfl rfl (by assumption) ?_
        refine x_getI i_Reader_readRule_84 rfl rfl ?_
        rw [b7]
        refine x_iload_n i_Reader_readRule_87 rfl ?_
        refine x_isub i_Reader_readRule_88 (by omega) ?_
        refine x_cv3 i_Reader_readRule_89 rfl rfl rfl ?_
        refine c_G_addRule b1 hr8 g1 g3 (by omega) (fun σ6 x6 y6 z6 => ?_)
        refine x_vret i_Reader_readRule_92 rfl ?_
        exact kk σ6 ⟨X5.ad hC x6, ⟨h5.ad x6, by rw [x6.2.2.2.2.2.2.1]; exact m2⟩, by rw [x6.2.2.2.2.2.2.1]; exact m1, by rw [x6.2.2.2.2.2.2.1, x6.2.2.2.2.2.2.2]; exact m3⟩
      refine x_aload_n i_Reader_readRule_47 rfl ?_
      refine x_bipush i_Reader_readRule_48 ?_
      refine x_cv1 i_Reader_readRule_50 rfl rfl rfl ?_
      refine c_Rd_must h2 (by decide) (fun w σ3 x3 h3 => ?_) (fun w σ3 x3 h3 => ?_)
      · have w : chT t (sk t (st.1 + 1)) = 61 := w
        rw [if_pos w] at kk
        have x13 : rsX (C 0) σ1 σ3 := x2.tr x3
        have hG3 := hG1.rd h1.1 x13.rd
        have X3 := X1.rs hC x13
        have n3 : nC σ3 = nC σ := by rw [x13.2.2.2.2.2.2.1, n1]
        have s3 : nS σ3 = nS σ := by rw [x13.2.2.2.2.2.2.2, s1]
        have tk3 := advW.tok (rule := r) tk.2.ok w (by decide)
        have av := adv_D ht (rule := r) 8 _ tk3.2.ok
        have e105 : FI σ3 105 (C 1) = (st.2.1.length : Int) := h3.2.2.2.2.2.1
        have ge3 := sk_ge t (sk t (st.1 + 1) + 1)
        have ge3b : st.1 < sk t (sk t (st.1 + 1) + 1) := by omega
        simp only [] at kk av
        generalize hst3 : (sk t (sk t (st.1 + 1) + 1), st.2) = st3 at kk av
        have h3 : RdS σ3 C t st3 0 := by rw [← hst3]; exact h3
        have st3e : st3.2 = st.2 := by rw [← hst3]
        have st3l : st.1 < st3.1 := by rw [← hst3]; exact ge3b
        have st3m : st3.1 ≤ t.1 := h3.2.1.1
        obtain ⟨-, -, -, -, ⟨q1, q2, q3, q4, q5, q6, q7⟩, -⟩ := id h3.1
        refine x_aload_n i_Reader_readRule_53 rfl ?_
        refine x_getR (c2 := 1) i_Reader_readRule_54 rfl rfl (by assumption) ?_
        refine x_getI i_Reader_readRule_57 rfl rfl ?_
        rw [e105]
        refine x_istore_n (ls' := [_, _, _, _, _]) i_Reader_readRule_60 rfl rfl ?_
        refine x_aload_n i_Reader_readRule_61 rfl ?_
        refine x_cv0 i_Reader_readRule_62 rfl rfl rfl ?_
        refine c_Rd_altAll C t r ht 8 0 rfl _ (by omega) σ3 st3 _ h3 (fun σ4 s p4 => ?_)
        obtain ⟨r4, -, p4⟩ := p4
        have X4 := X3.rd hC r4
        have n4 := r4.2.2.2.2.2.2.2.1
        have s4 := r4.2.2.2.2.2.2.2.2
        have hH4 := hG3.H.rd h3.1 r4
        revert p4 av kk
        generalize altD t r 8 st3 = RR
        cases RR with
        | inl p =>
          intro kk av p4
          refine x_astore (ls' := [_, _, _, _, _]) i_Reader_readRule_65 rfl rfl ?_
          refine x_aload_n i_Reader_readRule_67 rfl ?_
          refine x_bipush i_Reader_readRule_68 ?_
          refine x_cv1 i_Reader_readRule_70 rfl rfl rfl ?_
          refine c_Rd_mustF p4.1.2.2.2.2.1 ?_
          exact rest p σ4 st.2.1.length s ok1.2.2 X4 p4.1 hH4 (by omega) (by have : nC σ4 ≤ nC σ3 + 4 * (t.1 + 1 - st3.1) + 4 * (8 + 1) + 1 := p4.2; omega) (by omega) kk
        | inr x =>
          intro kk av p4
          obtain ⟨p41, p42, p43⟩ := p4
          have p43 : nC σ4 ≤ nC σ3 + 4 * (x.2.1 - st3.1) := p43
          have av : advI t r st3 x.2 := av
          have lt4 : st3.1 < x.2.1 := av.1
          have le4 : x.2.1 ≤ t.1 := av.2.2.1
          simp only [] at kk
          refine x_astore (ls' := [_, _, _, _, _]) i_Reader_readRule_65 rfl rfl ?_
          refine x_aload_n i_Reader_readRule_67 rfl ?_
          refine x_bipush i_Reader_readRule_68 ?_
          refine x_cv1 i_Reader_readRule_70 rfl rfl rfl ?_
          refine c_Rd_must p41 (by decide) (fun w σ5 x5 h5 => ?_) (fun w σ5 x5 h5 => ?_)
          · rw [if_pos w] at kk
            have ge5 := sk_ge t (x.2.1 + 1)
            obtain ⟨b1, ⟨o1, o2, o3⟩, -, -, -, b6, -⟩ := id h5
            obtain ⟨-, -, -, -, ⟨q1, q2, q3, q4, q5, q6, q7⟩, -⟩ := id b1
            have hG5 := (hG3.rd h3.1 r4).rd p41.1 x5.rd
            have n5 : nC σ5 = nC σ4 := x5.2.2.2.2.2.2.1
            have s5 : nS σ5 = nS σ4 := x5.2.2.2.2.2.2.2
            have o3 : x.2.2.1.length ≤ 32 := o3
            have b6 : FI σ5 105 (C 1) = (x.2.2.1.length : Int) := b6
            have ok3 := ok1.2.2
            obtain ⟨g51, g52, g53, g54⟩ := hG5
            refine x_aload_n i_Reader_readRule_73 rfl ?_
            refine x_getR (c2 := 1) i_Reader_readRule_74 rfl rfl (by assumption) ?_
            refine x_iload_n i_Reader_readRule_77 rfl ?_
            refine x_aload i_Reader_readRule_78 rfl ?_
            refine x_aload_n i_Reader_readRule_80 rfl ?_
            refine x_getR (c2 := 1) i_Reader_readRule_81 rfl rfl (by assumption) ?_
            refine x_getI i_Reader_readRule_84 rfl rfl ?_
            rw [b6]
            refine x_iload_n i_Reader_readRule_87 rfl ?_
            refine x_isub i_Reader_readRule_88 (by omega) ?_
            refine x_cv3 i_Reader_readRule_89 rfl rfl rfl ?_
            refine c_G_addRule b1 hr8 g52 g53.1 (by have := cnR_le R; omega) (fun σ6 x6 y6 z6 => ?_)
            have hex : exA r st.2.1 x.2.2.1 := by have := av.2.2.2.2.1; rw [st3e] at this; exact this
            have hxn := av.2.2.2.2.2.1
            rw [st3e] at hxn
            have h0L : cntL st.2.1 r = 0 := by
              unfold cntL
              rw [List.length_eq_zero_iff, List.filter_eq_nil_iff]
              intro a ha q
              have q1 := (g54 a ha).1
              rw [show a.1 = r by simpa using q, hs] at q1
              cases q1
            have hlen : st.2.1.length ≤ x.2.2.1.length := by
              obtain ⟨e, he, -⟩ := hex
              rw [he, List.length_append]; omega
            have pso6 : psoX σ5 σ6 := ⟨fun f a w _ => ⟨x6.1 f a (fun q => by omega) (fun q => by omega), by rw [x6.2.1]⟩, fun k _ => by rw [x6.2.2.2.2.2.1]; exact Nat.le_refl _⟩
            have hG6 : RdG σ6 C (setR R r x.1) (sk t (x.2.1 + 1), x.2.2) := by
              refine ⟨fun k hk => ?_, ?_, ?_, fun a ha => ?_⟩
              · rw [x6.2.2.2.1]
                by_cases w : k = r
                · subst w
                  rw [if_pos ⟨rfl, rfl, rfl⟩]
                  unfold setR
                  rw [if_pos rfl]
                  refine ⟨(fun q => by cases q), ?_⟩
                  have w1 : altG σ4 (dnN x.2.2.2) 9 (CN σ3 4) (CN σ4 4) (CN σ3 8) (CN σ4 8) x.1 (some s) := p42
                  have w2 := w1.lo 9 _ _ _ _ 0 0 _ _ (Nat.zero_le _) (Nat.zero_le _)
                  exact (w2.keep x5.rd.pso (fun r w => w)).keep pso6 (fun r w => w)
                · rw [if_neg (fun q => w q.2.2)]
                  unfold setR
                  rw [if_neg w]
                  exact (g51 k hk).mono pso6 (fun r w => dnN_ext hxn r w)
              · have e : (fun k => (cntL x.2.2.1 k : Int)) = up (fun k => (cntL st.2.1 k : Int)) r ((x.2.2.1.length : Int) - (st.2.1.length : Int)) := by
                  funext k
                  rw [cntL_ext hex k]
                  by_cases w : k = r
                  · subst w
                    rw [up_eq, if_pos rfl, h0L]; omega
                  · rw [up_ne w, if_neg w]; simp
                show rowF σ6 (C 4) (C 5) 8 8 (fun k => (cntL x.2.2.1 k : Int))
                rw [e]
                exact y6
              · exact ⟨by rw [z6, cnR_set hs hr8], by rw [x6.1 _ _ (fun q => by omega) (fun q => by omega)]; exact g53.2.1, by rw [x6.1 _ _ (fun q => by omega) (fun q => by omega)]; exact g53.2.2⟩
              · obtain ⟨e, he, he2⟩ := hex
                have ha : a ∈ x.2.2.1 := ha
                rw [he] at ha
                rcases List.mem_append.mp ha with w | w
                · refine ⟨?_, (g54 a w).2⟩
                  unfold setR
                  split
                  · rfl
                  · exact (g54 a w).1
                · have := he2 a w
                  refine ⟨?_, this.2⟩
                  unfold setR
                  rw [if_pos this.1]; rfl
            refine x_vret i_Reader_readRule_92 rfl ?_
            exact kk σ6 ⟨(X4.rs hC x5).ad hC x6, ⟨h5.ad x6, hG6, by rw [x6.2.2.2.2.2.2.1]; show nC σ5 ≤ nC σ + 4 * (sk t (x.2.1 + 1) - st.1); omega⟩, by rw [x6.2.2.2.2.2.2.1]; omega, by rw [x6.2.2.2.2.2.2.1, x6.2.2.2.2.2.2.2]; omega⟩
          · rw [if_neg w] at kk
            have n5 : nC σ5 = nC σ4 := x5.2.2.2.2.2.2.1
            have s5 : nS σ5 = nS σ4 := x5.2.2.2.2.2.2.2
            exact rest _ σ5 st.2.1.length s ok1.2.2 (X4.rs hC x5) h5 (hH4.rd p41.1 x5.rd) (by omega) (by omega) (by omega) kk
      · have w : chT t (sk t (st.1 + 1)) ≠ 61 := w
        rw [if_neg w] at kk
        have h3 : RdF σ3 C t (sk t (st.1 + 1)) 0 := h3
        have x13 : rsX (C 0) σ1 σ3 := x2.tr x3
        have hH3 := hG1.H.rd h1.1 x13.rd
        have X3 := X1.rs hC x13
        have n3 : nC σ3 = nC σ := by rw [x13.2.2.2.2.2.2.1, n1]
        have s3 : nS σ3 = nS σ := by rw [x13.2.2.2.2.2.2.2, s1]
        obtain ⟨b1, -, -, -, -, ⟨kx, b6, b7⟩, -⟩ := id h3
        obtain ⟨-, -, -, -, ⟨q1, q2, q3, q4, q5, q6, q7⟩, -⟩ := id b1
        refine x_aload_n i_Reader_readRule_53 rfl ?_
        refine x_getR (c2 := 1) i_Reader_readRule_54 rfl rfl (by assumption) ?_
        refine x_getI i_Reader_readRule_57 rfl rfl ?_
        rw [b7]
        refine x_istore_n (ls' := [_, _, _, _, _]) i_Reader_readRule_60 rfl rfl ?_
        refine x_aload_n i_Reader_readRule_61 rfl ?_
        refine x_cv0 i_Reader_readRule_62 rfl rfl rfl ?_
        refine c_Rd_altF h3 (fun σ4 s r4 _ h4 n4 => ?_)
        have s4 := r4.2.2.2.2.2.2.2.2
        refine x_astore (ls' := [_, _, _, _, _]) i_Reader_readRule_65 rfl rfl ?_
        refine x_aload_n i_Reader_readRule_67 rfl ?_
        refine x_bipush i_Reader_readRule_68 ?_
        refine x_cv1 i_Reader_readRule_70 rfl rfl rfl ?_
        refine c_Rd_mustF h4.2.2.2.2.1 ?_
        exact rest _ σ4 kx s b6 (X3.rd hC r4) h4 (hH3.rd h3.1 r4) (by omega) (by omega) (by omega) kk
end


/-! THE CLASS's May: its maker; Reader: read -/
def myI (σ : AS) (m g : Nat) : AS := sFR (sFR (sRow (nO σ 6) (CN σ 6) 8) 301 m (some (CN σ 6))) 300 m (some g)
theorem myI_f (σ : AS) (m g : Nat) : FR (myI σ m g) 300 m = some g ∧ FR (myI σ m g) 301 m = some (CN σ 6) ∧ FR (myI σ m g) 600 (CN σ 6) = some (CN σ 13) ∧ FI (myI σ m g) 601 (CN σ 6) = 0 ∧ LN (myI σ m g) 13 (CN σ 13) = 8 ∧ nC (myI σ m g) = nC σ + 2 ∧ nS (myI σ m g) = nS σ + cF 6 + 8 := by
  simp [myI, sRow, FI_sFI, FR_sFI, AI_sFI, AR_sFI, LN_sFI, CN_sFI, nC_sFI, nS_sFI, FI_sFR, FR_sFR, AI_sFR, AR_sFR, LN_sFR, CN_sFR, nC_sFR, nS_sFR, FI_nO, FR_nO, AI_nO, AR_nO, LN_nO, CN_nO, nC_nO, nS_nO, FI_nA, FR_nA, AI_nA, AR_nA, LN_nA, CN_nA, nC_nA, nS_nA]
theorem myI_cn (σ : AS) (m g k : Nat) : CN (myI σ m g) k = if k = 6 ∨ k = 13 then CN σ k + 1 else CN σ k := by
  simp [myI, sRow, FI_sFI, FR_sFI, AI_sFI, AR_sFI, LN_sFI, CN_sFI, nC_sFI, nS_sFI, FI_sFR, FR_sFR, AI_sFR, AR_sFR, LN_sFR, CN_sFR, nC_sFR, nS_sFR, FI_nO, FR_nO, AI_nO, AR_nO, LN_nO, CN_nO, nC_nO, nS_nO, FI_nA, FR_nA, AI_nA, AR_nA, LN_nA, CN_nA, nC_nA, nS_nA]
  by_cases h6 : k = 6
  · subst h6; simp
  · by_cases h13 : k = 13
    · subst h13; simp
    · simp [h6, h13]
theorem myI_old {σ : AS} {m g : Nat} : oldX 3 m σ (myI σ m g) := by
  refine ⟨fun f x w1 w2 => ?_, fun k x j w => ?_, fun k x w => ?_, fun k => ?_⟩
  · have e1 : ¬ (f = 300 ∧ x = m) := fun q => w2 ⟨by omega, q.2⟩
    have e2 : ¬ (f = 301 ∧ x = m) := fun q => w2 ⟨by omega, q.2⟩
    have r0 : f / 100 = 6 → x < CN σ 6 := fun q => by rw [q] at w1; exact w1
    have r1 : ¬ (f = 600 ∧ x = CN σ 6) := fun q => by have := r0 (by omega); omega
    have r2 : ¬ (f = 601 ∧ x = CN σ 6) := fun q => by have := r0 (by omega); omega
    have r5 : ¬ (f / 100 = 6 ∧ x = CN σ 6) := fun q => by have := r0 q.1; omega
    simp [myI, sRow, FI_sFI, FR_sFI, AI_sFI, AR_sFI, LN_sFI, CN_sFI, nC_sFI, nS_sFI, FI_sFR, FR_sFR, AI_sFR, AR_sFR, LN_sFR, CN_sFR, nC_sFR, nS_sFR, FI_nO, FR_nO, AI_nO, AR_nO, LN_nO, CN_nO, nC_nO, nS_nO, FI_nA, FR_nA, AI_nA, AR_nA, LN_nA, CN_nA, nC_nA, nS_nA, e1, e2, r1, r2, r5]
  · have c13 : ¬ (k = 13 ∧ x = CN σ 13) := fun q => by obtain ⟨rfl, q⟩ := q; omega
    simp [myI, sRow, FI_sFI, FR_sFI, AI_sFI, AR_sFI, LN_sFI, CN_sFI, nC_sFI, nS_sFI, FI_sFR, FR_sFR, AI_sFR, AR_sFR, LN_sFR, CN_sFR, nC_sFR, nS_sFR, FI_nO, FR_nO, AI_nO, AR_nO, LN_nO, CN_nO, nC_nO, nS_nO, FI_nA, FR_nA, AI_nA, AR_nA, LN_nA, CN_nA, nC_nA, nS_nA, c13]
  · have c13 : ¬ (k = 13 ∧ x = CN σ 13) := fun q => by obtain ⟨rfl, q⟩ := q; omega
    simp [myI, sRow, FI_sFI, FR_sFI, AI_sFI, AR_sFI, LN_sFI, CN_sFI, nC_sFI, nS_sFI, FI_sFR, FR_sFR, AI_sFR, AR_sFR, LN_sFR, CN_sFR, nC_sFR, nS_sFR, FI_nO, FR_nO, AI_nO, AR_nO, LN_nO, CN_nO, nC_nO, nS_nO, FI_nA, FR_nA, AI_nA, AR_nA, LN_nA, CN_nA, nC_nA, nS_nA, c13]
  · rw [myI_cn]
    split <;> omega
theorem newX.my {g rh ch : Nat} {σ0 σ σ' : AS} (h : newX σ0 σ) (hx : myX g rh ch σ σ') (w1 : CN σ0 1 ≤ g) (w2 : CN σ0 6 ≤ rh) (w3 : CN σ0 13 ≤ ch) : newX σ0 σ' := by
  obtain ⟨h1, h2, h3, h4⟩ := h
  obtain ⟨g1, g2, g3, g4, g5, g6, g7, g8⟩ := hx
  exact ⟨fun f x w => by
    rw [g1 f x (fun q => by obtain ⟨q1, rfl⟩ := q; rw [show f / 100 = 1 by omega] at w; omega) (fun q => by obtain ⟨rfl, rfl⟩ := q; have w : x < CN σ0 6 := w; omega), g2]
    exact h1 f x w, fun k x j w => by
    rw [g3 k x j (fun q => by obtain ⟨rfl, rfl⟩ := q; omega), g4]
    exact h2 k x j w, fun k x w => by rw [g5]; exact h3 k x w, fun k => by rw [g6]; exact h4 k⟩
section
variable {d : Nat} {Q : AQ} {σ : AS} {C : Nat → Nat} {t : TP} {st : RT}
theorem c_May_init {m g : Nat} (kk : Q none (myI σ m g)) : wp (d + 2) m_May_init [vr 3 m, vr 1 g] σ Q := by
  refine x_in (ls := [some _, some _]) rfl rfl ?_
  refine x_aload_n i_May_init_0 rfl ?_
  refine x_objInit i_May_init_1 rfl ?_
  refine x_aload_n i_May_init_4 rfl ?_
  refine x_new i_May_init_5 ?_
  refine x_dup i_May_init_8 ?_
  refine x_bipush i_May_init_9 ?_
  refine x_ci1 i_May_init_11 rfl rfl rfl ?_
  refine c_Row_init (cap := 8) (by decide) ?_
  refine x_putO (c2 := 6) i_May_init_14 rfl rfl ?_
  refine x_aload_n i_May_init_17 rfl ?_
  refine x_aload_n i_May_init_18 rfl ?_
  refine x_putO (c2 := 1) i_May_init_19 rfl rfl ?_
  refine x_vret i_May_init_22 rfl ?_
  exact kk
def redPost (C : Nat → Nat) (t : TP) (σ0 σ σ' : AS) : Prop := newX σ0 σ' ∧ (match readE t with
  | .inl p => FI σ' 505 (C 0) = (p : Int) ∧ p ≤ t.1
  | .inr x => FI σ' 505 (C 0) = -1 ∧ grmC σ' (C 1) (x.1, x.2, nulG x.1, slfG x.1) (C 2) (C 3) (C 4) (C 5) (C 6) (C 7) ∧ okG (x.1, x.2, nulG x.1, slfG x.1)) ∧ nC σ' ≤ nC σ + 1004 ∧ nS σ' ≤ nS σ + 7 * 1004 + 30
theorem RdK.my {rh ch : Nat} {σ' : AS} (h : RdK σ C t) (hx : myX (C 1) rh ch σ σ') (w1 : C 10 ≠ rh) (w2 : C 10 ≠ ch) : RdK σ' C t := by
  obtain ⟨hh1, hh2, hh3, hh4, hh5, hh6, hh7, hh8, hh9⟩ := h
  obtain ⟨g1, g2, g3, g4, g5, g6, g7, g8⟩ := hx
  unfold RdK
  rw [g2, g5, g6]
  exact ⟨hh1, hh2, hh3, hh4, hh5, hh6, hh7, hh8, ⟨by rw [g2]; exact hh9.1, by rw [g1 601 _ (fun q => by omega) (fun q => w1 q.2)]; exact hh9.2.1, by rw [g5]; exact hh9.2.2.1, hh9.2.2.2.1, hh9.2.2.2.2.1, fun k hk => by rw [g3 13 _ k (fun q => w2 q.2)]; exact hh9.2.2.2.2.2 k hk⟩⟩
theorem c_Rd_read {σ0 : AS} (hC : newC C σ0) (h0 : newX σ0 σ) (h : RdS σ C t (sk t 0, [], []) 0) (hG : RdG σ C (fun _ => none) (sk t 0, [], [])) (kk : ∀ σ', redPost C t σ0 σ σ' → Q (some (vr 1 (C 1))) σ') : wp (d + 82) m_Reader_read [vr 5 (C 0)] σ Q := by
  have ht := h.1.2.2.2.2.2.2.2.1
  have ht1 := ht.1
  have hs0 : sk t 0 ≤ t.1 := sk_le (Nat.zero_le _)
  -- behind all rules
  have rest : ∀ σ1, rlsPost C t (rulsP t) σ0 σ σ1 → Ex (wp (d + 81)) m_Reader_read Q 29 [some (vr 5 (C 0)), none] [] σ1 := by
    intro σ1 ⟨X1, p1, n1, s1⟩
    unfold redPost readE at kk
    -- with a fault
    have flt : ∀ p σ2, newX σ0 σ2 → RdF σ2 C t p 0 → nC σ2 ≤ nC σ + 1004 → nS σ2 ≤ nS σ + 7 * 1004 + 30 → (∀ σ', newX σ0 σ' ∧ (FI σ' 505 (C 0) = (p : Int) ∧ p ≤ t.1) ∧ nC σ' ≤ nC σ + 1004 ∧ nS σ' ≤ nS σ + 7 * 1004 + 30 → Q (some (vr 1 (C 1))) σ') → Ex (wp (d + 81)) m_Reader_read Q 33 [some (vr 5 (C 0)), none] [] σ2 := by
      intro p σ2 X2 h2 m1 m2 kk
      obtain ⟨⟨-, -, -, -, ⟨q1, q2, q3, q4, q5, q6, q7⟩, -⟩, c2, c3, c4, c5, -⟩ := id h2
      refine x_aload_n i_Reader_read_33 rfl ?_
      refine x_getI i_Reader_read_34 rfl rfl ?_
      rw [c5]
      refine x_iconst i_Reader_read_37 ?_
      refine x_icmp_ne_t i_Reader_read_38 (by omega) ?_
      refine x_aload_n i_Reader_read_55 rfl ?_
      refine x_getR (c2 := 1) i_Reader_read_56 rfl rfl (by assumption) ?_
      refine x_aret (c := 1) i_Reader_read_59 rfl ?_
      exact kk σ2 ⟨X2, ⟨c5, c2⟩, m1, m2⟩
    have nm : ∀ x, rulsP t = .inr x → exN 0 t.1 [] x.2.2.2 := by
      intro x hx
      unfold rulsP at hx
      have ok0 : okT t (sk t 0, [], []) := ⟨hs0, sk_sk _ _, by show 0 ≤ 32; decide⟩
      cases hr : rulP t (fun _ => none) (sk t 0, [], []) with
      | inl p => rw [hr] at hx; cases hx
      | inr y =>
        rw [hr] at hx
        obtain ⟨a1, a2, a3⟩ := rulP_names ht ok0 hr
        obtain ⟨b1, b2, b3⟩ := rulLP_names ht 8 y.1 y.2 a2 x hx
        obtain ⟨e, e1, e2, e3⟩ := a3.tr b3 (Nat.le_of_lt a1) b1
        exact ⟨e, e1, e2, fun y hy => ⟨Nat.zero_le _, Nat.lt_of_lt_of_le (e3 y hy).2.1 b2.1, (e3 y hy).2.2⟩⟩
    revert p1 kk nm
    generalize rulsP t = RR
    cases RR with
    | inl p =>
      intro kk p1 nm
      obtain ⟨p11, p12⟩ := p1
      refine x_aload_n i_Reader_read_29 rfl ?_
      refine x_cv0 i_Reader_read_30 rfl rfl rfl ?_
      refine c_Rd_unkF p11 ?_
      exact flt p σ1 X1 p11 (by omega) (by omega) kk
    | inr x =>
      intro kk p1 nm
      obtain ⟨p11, p12, p13⟩ := p1
      have p13 : nC σ1 ≤ nC σ + 4 * x.2.1 := p13
      have hle := p11.2.1.1
      have nm := nm x rfl
      simp only [] at kk
      refine x_aload_n i_Reader_read_29 rfl ?_
      refine x_cv0 i_Reader_read_30 rfl rfl rfl ?_
      refine c_Rd_unkS p11 p12 nm (fun hu => ?_) (fun y hu σ2 x2 h2 => ?_)
      · unfold unkN at hu
        have hu2 : unkN x.1 x.2.2.2 = none := hu
        rw [hu] at kk
        simp only [] at kk
        obtain ⟨⟨⟨k1, k2, k3, k4⟩, ⟨r1, r2, r3, r4, r5, r6, r7, r8, r9⟩, ⟨s1', s2, s3, s4, s5, s6, s7, s8, s9⟩, kt, ⟨q1, q2, q3, q4, q5, q6, q7⟩, l1, l2, l3, l4⟩, ⟨o1, o2, o3⟩, c3, c4, c5, c6, c7, c8, c9⟩ := id p11
        obtain ⟨g1, g2, ⟨g31, g32, g33⟩, g4⟩ := id p12
        have hdn : ∀ r, dnN x.2.2.2 r → dnR σ1 (C 2) r := by
          intro r ⟨p, hp⟩
          have hR := unk_none hu2 _ hp
          obtain ⟨e, e1, e2, e3⟩ := nm
          rw [List.nil_append] at e1
          have hr8 := (e3 (p, r) (by rw [← e1]; exact hp)).2.2
          have := g1 r hr8
          have hR : (x.1 r).isSome = true := hR
          revert this hR
          unfold dnR
          cases x.1 r with
          | none => intro _ w; cases w
          | some alt => intro w _; exact w.1
        refine x_aload_n i_Reader_read_33 rfl ?_
        refine x_getI i_Reader_read_34 rfl rfl ?_
        rw [c5]
        refine x_iconst i_Reader_read_37 ?_
        refine x_icmp_ne_f i_Reader_read_38 rfl ?_
        refine x_new i_Reader_read_41 ?_
        refine x_dup i_Reader_read_44 ?_
        refine x_aload_n i_Reader_read_45 rfl ?_
        refine x_getR (c2 := 1) i_Reader_read_46 rfl rfl (by assumption) ?_
        have e1 : CN (nO σ1 3) 6 = CN σ1 6 := by rw [CN_nO, if_neg (by decide)]
        have e13 : CN (nO σ1 3) 13 = CN σ1 13 := by rw [CN_nO, if_neg (by decide)]
        refine x_ci1 i_Reader_read_49 rfl rfl rfl ?_
        refine c_May_init ?_
        obtain ⟨v1, v2, v3, v4, v5, v6, v7⟩ := myI_f (nO σ1 3) (CN σ1 3) (C 1)
        have cn := myI_cn (nO σ1 3) (CN σ1 3) (C 1)
        have o3' : oldX 3 (CN σ1 3) (nO σ1 3) (myI (nO σ1 3) (CN σ1 3) (C 1)) := myI_old
        rw [e1] at v2 v3 v4
        rw [e13] at v3 v5
        generalize myI (nO σ1 3) (CN σ1 3) (C 1) = σ2 at v1 v2 v3 v4 v5 v6 v7 cn o3'
        have N2 : newX σ1 σ2 := (newX_nO σ1 3).old o3' (Nat.le_refl _)
        have X2 : newX σ0 σ2 := X1.tr N2
        have rh : rowF σ2 (CN σ1 6) (CN σ1 13) 8 0 (fun _ => 0) := ⟨v3, v4, v5, by decide, by decide, fun k hk => absurd hk (by omega)⟩
        have pso2 : psoX σ1 σ2 := ⟨fun f a _ w => N2.1 f a w, fun k _ => N2.2.2.2 k⟩
        have g106 : FI σ2 106 (C 1) = 0 := by rw [(N2.1 106 _ k2).1]; exact g32
        have g107 : FI σ2 107 (C 1) = 0 := by rw [(N2.1 107 _ k2).1]; exact g33
        have hS : mayS σ2 (CN σ1 3) (C 1) (C 2) (CN σ1 6) (CN σ1 13) (dnN x.2.2.2) x.1 := ⟨v1, v2, by rw [(N2.1 100 _ k2).2]; exact q4, ⟨by rw [N2.2.2.1 16 _ k3]; exact l1, fun r hr => by rw [(N2.2.1 16 _ r k3).2]; exact (g1 r hr).mono pso2 (fun r w => w)⟩, 0, _, rh⟩
        refine x_cv0 i_Reader_read_52 rfl rfl rfl ?_
        refine c_May_find hS g106 g107 (fun σ3 x3 b6 b7 => ?_)
        obtain ⟨z1, z2, z3, z4, z5, z6, z7, z8⟩ := id x3
        have X3 : newX σ0 σ3 := X2.my x3 hC.2.1 (X1.2.2.2 6) (X1.2.2.2 13)
        have f501 : FR σ3 501 (C 0) = some (C 1) := by rw [z2, (N2.1 501 _ k1).2]; exact q2
        have f505 : FI σ3 505 (C 0) = -1 := by rw [z1 _ _ (fun q => by omega) (fun q => by omega), (N2.1 505 _ k1).1]; exact c5
        have fg : ∀ f, f / 100 = 1 → f ≠ 106 → f ≠ 107 → FI σ3 f (C 1) = FI σ1 f (C 1) ∧ FR σ3 f (C 1) = FR σ1 f (C 1) := by
          intro f w1 w2 w3
          have := N2.1 f (C 1) (by rw [w1]; exact k2)
          exact ⟨by rw [z1 _ _ (fun q => by omega) (fun q => by omega)]; exact this.1, by rw [z2]; exact this.2⟩
        have pso3 : psoX σ1 σ3 := pso2.tr x3.pso
        have m3 : ∀ k, CN σ1 k ≤ CN σ3 k := fun k => by rw [z6]; exact N2.2.2.2 k
        have rows : ∀ {r c cap n : Nat} {f : Nat → Int}, rowF σ1 r c cap n f → r < CN σ1 6 → c < CN σ1 13 → rowF σ3 r c cap n f := by
          intro r c cap n f hr w1 w2
          have h2 := N2.row hr w1 w2
          exact ⟨by rw [z2]; exact h2.1, by rw [z1 _ _ (fun q => by omega) (fun q => by omega)]; exact h2.2.1, by rw [z5]; exact h2.2.2.1, h2.2.2.2.1, h2.2.2.2.2.1, fun k hk => by rw [z3 _ _ _ (fun q => by omega)]; exact h2.2.2.2.2.2 k hk⟩
        have hok : okG (x.1, x.2.2.1, nulG x.1, slfG x.1) := fun a ha => (g4 a ha).2
        have e16 : AR σ3 16 (C 2) = AR σ1 16 (C 2) := by funext r; rw [z4]; exact (N2.2.1 16 _ r k3).2
        have hgrm : grmC σ3 (C 1) (x.1, x.2.2.1, nulG x.1, slfG x.1) (C 2) (C 3) (C 4) (C 5) (C 6) (C 7) := by
          refine ⟨Nat.lt_of_lt_of_le k2 (m3 1), (fg 100 rfl (by decide) (by decide)).2.trans q4, Nat.lt_of_lt_of_le k3 (m3 16), (fg 101 rfl (by decide) (by decide)).2.trans q5, (fg 102 rfl (by decide) (by decide)).2.trans q6, Nat.lt_of_lt_of_le k4 (m3 15), (fg 103 rfl (by decide) (by decide)).2.trans q7, ⟨r1, Nat.lt_of_lt_of_le r2 (m3 6), r3, Nat.lt_of_lt_of_le r4 (m3 6)⟩, ⟨Or.inr s1', Nat.lt_of_lt_of_le s2 (m3 13), Or.inr s3, Nat.lt_of_lt_of_le s4 (m3 13)⟩, rows g2 r2 s2, rows c8 r4 s4, by rw [z5]; exact (N2.2.2.1 16 _ k3).trans l1, by rw [z5]; exact (N2.2.2.1 15 _ k4).trans l2, fun r hr => ?_, (fg 104 rfl (by decide) (by decide)).1.trans g31, (fg 105 rfl (by decide) (by decide)).1.trans c6, o3, fun i a hi => ?_, fun r hr => bN_bit b6 hr, fun r hr => bN_bit b7 hr⟩
          · show bodG σ3 (dnR σ3 (C 2)) (x.1 r) (AR σ3 16 (C 2) r)
            rw [e16]
            refine (g1 r hr).mono pso3 (fun k hk => ?_)
            have := hdn k hk
            unfold dnR at this ⊢
            rw [e16]
            exact this
          · obtain ⟨tt, a1, a2, a3, a4, a5, a6⟩ := c7 i a hi
            have ft : ∀ f, f < 100 → FI σ3 f tt = FI σ1 f tt := fun f w => (pso3.1 f tt (Or.inl w) (by rw [show f / 100 = 0 by omega]; exact a2)).1
            exact ⟨tt, by rw [z4]; exact (N2.2.1 15 _ i k4).2.trans a1, Nat.lt_of_lt_of_le a2 (m3 0), (ft 1 (by decide)).trans a3, (ft 0 (by decide)).trans a4, (ft 3 (by decide)).trans a5, (ft 4 (by decide)).trans a6⟩
        have nn : nC (nO σ1 3) = nC σ1 + 1 := rfl
        have ss : nS (nO σ1 3) = nS σ1 + cF 3 := rfl
        have k3' : cF 3 = 2 := rfl
        have k6' : cF 6 = 2 := rfl
        refine x_aload_n i_Reader_read_55 rfl ?_
        refine x_getR (c2 := 1) i_Reader_read_56 rfl rfl (by assumption) ?_
        refine x_aret (c := 1) i_Reader_read_59 rfl ?_
        exact kk σ3 ⟨X3, ⟨f505, hgrm, hok⟩, by rw [z7, v6, nn]; omega, by rw [z8, v7, ss]; omega⟩
      · unfold unkN at hu
        rw [hu] at kk
        simp only [] at kk
        exact flt y.1 σ2 (X1.rs hC x2) h2 (by rw [x2.2.2.2.2.2.2.1]; omega) (by rw [x2.2.2.2.2.2.2.2]; omega) kk
  refine x_in (ls := [some _, none]) rfl rfl ?_
  refine x_aload_n i_Reader_read_0 rfl ?_
  refine x_cv0 i_Reader_read_1 rfl rfl rfl ?_
  refine c_Rd_readRule hC h0 h hG (fun σ1 p1 => ?_)
  obtain ⟨p11, p12, p13, p14⟩ := p1
  unfold rulsP at rest
  revert p12 rest
  generalize rulP t (fun _ => none) (sk t 0, [], []) = RR
  cases RR with
  | inl p =>
    intro rest p12
    obtain ⟨a1, a2⟩ := p12
    have a2 : nC σ1 ≤ nC σ + 4 * (t.1 + 1 - sk t 0) + 37 := a2
    refine x_iconst i_Reader_read_4 ?_
    refine x_istore_n (ls' := [_, _]) i_Reader_read_5 rfl rfl ?_
    refine x_iload_n i_Reader_read_6 rfl ?_
    refine x_bipush i_Reader_read_7 ?_
    refine x_icmp_ge_f i_Reader_read_9 (by decide) ?_
    refine x_aload_n i_Reader_read_12 rfl ?_
    refine x_cv0 i_Reader_read_13 rfl rfl rfl ?_
    refine c_Rd_moreF a1 ?_
    refine x_if_eq_t i_Reader_read_16 rfl ?_
    refine Ex.weak (ls := [_, none]) ⟨Or.inr rfl, Or.inl rfl, trivial⟩ ?_
    exact rest σ1 ⟨p11, ⟨a1, by omega⟩, p13, p14⟩
  | inr x =>
    intro rest p12
    obtain ⟨a1, a2, a3⟩ := p12
    refine x_iconst i_Reader_read_4 ?_
    refine x_istore_n (ls' := [_, _]) i_Reader_read_5 rfl rfl ?_
    exact Rd_rulesLoop (σ := σ) hC 8 0 x.1 x.2 σ1 rfl p11 a1 a2 (by omega) (by omega) (by omega) rest
end


/-! THE START: what is new, what stays -/
/-- what was there is as it was, but for P -/
def kpX (P : Nat → Nat → Prop) (σ τ : AS) : Prop := (∀ g x, x < CN σ (g / 100) → ¬ P g x → FI τ g x = FI σ g x ∧ FR τ g x = FR σ g x) ∧ (∀ k x j, x < CN σ k → AI τ k x j = AI σ k x j ∧ AR τ k x j = AR σ k x j) ∧ (∀ k x, x < CN σ k → LN τ k x = LN σ k x) ∧ ∀ k, CN σ k ≤ CN τ k
theorem kpX.rf (P : Nat → Nat → Prop) (σ : AS) : kpX P σ σ := ⟨fun _ _ _ _ => ⟨rfl, rfl⟩, fun _ _ _ _ => ⟨rfl, rfl⟩, fun _ _ _ => rfl, fun _ => Nat.le_refl _⟩
theorem kpX.tr2 {P P' : Nat → Nat → Prop} {a b c : AS} (h : kpX P a b) (g : kpX P' b c) (w : ∀ f x, x < CN a (f / 100) → P' f x → P f x) : kpX P a c := by
  obtain ⟨h1, h2, h3, h4⟩ := h
  obtain ⟨g1, g2, g3, g4⟩ := g
  have m : ∀ k x, x < CN a k → x < CN b k := fun k x w => Nat.lt_of_lt_of_le w (h4 k)
  exact ⟨fun f x v n => ⟨(g1 f x (m _ _ v) (fun q => n (w f x v q))).1.trans (h1 f x v n).1, (g1 f x (m _ _ v) (fun q => n (w f x v q))).2.trans (h1 f x v n).2⟩, fun k x j v => ⟨(g2 k x j (m _ _ v)).1.trans (h2 k x j v).1, (g2 k x j (m _ _ v)).2.trans (h2 k x j v).2⟩, fun k x v => (g3 k x (m _ _ v)).trans (h3 k x v), fun k => Nat.le_trans (h4 k) (g4 k)⟩
theorem kpX.mono {P P' : Nat → Nat → Prop} {a b : AS} (h : kpX P a b) (w : ∀ g x, x < CN a (g / 100) → P g x → P' g x) : kpX P' a b := ⟨fun f x v n => h.1 f x v (fun q => n (w f x v q)), h.2⟩
theorem newX.kp {P : Nat → Nat → Prop} {a b : AS} (h : newX a b) : kpX P a b := ⟨fun f x w _ => h.1 f x w, h.2⟩
theorem oldX.kp {c x0 : Nat} {a b : AS} (h : oldX c x0 a b) : kpX (fun g x => g / 100 = c ∧ x = x0) a b := h
theorem kpX.old {c x0 : Nat} {a b : AS} (h : kpX (fun g x => g / 100 = c ∧ x = x0) a b) : oldX c x0 a b := h
theorem kpX.nw {a b : AS} (h : kpX (fun _ _ => False) a b) : newX a b := ⟨fun f x w => h.1 f x w (fun q => q), h.2⟩
theorem kpX_sFR {P : Nat → Nat → Prop} {σ : AS} {f a : Nat} {v : Option Nat} (h : P f a) : kpX P σ (sFR σ f a v) := ⟨fun g x _ n => ⟨rfl, by rw [FR_sFR, if_neg (fun q => n (by rw [q.1, q.2]; exact h))]⟩, fun _ _ _ _ => ⟨rfl, rfl⟩, fun _ _ _ => rfl, fun _ => Nat.le_refl _⟩
theorem kpX_sFI {P : Nat → Nat → Prop} {σ : AS} {f a : Nat} {v : Int} (h : P f a) : kpX P σ (sFI σ f a v) := ⟨fun g x _ n => ⟨by rw [FI_sFI, if_neg (fun q => n (by rw [q.1, q.2]; exact h))], rfl⟩, fun _ _ _ _ => ⟨rfl, rfl⟩, fun _ _ _ => rfl, fun _ => Nat.le_refl _⟩
theorem kpX.tx {P F : Nat → Nat → Prop} {A : Nat → Prop} {a b d : AS} (h : kpX P a b) (g : tX F A b d) (w1 : ∀ f x, x < CN a (f / 100) → F f x → P f x) (w2 : ∀ x, A x → CN a 13 ≤ x) : kpX P a d := by
  obtain ⟨h1, h2, h3, h4⟩ := h
  obtain ⟨g1, g2, g3, g4, g5, g6, g7, g8⟩ := g
  exact ⟨fun f x w n => ⟨by rw [g1 f x (fun q => n (w1 f x w q))]; exact (h1 f x w n).1, by rw [g2]; exact (h1 f x w n).2⟩, fun k x j w => ⟨by rw [g3 k x j (fun q => by obtain ⟨rfl, q⟩ := q; have := w2 x q; omega)]; exact (h2 k x j w).1, by rw [g4]; exact (h2 k x j w).2⟩, fun k x w => by rw [g5]; exact h3 k x w, fun k => by rw [g6]; exact h4 k⟩
theorem kpX.row {P : Nat → Nat → Prop} {a b : AS} (h : kpX P a b) {r c cap n : Nat} {f : Nat → Int} (hr : rowF a r c cap n f) (w1 : r < CN a 6) (w2 : c < CN a 13) (p1 : ¬ P 600 r) (p2 : ¬ P 601 r) : rowF b r c cap n f := ⟨by rw [(h.1 600 r w1 p1).2]; exact hr.1, by rw [(h.1 601 r w1 p2).1]; exact hr.2.1, by rw [h.2.2.1 13 c w2]; exact hr.2.2.1, hr.2.2.2.1, hr.2.2.2.2.1, fun j hj => by rw [(h.2.1 13 c j w2).1]; exact hr.2.2.2.2.2 j hj⟩
/-- a new Row, put into a field -/
theorem row_new {σ : AS} {f a cap : Nat} (hc : cap ≤ 100000) {τ : AS} (hτ : sFR (sRow (nO σ 6) (CN σ 6) cap) f a (some (CN σ 6)) = τ) (hf : f / 100 ≠ 6) : kpX (fun g x => g = f ∧ x = a) σ τ ∧ FR τ f a = some (CN σ 6) ∧ rowF τ (CN σ 6) (CN σ 13) cap 0 (fun _ => 0) ∧ (∀ k, CN τ k = if k = 6 ∨ k = 13 then CN σ k + 1 else CN σ k) ∧ nC τ = nC σ + 2 ∧ nS τ = nS σ + 2 + cap := by
  subst hτ
  have old : ∀ g x, x < CN σ (g / 100) → ¬ (g / 100 = 6 ∧ x = CN σ 6) := fun g x w q => by rw [q.1, q.2] at w; exact absurd w (Nat.lt_irrefl _)
  have e13 : CN (nO σ 6) 13 = CN σ 13 := by rw [CN_nO, if_neg (by decide)]
  refine ⟨⟨fun g x w n => ⟨?_, ?_⟩, fun k x j w => ⟨?_, ?_⟩, fun k x w => ?_, fun k => ?_⟩, ?_, ⟨?_, ?_, ?_, Nat.zero_le _, hc, fun k hk => absurd hk (Nat.not_lt_zero _)⟩, fun k => ?_, rfl, rfl⟩
  · show (if g = 601 ∧ x = CN σ 6 then (0 : Int) else if g / 100 = 6 ∧ x = CN σ 6 then 0 else FI σ g x) = FI σ g x
    rw [if_neg (fun q => old g x w ⟨by omega, q.2⟩), if_neg (old g x w)]
  · rw [FR_sFR, if_neg n]
    show (if g = 600 ∧ x = CN σ 6 then some (CN (nO σ 6) 13) else if g / 100 = 6 ∧ x = CN σ 6 then none else FR σ g x) = FR σ g x
    rw [if_neg (fun q => old g x w ⟨by omega, q.2⟩), if_neg (old g x w)]
  · show (if k = 13 ∧ x = CN (nO σ 6) 13 then (0 : Int) else AI σ k x j) = AI σ k x j
    rw [if_neg (fun q => by obtain ⟨rfl, q⟩ := q; omega)]
  · show (if k = 13 ∧ x = CN (nO σ 6) 13 then none else AR σ k x j) = AR σ k x j
    rw [if_neg (fun q => by obtain ⟨rfl, q⟩ := q; omega)]
  · show (if k = 13 ∧ x = CN (nO σ 6) 13 then cap else LN σ k x) = LN σ k x
    rw [if_neg (fun q => by obtain ⟨rfl, q⟩ := q; omega)]
  · show CN σ k ≤ if k = 13 then CN (nO σ 6) 13 + 1 else CN (nO σ 6) k
    rw [e13, CN_nO]
    split
    · rename_i w; subst w; omega
    · split
      · rename_i w; subst w; omega
      · exact Nat.le_refl _
  · rw [FR_sFR, if_pos ⟨rfl, rfl⟩]
  · rw [FR_sFR, if_neg (fun q => hf (by omega))]
    show (if (600 = 600 ∧ CN σ 6 = CN σ 6) then some (CN (nO σ 6) 13) else _) = some (CN σ 13)
    rw [if_pos ⟨rfl, rfl⟩, e13]
  · show (if (601 = 601 ∧ CN σ 6 = CN σ 6) then (0 : Int) else _) = ((0 : Nat) : Int)
    rw [if_pos ⟨rfl, rfl⟩]; rfl
  · exact if_pos (show 13 = 13 ∧ CN σ 13 = CN (sFI (nO σ 6) 601 (CN σ 6) 0) 13 from ⟨rfl, e13.symm⟩)
  · show (if k = 13 then CN (nO σ 6) 13 + 1 else CN (nO σ 6) k) = _
    rw [e13, CN_nO]
    by_cases w : k = 13
    · subst w; simp
    · by_cases w6 : k = 6
      · subst w6; simp
      · simp [w, w6]
/-- m new Rows in one object's fields, one behind the other -/
def rwI (fb rb : Nat) (cap : Nat → Nat) (m : Nat) (σ0 σ : AS) : Prop := (∀ i, i < m → FR σ (fb + i) 0 = some (rb + i) ∧ rowF σ (rb + i) (rb + i) (cap i) 0 (fun _ => 0)) ∧ CN σ 6 = rb + m ∧ CN σ 13 = rb + m ∧ (∀ k, k ≠ 6 → k ≠ 13 → CN σ k = CN σ0 k) ∧ kpX (fun g x => fb ≤ g ∧ g < fb + m ∧ x = 0) σ0 σ ∧ nC σ = nC σ0 + 2 * m ∧ nS σ ≤ nS σ0 + 10000 * m
theorem rwI.st {fb rb : Nat} {cap : Nat → Nat} {σ : AS} (h6 : CN σ 6 = rb) (h13 : CN σ 13 = rb) : rwI fb rb cap 0 σ σ := ⟨fun i hi => absurd hi (Nat.not_lt_zero _), h6, h13, fun _ _ _ => rfl, kpX.rf _ _, rfl, Nat.le_refl _⟩
theorem rwI.step {fb rb m c : Nat} {cap : Nat → Nat} {σ0 σ : AS} (h : rwI fb rb cap m σ0 σ) {τ : AS} (hτ : sFR (sRow (nO σ 6) (CN σ 6) (cap m)) (fb + m) 0 (some (CN σ 6)) = τ) (hc : cap m ≤ 8000) (w6 : c ≠ 6) (w13 : c ≠ 13) (hf : ∀ i, i ≤ m → (fb + i) / 100 = c) (ho : 0 < CN σ0 c) : rwI fb rb cap (m + 1) σ0 τ := by
  obtain ⟨h1, h2, h3, h4, h5, h6, h7⟩ := h
  have fm := hf m (Nat.le_refl _)
  obtain ⟨a1, a2, a3, a4, a5, a6⟩ := row_new (by omega) hτ (by omega)
  have hcn : CN σ c = CN σ0 c := h4 c w6 w13
  refine ⟨fun i hi => ?_, by rw [a4, if_pos (Or.inl rfl), h2]; rfl, by rw [a4, if_pos (Or.inr rfl), h3]; rfl, fun k k1 k2 => by rw [a4, if_neg (by omega)]; exact h4 k k1 k2, ?_, by omega, by omega⟩
  · by_cases w : i < m
    · obtain ⟨b1, b2⟩ := h1 i w
      exact ⟨(a1.1 _ 0 (by rw [hf i (by omega), hcn]; exact ho) (fun q => by omega)).2.trans b1, a1.row b2 (by omega) (by omega) (fun q => by omega) (fun q => by omega)⟩
    · have e : i = m := by omega
      subst e
      rw [h2] at a2 a3
      rw [h3] at a3
      exact ⟨a2, a3⟩
  · refine (h5.mono (P' := fun g x => fb ≤ g ∧ g < fb + (m + 1) ∧ x = 0) (fun g x _ q => by omega)).tr2 a1 (fun g x _ q => by omega)
theorem TrS.kp {P : Nat → Nat → Prop} {a b : AS} {N K : Nat} {tab : Nat → TT} {H : List Nat} (h : TrS a N K tab H) (hx : kpX P a b) (w6 : 13 ≤ CN a 6) (w13 : 13 ≤ CN a 13) (w9 : 0 < CN a 9) (n1 : ∀ g, g / 100 = 9 → ¬ P g 0) (n2 : ∀ r, ¬ P 600 r ∧ ¬ P 601 r) : TrS b N K tab H := by
  obtain ⟨so, nu, fk, sz, va, ki, he, ⟨q0, q1, q2, q3, q4, q5, q6⟩, r1, r2, r3, r4, r5, r6, r7, z⟩ := h
  have g : ∀ r, 6 ≤ r → r ≤ 12 → ∀ cap n f, rowF a r r cap n f → rowF b r r cap n f := fun r _ v cap n f h => hx.row h (by omega) (by omega) (n2 r).1 (n2 r).2
  have fr : ∀ g, g / 100 = 9 → FR b g 0 = FR a g 0 := fun g v => (hx.1 g 0 (by rw [v]; exact w9) (n1 g v)).2
  exact ⟨so, nu, fk, sz, va, ki, he, ⟨(fr _ rfl).trans q0, (fr _ rfl).trans q1, (fr _ rfl).trans q2, (fr _ rfl).trans q3, (fr _ rfl).trans q4, (fr _ rfl).trans q5, (fr _ rfl).trans q6⟩, g 6 (by decide) (by decide) _ _ _ r1, g 7 (by decide) (by decide) _ _ _ r2, g 8 (by decide) (by decide) _ _ _ r3, g 9 (by decide) (by decide) _ _ _ r4, g 10 (by decide) (by decide) _ _ _ r5, g 11 (by decide) (by decide) _ _ _ r6, g 12 (by decide) (by decide) _ _ _ r7, z⟩
theorem runI.kp {P : Nat → Nat → Prop} {a b : AS} {n : Nat} (h : runI a n) (hx : kpX P a b) (w6 : 13 ≤ CN a 6) (w13 : 13 ≤ CN a 13) (w7 : 0 < CN a 7) (w9 : 0 < CN a 9) (n0 : ∀ g, g / 100 = 7 → ¬ P g 0) (n1 : ∀ g, g / 100 = 9 → ¬ P g 0) (n2 : ∀ r, ¬ P 600 r ∧ ¬ P 601 r) : runI b n := by
  obtain ⟨⟨v1, v2, v3, v4⟩, ⟨n3, f3, m3⟩, ⟨f4, m4⟩, ⟨f5, m5⟩, ⟨N, K, tab, H, tr⟩, c2, bs⟩ := h
  have g : ∀ r, r ≤ 12 → ∀ cap n f, rowF a r r cap n f → rowF b r r cap n f := fun r v cap n f h => hx.row h (by omega) (by omega) (n2 r).1 (n2 r).2
  have fr : ∀ g, g / 100 = 7 → FI b g 0 = FI a g 0 ∧ FR b g 0 = FR a g 0 := fun g v => hx.1 g 0 (by rw [v]; exact w7) (n0 g v)
  exact ⟨⟨(fr _ rfl).2.trans v1, (fr _ rfl).2.trans v2, (fr _ rfl).2.trans v3, (fr _ rfl).2.trans v4⟩, ⟨n3, f3, g _ (by decide) _ _ _ m3⟩, ⟨f4, g _ (by decide) _ _ _ m4⟩, ⟨f5, g _ (by decide) _ _ _ m5⟩, ⟨N, K, tab, H, tr.kp hx w6 w13 w9 n1 n2⟩, (fr _ rfl).1.trans c2, bs⟩
theorem lastC.kp {P : Nat → Nat → Prop} {a b : AS} (h : lastC a Option.none) (hx : kpX P a b) (w6 : 21 ≤ CN a 6) (w13 : 21 ≤ CN a 13) (w2 : 0 < CN a 2) (n0 : ∀ g, g / 100 = 2 → ¬ P g 0) (n2 : ∀ r, ¬ P 600 r ∧ ¬ P 601 r) : lastC b Option.none := by
  obtain ⟨⟨p1, p2, p3, p4, p5⟩, ⟨n1, f1, a2⟩, ⟨n2', f2, a3⟩, ⟨n3, f3, a4⟩, ⟨L4, a5⟩, ⟨L5, a6⟩, a7⟩ := h
  have g : ∀ r, r ≤ 20 → ∀ cap n f, rowF a r r cap n f → rowF b r r cap n f := fun r v cap n f h => hx.row h (by omega) (by omega) (n2 r).1 (n2 r).2
  have fr : ∀ g, g / 100 = 2 → FI b g 0 = FI a g 0 ∧ FR b g 0 = FR a g 0 := fun g v => hx.1 g 0 (by rw [v]; exact w2) (n0 g v)
  refine ⟨⟨(fr _ rfl).2.trans p1, (fr _ rfl).2.trans p2, (fr _ rfl).2.trans p3, (fr _ rfl).2.trans p4, (fr _ rfl).2.trans p5⟩, ⟨n1, f1, g _ (by decide) _ _ _ a2⟩, ⟨n2', f2, g _ (by decide) _ _ _ a3⟩, ⟨n3, f3, g _ (by decide) _ _ _ a4⟩, ⟨L4, g _ (by decide) _ _ _ a5⟩, ⟨L5, g _ (by decide) _ _ _ a6⟩, ?_⟩
  show FI b 200 0 = 0
  exact (fr _ rfl).1.trans a7
theorem giR.kp {P : Nat → Nat → Prop} {a b : AS} {g bo fa ra ca : Nat} (h : giR a g bo fa ra ca) (hx : kpX P a b) (w1 : g < CN a 1) (w16 : bo < CN a 16) (w15 : fa < CN a 15) (w6 : ra + 1 < CN a 6) (w13 : ca + 1 < CN a 13) (n0 : ∀ f, f / 100 = 1 → ¬ P f g) (n2 : ∀ r, ¬ P 600 r ∧ ¬ P 601 r) : giR b g bo fa ra ca := by
  obtain ⟨a1, a2, a3, a4, a5, a6, a7, a8, a9, a10, a11, a12, a13⟩ := h
  have fr : ∀ f, f / 100 = 1 → FI b f g = FI a f g ∧ FR b f g = FR a f g := fun f v => hx.1 f g (by rw [v]; exact w1) (n0 f v)
  exact ⟨(fr _ rfl).2.trans a1, (fr _ rfl).2.trans a2, (fr _ rfl).2.trans a3, (fr _ rfl).2.trans a4, hx.row a5 (by omega) (by omega) (n2 _).1 (n2 _).2, hx.row a6 w6 w13 (n2 _).1 (n2 _).2, (hx.2.2.1 16 _ w16).trans a7, (hx.2.2.1 15 _ w15).trans a8, fun r => (hx.2.1 16 _ r w16).2.trans (a9 r), (fr _ rfl).1.trans a10, (fr _ rfl).1.trans a11, (fr _ rfl).1.trans a12, (fr _ rfl).1.trans a13⟩

/-! THE CLASS's makers: Trees -/
def trC (i : Nat) : Nat := if i < 5 then 2257 else if i = 5 then 3000 else 2000
def trW (n : Nat) (σ0 τ : AS) : Prop := tX (fun f a => f = 601 ∧ 6 ≤ a ∧ a ≤ 10) (fun a => 6 ≤ a ∧ a ≤ 10) σ0 τ ∧ trR τ ∧ ∃ so nu fk sz va ki : Nat → Int, rowF τ 6 6 2257 n so ∧ rowF τ 7 7 2257 n nu ∧ rowF τ 8 8 2257 n fk ∧ rowF τ 9 9 2257 n sz ∧ rowF τ 10 10 2257 n va ∧ rowF τ 11 11 3000 0 ki ∧ ∀ i, i < n → so i = 0 ∧ nu i = (i : Int) ∧ sz i = 1 ∧ va i = (i : Int)
theorem worth_num {n : Nat} (h : n < 256) : worthT (.num n) = (n : Int) := by
  show wr (wr (0 * 10) + (n : Int)) = (n : Int)
  rw [show wr (0 * 10) = 0 from by decide, Int.zero_add]
  exact wr_id (by omega) (by omega)
section
variable {d : Nat} {Q : AQ} {σ : AS}
theorem T_initLoop (kk : ∀ τ, trW 256 σ τ → Ex (wp (d + 2)) m_Trees_init Q 126 [some (vr 9 0), some (vi ((256 : Nat) : Int))] [] τ) : ∀ (m n : Nat) (τ : AS), n + m = 256 → trW n σ τ → Ex (wp (d + 2)) m_Trees_init Q 104 [some (vr 9 0), some (vi (n : Nat))] [] τ := by
  intro m
  induction m with
  | zero =>
    intro n τ hn h
    have e : n = 256 := by omega
    subst e
    refine x_iload_n i_Trees_init_104 rfl ?_
    refine x_sipush i_Trees_init_105 ?_
    refine x_icmp_ge_t i_Trees_init_108 (by omega) ?_
    exact kk τ h
  | succ m ih =>
    intro n τ hn h
    obtain ⟨hx, hq, so, nu, fk, sz, va, ki, r1, r2, r3, r4, r5, r6, hv⟩ := h
    refine x_iload_n i_Trees_init_104 rfl ?_
    refine x_sipush i_Trees_init_105 ?_
    refine x_icmp_ge_f i_Trees_init_108 (by omega) ?_
    refine x_aload_n i_Trees_init_111 rfl ?_
    refine x_iconst i_Trees_init_112 ?_
    refine x_iload_n i_Trees_init_113 rfl ?_
    refine x_iconst i_Trees_init_114 ?_
    refine x_iload_n i_Trees_init_115 rfl ?_
    refine x_cv4 i_Trees_init_116 rfl rfl rfl ?_
    refine c_T_make hq r1 r2 r3 r4 r5 r6 (by omega) (fun τ2 q2 g1 g2 g3 g4 g5 g6 x2 => ?_)
    refine x_pop i_Trees_init_119 ?_
    refine x_iinc (ls' := [_, _]) i_Trees_init_120 rfl (by omega) rfl ?_
    refine x_goto i_Trees_init_123 ?_
    refine ih (n + 1) τ2 (by omega) ⟨hx.tr x2, q2, _, _, _, _, _, _, g1, g2, g3, g4, g5, g6, fun i hi => ?_⟩
    by_cases w : i = n
    · subst w
      rw [up_eq, up_eq, up_eq, up_eq]
      exact ⟨rfl, rfl, rfl, rfl⟩
    · rw [up_ne w, up_ne w, up_ne w, up_ne w]
      exact hv i (by omega)
theorem c_T_init (h6 : CN σ 6 = 6) (h13 : CN σ 13 = 6) (h9 : 0 < CN σ 9) (kk : ∀ τ, oldX 9 0 σ τ → CN τ 6 = 13 → CN τ 13 = 13 → (∀ k, k ≠ 6 → k ≠ 13 → CN τ k = CN σ k) → (∃ N K tab H, TrS τ N K tab H) → nC τ = nC σ + 14 → nS τ ≤ nS σ + 70000 → Q none τ) : wp (d + 3) m_Trees_init [vr 9 0] σ Q := by
  have h0 : rwI 900 6 trC 0 σ σ := rwI.st h6 h13
  refine x_in (ls := [some _, none]) rfl rfl ?_
  refine x_aload_n i_Trees_init_0 rfl ?_
  refine x_objInit i_Trees_init_1 rfl ?_
  refine x_aload_n i_Trees_init_4 rfl ?_
  refine x_new i_Trees_init_5 ?_
  refine x_dup i_Trees_init_8 ?_
  refine x_sipush i_Trees_init_9 ?_
  refine x_ci1 i_Trees_init_12 rfl rfl rfl ?_
  refine c_Row_init (cap := 2257) (by decide) ?_
  refine x_putO (c2 := 6) i_Trees_init_15 rfl rfl ?_
  generalize hτ : sFR (sRow (nO σ 6) (CN σ 6) 2257) 900 0 (some (CN σ 6)) = τ1
  have h1 : rwI 900 6 trC 1 σ τ1 := h0.step (m := 0) (c := 9) hτ (by decide) (by decide) (by decide) (fun i hi => by omega) h9
  clear hτ
  refine x_aload_n i_Trees_init_18 rfl ?_
  refine x_new i_Trees_init_19 ?_
  refine x_dup i_Trees_init_22 ?_
  refine x_sipush i_Trees_init_23 ?_
  refine x_ci1 i_Trees_init_26 rfl rfl rfl ?_
  refine c_Row_init (cap := 2257) (by decide) ?_
  refine x_putO (c2 := 6) i_Trees_init_29 rfl rfl ?_
  generalize hτ : sFR (sRow (nO τ1 6) (CN τ1 6) 2257) 901 0 (some (CN τ1 6)) = τ2
  have h2 : rwI 900 6 trC 2 σ τ2 := h1.step (m := 1) (c := 9) hτ (by decide) (by decide) (by decide) (fun i hi => by omega) h9
  clear hτ
  refine x_aload_n i_Trees_init_32 rfl ?_
  refine x_new i_Trees_init_33 ?_
  refine x_dup i_Trees_init_36 ?_
  refine x_sipush i_Trees_init_37 ?_
  refine x_ci1 i_Trees_init_40 rfl rfl rfl ?_
  refine c_Row_init (cap := 2257) (by decide) ?_
  refine x_putO (c2 := 6) i_Trees_init_43 rfl rfl ?_
  generalize hτ : sFR (sRow (nO τ2 6) (CN τ2 6) 2257) 902 0 (some (CN τ2 6)) = τ3
  have h3 : rwI 900 6 trC 3 σ τ3 := h2.step (m := 2) (c := 9) hτ (by decide) (by decide) (by decide) (fun i hi => by omega) h9
  clear hτ
  refine x_aload_n i_Trees_init_46 rfl ?_
  refine x_new i_Trees_init_47 ?_
  refine x_dup i_Trees_init_50 ?_
  refine x_sipush i_Trees_init_51 ?_
  refine x_ci1 i_Trees_init_54 rfl rfl rfl ?_
  refine c_Row_init (cap := 2257) (by decide) ?_
  refine x_putO (c2 := 6) i_Trees_init_57 rfl rfl ?_
  generalize hτ : sFR (sRow (nO τ3 6) (CN τ3 6) 2257) 903 0 (some (CN τ3 6)) = τ4
  have h4 : rwI 900 6 trC 4 σ τ4 := h3.step (m := 3) (c := 9) hτ (by decide) (by decide) (by decide) (fun i hi => by omega) h9
  clear hτ
  refine x_aload_n i_Trees_init_60 rfl ?_
  refine x_new i_Trees_init_61 ?_
  refine x_dup i_Trees_init_64 ?_
  refine x_sipush i_Trees_init_65 ?_
  refine x_ci1 i_Trees_init_68 rfl rfl rfl ?_
  refine c_Row_init (cap := 2257) (by decide) ?_
  refine x_putO (c2 := 6) i_Trees_init_71 rfl rfl ?_
  generalize hτ : sFR (sRow (nO τ4 6) (CN τ4 6) 2257) 904 0 (some (CN τ4 6)) = τ5
  have h5 : rwI 900 6 trC 5 σ τ5 := h4.step (m := 4) (c := 9) hτ (by decide) (by decide) (by decide) (fun i hi => by omega) h9
  clear hτ
  refine x_aload_n i_Trees_init_74 rfl ?_
  refine x_new i_Trees_init_75 ?_
  refine x_dup i_Trees_init_78 ?_
  refine x_sipush i_Trees_init_79 ?_
  refine x_ci1 i_Trees_init_82 rfl rfl rfl ?_
  refine c_Row_init (cap := 3000) (by decide) ?_
  refine x_putO (c2 := 6) i_Trees_init_85 rfl rfl ?_
  generalize hτ : sFR (sRow (nO τ5 6) (CN τ5 6) 3000) 905 0 (some (CN τ5 6)) = τ6
  have h6 : rwI 900 6 trC 6 σ τ6 := h5.step (m := 5) (c := 9) hτ (by decide) (by decide) (by decide) (fun i hi => by omega) h9
  clear hτ
  refine x_aload_n i_Trees_init_88 rfl ?_
  refine x_new i_Trees_init_89 ?_
  refine x_dup i_Trees_init_92 ?_
  refine x_sipush i_Trees_init_93 ?_
  refine x_ci1 i_Trees_init_96 rfl rfl rfl ?_
  refine c_Row_init (cap := 2000) (by decide) ?_
  refine x_putO (c2 := 6) i_Trees_init_99 rfl rfl ?_
  generalize hτ : sFR (sRow (nO τ6 6) (CN τ6 6) 2000) 906 0 (some (CN τ6 6)) = τ7
  have h7 : rwI 900 6 trC 7 σ τ7 := h6.step (m := 6) (c := 9) hτ (by decide) (by decide) (by decide) (fun i hi => by omega) h9
  clear hτ
  obtain ⟨a1, a2, a3, a4, a5, a6, a7⟩ := h7
  have q : trR τ7 := ⟨(a1 0 (by decide)).1, (a1 1 (by decide)).1, (a1 2 (by decide)).1, (a1 3 (by decide)).1, (a1 4 (by decide)).1, (a1 5 (by decide)).1, (a1 6 (by decide)).1⟩
  have st : trW 0 τ7 τ7 := ⟨tX.rf _ _ _, q, fun _ => 0, fun _ => 0, fun _ => 0, fun _ => 0, fun _ => 0, fun _ => 0, (a1 0 (by decide)).2, (a1 1 (by decide)).2, (a1 2 (by decide)).2, (a1 3 (by decide)).2, (a1 4 (by decide)).2, (a1 5 (by decide)).2, fun i hi => absurd hi (Nat.not_lt_zero _)⟩
  have r7 := (a1 6 (by decide)).2
  refine x_iconst i_Trees_init_102 ?_
  refine x_istore_n (ls' := [_, _]) i_Trees_init_103 rfl rfl ?_
  refine T_initLoop (σ := τ7) (fun τ8 h8 => ?_) 256 0 τ7 rfl st
  obtain ⟨hx, hq, so, nu, fk, sz, va, ki, r1, r2, r3, r4, r5, r6, hv⟩ := h8
  refine x_aload_n i_Trees_init_126 rfl ?_
  refine x_iconst i_Trees_init_127 ?_
  refine x_iconst i_Trees_init_128 ?_
  refine x_iconst i_Trees_init_129 ?_
  refine x_iconst i_Trees_init_130 ?_
  refine x_cv4 i_Trees_init_131 rfl rfl rfl ?_
  refine c_T_make hq r1 r2 r3 r4 r5 r6 (by decide) (fun τ9 q2 g1 g2 g3 g4 g5 g6 x2 => ?_)
  have x9 := hx.tr x2
  have cn : CN τ9 = CN τ7 := x9.2.2.2.2.2.1
  have n9 : nC τ9 = nC τ7 := x9.2.2.2.2.2.2.1
  have s9 : nS τ9 = nS τ7 := x9.2.2.2.2.2.2.2
  have k7 : kpX (fun g x => g / 100 = 9 ∧ x = 0) σ τ7 := a5.mono (fun g x _ w => by omega)
  have k9 : kpX (fun g x => g / 100 = 9 ∧ x = 0) σ τ9 := k7.tx x9 (fun f x w v => by obtain ⟨rfl, v1, v2⟩ := v; have w : x < CN σ 6 := w; omega) (fun x v => by omega)
  have r12 : rowF τ9 12 12 2000 0 (fun _ => 0) := x9.row r7 (fun v => by omega) (fun v => by omega)
  obtain ⟨tab, ht1, ht2⟩ : ∃ tab : Nat → TT, (∀ i, i < 256 → tab i = .num i) ∧ tab 256 = boughT [] := ⟨fun i => if i < 256 then .num i else boughT [], fun i hi => if_pos hi, if_neg (by decide)⟩
  refine x_pop i_Trees_init_134 ?_
  refine x_vret i_Trees_init_135 rfl ?_
  refine kk τ9 k9.old (by rw [cn]; exact a2) (by rw [cn]; exact a3) (fun k k1 k2 => by rw [cn]; exact a4 k k1 k2) ⟨257, 0, tab, [], up so 256 1, up nu 256 0, up fk 256 0, up sz 256 1, up va 256 0, ki, fun _ => 0, q2, g1, g2, g3, g4, g5, g6, r12, fun i hi => ?_, fun k i hk => by simp at hk, Nat.le_refl _, ht1, ht2⟩ (by omega) (by omega)
  by_cases w : i = 256
  · subst w
    rw [up_eq, up_eq, ht2]
    refine ⟨rfl, by decide, Or.inr (Or.inl ⟨[], ht2, up_eq _ _ _, up_eq _ _ _, 0, up_eq _ _ _, fun j hj => absurd hj (Nat.not_lt_zero _), fun j t hj => by simp at hj⟩), by decide⟩
  · obtain ⟨b1, b2, b3, b4⟩ := hv i (by omega)
    rw [up_ne w, up_ne w, ht1 i (by omega), b3, b4, worth_num (by omega)]
    refine ⟨rfl, rfl, Or.inl ⟨i, by omega, ht1 i (by omega), by rw [up_ne w]; exact b1, by rw [up_ne w]; exact b2⟩, by show 1 ≤ 2000; decide⟩
end


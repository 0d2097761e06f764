/-! THE MODEL's maker -/
/-- its arrays of fields below B are there: numbers 23 .. N - 1, booleans 0 .. Z - 1 -/
def miI (σ0 σ : AS) (B N Z : Nat) : Prop := (∀ f n, f < B → mArr f = some n → FR σ f 0 = some n) ∧ (∀ n l, n < N → mLen n = some l → LN σ 13 n = l) ∧ (∀ n, n < Z → LN σ 14 n = if n = 0 then 8 else 1928) ∧ (CN σ 13 = N ∧ CN σ 14 = Z ∧ ∀ k, k ≠ 13 → k ≠ 14 → CN σ k = CN σ0 k) ∧ FI σ = FI σ0 ∧ (∀ a j, 23 ≤ a → a < N → AI σ 13 a j = 0) ∧ (∀ a j, a < Z → AI σ 14 a j = 0) ∧ oldX 11 0 σ0 σ ∧ (23 ≤ N ∧ nC σ + 23 = nC σ0 + N + Z) ∧ nS σ + 30000 * 23 ≤ nS σ0 + 30000 * (N + Z)
theorem oldX.tr {c x : Nat} {a b d : AS} (h : oldX c x a b) (g : oldX c x b d) : oldX c x a d := (h.kp.tr2 g.kp (fun _ _ _ v => v)).old
theorem miI.st {σ : AS} (h13 : CN σ 13 = 23) (h14 : CN σ 14 = 0) : miI σ σ 1100 23 0 := by
  refine ⟨fun f n hf h => ?_, fun n l hn h => ?_, fun n hn => absurd hn (Nat.not_lt_zero _), ⟨h13, h14, fun _ _ _ => rfl⟩, rfl, fun a j w1 w2 => by omega, fun a j w => absurd w (Nat.not_lt_zero _), (kpX.rf _ _).old, ⟨Nat.le_refl _, rfl⟩, by omega⟩
  · exfalso
    unfold mArr at h
    split at h <;> first | omega | cases h
  · exfalso
    unfold mLen at h
    split at h <;> first | omega | cases h
theorem old_nA {σ : AS} {k n f : Nat} (hf : f / 100 = 11) : oldX 11 0 σ (sFR (nA σ k n) f 0 (some (CN σ k))) := by
  refine ⟨fun g x w v => ⟨rfl, by rw [FR_sFR, if_neg (fun q => v ⟨by omega, q.2⟩)]; rfl⟩, fun c x j w => ?_, fun c x w => ?_, fun c => ?_⟩
  · have e : ¬ (c = k ∧ x = CN σ k) := fun q => by obtain ⟨rfl, q⟩ := q; omega
    show (if c = k ∧ x = CN σ k then (0 : Int) else AI σ c x j) = AI σ c x j ∧ (if c = k ∧ x = CN σ k then none else AR σ c x j) = AR σ c x j
    rw [if_neg e, if_neg e]
    exact ⟨rfl, rfl⟩
  · show (if c = k ∧ x = CN σ k then n else LN σ c x) = LN σ c x
    rw [if_neg (fun q => by obtain ⟨rfl, q⟩ := q; omega)]
  · show CN σ c ≤ if c = k then CN σ k + 1 else CN σ c
    split
    · rename_i w; rw [w]; omega
    · exact Nat.le_refl _
theorem miI.int {σ0 σ : AS} {B N Z : Nat} (h : miI σ0 σ B N Z) (gap : Nat) {l : Nat} {τ : AS} (hτ : sFR (nA σ 13 l) (B + gap) 0 (some (CN σ 13)) = τ) (hg : ∀ i, i < gap → mArr (B + i) = none) (h1 : mArr (B + gap) = some N) (h2 : mLen N = some l) (hl : l ≤ 30000) (hf : (B + gap) / 100 = 11) : miI σ0 τ (B + gap + 1) (N + 1) Z := by
  obtain ⟨a1, a2, a3, ⟨a4, a5, a6⟩, a7, a8, a9, a10, ⟨a11, a12⟩, a13⟩ := h
  have ox : oldX 11 0 σ τ := by rw [← hτ]; exact old_nA hf
  subst hτ
  refine ⟨fun f n hf h => ?_, fun n l' hn h => ?_, fun n hn => ?_, ⟨?_, ?_, fun k k1 k2 => ?_⟩, a7, fun a j w1 w2 => ?_, fun a j w => ?_, a10.tr ox, ⟨by omega, ?_⟩, ?_⟩
  · rw [FR_sFR]
    by_cases w : f = B + gap
    · subst w
      rw [h1] at h
      injection h with h
      rw [if_pos ⟨rfl, rfl⟩, a4, h]
    · rw [if_neg (fun q => w q.1)]
      by_cases w2 : f < B
      · exact a1 f n w2 h
      · obtain ⟨i, rfl⟩ : ∃ i, f = B + i := ⟨f - B, by omega⟩
        rw [hg i (by omega)] at h
        cases h
  · show (if 13 = 13 ∧ n = CN σ 13 then l else LN σ 13 n) = l'
    by_cases w : n = CN σ 13
    · rw [if_pos ⟨rfl, w⟩]
      rw [w, a4, h2] at h
      injection h
    · rw [if_neg (fun q => w q.2)]
      exact a2 n l' (by omega) h
  · show (if 14 = 13 ∧ n = CN σ 13 then l else LN σ 14 n) = _
    rw [if_neg (fun q => absurd q.1 (by decide))]
    exact a3 n hn
  · show (if 13 = 13 then CN σ 13 + 1 else CN σ 13) = N + 1
    rw [if_pos rfl, a4]
  · show (if 14 = 13 then CN σ 13 + 1 else CN σ 14) = Z
    rw [if_neg (by decide), a5]
  · show (if k = 13 then CN σ 13 + 1 else CN σ k) = CN σ0 k
    rw [if_neg k1]
    exact a6 k k1 k2
  · show (if 13 = 13 ∧ a = CN σ 13 then (0 : Int) else AI σ 13 a j) = 0
    by_cases w : a = CN σ 13
    · rw [if_pos ⟨rfl, w⟩]
    · rw [if_neg (fun q => w q.2)]
      exact a8 a j w1 (by omega)
  · show (if 14 = 13 ∧ a = CN σ 13 then (0 : Int) else AI σ 14 a j) = 0
    rw [if_neg (fun q => absurd q.1 (by decide))]
    exact a9 a j w
  · show nC σ + 1 + 23 = _
    omega
  · show nS σ + l + _ ≤ _
    omega
theorem miI.bol {σ0 σ : AS} {B N Z : Nat} (h : miI σ0 σ B N Z) (gap : Nat) {l : Nat} {τ : AS} (hτ : sFR (nA σ 14 l) (B + gap) 0 (some (CN σ 14)) = τ) (hg : ∀ i, i < gap → mArr (B + i) = none) (h1 : mArr (B + gap) = some Z) (h2 : l = if Z = 0 then 8 else 1928) (hf : (B + gap) / 100 = 11) : miI σ0 τ (B + gap + 1) N (Z + 1) := by
  obtain ⟨a1, a2, a3, ⟨a4, a5, a6⟩, a7, a8, a9, a10, ⟨a11, a12⟩, a13⟩ := h
  have ox : oldX 11 0 σ τ := by rw [← hτ]; exact old_nA hf
  have hl : l ≤ 1928 := by rw [h2]; split <;> omega
  subst hτ
  refine ⟨fun f n hf h => ?_, fun n l' hn h => ?_, fun n hn => ?_, ⟨?_, ?_, fun k k1 k2 => ?_⟩, a7, fun a j w1 w2 => ?_, fun a j w => ?_, a10.tr ox, ⟨by omega, ?_⟩, ?_⟩
  · rw [FR_sFR]
    by_cases w : f = B + gap
    · subst w
      rw [h1] at h
      injection h with h
      rw [if_pos ⟨rfl, rfl⟩, a5, h]
    · rw [if_neg (fun q => w q.1)]
      by_cases w2 : f < B
      · exact a1 f n w2 h
      · obtain ⟨i, rfl⟩ : ∃ i, f = B + i := ⟨f - B, by omega⟩
        rw [hg i (by omega)] at h
        cases h
  · show (if 13 = 14 ∧ n = CN σ 14 then l else LN σ 13 n) = l'
    rw [if_neg (fun q => absurd q.1 (by decide))]
    exact a2 n l' hn h
  · show (if 14 = 14 ∧ n = CN σ 14 then l else LN σ 14 n) = _
    by_cases w : n = CN σ 14
    · rw [if_pos ⟨rfl, w⟩, h2, w, a5]
    · rw [if_neg (fun q => w q.2)]
      exact a3 n (by omega)
  · show (if 13 = 14 then CN σ 14 + 1 else CN σ 13) = N
    rw [if_neg (by decide), a4]
  · show (if 14 = 14 then CN σ 14 + 1 else CN σ 14) = Z + 1
    rw [if_pos rfl, a5]
  · show (if k = 14 then CN σ 14 + 1 else CN σ k) = CN σ0 k
    rw [if_neg k2]
    exact a6 k k1 k2
  · show (if 13 = 14 ∧ a = CN σ 14 then (0 : Int) else AI σ 13 a j) = 0
    rw [if_neg (fun q => absurd q.1 (by decide))]
    exact a8 a j w1 w2
  · show (if 14 = 14 ∧ a = CN σ 14 then (0 : Int) else AI σ 14 a j) = 0
    by_cases w : a = CN σ 14
    · rw [if_pos ⟨rfl, w⟩]
    · rw [if_neg (fun q => w q.2)]
      exact a9 a j (by omega)
  · show nC σ + 1 + 23 = _
    omega
  · show nS σ + l + _ ≤ _
    omega
theorem miI.inp {σ0 σ : AS} {N Z v : Nat} (h : miI σ0 σ 1140 N Z) : miI σ0 (sFR σ 1140 0 (some v)) 1141 N Z := by
  obtain ⟨a1, a2, a3, a4, a7, a8, a9, a10, a11, a13⟩ := h
  refine ⟨fun f n hf h => ?_, a2, a3, a4, a7, a8, a9, a10.tr (kpX_sFR (P := fun g x => g / 100 = 11 ∧ x = 0) ⟨by decide, rfl⟩).old, a11, a13⟩
  by_cases w : f = 1140
  · subst w
    cases h
  · rw [FR_sFR, if_neg (fun q => w q.1)]
    exact a1 f n (by omega) h
theorem nRows_f (s : AS) (k : Nat) : ∀ n, FI (nRows s n k) = FI s ∧ FR (nRows s n k) = FR s ∧ CN (nRows s n k) 13 = CN s 13 + n ∧ (∀ c, c ≠ 13 → CN (nRows s n k) c = CN s c) ∧ (∀ a, CN s 13 ≤ a → a < CN s 13 + n → LN (nRows s n k) 13 a = k) ∧ (∀ c a, ¬ (c = 13 ∧ CN s 13 ≤ a) → LN (nRows s n k) c a = LN s c a) ∧ (∀ c a j, ¬ (c = 13 ∧ CN s 13 ≤ a) → AI (nRows s n k) c a j = AI s c a j ∧ AR (nRows s n k) c a j = AR s c a j) ∧ nC (nRows s n k) = nC s + n ∧ nS (nRows s n k) = nS s + n * k := by
  intro n
  induction n with
  | zero => exact ⟨rfl, rfl, rfl, fun _ _ => rfl, fun a w1 w2 => by omega, fun _ _ _ => rfl, fun _ _ _ _ => ⟨rfl, rfl⟩, rfl, by show nS s = nS s + 0 * k; omega⟩
  | succ n ih =>
    obtain ⟨h1, h2, h3, h4, h5, h6, h7, h8, h9⟩ := ih
    refine ⟨h1, h2, ?_, fun c w => ?_, fun a w1 w2 => ?_, fun c a w => ?_, fun c a j w => ⟨?_, ?_⟩, ?_, ?_⟩
    · show (if 13 = 13 then CN (nRows s n k) 13 + 1 else CN (nRows s n k) 13) = _
      rw [if_pos rfl, h3]; omega
    · show (if c = 13 then CN (nRows s n k) 13 + 1 else CN (nRows s n k) c) = _
      rw [if_neg w]; exact h4 c w
    · show (if 13 = 13 ∧ a = CN (nRows s n k) 13 then k else LN (nRows s n k) 13 a) = k
      by_cases e : a = CN (nRows s n k) 13
      · rw [if_pos ⟨rfl, e⟩]
      · rw [if_neg (fun q => e q.2)]
        exact h5 a w1 (by omega)
    · show (if c = 13 ∧ a = CN (nRows s n k) 13 then k else LN (nRows s n k) c a) = _
      rw [if_neg (fun q => w ⟨q.1, by omega⟩)]
      exact h6 c a w
    · show (if c = 13 ∧ a = CN (nRows s n k) 13 then (0 : Int) else AI (nRows s n k) c a j) = _
      rw [if_neg (fun q => w ⟨q.1, by omega⟩)]
      exact (h7 c a j w).1
    · show (if c = 13 ∧ a = CN (nRows s n k) 13 then none else AR (nRows s n k) c a j) = _
      rw [if_neg (fun q => w ⟨q.1, by omega⟩)]
      exact (h7 c a j w).2
    · show nC (nRows s n k) + 1 = _
      omega
    · show nS (nRows s n k) + k = _
      rw [h9, Nat.succ_mul]; omega
theorem nM_f (s : AS) (n k : Nat) : FI (nM s n k) = FI s ∧ FR (nM s n k) = FR s ∧ CN (nM s n k) 13 = CN s 13 + n ∧ CN (nM s n k) 17 = CN s 17 + 1 ∧ (∀ c, c ≠ 13 → c ≠ 17 → CN (nM s n k) c = CN s c) ∧ (∀ a, CN s 13 ≤ a → a < CN s 13 + n → LN (nM s n k) 13 a = k) ∧ LN (nM s n k) 17 (CN s 17) = n ∧ (∀ c a, ¬ (c = 13 ∧ CN s 13 ≤ a) → ¬ (c = 17 ∧ a = CN s 17) → LN (nM s n k) c a = LN s c a) ∧ (∀ c a j, ¬ (c = 13 ∧ CN s 13 ≤ a) → ¬ (c = 17 ∧ a = CN s 17) → AI (nM s n k) c a j = AI s c a j ∧ AR (nM s n k) c a j = AR s c a j) ∧ (∀ j, j < n → AR (nM s n k) 17 (CN s 17) j = some (CN s 13 + j)) ∧ nC (nM s n k) = nC s + 1 + n ∧ nS (nM s n k) = nS s + n + n * k := by
  obtain ⟨b1, b2, b3, b4, b5, b6, b7, b8, b9⟩ := nRows_f (nA s 17 n) k n
  have e13 : CN (nA s 17 n) 13 = CN s 13 := by rw [CN_nA, if_neg (by decide)]
  rw [e13] at b3 b5 b6 b7
  refine ⟨b1, b2, b3, ?_, fun c w1 w2 => ?_, b5, ?_, fun c a w1 w2 => ?_, fun c a j w1 w2 => ⟨?_, ?_⟩, fun j hj => ?_, b8, b9⟩
  · exact (b4 17 (by decide)).trans (by rw [CN_nA, if_pos rfl])
  · exact (b4 c w1).trans (by rw [CN_nA, if_neg w2])
  · exact (b6 17 _ (fun q => absurd q.1 (by decide))).trans (by rw [LN_nA, if_pos ⟨rfl, rfl⟩])
  · exact (b6 c a w1).trans (by rw [LN_nA, if_neg w2])
  · exact (b7 c a j w1).1.trans (by rw [AI_nA, if_neg w2])
  · show (if c = 17 ∧ a = CN s 17 ∧ j < n then some (CN s 13 + j) else AR (nRows (nA s 17 n) n k) c a j) = AR s c a j
    rw [if_neg (fun q => w2 ⟨q.1, q.2.1⟩)]
    exact (b7 c a j w1).2.trans (by rw [AR_nA, if_neg w2])
  · show (if 17 = 17 ∧ CN s 17 = CN s 17 ∧ j < n then some (CN s 13 + j) else AR (nRows (nA s 17 n) n k) 17 (CN s 17) j) = some (CN s 13 + j)
    rw [if_pos ⟨rfl, rfl, hj⟩]
theorem besM_new {σ0 σ τ : AS} (h : miI σ0 σ 1181 64 3) (h17 : CN σ 17 = 0) (hτ : sFR (nM σ 13 260) 1183 0 (some (CN σ 17)) = τ) : besM τ ∧ modR τ ∧ (CN τ 13 = 77 ∧ CN τ 14 = 3 ∧ CN τ 17 = 1 ∧ ∀ k, k ≠ 13 → k ≠ 14 → k ≠ 17 → CN τ k = CN σ0 k) ∧ FI τ = FI σ0 ∧ (∀ a j, 23 ≤ a → a < 64 → AI τ 13 a j = 0) ∧ (∀ a j, a < 3 → AI τ 14 a j = 0) ∧ oldX 11 0 σ0 τ ∧ nC τ ≤ nC σ0 + 100 ∧ nS τ ≤ nS σ0 + 1400000 := by
  obtain ⟨a1, a2, a3, ⟨a4, a5, a6⟩, a7, a8, a9, a10, ⟨a11, a12⟩, a13⟩ := h
  obtain ⟨b1, b2, b3, b4, b5, b6, b7, b8, b9, b10, b11, b12⟩ := nM_f σ 13 260
  generalize nM σ 13 260 = μ at b1 b2 b3 b4 b5 b6 b7 b8 b9 b10 b11 b12 hτ
  rw [a4] at b3 b6 b8 b9 b10
  rw [h17] at b4 b7 b8 b9 b10 hτ
  subst hτ
  have fr : ∀ f, f ≠ 1183 → FR (sFR μ 1183 0 (some 0)) f 0 = FR σ f 0 := fun f w => by rw [FR_sFR, if_neg (fun q => w q.1), b2]
  have cnA : ∀ k, CN (sFR μ 1183 0 (some 0)) k = if k = 13 then 77 else if k = 17 then 1 else CN σ k := by
    intro k
    show CN μ k = _
    by_cases w : k = 13
    · subst w; rw [b3, if_pos rfl]
    · by_cases w2 : k = 17
      · subst w2; rw [b4]; rfl
      · rw [b5 k w w2, if_neg w, if_neg w2]
  have ox : oldX 11 0 σ (sFR μ 1183 0 (some 0)) := by
    refine ⟨fun g x w v => ⟨congrFun (congrFun b1 g) x, ?_⟩, fun c x j w => b9 c x j (fun q => by obtain ⟨rfl, q⟩ := q; omega) (fun q => by obtain ⟨rfl, q⟩ := q; omega), fun c x w => b8 c x (fun q => by obtain ⟨rfl, q⟩ := q; omega) (fun q => by obtain ⟨rfl, q⟩ := q; omega), fun c => ?_⟩
    · rw [FR_sFR, if_neg (fun q => v ⟨by omega, q.2⟩), b2]
    · rw [cnA c]
      split
      · rename_i w; subst w; omega
      · split
        · rename_i w; subst w; omega
        · exact Nat.le_refl _
  refine ⟨⟨?_, b7, fun i hi => ⟨b10 i hi, b6 (64 + i) (by omega) (by omega)⟩⟩, ⟨fun f n h => ?_, fun n l h => ?_, ?_, ?_, ?_⟩, ⟨by rw [cnA]; rfl, by rw [cnA, if_neg (by decide), if_neg (by decide)]; exact a5, by rw [cnA]; rfl, fun k k1 k2 k3 => by rw [cnA, if_neg k1, if_neg k3]; exact a6 k k1 k2⟩, b1.trans a7, fun a j w1 w2 => ?_, fun a j w => ?_, a10.tr ox, ?_, ?_⟩
  · rw [FR_sFR, if_pos ⟨rfl, rfl⟩]
  · by_cases w : f = 1183
    · subst w
      have h : some 0 = some n := h
      rw [FR_sFR, if_pos ⟨rfl, rfl⟩]
      exact h
    · rw [fr f w]
      refine a1 f n ?_ h
      unfold mArr at h
      split at h <;> first | omega | cases h
  · have hn : n < 64 := by
      unfold mLen at h
      split at h <;> first | omega | cases h
    exact (b8 13 n (fun q => by omega) (fun q => absurd q.1 (by decide))).trans (a2 n l hn h)
  · exact (b8 14 0 (fun q => absurd q.1 (by decide)) (fun q => absurd q.1 (by decide))).trans (a3 0 (by decide))
  · exact (b8 14 1 (fun q => absurd q.1 (by decide)) (fun q => absurd q.1 (by decide))).trans (a3 1 (by decide))
  · exact (b8 14 2 (fun q => absurd q.1 (by decide)) (fun q => absurd q.1 (by decide))).trans (a3 2 (by decide))
  · exact (b9 13 a j (fun q => by omega) (fun q => absurd q.1 (by decide))).1.trans (a8 a j w1 w2)
  · exact (b9 14 a j (fun q => absurd q.1 (by decide)) (fun q => absurd q.1 (by decide))).1.trans (a9 a j w)
  · show nC μ ≤ _
    omega
  · show nS μ ≤ _
    omega
/-- the object before the first call -/
def SS0 : SS := (((0, fun _ => 0), (0, fun _ => 0)), ((fun _ => none), [], (fun _ => false), fun _ => false), 0, none)
theorem moS_new {τ : AS} (hb : besM τ) (hm : modR τ) (h0 : ∀ f, f / 100 = 11 → FI τ f 0 = 0) (h26 : ∀ r, r < 8 → AI τ 13 26 r = -1) (h42 : ∀ r, r < 8 → AI τ 13 42 r = 0) (h14 : ∀ r, r < 8 → AI τ 14 0 r = 0) : moS τ SS0 := by
  refine ⟨hm, hb, ⟨Nat.zero_le _, fun i hi => absurd hi (Nat.not_lt_zero _)⟩, ⟨Nat.zero_le _, fun i hi => absurd hi (Nat.not_lt_zero _)⟩, ⟨h0 _ rfl, fun i hi => absurd hi (Nat.not_lt_zero _)⟩, ⟨h0 _ rfl, fun i hi => absurd hi (Nat.not_lt_zero _)⟩, ⟨fun r hr q => absurd (h26 r hr) q, fun r hr => ⟨fun q => absurd (h26 r hr) q, fun q => by cases q⟩, ?_, h0 _ rfl, Nat.zero_le _, (fun i a hi => by cases hi), h14, fun r hr => ?_⟩, h0 _ rfl, Nat.zero_le _, h0 _ rfl⟩
  · rw [h0 _ rfl]
    rfl
  · rw [h42 r hr, bN_bit2 bN_0 hr]
    rfl
section
variable {d : Nat} {Q : AQ} {σ : AS}
theorem M_initLoop {σ0 : AS} (hm : modR σ0) (kk : ∀ τ, fX (fun _ _ => False) (fun k a => k = 13 ∧ a = 26) σ0 τ → (∀ r, r < 8 → AI τ 13 26 r = -1) → Q none τ) : ∀ (m n : Nat) (τ : AS), n + m = 8 → fX (fun _ _ => False) (fun k a => k = 13 ∧ a = 26) σ0 τ → (∀ r, r < n → AI τ 13 26 r = -1) → Ex (wp d) m_M_init Q 411 [some (vr 11 0), some (vi (n : Nat))] [] τ := by
  intro m
  induction m with
  | zero =>
    intro n τ hn hx h0
    have e : n = 8 := by omega
    subst e
    refine x_iload_n i_M_init_411 rfl ?_
    refine x_bipush i_M_init_412 ?_
    refine x_icmp_ge_t i_M_init_414 (by omega) ?_
    refine x_vret i_M_init_430 rfl ?_
    exact kk τ hx h0
  | succ m ih =>
    intro n τ hn hx h0
    have hn8 : n < 8 := by omega
    obtain ⟨hm, hl, -⟩ := hm.keep hx
    refine x_iload_n i_M_init_411 rfl ?_
    refine x_bipush i_M_init_412 ?_
    refine x_icmp_ge_f i_M_init_414 (by omega) ?_
    refine x_aload_n i_M_init_417 rfl ?_
    refine x_getR (c2 := 13) i_M_init_418 rfl rfl (hm _ _ rfl) ?_
    refine x_iload_n i_M_init_421 rfl ?_
    refine x_iconst i_M_init_422 ?_
    refine x_iastore i_M_init_423 (k := n) rfl (lt_len hl rfl hn8) ?_
    refine x_iinc (ls' := [_, _]) i_M_init_424 rfl (by omega) rfl ?_
    refine x_goto i_M_init_427 ?_
    refine ih (n + 1) _ (by omega) (hx.tr (fX_sAI ⟨rfl, rfl⟩)) (fun r hr => ?_)
    rw [AI_sAI]
    by_cases w : r = n
    · rw [if_pos ⟨rfl, rfl, w⟩]
    · rw [if_neg (fun q => w q.2.2)]; exact h0 r (by omega)
theorem c_M_init (h13 : CN σ 13 = 23) (h14 : CN σ 14 = 0) (h17 : CN σ 17 = 0) (hz : ∀ f, f / 100 = 11 → FI σ f 0 = 0) (kk : ∀ τ, oldX 11 0 σ τ → moS τ SS0 → CN τ 13 = 77 → CN τ 14 = 3 → CN τ 17 = 1 → (∀ k, k ≠ 13 → k ≠ 14 → k ≠ 17 → CN τ k = CN σ k) → nC τ ≤ nC σ + 100 → nS τ ≤ nS σ + 1400000 → Q none τ) : wp (d + 1) m_M_init [vr 11 0] σ Q := by
  have h0 : miI σ σ 1100 23 0 := miI.st h13 h14
  refine x_in (ls := [some _, none]) rfl rfl ?_
  refine x_aload_n i_M_init_0 rfl ?_
  refine x_objInit i_M_init_1 rfl ?_
  refine x_aload_n i_M_init_4 rfl ?_
  refine x_sipush i_M_init_5 ?_
  refine x_newa i_M_init_8 (k := 240) rfl (by decide) ?_
  refine x_putO (c2 := 13) i_M_init_10 rfl rfl ?_
  generalize hτ : sFR (nA σ 13 240) 1100 0 (some (CN σ 13)) = τ1
  have h1 : miI σ τ1 1101 24 0 := h0.int 0 hτ (by decide) rfl rfl (by decide) (by decide)
  clear hτ h0
  refine x_aload_n i_M_init_13 rfl ?_
  refine x_sipush i_M_init_14 ?_
  refine x_newa i_M_init_17 (k := 240) rfl (by decide) ?_
  refine x_putO (c2 := 13) i_M_init_19 rfl rfl ?_
  generalize hτ : sFR (nA τ1 13 240) 1101 0 (some (CN τ1 13)) = τ2
  have h2 : miI σ τ2 1102 25 0 := h1.int 0 hτ (by decide) rfl rfl (by decide) (by decide)
  clear hτ h1
  refine x_aload_n i_M_init_22 rfl ?_
  refine x_sipush i_M_init_23 ?_
  refine x_newa i_M_init_26 (k := 240) rfl (by decide) ?_
  refine x_putO (c2 := 13) i_M_init_28 rfl rfl ?_
  generalize hτ : sFR (nA τ2 13 240) 1102 0 (some (CN τ2 13)) = τ3
  have h3 : miI σ τ3 1103 26 0 := h2.int 0 hτ (by decide) rfl rfl (by decide) (by decide)
  clear hτ h2
  refine x_aload_n i_M_init_31 rfl ?_
  refine x_bipush i_M_init_32 ?_
  refine x_newa i_M_init_34 (k := 8) rfl (by decide) ?_
  refine x_putO (c2 := 13) i_M_init_36 rfl rfl ?_
  generalize hτ : sFR (nA τ3 13 8) 1107 0 (some (CN τ3 13)) = τ4
  have h4 : miI σ τ4 1108 27 0 := h3.int 4 hτ (by decide) rfl rfl (by decide) (by decide)
  clear hτ h3
  refine x_aload_n i_M_init_39 rfl ?_
  refine x_sipush i_M_init_40 ?_
  refine x_newa i_M_init_43 (k := 260) rfl (by decide) ?_
  refine x_putO (c2 := 13) i_M_init_45 rfl rfl ?_
  generalize hτ : sFR (nA τ4 13 260) 1108 0 (some (CN τ4 13)) = τ5
  have h5 : miI σ τ5 1109 28 0 := h4.int 0 hτ (by decide) rfl rfl (by decide) (by decide)
  clear hτ h4
  refine x_aload_n i_M_init_48 rfl ?_
  refine x_sipush i_M_init_49 ?_
  refine x_newa i_M_init_52 (k := 260) rfl (by decide) ?_
  refine x_putO (c2 := 13) i_M_init_54 rfl rfl ?_
  generalize hτ : sFR (nA τ5 13 260) 1109 0 (some (CN τ5 13)) = τ6
  have h6 : miI σ τ6 1110 29 0 := h5.int 0 hτ (by decide) rfl rfl (by decide) (by decide)
  clear hτ h5
  refine x_aload_n i_M_init_57 rfl ?_
  refine x_sipush i_M_init_58 ?_
  refine x_newa i_M_init_61 (k := 260) rfl (by decide) ?_
  refine x_putO (c2 := 13) i_M_init_63 rfl rfl ?_
  generalize hτ : sFR (nA τ6 13 260) 1110 0 (some (CN τ6 13)) = τ7
  have h7 : miI σ τ7 1111 30 0 := h6.int 0 hτ (by decide) rfl rfl (by decide) (by decide)
  clear hτ h6
  refine x_aload_n i_M_init_66 rfl ?_
  refine x_sipush i_M_init_67 ?_
  refine x_newa i_M_init_70 (k := 260) rfl (by decide) ?_
  refine x_putO (c2 := 13) i_M_init_72 rfl rfl ?_
  generalize hτ : sFR (nA τ7 13 260) 1111 0 (some (CN τ7 13)) = τ8
  have h8 : miI σ τ8 1112 31 0 := h7.int 0 hτ (by decide) rfl rfl (by decide) (by decide)
  clear hτ h7
  refine x_aload_n i_M_init_75 rfl ?_
  refine x_sipush i_M_init_76 ?_
  refine x_newa i_M_init_79 (k := 260) rfl (by decide) ?_
  refine x_putO (c2 := 13) i_M_init_81 rfl rfl ?_
  generalize hτ : sFR (nA τ8 13 260) 1112 0 (some (CN τ8 13)) = τ9
  have h9 : miI σ τ9 1113 32 0 := h8.int 0 hτ (by decide) rfl rfl (by decide) (by decide)
  clear hτ h8
  refine x_aload_n i_M_init_84 rfl ?_
  refine x_sipush i_M_init_85 ?_
  refine x_newa i_M_init_88 (k := 260) rfl (by decide) ?_
  refine x_putO (c2 := 13) i_M_init_90 rfl rfl ?_
  generalize hτ : sFR (nA τ9 13 260) 1113 0 (some (CN τ9 13)) = τ10
  have h10 : miI σ τ10 1114 33 0 := h9.int 0 hτ (by decide) rfl rfl (by decide) (by decide)
  clear hτ h9
  refine x_aload_n i_M_init_93 rfl ?_
  refine x_sipush i_M_init_94 ?_
  refine x_newa i_M_init_97 (k := 260) rfl (by decide) ?_
  refine x_putO (c2 := 13) i_M_init_99 rfl rfl ?_
  generalize hτ : sFR (nA τ10 13 260) 1114 0 (some (CN τ10 13)) = τ11
  have h11 : miI σ τ11 1115 34 0 := h10.int 0 hτ (by decide) rfl rfl (by decide) (by decide)
  clear hτ h10
  refine x_aload_n i_M_init_102 rfl ?_
  refine x_sipush i_M_init_103 ?_
  refine x_newa i_M_init_106 (k := 260) rfl (by decide) ?_
  refine x_putO (c2 := 13) i_M_init_108 rfl rfl ?_
  generalize hτ : sFR (nA τ11 13 260) 1115 0 (some (CN τ11 13)) = τ12
  have h12 : miI σ τ12 1116 35 0 := h11.int 0 hτ (by decide) rfl rfl (by decide) (by decide)
  clear hτ h11
  refine x_aload_n i_M_init_111 rfl ?_
  refine x_sipush i_M_init_112 ?_
  refine x_newa i_M_init_115 (k := 260) rfl (by decide) ?_
  refine x_putO (c2 := 13) i_M_init_117 rfl rfl ?_
  generalize hτ : sFR (nA τ12 13 260) 1116 0 (some (CN τ12 13)) = τ13
  have h13 : miI σ τ13 1117 36 0 := h12.int 0 hτ (by decide) rfl rfl (by decide) (by decide)
  clear hτ h12
  refine x_aload_n i_M_init_120 rfl ?_
  refine x_sipush i_M_init_121 ?_
  refine x_newa i_M_init_124 (k := 260) rfl (by decide) ?_
  refine x_putO (c2 := 13) i_M_init_126 rfl rfl ?_
  generalize hτ : sFR (nA τ13 13 260) 1117 0 (some (CN τ13 13)) = τ14
  have h14 : miI σ τ14 1118 37 0 := h13.int 0 hτ (by decide) rfl rfl (by decide) (by decide)
  clear hτ h13
  refine x_aload_n i_M_init_129 rfl ?_
  refine x_bipush i_M_init_130 ?_
  refine x_newa i_M_init_132 (k := 32) rfl (by decide) ?_
  refine x_putO (c2 := 13) i_M_init_134 rfl rfl ?_
  generalize hτ : sFR (nA τ14 13 32) 1118 0 (some (CN τ14 13)) = τ15
  have h15 : miI σ τ15 1119 38 0 := h14.int 0 hτ (by decide) rfl rfl (by decide) (by decide)
  clear hτ h14
  refine x_aload_n i_M_init_137 rfl ?_
  refine x_bipush i_M_init_138 ?_
  refine x_newa i_M_init_140 (k := 32) rfl (by decide) ?_
  refine x_putO (c2 := 13) i_M_init_142 rfl rfl ?_
  generalize hτ : sFR (nA τ15 13 32) 1119 0 (some (CN τ15 13)) = τ16
  have h16 : miI σ τ16 1120 39 0 := h15.int 0 hτ (by decide) rfl rfl (by decide) (by decide)
  clear hτ h15
  refine x_aload_n i_M_init_145 rfl ?_
  refine x_bipush i_M_init_146 ?_
  refine x_newa i_M_init_148 (k := 32) rfl (by decide) ?_
  refine x_putO (c2 := 13) i_M_init_150 rfl rfl ?_
  generalize hτ : sFR (nA τ16 13 32) 1120 0 (some (CN τ16 13)) = τ17
  have h17 : miI σ τ17 1121 40 0 := h16.int 0 hτ (by decide) rfl rfl (by decide) (by decide)
  clear hτ h16
  refine x_aload_n i_M_init_153 rfl ?_
  refine x_bipush i_M_init_154 ?_
  refine x_newa i_M_init_156 (k := 32) rfl (by decide) ?_
  refine x_putO (c2 := 13) i_M_init_158 rfl rfl ?_
  generalize hτ : sFR (nA τ17 13 32) 1121 0 (some (CN τ17 13)) = τ18
  have h18 : miI σ τ18 1122 41 0 := h17.int 0 hτ (by decide) rfl rfl (by decide) (by decide)
  clear hτ h17
  refine x_aload_n i_M_init_161 rfl ?_
  refine x_bipush i_M_init_162 ?_
  refine x_newa i_M_init_164 (k := 32) rfl (by decide) ?_
  refine x_putO (c2 := 13) i_M_init_166 rfl rfl ?_
  generalize hτ : sFR (nA τ18 13 32) 1122 0 (some (CN τ18 13)) = τ19
  have h19 : miI σ τ19 1123 42 0 := h18.int 0 hτ (by decide) rfl rfl (by decide) (by decide)
  clear hτ h18
  refine x_aload_n i_M_init_169 rfl ?_
  refine x_bipush i_M_init_170 ?_
  refine x_newa i_M_init_172 (k := 8) rfl (by decide) ?_
  refine x_putO (c2 := 14) i_M_init_174 rfl rfl ?_
  generalize hτ : sFR (nA τ19 14 8) 1123 0 (some (CN τ19 14)) = τ20
  have h20 : miI σ τ20 1124 42 1 := h19.bol 0 hτ (by decide) rfl rfl (by decide)
  clear hτ h19
  refine x_aload_n i_M_init_177 rfl ?_
  refine x_bipush i_M_init_178 ?_
  refine x_newa i_M_init_180 (k := 8) rfl (by decide) ?_
  refine x_putO (c2 := 13) i_M_init_182 rfl rfl ?_
  generalize hτ : sFR (nA τ20 13 8) 1124 0 (some (CN τ20 13)) = τ21
  have h21 : miI σ τ21 1125 43 1 := h20.int 0 hτ (by decide) rfl rfl (by decide) (by decide)
  clear hτ h20
  refine x_aload_n i_M_init_185 rfl ?_
  refine x_sipush i_M_init_186 ?_
  refine x_newa i_M_init_189 (k := 240) rfl (by decide) ?_
  refine x_putO (c2 := 13) i_M_init_191 rfl rfl ?_
  generalize hτ : sFR (nA τ21 13 240) 1138 0 (some (CN τ21 13)) = τ22
  have h22 : miI σ τ22 1139 44 1 := h21.int 13 hτ (by decide) rfl rfl (by decide) (by decide)
  clear hτ h21
  refine x_aload_n i_M_init_194 rfl ?_
  refine x_sipush i_M_init_195 ?_
  refine x_newa i_M_init_198 (k := 240) rfl (by decide) ?_
  refine x_putO (c2 := 13) i_M_init_200 rfl rfl ?_
  generalize hτ : sFR (nA τ22 13 240) 1139 0 (some (CN τ22 13)) = τ23
  have h23 : miI σ τ23 1140 45 1 := h22.int 0 hτ (by decide) rfl rfl (by decide) (by decide)
  clear hτ h22
  refine x_aload_n i_M_init_203 rfl ?_
  refine x_aload_n i_M_init_204 rfl ?_
  refine x_getR (c2 := 13) i_M_init_205 rfl rfl (h23.1 1101 24 (by decide) rfl) ?_
  refine x_putO (c2 := 13) i_M_init_208 rfl rfl ?_
  have g23 : miI σ (sFR τ23 1140 0 (some 24)) 1141 45 1 := h23.inp
  generalize sFR τ23 1140 0 (some 24) = υ at g23
  clear h23
  have h23 := g23
  clear g23
  refine x_aload_n i_M_init_211 rfl ?_
  refine x_sipush i_M_init_212 ?_
  refine x_newa i_M_init_215 (k := 1928) rfl (by decide) ?_
  refine x_putO (c2 := 13) i_M_init_217 rfl rfl ?_
  generalize hτ : sFR (nA υ 13 1928) 1153 0 (some (CN υ 13)) = τ24
  have h24 : miI σ τ24 1154 46 1 := h23.int 12 hτ (by decide) rfl rfl (by decide) (by decide)
  clear hτ h23
  refine x_aload_n i_M_init_220 rfl ?_
  refine x_sipush i_M_init_221 ?_
  refine x_newa i_M_init_224 (k := 1928) rfl (by decide) ?_
  refine x_putO (c2 := 13) i_M_init_226 rfl rfl ?_
  generalize hτ : sFR (nA τ24 13 1928) 1154 0 (some (CN τ24 13)) = τ25
  have h25 : miI σ τ25 1155 47 1 := h24.int 0 hτ (by decide) rfl rfl (by decide) (by decide)
  clear hτ h24
  refine x_aload_n i_M_init_229 rfl ?_
  refine x_sipush i_M_init_230 ?_
  refine x_newa i_M_init_233 (k := 1928) rfl (by decide) ?_
  refine x_putO (c2 := 13) i_M_init_235 rfl rfl ?_
  generalize hτ : sFR (nA τ25 13 1928) 1155 0 (some (CN τ25 13)) = τ26
  have h26 : miI σ τ26 1156 48 1 := h25.int 0 hτ (by decide) rfl rfl (by decide) (by decide)
  clear hτ h25
  refine x_aload_n i_M_init_238 rfl ?_
  refine x_sipush i_M_init_239 ?_
  refine x_newa i_M_init_242 (k := 1928) rfl (by decide) ?_
  refine x_putO (c2 := 14) i_M_init_244 rfl rfl ?_
  generalize hτ : sFR (nA τ26 14 1928) 1156 0 (some (CN τ26 14)) = τ27
  have h27 : miI σ τ27 1157 48 2 := h26.bol 0 hτ (by decide) rfl rfl (by decide)
  clear hτ h26
  refine x_aload_n i_M_init_247 rfl ?_
  refine x_sipush i_M_init_248 ?_
  refine x_newa i_M_init_251 (k := 1928) rfl (by decide) ?_
  refine x_putO (c2 := 14) i_M_init_253 rfl rfl ?_
  generalize hτ : sFR (nA τ27 14 1928) 1157 0 (some (CN τ27 14)) = τ28
  have h28 : miI σ τ28 1158 48 3 := h27.bol 0 hτ (by decide) rfl rfl (by decide)
  clear hτ h27
  refine x_aload_n i_M_init_256 rfl ?_
  refine x_bipush i_M_init_257 ?_
  refine x_newa i_M_init_259 (k := 80) rfl (by decide) ?_
  refine x_putO (c2 := 13) i_M_init_261 rfl rfl ?_
  generalize hτ : sFR (nA τ28 13 80) 1158 0 (some (CN τ28 13)) = τ29
  have h29 : miI σ τ29 1159 49 3 := h28.int 0 hτ (by decide) rfl rfl (by decide) (by decide)
  clear hτ h28
  refine x_aload_n i_M_init_264 rfl ?_
  refine x_bipush i_M_init_265 ?_
  refine x_newa i_M_init_267 (k := 80) rfl (by decide) ?_
  refine x_putO (c2 := 13) i_M_init_269 rfl rfl ?_
  generalize hτ : sFR (nA τ29 13 80) 1159 0 (some (CN τ29 13)) = τ30
  have h30 : miI σ τ30 1160 50 3 := h29.int 0 hτ (by decide) rfl rfl (by decide) (by decide)
  clear hτ h29
  refine x_aload_n i_M_init_272 rfl ?_
  refine x_bipush i_M_init_273 ?_
  refine x_newa i_M_init_275 (k := 80) rfl (by decide) ?_
  refine x_putO (c2 := 13) i_M_init_277 rfl rfl ?_
  generalize hτ : sFR (nA τ30 13 80) 1160 0 (some (CN τ30 13)) = τ31
  have h31 : miI σ τ31 1161 51 3 := h30.int 0 hτ (by decide) rfl rfl (by decide) (by decide)
  clear hτ h30
  refine x_aload_n i_M_init_280 rfl ?_
  refine x_bipush i_M_init_281 ?_
  refine x_newa i_M_init_283 (k := 80) rfl (by decide) ?_
  refine x_putO (c2 := 13) i_M_init_285 rfl rfl ?_
  generalize hτ : sFR (nA τ31 13 80) 1161 0 (some (CN τ31 13)) = τ32
  have h32 : miI σ τ32 1162 52 3 := h31.int 0 hτ (by decide) rfl rfl (by decide) (by decide)
  clear hτ h31
  refine x_aload_n i_M_init_288 rfl ?_
  refine x_sipush i_M_init_289 ?_
  refine x_newa i_M_init_292 (k := 9000) rfl (by decide) ?_
  refine x_putO (c2 := 13) i_M_init_294 rfl rfl ?_
  generalize hτ : sFR (nA τ32 13 9000) 1162 0 (some (CN τ32 13)) = τ33
  have h33 : miI σ τ33 1163 53 3 := h32.int 0 hτ (by decide) rfl rfl (by decide) (by decide)
  clear hτ h32
  refine x_aload_n i_M_init_297 rfl ?_
  refine x_sipush i_M_init_298 ?_
  refine x_newa i_M_init_301 (k := 9000) rfl (by decide) ?_
  refine x_putO (c2 := 13) i_M_init_303 rfl rfl ?_
  generalize hτ : sFR (nA τ33 13 9000) 1163 0 (some (CN τ33 13)) = τ34
  have h34 : miI σ τ34 1164 54 3 := h33.int 0 hτ (by decide) rfl rfl (by decide) (by decide)
  clear hτ h33
  refine x_aload_n i_M_init_306 rfl ?_
  refine x_sipush i_M_init_307 ?_
  refine x_newa i_M_init_310 (k := 9000) rfl (by decide) ?_
  refine x_putO (c2 := 13) i_M_init_312 rfl rfl ?_
  generalize hτ : sFR (nA τ34 13 9000) 1164 0 (some (CN τ34 13)) = τ35
  have h35 : miI σ τ35 1165 55 3 := h34.int 0 hτ (by decide) rfl rfl (by decide) (by decide)
  clear hτ h34
  refine x_aload_n i_M_init_315 rfl ?_
  refine x_sipush i_M_init_316 ?_
  refine x_newa i_M_init_319 (k := 9000) rfl (by decide) ?_
  refine x_putO (c2 := 13) i_M_init_321 rfl rfl ?_
  generalize hτ : sFR (nA τ35 13 9000) 1165 0 (some (CN τ35 13)) = τ36
  have h36 : miI σ τ36 1166 56 3 := h35.int 0 hτ (by decide) rfl rfl (by decide) (by decide)
  clear hτ h35
  refine x_aload_n i_M_init_324 rfl ?_
  refine x_sipush i_M_init_325 ?_
  refine x_newa i_M_init_328 (k := 9000) rfl (by decide) ?_
  refine x_putO (c2 := 13) i_M_init_330 rfl rfl ?_
  generalize hτ : sFR (nA τ36 13 9000) 1166 0 (some (CN τ36 13)) = τ37
  have h37 : miI σ τ37 1167 57 3 := h36.int 0 hτ (by decide) rfl rfl (by decide) (by decide)
  clear hτ h36
  refine x_aload_n i_M_init_333 rfl ?_
  refine x_sipush i_M_init_334 ?_
  refine x_newa i_M_init_337 (k := 9000) rfl (by decide) ?_
  refine x_putO (c2 := 13) i_M_init_339 rfl rfl ?_
  generalize hτ : sFR (nA τ37 13 9000) 1167 0 (some (CN τ37 13)) = τ38
  have h38 : miI σ τ38 1168 58 3 := h37.int 0 hτ (by decide) rfl rfl (by decide) (by decide)
  clear hτ h37
  refine x_aload_n i_M_init_342 rfl ?_
  refine x_sipush i_M_init_343 ?_
  refine x_newa i_M_init_346 (k := 9000) rfl (by decide) ?_
  refine x_putO (c2 := 13) i_M_init_348 rfl rfl ?_
  generalize hτ : sFR (nA τ38 13 9000) 1168 0 (some (CN τ38 13)) = τ39
  have h39 : miI σ τ39 1169 59 3 := h38.int 0 hτ (by decide) rfl rfl (by decide) (by decide)
  clear hτ h38
  refine x_aload_n i_M_init_351 rfl ?_
  refine x_sipush i_M_init_352 ?_
  refine x_newa i_M_init_355 (k := 2001) rfl (by decide) ?_
  refine x_putO (c2 := 13) i_M_init_357 rfl rfl ?_
  generalize hτ : sFR (nA τ39 13 2001) 1176 0 (some (CN τ39 13)) = τ40
  have h40 : miI σ τ40 1177 60 3 := h39.int 7 hτ (by decide) rfl rfl (by decide) (by decide)
  clear hτ h39
  refine x_aload_n i_M_init_360 rfl ?_
  refine x_sipush i_M_init_361 ?_
  refine x_newa i_M_init_364 (k := 2001) rfl (by decide) ?_
  refine x_putO (c2 := 13) i_M_init_366 rfl rfl ?_
  generalize hτ : sFR (nA τ40 13 2001) 1177 0 (some (CN τ40 13)) = τ41
  have h41 : miI σ τ41 1178 61 3 := h40.int 0 hτ (by decide) rfl rfl (by decide) (by decide)
  clear hτ h40
  refine x_aload_n i_M_init_369 rfl ?_
  refine x_sipush i_M_init_370 ?_
  refine x_newa i_M_init_373 (k := 2001) rfl (by decide) ?_
  refine x_putO (c2 := 13) i_M_init_375 rfl rfl ?_
  generalize hτ : sFR (nA τ41 13 2001) 1178 0 (some (CN τ41 13)) = τ42
  have h42 : miI σ τ42 1179 62 3 := h41.int 0 hτ (by decide) rfl rfl (by decide) (by decide)
  clear hτ h41
  refine x_aload_n i_M_init_378 rfl ?_
  refine x_sipush i_M_init_379 ?_
  refine x_newa i_M_init_382 (k := 2001) rfl (by decide) ?_
  refine x_putO (c2 := 13) i_M_init_384 rfl rfl ?_
  generalize hτ : sFR (nA τ42 13 2001) 1179 0 (some (CN τ42 13)) = τ43
  have h43 : miI σ τ43 1180 63 3 := h42.int 0 hτ (by decide) rfl rfl (by decide) (by decide)
  clear hτ h42
  refine x_aload_n i_M_init_387 rfl ?_
  refine x_sipush i_M_init_388 ?_
  refine x_newa i_M_init_391 (k := 30000) rfl (by decide) ?_
  refine x_putO (c2 := 13) i_M_init_393 rfl rfl ?_
  generalize hτ : sFR (nA τ43 13 30000) 1180 0 (some (CN τ43 13)) = τ44
  have h44 : miI σ τ44 1181 64 3 := h43.int 0 hτ (by decide) rfl rfl (by decide) (by decide)
  clear hτ h43
  have e17 : CN τ44 17 = 0 := by obtain ⟨-, -, -, ⟨-, -, q⟩, -⟩ := h44; rw [q 17 (by decide) (by decide)]; exact h17
  refine x_aload_n i_M_init_396 rfl ?_
  refine x_bipush i_M_init_397 ?_
  refine x_sipush i_M_init_399 ?_
  refine x_newm i_M_init_402 (k1 := 13) (k2 := 260) rfl rfl (by decide) (by decide) ?_
  refine x_putO (c2 := 17) i_M_init_406 rfl rfl ?_
  generalize hτ : sFR (nM τ44 13 260) 1183 0 (some (CN τ44 17)) = τ
  obtain ⟨b1, b2, ⟨b3, b4, b5, b6⟩, b7, b8, b9, b10, b11, b12⟩ := besM_new h44 e17 hτ
  clear hτ h44
  refine x_iconst i_M_init_409 ?_
  refine x_istore_n (ls' := [_, _]) i_M_init_410 rfl rfl ?_
  refine M_initLoop b2 (fun τ' x' h' => ?_) 8 0 τ rfl (fX.rf _ _ _) (fun r hr => absurd hr (Nat.not_lt_zero _))
  obtain ⟨q1, q2, q3, q4, q5, q6, q7, q8⟩ := id x'
  have ox : oldX 11 0 σ τ' := ⟨fun f x w v => ⟨by rw [q1 f x (fun q => q)]; exact (b10.1 f x w v).1, by rw [q2]; exact (b10.1 f x w v).2⟩, fun k x j w => ⟨by rw [q3 k x j (fun q => by obtain ⟨rfl, rfl⟩ := q; omega)]; exact (b10.2.1 k x j w).1, by rw [q4]; exact (b10.2.1 k x j w).2⟩, fun k x w => by rw [q5]; exact b10.2.2.1 k x w, fun k => by rw [q6]; exact b10.2.2.2 k⟩
  refine kk τ' ox (moS_new (b1.keep (by rw [q2]) q4 q5) (b2.keep x') (fun f hf => ?_) h' (fun r hr => ?_) (fun r hr => ?_)) (by rw [q6]; exact b3) (by rw [q6]; exact b4) (by rw [q6]; exact b5) (fun k k1 k2 k3 => by rw [q6]; exact b6 k k1 k2 k3) (by rw [q7]; exact b11) (by rw [q8]; exact b12)
  · rw [q1 f 0 (fun q => q), b7]
    exact hz f hf
  · rw [q3 _ _ _ (fun q => absurd q.2 (by decide))]
    exact b8 42 r (by decide) (by decide)
  · rw [q3 _ _ _ (fun q => absurd q.1 (by decide))]
    exact b9 0 r (by decide)
end


section
variable {p : Program} {l : Launch} {e : Env} {R : Room} {s : State} {m : MethodId} {args : Array Value} {below : List Frame} {meth : Method} {c : Code} {H : Heap} {locs : List Loc} {Q : State → Prop}
variable {D : va_G} {ty : Nat → ClassId} {B : Nat} {sa sv : Nat → Nat} {b L : Nat} {xs : Nat → Int32} {σ : AS} {ad : Nat → Nat → Nat} {al : List (Nat × Nat)} {mls : Array Slot} {mm n0 s0 : Nat} {cells slots : Nat} {t : List Value}
theorem AI_nRows (k : Nat) : ∀ (n : Nat) (σ : AS) (c a j : Nat), AI (nRows σ n k) c a j = if c = 13 ∧ CN σ 13 ≤ a ∧ a < CN σ 13 + n then 0 else AI σ c a j
  | 0, σ, c, a, j => by rw [if_neg (by omega)]; rfl
  | n + 1, σ, c, a, j => by
    show AI (nA (nRows σ n k) 13 k) c a j = _
    rw [AI_nA, AI_nRows k n σ c a j, CN_nRows, if_pos rfl]
    by_cases h : c = 13 ∧ CN σ 13 ≤ a ∧ a < CN σ 13 + n
    · rw [if_pos h, if_neg (by omega), if_pos (by omega)]
    · by_cases h2 : c = 13 ∧ a = CN σ 13 + n
      · rw [if_pos h2, if_pos (by omega)]
      · rw [if_neg h2, if_neg h, if_neg (by omega)]
theorem LN_nRows (k : Nat) : ∀ (n : Nat) (σ : AS) (c a : Nat), LN (nRows σ n k) c a = if c = 13 ∧ CN σ 13 ≤ a ∧ a < CN σ 13 + n then k else LN σ c a
  | 0, σ, c, a => by rw [if_neg (by omega)]; rfl
  | n + 1, σ, c, a => by
    show LN (nA (nRows σ n k) 13 k) c a = _
    rw [LN_nA, LN_nRows k n σ c a, CN_nRows, if_pos rfl]
    by_cases h : c = 13 ∧ CN σ 13 ≤ a ∧ a < CN σ 13 + n
    · rw [if_pos h, if_neg (by omega), if_pos (by omega)]
    · by_cases h2 : c = 13 ∧ a = CN σ 13 + n
      · rw [if_pos h2, if_pos (by omega)]
      · rw [if_neg h2, if_neg h, if_neg (by omega)]
theorem AR_nRows (k : Nat) : ∀ (n : Nat) (σ : AS) (c a j : Nat), AR (nRows σ n k) c a j = if c = 13 ∧ CN σ 13 ≤ a ∧ a < CN σ 13 + n then none else AR σ c a j
  | 0, σ, c, a, j => by rw [if_neg (by omega)]; rfl
  | n + 1, σ, c, a, j => by
    show AR (nA (nRows σ n k) 13 k) c a j = _
    rw [AR_nA, AR_nRows k n σ c a j, CN_nRows, if_pos rfl]
    by_cases h : c = 13 ∧ CN σ 13 ≤ a ∧ a < CN σ 13 + n
    · rw [if_pos h, if_neg (by omega), if_pos (by omega)]
    · by_cases h2 : c = 13 ∧ a = CN σ 13 + n
      · rw [if_pos h2, if_pos (by omega)]
      · rw [if_neg h2, if_neg h, if_neg (by omega)]
theorem FI_nRows (k : Nat) : ∀ (n : Nat) (σ : AS), FI (nRows σ n k) = FI σ ∧ FR (nRows σ n k) = FR σ ∧ nC (nRows σ n k) = nC σ + n ∧ nS (nRows σ n k) = nS σ + n * k
  | 0, σ => ⟨rfl, rfl, rfl, by rw [Nat.zero_mul]; rfl⟩
  | n + 1, σ => by
    obtain ⟨h1, h2, h3, h4⟩ := FI_nRows k n σ
    refine ⟨h1, h2, ?_, ?_⟩
    · show nC (nA (nRows σ n k) 13 k) = _
      rw [nC_nA, h3]; omega
    · show nS (nA (nRows σ n k) 13 k) = _
      rw [nS_nA, h4, Nat.succ_mul]; omega
theorem nC_nM (n k : Nat) : nC (nM σ n k) = nC σ + 1 + n ∧ nS (nM σ n k) = nS σ + n + n * k := by
  obtain ⟨-, -, h3, h4⟩ := FI_nRows k n (nA σ 17 n)
  exact ⟨by show nC (nRows (nA σ 17 n) n k) = _; rw [h3, nC_nA], by show nS (nRows (nA σ 17 n) n k) = _; rw [h4, nS_nA]⟩
theorem CN_nM (n k c : Nat) : CN (nM σ n k) c = if c = 13 then CN σ 13 + n else if c = 17 then CN σ 17 + 1 else CN σ c := by
  show CN (nRows (nA σ 17 n) n k) c = _
  rw [CN_nRows, CN_nA, CN_nA, if_neg (show ¬ (13 : Nat) = 17 by decide)]
theorem LN_nM (n k c a : Nat) : LN (nM σ n k) c a = if c = 13 ∧ CN σ 13 ≤ a ∧ a < CN σ 13 + n then k else if c = 17 ∧ a = CN σ 17 then n else LN σ c a := by
  show LN (nRows (nA σ 17 n) n k) c a = _
  rw [LN_nRows, LN_nA, CN_nA, if_neg (by omega : ¬ (13 = 17))]
theorem AI_nM (n k c a j : Nat) : AI (nM σ n k) c a j = if c = 13 ∧ CN σ 13 ≤ a ∧ a < CN σ 13 + n then 0 else if c = 17 ∧ a = CN σ 17 then 0 else AI σ c a j := by
  show AI (nRows (nA σ 17 n) n k) c a j = _
  rw [AI_nRows, AI_nA, CN_nA, if_neg (by omega : ¬ (13 = 17))]
theorem AR_nM (n k c a j : Nat) : AR (nM σ n k) c a j = if c = 17 ∧ a = CN σ 17 ∧ j < n then some (CN σ 13 + j) else if c = 13 ∧ CN σ 13 ≤ a ∧ a < CN σ 13 + n then none else if c = 17 ∧ a = CN σ 17 then none else AR σ c a j := by
  show (if c = 17 ∧ a = CN σ 17 ∧ j < n then some (CN σ 13 + j) else AR (nRows (nA σ 17 n) n k) c a j) = _
  rw [AR_nRows, AR_nA, CN_nA, if_neg (by omega : ¬ (13 = 17))]
def adM (σ : AS) (ad : Nat → Nat → Nat) (n q : Nat) (r : Nat → Nat) : Nat → Nat → Nat := fun c i => if c = 17 ∧ i = CN σ 17 then q else if c = 13 ∧ CN σ 13 ≤ i ∧ i < CN σ 13 + n then r (i - CN σ 13) else ad c i
theorem adM_x (n q : Nat) (r : Nat → Nat) : adX σ ad (adM σ ad n q r) := by
  intro c i h
  unfold adM
  rw [if_neg (by rintro ⟨rfl, rfl⟩; omega), if_neg (by rintro ⟨rfl, h2, -⟩; omega)]
set_option maxHeartbeats 4000000 in
theorem sp_multi {pc : Nat} {n k : Int} (hc : Ctx mm p s m args meth c D ty B sa sv b L xs) (hmm : mC mm = 11) (hdec : decode (mB mm) pc = .ok (.multianewarray 146 2, 4)) (ok : okS L xs σ) (hR : Rep D ty B σ ad al H) (hS : va_S (fun q => B ≤ q) s.heap H locs) (hn0 : 0 ≤ n) (hn1 : n ≤ 100000) (hk0 : 0 ≤ k) (hk1 : k ≤ 100000) (h1 : nC (nM σ n.toNat k.toNat) - nC σ + cells ≤ R.cells) (h2 : nS (nM σ n.toNat k.toNat) - nS σ + slots ≤ R.slots)
    (kk : ∀ al' ad' q H1, adX σ ad ad' → ad' 17 (CN σ 17) = q → Rep D ty B (nM σ n.toNat k.toNat) ad' al' H1 → va_S (fun q => B ≤ q) s.heap H1 locs → W p l e R s m args below meth c H1 locs (cells + 1 + n.toNat) (slots + n.toNat + n.toNat * k.toNat) Q (F0 m (pc + 4) mls (.ref q :: t))) : W p l e R s m args below meth c H locs cells slots Q (F0 m pc mls (.int (Int32.ofInt k) :: .int (Int32.ofInt n) :: t)) := by
  obtain ⟨hx, hb, hml, hown, hts, hE, hB, hin⟩ := hc
  have hIn : InR n := by unfold InR; omega
  have hIk : InR k := by unfold InR; omega
  have hneg : ¬ Int32.ofInt n < 0 := by rw [oI_0, oI_lt hIn inr_0]; omega
  have hkneg : ¬ Int32.ofInt k < 0 := by rw [oI_0, oI_lt hIk inr_0]; omega
  have hw1 : Cond.arrayClass .int ∈ WW := WW_in (k := 135) (by decide +kernel) rfl
  have hw2 : Cond.classLink (cN 11) 146 ("[" ++ (FieldType.array .int).toString) ∈ WW := WW_in (k := 981) (by decide +kernel) rfl
  obtain ⟨z1, z2⟩ := nC_nM (σ := σ) n.toNat k.toNat
  rw [z1] at h1
  rw [z2] at h2
  have hfc : s.vm.findClass (FieldType.array .int).toString = some (ty 13) := tys_find (k := 0) hE.1 rfl (Or.inl rfl)
  rw [hmm] at hown
  have hP0 : va_P D vwCl (wsO ty σ ad al ++ va_pl [] (fun _ => .inr (0, []))) H := by simp only [va_pl, List.map_nil, List.append_nil]; exact hR.1
  have hD0 : va_D (fun q => B ≤ q) (wsO ty σ ad al ++ va_pl [] (fun _ => .inr (0, []))) := by simp only [va_pl, List.map_nil, List.append_nil]; exact hR.2.1
  refine va_mna (ty := .int) (cy := ty 13) (z := (k.toNat, .inl (fun _ => 0))) hx hb hown (hts _ hw2) hE.2.2.2.2.2.2.2.1.1 (hts _ hw1) hfc hE.1 hP0 hD0 hS (fun q h => Nat.le_trans hB h) hneg hkneg (oI_clamp hIn) (oI_clamp hIk) (by omega) (by show k.toNat * 4 ≤ _; omega) (by omega) rfl rfl (by omega) (by omega) (fun c => by rw [vp_cell_i]; unfold Jvm.Free.Multi.innerC; rw [arrV_new]; rfl) hdec (fun q r cA H1 hinj hni hK1 hP1 hD1 hS1 => ?_)
  have e1 := tys_find (k := 5) hK1 rfl (Or.inr (Or.inr rfl))
  have e2 := tys_find (k := 4) hE.1 rfl (Or.inr (Or.inr rfl))
  have e3 : cA = ty 17 := Option.some.inj (e1.symm.trans e2)
  subst e3
  have hax : adX σ ad (adM σ ad n.toNat q r) := adM_x n.toNat q r
  have hq : adM σ ad n.toNat q r 17 (CN σ 17) = q := if_pos ⟨rfl, rfl⟩
  have hr : ∀ i, i < n.toNat → adM σ ad n.toNat q r 13 (CN σ 13 + i) = r i := by
    intro i hi
    unfold adM
    rw [if_neg (by omega), if_pos (by omega), show CN σ 13 + i - CN σ 13 = i by omega]
  have hw : (wsO ty σ ad al ++ [(q, (.inl (ty 17, n.toNat, .inr (.inr (.inr (.inr (fun i => if i < n.toNat then some (r i) else none))))) : va_E))]) ++ va_pl ([] ++ (List.range n.toNat).map r) (vr_up (fun _ => .inr (0, [])) ((List.range n.toNat).map r) (.inl (ty 13, (k.toNat, .inl (fun _ => 0))))) = wsO ty (nM σ n.toNat k.toNat) (adM σ ad n.toNat q r) ((al ++ [(17, CN σ 17)]) ++ (List.range n.toNat).map (fun i => (13, CN σ 13 + i))) := by
    unfold wsO va_pl
    rw [List.nil_append, List.map_append, List.map_append, List.map_map, List.map_map]
    congr 1
    · congr 1
      · apply List.map_congr_left
        intro z hz
        have hm := (hR.2.2 z.1 z.2).mp hz
        rw [hax z.1 z.2 hm.2]
        congr 1
        have g1 : ¬ (z.1 = 13 ∧ CN σ 13 ≤ z.2 ∧ z.2 < CN σ 13 + n.toNat) := by rintro ⟨h, h3, -⟩; rw [h] at hm; omega
        have g2 : ¬ (z.1 = 17 ∧ z.2 = CN σ 17) := by rintro ⟨h, h3⟩; rw [h] at hm; omega
        have g3 : ∀ j, ¬ (z.1 = 17 ∧ z.2 = CN σ 17 ∧ j < n.toNat) := fun j h => g2 ⟨h.1, h.2.1⟩
        obtain ⟨y1, y2, -, -⟩ := FI_nRows k.toNat n.toNat (nA σ 17 n.toNat)
        exact (cE_congr ok hax (fun _ _ => by show FI (nRows _ _ _) _ _ = _; rw [y1]; rfl) (fun _ _ => by show FR (nRows _ _ _) _ _ = _; rw [y2]; rfl) (fun j => by rw [AI_nM, if_neg g1, if_neg g2]) (fun j => by rw [AR_nM, if_neg (g3 j), if_neg g1, if_neg g2]) (by rw [LN_nM, if_neg g1, if_neg g2])).symm
      · simp only [List.map_cons, List.map_nil, hq]
        congr 2
        rw [cE_ref (by omega), LN_nM, if_neg (by omega), if_pos ⟨rfl, rfl⟩]
        congr 7
        funext j
        rw [AR_nM]
        by_cases hj : j < n.toNat
        · rw [if_pos hj, if_pos ⟨rfl, rfl, hj⟩]
          show some (r j) = some (adM σ ad n.toNat q r 13 (CN σ 13 + j))
          rw [hr j hj]
        · rw [if_neg hj, if_neg (by omega), if_neg (by omega), if_pos ⟨rfl, rfl⟩]
          rfl
    · apply List.map_congr_left
      intro i hi
      have hi' := List.mem_range.mp hi
      show (r i, vr_up _ _ _ (r i)) = (adM σ ad n.toNat q r 13 (CN σ 13 + i), cE ty _ _ 13 (CN σ 13 + i))
      rw [vr_up_in (List.mem_map.mpr ⟨i, hi, rfl⟩), hr i hi']
      congr 1
      rw [cE_num (by omega) (by omega), LN_nM, if_pos (by omega)]
      have e : ∀ j, AI (nM σ n.toNat k.toNat) 13 (CN σ 13 + i) j = 0 := fun j => by rw [AI_nM, if_pos (by omega)]
      simp only [e]
      rfl
  rw [hw] at hP1 hD1
  refine kk _ _ q H1 hax hq ⟨hP1, hD1, fun c' i' => ?_⟩ hS1
  rw [List.mem_append, List.mem_append, hR.2.2 c' i', List.mem_singleton, Prod.mk.injEq, CN_nM]
  have hmm2 : ((c', i') ∈ (List.range n.toNat).map (fun i => ((13, CN σ 13 + i) : Nat × Nat))) ↔ (c' = 13 ∧ CN σ 13 ≤ i' ∧ i' < CN σ 13 + n.toNat) := by
    rw [List.mem_map]
    constructor
    · rintro ⟨i, hi, h⟩
      have hi := List.mem_range.mp hi
      simp only [Prod.mk.injEq] at h
      omega
    · rintro ⟨h1, h2, h3⟩
      exact ⟨i' - CN σ 13, List.mem_range.mpr (by omega), by simp only [Prod.mk.injEq]; omega⟩
  rw [hmm2]
  by_cases g1 : c' = 13
  · subst g1; rw [if_pos rfl]; omega
  · rw [if_neg g1]
    by_cases g2 : c' = 17
    · subst g2; rw [if_pos rfl]; omega
    · rw [if_neg g2]; omega
end

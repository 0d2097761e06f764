section
variable {p : Program} {l : Launch} {e : Env} {R : Room} {s : State} {m : MethodId} {args : Array Value} {below : List Frame} {meth : Method} {c : Code} {H : Heap} {locs : List Loc} {Q : State → Prop}
variable {D : va_G} {ty : Nat → ClassId} {B : Nat} {sa sv : Nat → Nat} {b L : Nat} {xs : Nat → Int32} {σ : AS} {ad : Nat → Nat → Nat} {al : List (Nat × Nat)} {mls : Array Slot} {mm n0 s0 : Nat} {cells slots : Nat} {t : List Value}
def dfl (c : Nat) : List Value := (List.range (cF c)).map (fun k => if fT (100 * c + k) < 2 then .int 0 else .null)
theorem dfl_ok : ∀ c, c < 12 → ∀ k, k < cF c → defaultValue ((cTy c) k) = vp_V (dfl c) k := by decide +kernel
theorem fLst_nO {ad' : Nat → Nat → Nat} (c : Nat) : fLst (nO σ c) ad' c (CN σ c) = dfl c := by
  unfold fLst dfl
  apply List.map_congr_left
  intro k hk
  have hk := List.mem_range.mp hk
  have := cF_le c
  unfold fV
  have h9 : (100 * c + k) / 100 = c ∧ CN σ c = CN σ c := ⟨by omega, rfl⟩
  rw [FI_nO, FR_nO, if_pos h9, if_pos h9]
  rfl
theorem cE_nO (ok : okS L xs σ) {c q c' i' : Nat} (h : i' < CN σ c') : cE ty (nO σ c) (adU ad c (CN σ c) q) c' i' = cE ty σ ad c' i' := by
  have hne : ∀ k, k < 100 → ¬ ((100 * c' + k) / 100 = c ∧ i' = CN σ c) := by
    intro k hk ⟨h1, h2⟩
    have : c' = c := by omega
    subst this
    omega
  exact cE_congr ok (adU_x c q) (fun k hk => by rw [FI_nO, if_neg (hne k hk)]) (fun k hk => by rw [FR_nO, if_neg (hne k hk)]) (fun _ => rfl) (fun _ => rfl) rfl
theorem cE_nA (ok : okS L xs σ) {c n q c' i' : Nat} (h : i' < CN σ c') : cE ty (nA σ c n) (adU ad c (CN σ c) q) c' i' = cE ty σ ad c' i' := by
  have hne : ¬ (c' = c ∧ i' = CN σ c) := by
    rintro ⟨rfl, h2⟩
    omega
  exact cE_congr ok (adU_x c q) (fun _ _ => rfl) (fun _ _ => rfl) (fun k => by rw [AI_nA, if_neg hne]) (fun k => by rw [AR_nA, if_neg hne]) (by rw [LN_nA, if_neg hne])
theorem adU_at (c q : Nat) : adU ad c (CN σ c) q c (CN σ c) = q := if_pos ⟨rfl, rfl⟩
set_option maxHeartbeats 4000000 in
theorem sp_new {pc j x : Nat} (hc : Ctx mm p s m args meth c D ty B sa sv b L xs) (hdec : decode (mB mm) pc = .ok (.new j, 3)) (hlk : lkB cL (mC mm) j x = true) (ok : okS L xs σ) (hR : Rep D ty B σ ad al H) (hS : va_S (fun q => B ≤ q) s.heap H locs) (h1 : cells + 1 ≤ R.cells) (h2 : slots + cF x ≤ R.slots)
    (kk : ∀ q H1, Rep D ty B (nO σ x) (adU ad x (CN σ x) q) (al ++ [(x, CN σ x)]) H1 → va_S (fun q => B ≤ q) s.heap H1 locs → W p l e R s m args below meth c H1 locs (cells + 1) (slots + cF x) Q (F0 m (pc + 3) mls (.ref q :: t))) : W p l e R s m args below meth c H locs cells slots Q (F0 m pc mls t) := by
  obtain ⟨hx, hb, hml, hown, hts, hE, hB, hin⟩ := hc
  obtain ⟨q, hq, e1, e2, e3⟩ := lkB_mem hlk
  obtain ⟨f1, f2⟩ := ck_c q hq
  rw [e1, e2, e3] at f2
  rw [e3] at f1
  refine va_new (C := cN x) (T := cT x) (N := cF x) (ci := x) hx hb hts (lay_in _ f1) (cTy x) (ck_ty x f1) hown (hts _ (WW_in f2 rfl)) (hts _ (WW_in (ck_mk x f1) rfl)) (hts _ (WW_in (ck_ini x (by omega)) rfl)) hE.1 hR.1 hR.2.1 hS (fun q h => Nat.le_trans hB h) (ck_cl x f1) (dfl_ok x f1) h1 h2 hdec (fun q H1 hP1 hD1 hS1 => ?_)
  exact kk q H1 (hR.new ok (by omega) (fun c' => CN_nO σ x c') (fun c' i' h => cE_nO ok h) _ (by rw [cE_obj f1, fLst_nO]) hP1 hD1) hS1
theorem tys_find {k : Nat} {q : ClassId × FieldType} {U : State} {tys : List (ClassId × FieldType)} (hK : va_K D vwCl tys U) (h : tys[k]? = some q) (hq : q.2 = .int ∨ q.2 = .boolean ∨ q.2 = .array .int) : U.vm.findClass ("[" ++ q.2.toString) = some q.1 := by
  have := (hK.2 k q h).2
  rcases hq with h | h | h <;> (rw [h] at this ⊢; exact this)
set_option maxHeartbeats 4000000 in
theorem sp_newa {pc x : Nat} {at1 : Jvm.ClassFile.ArrayType} {n : Int} (hc : Ctx mm p s m args meth c D ty B sa sv b L xs) (hdec : decode (mB mm) pc = .ok (.newarray at1, 2)) (hx1 : (at1 = .int ∧ x = 13) ∨ (at1 = .boolean ∧ x = 14)) (ok : okS L xs σ) (hR : Rep D ty B σ ad al H) (hS : va_S (fun q => B ≤ q) s.heap H locs) (hn0 : 0 ≤ n) (hn1 : n ≤ 100000) (h1 : cells + 1 ≤ R.cells) (h2 : slots + n.toNat ≤ R.slots)
    (kk : ∀ q H1, Rep D ty B (nA σ x n.toNat) (adU ad x (CN σ x) q) (al ++ [(x, CN σ x)]) H1 → va_S (fun q => B ≤ q) s.heap H1 locs → W p l e R s m args below meth c H1 locs (cells + 1) (slots + n.toNat) Q (F0 m (pc + 2) mls (.ref q :: t))) : W p l e R s m args below meth c H locs cells slots Q (F0 m pc mls (.int (Int32.ofInt n) :: t)) := by
  obtain ⟨hx, hb, hml, hown, hts, hE, hB, hin⟩ := hc
  have hIn : InR n := by unfold InR; omega
  have hneg : ¬ Int32.ofInt n < 0 := by
    rw [oI_0, oI_lt hIn inr_0]; omega
  have hcl : (Int32.ofInt n).toNatClampNeg = n.toNat := oI_clamp hIn
  have hw1 : Cond.arrayClass .int ∈ WW := WW_in (k := 135) (by decide +kernel) rfl
  have hw2 : Cond.arrayClass .boolean ∈ WW := WW_in (k := 1235) (by decide +kernel) rfl
  rcases hx1 with ⟨rfl, rfl⟩ | ⟨rfl, rfl⟩
  · refine va_newa (atype := .int) (ty := .int) (a0 := (n.toNat, .inl (fun _ => 0))) hx hb (hts _ hw1) rfl hE.1 hR.1 hR.2.1 hS (fun q h => Nat.le_trans hB h) (fun cA => by rw [vp_cell_i]; rfl) hneg hcl (by show n.toNat * 4 ≤ _; omega) h1 h2 hdec (fun q cA H1 hK1 hP1 hD1 hS1 => ?_)
    have e1 := tys_find (k := 5) hK1 rfl (Or.inl rfl)
    have e2 := tys_find (k := 0) hE.1 rfl (Or.inl rfl)
    have e3 : cA = ty 13 := Option.some.inj (e1.symm.trans e2)
    subst e3
    refine kk q H1 (hR.new ok (by omega) (fun c' => CN_nA σ 13 n.toNat c') (fun c' i' h => cE_nA ok h) _ ?_ hP1 hD1) hS1
    rw [cE_num (by omega) (by omega), LN_nA, if_pos ⟨rfl, rfl⟩]
    have e : ∀ j, AI (nA σ 13 n.toNat) 13 (CN σ 13) j = 0 := fun j => by rw [AI_nA, if_pos ⟨rfl, rfl⟩]
    simp only [e]
    rfl
  · refine va_newa (atype := .boolean) (ty := .boolean) (a0 := (n.toNat, .inl (fun _ => 0))) hx hb (hts _ hw2) rfl hE.1 hR.1 hR.2.1 hS (fun q h => Nat.le_trans hB h) (fun cA => by rw [vp_cell_i]; rfl) hneg hcl (by show n.toNat * 1 ≤ _; omega) h1 h2 hdec (fun q cA H1 hK1 hP1 hD1 hS1 => ?_)
    have e1 := tys_find (k := 5) hK1 rfl (Or.inr (Or.inl rfl))
    have e2 := tys_find (k := 1) hE.1 rfl (Or.inr (Or.inl rfl))
    have e3 : cA = ty 14 := Option.some.inj (e1.symm.trans e2)
    subst e3
    refine kk q H1 (hR.new ok (by omega) (fun c' => CN_nA σ 14 n.toNat c') (fun c' i' h => cE_nA ok h) _ ?_ hP1 hD1) hS1
    rw [cE_num (by omega) (by omega), LN_nA, if_pos ⟨rfl, rfl⟩]
    have e : ∀ j, AI (nA σ 14 n.toNat) 14 (CN σ 14) j = 0 := fun j => by rw [AI_nA, if_pos ⟨rfl, rfl⟩]
    simp only [e]
    rfl
theorem tys_obj {k k2 : Nat} {cA cB : ClassId} {C : String} {U : State} {tys tys2 : List (ClassId × FieldType)} (hK : va_K D vwCl tys U) (hK2 : va_K D vwCl tys2 U) (h : tys[k]? = some (cA, .object C)) (h2 : tys2[k2]? = some (cB, .object C)) : cA = cB := by
  obtain ⟨-, -, -, -, -, h4⟩ := (hK.2 k _ h).2
  obtain ⟨-, -, -, -, -, g4⟩ := (hK2.2 k2 _ h2).2
  exact Option.some.inj (h4.symm.trans g4)
set_option maxHeartbeats 4000000 in
theorem sp_newq {pc j x : Nat} {n : Int} (hc : Ctx mm p s m args meth c D ty B sa sv b L xs) (hdec : decode (mB mm) pc = .ok (.anewarray j, 3)) (hx1 : (x = 15 ∧ lkB cL (mC mm) j 0 = true) ∨ (x = 16 ∧ lkB cL (mC mm) j 8 = true)) (ok : okS L xs σ) (hR : Rep D ty B σ ad al H) (hS : va_S (fun q => B ≤ q) s.heap H locs) (hn0 : 0 ≤ n) (hn1 : n ≤ 100000) (h1 : cells + 1 ≤ R.cells) (h2 : slots + n.toNat ≤ R.slots)
    (kk : ∀ q H1, Rep D ty B (nA σ x n.toNat) (adU ad x (CN σ x) q) (al ++ [(x, CN σ x)]) H1 → va_S (fun q => B ≤ q) s.heap H1 locs → W p l e R s m args below meth c H1 locs (cells + 1) (slots + n.toNat) Q (F0 m (pc + 3) mls (.ref q :: t))) : W p l e R s m args below meth c H locs cells slots Q (F0 m pc mls (.int (Int32.ofInt n) :: t)) := by
  obtain ⟨hx, hb, hml, hown, hts, hE, hB, hin⟩ := hc
  have hIn : InR n := by unfold InR; omega
  have hneg : ¬ Int32.ofInt n < 0 := by
    rw [oI_0, oI_lt hIn inr_0]; omega
  have hcl : (Int32.ofInt n).toNatClampNeg = n.toNat := oI_clamp hIn
  rcases hx1 with ⟨rfl, hlk⟩ | ⟨rfl, hlk⟩
  · obtain ⟨q, hq, e1, e2, e3⟩ := lkB_mem hlk
    obtain ⟨f1, f2⟩ := ck_c q hq
    rw [e1, e2, e3] at f2
    refine va_newq (C := RX0) hx hb hown (hts _ (WW_in f2 rfl)) hE.2.2.2.2.2.2.1 hE.1 hR.1 hR.2.1 hS (fun q h => Nat.le_trans hB h) hneg hcl (by omega) h1 h2 hdec (fun q cA H1 hK1 hP1 hD1 hS1 => ?_)
    obtain rfl : cA = ty 15 := tys_obj (k := 5) (k2 := 2) hK1 hE.1 rfl rfl
    refine kk q H1 (hR.new ok (by omega) (fun c' => CN_nA σ 15 n.toNat c') (fun c' i' h => cE_nA ok h) _ ?_ hP1 hD1) hS1
    rw [cE_ref (by omega), LN_nA, if_pos ⟨rfl, rfl⟩]
    have e : ∀ j, AR (nA σ 15 n.toNat) 15 (CN σ 15) j = none := fun j => by rw [AR_nA, if_pos ⟨rfl, rfl⟩]
    simp only [e]
    rfl
  · obtain ⟨q, hq, e1, e2, e3⟩ := lkB_mem hlk
    obtain ⟨f1, f2⟩ := ck_c q hq
    rw [e1, e2, e3] at f2
    refine va_newq (C := RX8) hx hb hown (hts _ (WW_in f2 rfl)) hE.2.2.2.2.2.1 hE.1 hR.1 hR.2.1 hS (fun q h => Nat.le_trans hB h) hneg hcl (by omega) h1 h2 hdec (fun q cA H1 hK1 hP1 hD1 hS1 => ?_)
    obtain rfl : cA = ty 16 := tys_obj (k := 5) (k2 := 3) hK1 hE.1 rfl rfl
    refine kk q H1 (hR.new ok (by omega) (fun c' => CN_nA σ 16 n.toNat c') (fun c' i' h => cE_nA ok h) _ ?_ hP1 hD1) hS1
    rw [cE_ref (by omega), LN_nA, if_pos ⟨rfl, rfl⟩]
    have e : ∀ j, AR (nA σ 16 n.toNat) 16 (CN σ 16) j = none := fun j => by rw [AR_nA, if_pos ⟨rfl, rfl⟩]
    simp only [e]
    rfl
end

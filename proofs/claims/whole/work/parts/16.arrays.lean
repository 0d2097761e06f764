section
variable {p : Program} {l : Launch} {e : Env} {R : Room} {s : State} {m : MethodId} {args : Array Value} {below : List Frame} {meth : Method} {c : Code} {H : Heap} {locs : List Loc} {Q : State → Prop}
variable {D : va_G} {ty : Nat → ClassId} {B : Nat} {sa sv : Nat → Nat} {b L : Nat} {xs : Nat → Int32} {σ : AS} {ad : Nat → Nat → Nat} {al : List (Nat × Nat)} {mls : Array Slot} {mm n0 s0 : Nat} {cells slots : Nat} {t : List Value}
theorem cE_sAI {k a i c' i' : Nat} {v : Int} (h : ¬ (c' = k ∧ i' = a)) : cE ty (sAI σ k a i v) ad c' i' = cE ty σ ad c' i' := by
  have e : ∀ j, AI (sAI σ k a i v) c' i' j = AI σ c' i' j := fun j => by rw [AI_sAI, if_neg (fun q => h ⟨q.1, q.2.1⟩)]
  unfold cE
  simp only [e, LN_sAI, AR_sAI]
  rfl
theorem cE_sAR {k a i c' i' : Nat} {v : Option Nat} (h : ¬ (c' = k ∧ i' = a)) : cE ty (sAR σ k a i v) ad c' i' = cE ty σ ad c' i' := by
  have e : ∀ j, AR (sAR σ k a i v) c' i' j = AR σ c' i' j := fun j => by rw [AR_sAR, if_neg (fun q => h ⟨q.1, q.2.1⟩)]
  unfold cE
  simp only [e, LN_sAR, AI_sAR]
  rfl
set_option maxHeartbeats 4000000 in
theorem sp_iald {pc a : Nat} {i : Int} (hc : Ctx mm p s m args meth c D ty B sa sv b L xs) (hdec : decode (mB mm) pc = .ok (.iaload, 1)) (ok : okS L xs σ) (hR : Rep D ty B σ ad al H) (hS : va_S (fun q => B ≤ q) s.heap H locs) (h18 : ad 18 0 = b) {k : Nat} (hk : k = 13 ∨ k = 18) (ha : a < CN σ k) (hi : InR i) (h0 : 0 ≤ i) (h1 : i < LN σ k a)
    (kk : W p l e R s m args below meth c H locs cells slots Q (F0 m (pc + 1) mls (.int (Int32.ofInt (AI σ k a i.toNat)) :: t))) : W p l e R s m args below meth c H locs cells slots Q (F0 m pc mls (.int (Int32.ofInt i) :: .ref (ad k a) :: t)) := by
  obtain ⟨hx, hb, hml, hown, hts, hE, hB, hin⟩ := hc
  rcases hk with rfl | rfl
  · obtain ⟨q0, hq0⟩ := hR.get (c := 13) (by omega) ha
    rw [cE_num (by omega) (by omega)] at hq0
    refine va_iald hx hb hE.1 hR.1 q0 0 hq0 rfl (oI_in hi h0 h1) hdec ?_
    rw [oI_clamp hi]
    exact kk
  · obtain ⟨-, -, -, -, -, -, k1, k2, k3⟩ := ok
    rw [k1] at ha
    obtain rfl : a = 0 := by omega
    rw [k2] at h1
    rw [h18]
    refine va_sld hx hb hE.2.2.2.2.2.2.2.2.1 (by have := hE.2.2.2.2.2.2.2.2.2; omega) (by have := hE.2.2.2.2.2.2.2.2.2; omega) hS (oI_in hi h0 h1) hdec ?_
    rw [oI_clamp hi]
    rw [k3, oI_toInt] at kk
    exact kk
set_option maxHeartbeats 4000000 in
theorem sp_bald {pc a : Nat} {i : Int} (hc : Ctx mm p s m args meth c D ty B sa sv b L xs) (hdec : decode (mB mm) pc = .ok (.baload, 1)) (hR : Rep D ty B σ ad al H) (ha : a < CN σ 14) (hi : InR i) (h0 : 0 ≤ i) (h1 : i < LN σ 14 a)
    (kk : W p l e R s m args below meth c H locs cells slots Q (F0 m (pc + 1) mls (.int (Int32.ofInt (AI σ 14 a i.toNat)) :: t))) : W p l e R s m args below meth c H locs cells slots Q (F0 m pc mls (.int (Int32.ofInt i) :: .ref (ad 14 a) :: t)) := by
  obtain ⟨hx, hb, hml, hown, hts, hE, hB, hin⟩ := hc
  obtain ⟨q0, hq0⟩ := hR.get (c := 14) (by omega) ha
  rw [cE_num (by omega) (by omega)] at hq0
  refine va_zald hx hb hE.1 hR.1 q0 1 hq0 rfl (oI_in hi h0 h1) hdec ?_
  rw [oI_clamp hi]
  exact kk
set_option maxHeartbeats 4000000 in
theorem sp_aald {pc a : Nat} {i : Int} (hc : Ctx mm p s m args meth c D ty B sa sv b L xs) (hdec : decode (mB mm) pc = .ok (.aaload, 1)) (hR : Rep D ty B σ ad al H) {k : Nat} (hk : k = 15 ∨ k = 16 ∨ k = 17) (ha : a < CN σ k) (hi : InR i) (h0 : 0 ≤ i) (h1 : i < LN σ k a)
    (kk : W p l e R s m args below meth c H locs cells slots Q (F0 m (pc + 1) mls (va_rf ((AR σ k a i.toNat).map (ad (eK k))) :: t))) : W p l e R s m args below meth c H locs cells slots Q (F0 m pc mls (.int (Int32.ofInt i) :: .ref (ad k a) :: t)) := by
  obtain ⟨hx, hb, hml, hown, hts, hE, hB, hin⟩ := hc
  obtain ⟨q0, hq0⟩ := hR.get (c := k) (by omega) ha
  rw [cE_ref (by omega)] at hq0
  rcases hk with rfl | rfl | rfl
  · refine va_aldq hx hb hE.1 hR.1 q0 2 hq0 rfl (oI_in hi h0 h1) hdec ?_
    rw [oI_clamp hi]
    exact kk
  · refine va_aldq hx hb hE.1 hR.1 q0 3 hq0 rfl (oI_in hi h0 h1) hdec ?_
    rw [oI_clamp hi]
    exact kk
  · have hin2 := oI_in hi h0 h1
    have hlt : (Int32.ofInt i).toNatClampNeg < LN σ 17 a := by rw [oI_clamp hi]; omega
    refine W.aald (v := va_rf ((AR σ 17 a (Int32.ofInt i).toNatClampNeg).map (ad (eK 17)))) (ty := .array .int) hx hb (hR.1 q0 _ hq0) ((hE.1.2 4 _ rfl).1 _ (fun j => va_rf ((AR σ 17 a j).map (ad (eK 17))))) rfl (fun q => by cases q) (by show ¬ (_ < 0 ∨ (arrV _ _ _).slots.size ≤ _); rw [arrV_size]; exact hin2) (by show (arrV _ _ _).slots[_]? = _; rw [arrV_read _ _ hlt]) rfl rfl hdec ?_
    rw [oI_clamp hi]
    exact kk
set_option maxHeartbeats 4000000 in
theorem sp_iast {pc a : Nat} {i v : Int} (hc : Ctx mm p s m args meth c D ty B sa sv b L xs) (hdec : decode (mB mm) pc = .ok (.iastore, 1)) (hR : Rep D ty B σ ad al H) (hS : va_S (fun q => B ≤ q) s.heap H locs) (ha : a < CN σ 13) (hi : InR i) (h0 : 0 ≤ i) (h1 : i < LN σ 13 a)
    (kk : ∀ H1 locs1, Rep D ty B (sAI σ 13 a i.toNat v) ad al H1 → va_S (fun q => B ≤ q) s.heap H1 locs1 → W p l e R s m args below meth c H1 locs1 cells slots Q (F0 m (pc + 1) mls t)) : W p l e R s m args below meth c H locs cells slots Q (F0 m pc mls (.int (Int32.ofInt v) :: .int (Int32.ofInt i) :: .ref (ad 13 a) :: t)) := by
  obtain ⟨hx, hb, hml, hown, hts, hE, hB, hin⟩ := hc
  obtain ⟨q0, hq0⟩ := hR.get (c := 13) (by omega) ha
  have hq1 := hq0
  rw [cE_num (by omega) (by omega)] at hq0
  refine va_iast hx hb hE.1 hR.1 hR.2.1 hS q0 0 hq0 rfl (oI_in hi h0 h1) hdec (fun H1 locs1 hP1 hD1 hS1 => ?_)
  rw [oI_clamp hi] at hP1 hD1
  refine kk H1 locs1 (hR.put hq1 (by omega) ha (fun c => rfl) (fun c' i' _ hne => cE_sAI hne) _ ?_ hP1 hD1) hS1
  rw [cE_num (by omega) (by omega), LN_sAI]
  congr 4
  funext j
  rw [AI_sAI]
  unfold upd
  split
  · rename_i h; subst h; rw [if_pos ⟨rfl, rfl, rfl⟩]
  · rename_i h; rw [if_neg (fun q => h q.2.2)]
set_option maxHeartbeats 4000000 in
theorem sp_zast {pc a : Nat} {i v : Int} (hc : Ctx mm p s m args meth c D ty B sa sv b L xs) (hdec : decode (mB mm) pc = .ok (.bastore, 1)) (hR : Rep D ty B σ ad al H) (hS : va_S (fun q => B ≤ q) s.heap H locs) (ha : a < CN σ 14) (hi : InR i) (h0 : 0 ≤ i) (h1 : i < LN σ 14 a) (hv : v = 0 ∨ v = 1)
    (kk : ∀ H1 locs1, Rep D ty B (sAI σ 14 a i.toNat v) ad al H1 → va_S (fun q => B ≤ q) s.heap H1 locs1 → W p l e R s m args below meth c H1 locs1 cells slots Q (F0 m (pc + 1) mls t)) : W p l e R s m args below meth c H locs cells slots Q (F0 m pc mls (.int (Int32.ofInt v) :: .int (Int32.ofInt i) :: .ref (ad 14 a) :: t)) := by
  obtain ⟨hx, hb, hml, hown, hts, hE, hB, hin⟩ := hc
  obtain ⟨q0, hq0⟩ := hR.get (c := 14) (by omega) ha
  have hq1 := hq0
  rw [cE_num (by omega) (by omega)] at hq0
  refine va_zast hx hb hE.1 hR.1 hR.2.1 hS q0 1 hq0 rfl (oI_in hi h0 h1) hdec (fun H1 locs1 hP1 hD1 hS1 => ?_)
  rw [oI_clamp hi] at hP1 hD1
  have hnar : vp_nar .boolean (Int32.ofInt v) = Int32.ofInt v := by rcases hv with rfl | rfl <;> decide
  rw [hnar] at hP1 hD1
  refine kk H1 locs1 (hR.put hq1 (by omega) ha (fun c => rfl) (fun c' i' _ hne => cE_sAI hne) _ ?_ hP1 hD1) hS1
  rw [cE_num (by omega) (by omega), LN_sAI]
  congr 4
  funext j
  rw [AI_sAI]
  unfold upd
  split
  · rename_i h; subst h; rw [if_pos ⟨rfl, rfl, rfl⟩]
  · rename_i h; rw [if_neg (fun q => h q.2.2)]
set_option maxHeartbeats 4000000 in
theorem sp_aast {pc a v : Nat} {i : Int} (hc : Ctx mm p s m args meth c D ty B sa sv b L xs) (hdec : decode (mB mm) pc = .ok (.aastore, 1)) (hR : Rep D ty B σ ad al H) (hS : va_S (fun q => B ≤ q) s.heap H locs) {k : Nat} (hk : k = 15 ∨ k = 16) (ha : a < CN σ k) (hv : v < CN σ (eK k)) (hi : InR i) (h0 : 0 ≤ i) (h1 : i < LN σ k a)
    (kk : ∀ H1 locs1, Rep D ty B (sAR σ k a i.toNat (some v)) ad al H1 → va_S (fun q => B ≤ q) s.heap H1 locs1 → W p l e R s m args below meth c H1 locs1 cells slots Q (F0 m (pc + 1) mls t)) : W p l e R s m args below meth c H locs cells slots Q (F0 m pc mls (.ref (ad (eK k) v) :: .int (Int32.ofInt i) :: .ref (ad k a) :: t)) := by
  obtain ⟨hx, hb, hml, hown, hts, hE, hB, hin⟩ := hc
  obtain ⟨q0, hq0⟩ := hR.get (c := k) (by omega) ha
  have hq1 := hq0
  rw [cE_ref (by omega)] at hq0
  have he : eK k < 12 := by rcases hk with rfl | rfl <;> decide
  obtain ⟨qv, hqv⟩ := hR.get (c := eK k) (by omega) hv
  rw [cE_obj he] at hqv
  have fin : ∀ H1, va_P D vwCl ((wsO ty σ ad al).set q0 (ad k a, .inl (ty k, LN σ k a, .inr (.inr (.inr (.inr (va_up (fun j => (AR σ k a j).map (ad (eK k))) i.toNat (some (ad (eK k) v))))))))) H1 → va_D (fun q => B ≤ q) ((wsO ty σ ad al).set q0 (ad k a, .inl (ty k, LN σ k a, .inr (.inr (.inr (.inr (va_up (fun j => (AR σ k a j).map (ad (eK k))) i.toNat (some (ad (eK k) v))))))))) → Rep D ty B (sAR σ k a i.toNat (some v)) ad al H1 := by
    intro H1 hP1 hD1
    refine hR.put hq1 (by omega) ha (fun c => rfl) (fun c' i' _ hne => cE_sAR hne) _ ?_ hP1 hD1
    rw [cE_ref (by omega), LN_sAR]
    congr 7
    funext j
    rw [AR_sAR]
    unfold va_up
    split
    · rename_i h; subst h; rw [if_pos ⟨rfl, rfl, rfl⟩]; rfl
    · rename_i h; rw [if_neg (fun q => h q.2.2)]
  rcases hk with rfl | rfl
  · refine va_astq (r := (cN 0, cT 0, cF 0)) hx hb hE.1 hR.1 hR.2.1 hS q0 2 qv 0 hq0 rfl hqv (ck_cl 0 (by omega)) (oI_in hi h0 h1) hdec (fun H1 locs1 hP1 hD1 hS1 => ?_)
    rw [oI_clamp hi] at hP1 hD1
    exact kk H1 locs1 (fin H1 hP1 hD1) hS1
  · refine va_astq (r := (cN 8, cT 8, cF 8)) hx hb hE.1 hR.1 hR.2.1 hS q0 3 qv 8 hq0 rfl hqv (ck_cl 8 (by omega)) (oI_in hi h0 h1) hdec (fun H1 locs1 hP1 hD1 hS1 => ?_)
    rw [oI_clamp hi] at hP1 hD1
    exact kk H1 locs1 (fin H1 hP1 hD1) hS1
set_option maxHeartbeats 4000000 in
theorem sp_alen {pc a : Nat} (hc : Ctx mm p s m args meth c D ty B sa sv b L xs) (hdec : decode (mB mm) pc = .ok (.arraylength, 1)) (ok : okS L xs σ) (hR : Rep D ty B σ ad al H) (hS : va_S (fun q => B ≤ q) s.heap H locs) (h18 : ad 18 0 = b) {k : Nat} (hk : k = 13 ∨ k = 14 ∨ k = 15 ∨ k = 16 ∨ k = 17 ∨ k = 18) (ha : a < CN σ k)
    (kk : W p l e R s m args below meth c H locs cells slots Q (F0 m (pc + 1) mls (.int (Int32.ofInt (LN σ k a : Nat)) :: t))) : W p l e R s m args below meth c H locs cells slots Q (F0 m pc mls (.ref (ad k a) :: t)) := by
  obtain ⟨hx, hb, hml, hown, hts, hE, hB, hin⟩ := hc
  by_cases h : k = 18
  · subst h
    obtain ⟨-, -, -, -, -, -, k1, k2, k3⟩ := ok
    rw [k1] at ha
    obtain rfl : a = 0 := by omega
    rw [k2] at kk
    rw [h18]
    exact va_slen hx hb hE.2.2.2.2.2.2.2.2.1 (by have := hE.2.2.2.2.2.2.2.2.2; omega) (by have := hE.2.2.2.2.2.2.2.2.2; omega) hS hdec kk
  · obtain ⟨q0, hq0⟩ := hR.get h ha
    rcases hk with rfl | rfl | rfl | rfl | rfl | rfl
    · rw [cE_num (by omega) (by omega)] at hq0
      exact va_alen hx hb hE.1 hR.1 q0 0 hq0 rfl rfl hdec kk
    · rw [cE_num (by omega) (by omega)] at hq0
      exact va_alen hx hb hE.1 hR.1 q0 1 hq0 rfl rfl hdec kk
    · rw [cE_ref (by omega)] at hq0
      exact va_alen hx hb hE.1 hR.1 q0 2 hq0 rfl rfl hdec kk
    · rw [cE_ref (by omega)] at hq0
      exact va_alen hx hb hE.1 hR.1 q0 3 hq0 rfl rfl hdec kk
    · rw [cE_ref (by omega)] at hq0
      exact va_alen hx hb hE.1 hR.1 q0 4 hq0 rfl rfl hdec kk
    · exact absurd rfl h
end

section
variable {p : Program} {l : Launch} {e : Env} {R : Room} {s : State} {m : MethodId} {args : Array Value} {below : List Frame} {meth : Method} {c : Code} {H : Heap} {locs : List Loc} {Q : State → Prop}
variable {D : va_G} {ty : Nat → ClassId} {B : Nat} {sa sv : Nat → Nat} {b L : Nat} {xs : Nat → Int32} {σ : AS} {ad : Nat → Nat → Nat} {al : List (Nat × Nat)} {mls : Array Slot} {mm n0 s0 : Nat}
theorem oI_0 : (0 : Int32) = Int32.ofInt 0 := rfl
theorem fT_ty : ∀ c, c < 12 → ∀ k, k < cF c → (fT (100 * c + k) = 0 → (cTy c) k = .int) ∧ (fT (100 * c + k) = 1 → (cTy c) k = .boolean) ∧ (2 ≤ fT (100 * c + k) → ((cTy c) k).isReference = true) := by decide +kernel
theorem fV_gF (f a : Nat) : fV σ ad f a = vV ad sa (gF σ f a) := by
  unfold fV gF
  split <;> rfl
theorem fLst_get {c k : Nat} (hk : k < cF c) (i : Nat) : (fLst σ ad c i)[k]? = some (fV σ ad (100 * c + k) i) := by
  unfold fLst
  rw [List.getElem?_map, List.getElem?_range hk]
  rfl
theorem cE_obj {c : Nat} (hc : c < 12) (i : Nat) : cE ty σ ad c i = .inr (c, fLst σ ad c i) := if_pos hc
theorem cE_num {c : Nat} (h1 : 12 < c) (h2 : c < 15) (i : Nat) : cE ty σ ad c i = .inl (ty c, LN σ c i, .inl (fun k => Int32.ofInt (AI σ c i k))) := by
  unfold cE
  rw [if_neg (by omega), if_pos h2]
theorem cE_ref {c : Nat} (h1 : 14 < c) (i : Nat) : cE ty σ ad c i = .inl (ty c, LN σ c i, .inr (.inr (.inr (.inr (fun k => (AR σ c i k).map (ad (eK c))))))) := by
  unfold cE
  rw [if_neg (by omega), if_neg (by omega)]
theorem fld_same {c k : Nat} {ref : String} (h : (cT c k).1 = cN c) : ∀ x, s.fieldFound? (cT c k).1 (cT c k).2.1 (cT c k).2.2.1 = some x → s.fieldFound? (cN c) (cT c k).2.1 (cT c k).2.2.1 = some x := fun x hx => by rw [h] at hx; exact hx
theorem isRef_narrow {t : FieldType} (h : t.isReference = true) (r : Option Nat) : narrow t (va_rf r) = va_rf r ∧ fits t (va_rf r) = true := by
  cases t <;> first | (cases r <;> exact ⟨rfl, rfl⟩) | cases h
theorem fF_all : ∀ e ∈ fL, e.1 < 14 ∧ e.2.2.1 / 100 < 12 ∧ e.2.2.1 % 100 < cF (e.2.2.1 / 100) ∧ lw_tbl[e.2.2.2.1]? = some (if e.2.2.2.2 = true then Cond.fieldLinkNest (cN e.1) e.2.1 (cN (e.2.2.1 / 100)) (cT (e.2.2.1 / 100) (e.2.2.1 % 100)).2.1 (cT (e.2.2.1 / 100) (e.2.2.1 % 100)).2.2.1 "CommittedParsers" else Cond.fieldLink (cN e.1) e.2.1 (cN (e.2.2.1 / 100)) (cT (e.2.2.1 / 100) (e.2.2.1 % 100)).2.1 (cT (e.2.2.1 / 100) (e.2.2.1 % 100)).2.2.1) ∧ (cT (e.2.2.1 / 100) (e.2.2.1 % 100)).1 = cN (e.2.2.1 / 100) := by
  intro e he
  unfold fL at he
  simp only [List.mem_append] at he
  rcases he with ((he | he) | he) | he
  · exact ck_f0 e he
  · exact ck_f1 e he
  · exact ck_f2 e he
  · exact ck_f3 e he
set_option maxHeartbeats 4000000 in
theorem sp_get {pc j x : Nat} {a : Nat} {t : List Value} (hc : Ctx mm p s m args meth c D ty B sa sv b L xs) (hdec : decode (mB mm) pc = .ok (.getfield j, 3)) (hlk : lk3 fL (mC mm) j x = true) (hR : Rep D ty B σ ad al H) (ha : a < CN σ (x / 100)) {cells slots : Nat} {u : List Value}
    (kk : W p l e R s m args below meth c H locs cells slots Q (F0 m (pc + 3) mls (vV ad sa (gF σ x a) :: t))) : W p l e R s m args below meth c H locs cells slots Q (F0 m pc mls (.ref (ad (x / 100) a) :: t)) := by
  obtain ⟨hx, hb, hml, hown, hts, hE, hB, hin⟩ := hc
  obtain ⟨q, hq, e1, e2, e3⟩ := lk3_mem hlk
  obtain ⟨f1, f2, f3, f4, f5⟩ := fF_all q hq
  rw [e3] at f2 f3 f4 f5
  obtain ⟨q0, hq0⟩ := hR.get (c := x / 100) (by omega) ha
  rw [cE_obj f2] at hq0
  have hv : (fLst σ ad (x / 100) a)[x % 100]? = some (vV ad sa (gF σ x a)) := by
    rw [fLst_get f3, show 100 * (x / 100) + x % 100 = x by omega, fV_gF]
  by_cases hn : q.2.2.2.2 = true
  · have hw := hE.2.2.2.1 q hq hn
    rw [e1, e2, e3] at hw
    exact va_getN (D := D) (ci := x / 100) (C := cN (x / 100)) (T := cT (x / 100)) (N := cF (x / 100)) hx hb hts (lay_in _ f2) hown hE.1 hR.1 q0 hq0 (ck_cl _ f2) (x % 100) f3 (va_Nw.use rfl hw) (fld_same (ref := "") f5) hv hdec kk
  · rw [if_neg hn, e1, e2] at f4
    exact va_get (D := D) (ci := x / 100) (C := cN (x / 100)) (T := cT (x / 100)) (N := cF (x / 100)) hx hb hts (lay_in _ f2) hown hE.1 hR.1 q0 hq0 (ck_cl _ f2) (x % 100) f3 (hts _ (WW_in f4 rfl)) (fld_same (ref := "") f5) hv hdec kk
theorem cE_pF {x a c' i' : Nat} (v : AV) (hx : x % 100 < 100) (h : ¬ (c' = x / 100 ∧ i' = a)) : cE ty (pF σ x a v) ad c' i' = cE ty σ ad c' i' := by
  have key : ∀ k, k < cF c' → ¬ (100 * c' + k = x ∧ i' = a) := by
    intro k hk ⟨h1, h2⟩
    have := cF_le c'
    exact h ⟨by omega, h2⟩
  rcases v with n | ⟨c, r⟩ | k
  · unfold cE
    split
    · congr 2
      unfold fLst
      apply List.map_congr_left
      intro k hk
      have hk := List.mem_range.mp hk
      show fV (sFI σ x a n) ad _ _ = _
      unfold fV
      rw [FI_sFI, if_neg (key k hk), FR_sFI]
    · rfl
  · unfold cE
    split
    · congr 2
      unfold fLst
      apply List.map_congr_left
      intro k hk
      have hk := List.mem_range.mp hk
      show fV (sFR σ x a r) ad _ _ = _
      unfold fV
      rw [FR_sFR, if_neg (key k hk), FI_sFR]
    · rfl
  · rfl
theorem fLst_pF {x a : Nat} (v : AV) (hp : okP x v) : fLst (pF σ x a v) ad (x / 100) a = (fLst σ ad (x / 100) a).set (x % 100) (vV ad sa v) := by
  apply List.ext_getElem?
  intro k
  rw [List.getElem?_set]
  by_cases hk : k < cF (x / 100)
  · rw [fLst_get hk, fLst_get hk]
    have hlen : (fLst σ ad (x / 100) a).length = cF (x / 100) := by simp [fLst]
    have hc := cF_le (x / 100)
    by_cases he : x % 100 = k
    · subst he
      rw [if_pos rfl, if_pos (by rw [hlen]; exact hk)]
      rw [show 100 * (x / 100) + x % 100 = x by omega]
      congr 1
      rcases v with n | ⟨c, r⟩ | k
      · show fV (sFI σ x a n) ad x a = _
        unfold fV
        rw [if_pos (by rcases hp with h | ⟨h, -⟩ <;> omega), FI_sFI, if_pos ⟨rfl, rfl⟩]
        rfl
      · obtain ⟨h2, h3⟩ := hp
        show fV (sFR σ x a r) ad x a = _
        unfold fV
        rw [if_neg (by omega), FR_sFR, if_pos ⟨rfl, rfl⟩]
        rcases h3 with h | h
        · subst h; rfl
        · rw [h]; rfl
      · exact hp.elim
    · rw [if_neg he]
      congr 1
      have hne : ¬ (100 * (x / 100) + k = x ∧ a = a) := fun h => he (by omega)
      rcases v with n | ⟨c, r⟩ | z
      · show fV (sFI σ x a n) ad _ _ = _
        unfold fV
        rw [FI_sFI, if_neg hne, FR_sFI]
      · show fV (sFR σ x a r) ad _ _ = _
        unfold fV
        rw [FR_sFR, if_neg hne, FI_sFR]
      · rfl
  · have h1 : (fLst (pF σ x a v) ad (x / 100) a)[k]? = none := by simp [fLst]; omega
    have h2 : (fLst σ ad (x / 100) a)[k]? = none := by simp [fLst]; omega
    rw [h1, h2]
    split
    · split
      · rename_i h; simp [fLst] at h; omega
      · rfl
    · rfl
theorem CN_pF (x a : Nat) (v : AV) (c : Nat) : CN (pF σ x a v) c = CN σ c := by
  rcases v with n | ⟨c, r⟩ | k <;> rfl
theorem pF_fit {x : Nat} {v : AV} (hp : okP x v) (h1 : x / 100 < 12) (h2 : x % 100 < cF (x / 100)) : narrow ((cTy (x / 100)) (x % 100)) (vV ad sa v) = vV ad sa v ∧ fits ((cTy (x / 100)) (x % 100)) (vV ad sa v) = true := by
  obtain ⟨t1, t2, t3⟩ := fT_ty _ h1 _ h2
  rw [show 100 * (x / 100) + x % 100 = x by omega] at t1 t2 t3
  rcases v with n | ⟨c, r⟩ | k
  · rcases hp with h | ⟨h, hn⟩
    · rw [t1 h]; exact ⟨rfl, rfl⟩
    · rw [t2 h]
      rcases hn with rfl | rfl
      · exact (by decide : narrow .boolean (.int (Int32.ofInt 0)) = .int (Int32.ofInt 0) ∧ fits .boolean (.int (Int32.ofInt 0)) = true)
      · exact (by decide : narrow .boolean (.int (Int32.ofInt 1)) = .int (Int32.ofInt 1) ∧ fits .boolean (.int (Int32.ofInt 1)) = true)
  · exact isRef_narrow (t3 hp.1) _
  · exact hp.elim
set_option maxHeartbeats 4000000 in
theorem sp_put {pc j x y : Nat} {a : Nat} {v : AV} {t : List Value} (hc : Ctx mm p s m args meth c D ty B sa sv b L xs) (hdec : decode (mB mm) pc = .ok (.putfield j, 3)) (hck : ckI mm pc (.putfield j) 3 x y = true) (hR : Rep D ty B σ ad al H) (hS : va_S (fun q => B ≤ q) s.heap H locs) (ha : a < CN σ (x / 100)) (hp : okP x v) {cells slots : Nat}
    (kk : ∀ H1 locs1, Rep D ty B (pF σ x a v) ad al H1 → va_S (fun q => B ≤ q) s.heap H1 locs1 → W p l e R s m args below meth c H1 locs1 cells slots Q (F0 m (pc + 3) mls t)) : W p l e R s m args below meth c H locs cells slots Q (F0 m pc mls (vV ad sa v :: .ref (ad (x / 100) a) :: t)) := by
  obtain ⟨hx, hb, hml, hown, hts, hE, hB, hin⟩ := hc
  simp only [ckI, Bool.and_eq_true] at hck
  obtain ⟨⟨-, hlk⟩, hfin⟩ := hck
  obtain ⟨q, hq, hz⟩ := List.any_eq_true.mp hlk
  simp only [Bool.and_eq_true, Nat.beq_eq, Bool.not_eq_true'] at hz
  obtain ⟨e1, e2, e3, hn⟩ := hz
  obtain ⟨f1, f2, f3, f4, f5⟩ := fF_all q hq
  rw [e3] at f2 f3 f4 f5
  obtain ⟨q0, hq0⟩ := hR.get (c := x / 100) (by omega) ha
  have hq1 := hq0
  rw [cE_obj f2] at hq0
  rw [hn, if_neg (by decide), e1, e2] at f4
  obtain ⟨n1, n2⟩ := pF_fit (ad := ad) (sa := sa) hp f2 f3
  have hset : Rep D ty B σ ad al H → ∀ H1, va_P D vwCl ((wsO ty σ ad al).set q0 (ad (x / 100) a, .inr (x / 100, (fLst σ ad (x / 100) a).set (x % 100) (vV ad sa v)))) H1 → va_D (fun q => B ≤ q) ((wsO ty σ ad al).set q0 (ad (x / 100) a, .inr (x / 100, (fLst σ ad (x / 100) a).set (x % 100) (vV ad sa v)))) → Rep D ty B (pF σ x a v) ad al H1 := fun hR H1 hP1 hD1 =>
    hR.put hq1 (by omega) ha (CN_pF x a v) (fun c' i' _ hne => cE_pF v (by omega) hne) _ (by rw [cE_obj f2, fLst_pF (sa := sa) v hp]) hP1 hD1
  have hl : x % 100 < (fLst σ ad (x / 100) a).length := by simp [fLst]; exact f3
  by_cases hf : (cT (x / 100) (x % 100)).2.2.2 = true
  · rw [if_pos hf] at hfin
    simp only [Bool.and_eq_true, Nat.beq_eq] at hfin
    exact va_putF (D := D) (ci := x / 100) (C := cN (x / 100)) (T := cT (x / 100)) (N := cF (x / 100)) hx hb hts (lay_in _ f2) (cTy (x / 100)) (ck_ty _ f2) (ck_nm _ f2) hown hE.1 hR.1 hR.2.1 hS q0 hq0 (ck_cl _ f2) (x % 100) f3 (hts _ (WW_in f4 rfl)) (fld_same (ref := "") f5) hf (hin hfin.1) (by rw [f5, hfin.2]) (ck_ty _ f2 _ f3) n1 n2 hl hdec (fun H1 locs1 hP1 hD1 hS1 => kk H1 locs1 (hset hR H1 hP1 hD1) hS1)
  · exact va_put (D := D) (ci := x / 100) (C := cN (x / 100)) (T := cT (x / 100)) (N := cF (x / 100)) hx hb hts (lay_in _ f2) (cTy (x / 100)) (ck_ty _ f2) (ck_nm _ f2) hown hE.1 hR.1 hR.2.1 hS q0 hq0 (ck_cl _ f2) (x % 100) f3 (hts _ (WW_in f4 rfl)) (fld_same (ref := "") f5) (Bool.eq_false_iff.mpr hf) (ck_ty _ f2 _ f3) n1 n2 hl hdec (fun H1 locs1 hP1 hD1 hS1 => kk H1 locs1 (hset hR H1 hP1 hD1) hS1)
end

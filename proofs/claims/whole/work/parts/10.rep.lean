/-! HOW A STATE OF THE ABSTRACT MACHINE LIES IN THE HEAP -/
def tysL (ty : Nat → ClassId) : List (ClassId × FieldType) := [(ty 13, .int), (ty 14, .boolean), (ty 15, .object RX0), (ty 16, .object RX8), (ty 17, .array .int)]
def fV (σ : AS) (ad : Nat → Nat → Nat) (f i : Nat) : Value := if fT f < 2 then .int (Int32.ofInt (FI σ f i)) else va_rf ((FR σ f i).map (ad (fT f - 2)))
def fLst (σ : AS) (ad : Nat → Nat → Nat) (c i : Nat) : List Value := (List.range (cF c)).map (fun k => fV σ ad (100 * c + k) i)
def cE (ty : Nat → ClassId) (σ : AS) (ad : Nat → Nat → Nat) (c i : Nat) : va_E := if c < 12 then .inr (c, fLst σ ad c i) else if c < 15 then .inl (ty c, LN σ c i, .inl (fun k => Int32.ofInt (AI σ c i k))) else .inl (ty c, LN σ c i, .inr (.inr (.inr (.inr (fun k => (AR σ c i k).map (ad (eK c)))))))
def wsO (ty : Nat → ClassId) (σ : AS) (ad : Nat → Nat → Nat) (al : List (Nat × Nat)) : va_W := al.map (fun q => (ad q.1 q.2, cE ty σ ad q.1 q.2))
def Rep (D : va_G) (ty : Nat → ClassId) (B : Nat) (σ : AS) (ad : Nat → Nat → Nat) (al : List (Nat × Nat)) (H : Heap) : Prop :=
  va_P D vwCl (wsO ty σ ad al) H ∧ va_D (fun q => B ≤ q) (wsO ty σ ad al) ∧ ∀ c i, (c, i) ∈ al ↔ (c ≠ 18 ∧ i < CN σ c)
def okS (L : Nat) (xs : Nat → Int32) (σ : AS) : Prop := (∀ f a, InR (FI σ f a)) ∧ (∀ f a r, FR σ f a = some r → r < CN σ (fT f - 2)) ∧ (∀ c a k, InR (AI σ c a k)) ∧ (∀ c a k r, AR σ c a k = some r → r < CN σ (eK c)) ∧ (∀ c a, LN σ c a ≤ 100000) ∧ (∀ c, CN σ c ≠ 0 → c < 12 ∨ (13 ≤ c ∧ c ≤ 18)) ∧ CN σ 18 = 1 ∧ LN σ 18 0 = L ∧ ∀ k, AI σ 18 0 k = (xs k).toInt
def okV (σ : AS) (v : AV) : Prop := match v with
  | .inl n => InR n
  | .inr (.inl (c, r)) => ∀ a, r = some a → a < CN σ c
  | .inr (.inr k) => k < 10
def vV (ad : Nat → Nat → Nat) (sa : Nat → Nat) (v : AV) : Value := match v with
  | .inl n => .int (Int32.ofInt n)
  | .inr (.inl (c, r)) => va_rf (r.map (ad c))
  | .inr (.inr k) => .ref (sa k)
theorem vV_cat (ad : Nat → Nat → Nat) (sa : Nat → Nat) (v : AV) : (vV ad sa v).category = 1 := by
  rcases v with n | ⟨c, r⟩ | k
  · rfl
  · cases r <;> rfl
  · rfl
/-- the addresses that are taken stay where they are -/
def adX (σ : AS) (ad ad' : Nat → Nat → Nat) : Prop := ∀ c r, r < CN σ c → ad' c r = ad c r
theorem vV_ext {σ : AS} {ad ad' : Nat → Nat → Nat} {sa : Nat → Nat} (h : adX σ ad ad') {v : AV} (hv : okV σ v) : vV ad' sa v = vV ad sa v := by
  rcases v with n | ⟨c, r⟩ | k
  · rfl
  · cases r with
    | none => rfl
    | some a => show va_rf (some (ad' c a)) = va_rf (some (ad c a)); rw [h c a (hv a rfl)]
  · rfl
theorem map_ext {σ : AS} {ad ad' : Nat → Nat → Nat} (h : adX σ ad ad') {r : Option Nat} {c : Nat} (hr : ∀ a, r = some a → a < CN σ c) : r.map (ad' c) = r.map (ad c) := by
  cases r with
  | none => rfl
  | some a => show some (ad' c a) = some (ad c a); rw [h c a (hr a rfl)]
theorem cF_le (c : Nat) : cF c ≤ 100 := by
  rcases Nat.lt_or_ge c 12 with h | h
  · have : ∀ c, c < 12 → cF c ≤ 100 := by decide +kernel
    exact this c h
  · have hb : Nat.blt c 12 = false := by
      cases hb : Nat.blt c 12 with
      | false => rfl
      | true => exact absurd (Nat.le_of_ble_eq_true hb) (by omega)
    simp [cF, hb]
theorem cE_congr {L : Nat} {xs : Nat → Int32} {ty : Nat → ClassId} {σ σ' : AS} {ad ad' : Nat → Nat → Nat} (ok : okS L xs σ) (hx : adX σ ad ad') {c i : Nat} (h1 : ∀ k, k < 100 → FI σ' (100 * c + k) i = FI σ (100 * c + k) i) (h2 : ∀ k, k < 100 → FR σ' (100 * c + k) i = FR σ (100 * c + k) i) (h3 : ∀ k, AI σ' c i k = AI σ c i k) (h4 : ∀ k, AR σ' c i k = AR σ c i k) (h5 : LN σ' c i = LN σ c i) : cE ty σ' ad' c i = cE ty σ ad c i := by
  unfold cE
  split
  · congr 2
    unfold fLst
    apply List.map_congr_left
    intro k hk
    have hk := List.mem_range.mp hk
    have hc := cF_le c
    unfold fV
    rw [h1 k (by omega), h2 k (by omega), map_ext hx (fun a h => ok.2.1 _ _ a h)]
  · split
    · rw [h5]
      congr 4
      funext k
      rw [h3 k]
    · rw [h5]
      congr 7
      funext k
      rw [h4 k, map_ext hx (fun a h => ok.2.2.2.1 _ _ _ a h)]
section
variable {D : va_G} {ty : Nat → ClassId} {B : Nat} {σ σ' : AS} {ad ad' : Nat → Nat → Nat} {al : List (Nat × Nat)} {H H1 : Heap} {L : Nat} {xs : Nat → Int32}
theorem Rep.get (h : Rep D ty B σ ad al H) {c i : Nat} (hc : c ≠ 18) (hi : i < CN σ c) : ∃ k : Nat, (wsO ty σ ad al)[k]? = some (ad c i, cE ty σ ad c i) :=
  List.getElem?_of_mem (List.mem_map.mpr ⟨(c, i), (h.2.2 c i).mpr ⟨hc, hi⟩, rfl⟩)
theorem Rep.set (h : Rep D ty B σ ad al H) {c i k : Nat} (hk : (wsO ty σ ad al)[k]? = some (ad c i, cE ty σ ad c i)) (hc : c ≠ 18) (hi : i < CN σ c) (hCN : ∀ c, CN σ' c = CN σ c) (hs : ∀ c' i', i' < CN σ c' → ¬ (c' = c ∧ i' = i) → cE ty σ' ad c' i' = cE ty σ ad c' i') (e : va_E) (he : e = cE ty σ' ad c i) : (wsO ty σ ad al).set k (ad c i, e) = wsO ty σ' ad al := by
  subst he
  apply List.ext_getElem?
  intro j
  rw [List.getElem?_set]
  have hlen := (List.getElem?_eq_some_iff.mp hk).1
  split
  · rename_i hj
    subst hj
    unfold wsO at hk ⊢
    rw [List.getElem?_map] at hk ⊢
    cases hq : al[k]? with
    | none => rw [hq] at hk; cases hk
    | some q =>
      rw [hq] at hk
      simp only [Option.map_some, Option.some.injEq, Prod.mk.injEq] at hk ⊢
      have hm := (h.2.2 q.1 q.2).mp (List.mem_of_getElem? hq)
      by_cases hqe : q = (c, i)
      · subst hqe; exact ⟨rfl, rfl⟩
      · exfalso
        obtain ⟨k2, hk2⟩ := List.getElem?_of_mem ((h.2.2 c i).mpr ⟨hc, hi⟩)
        have e1 : (wsO ty σ ad al)[k2]? = some (ad c i, cE ty σ ad c i) := by unfold wsO; rw [List.getElem?_map, hk2]; rfl
        have e2 : (wsO ty σ ad al)[k]? = some (ad q.1 q.2, cE ty σ ad q.1 q.2) := by unfold wsO; rw [List.getElem?_map, hq]; rfl
        have := h.2.1.1 k2 k _ _ e1 e2 hk.1.symm
        subst this
        rw [hk2] at hq
        exact hqe (Option.some.inj hq).symm
  · rename_i hj
    unfold wsO
    rw [List.getElem?_map, List.getElem?_map]
    cases hq : al[j]? with
    | none => rfl
    | some q =>
      simp only [Option.map_some, Option.some.injEq, Prod.mk.injEq, true_and]
      have hm := (h.2.2 q.1 q.2).mp (List.mem_of_getElem? hq)
      refine (hs q.1 q.2 hm.2 ?_).symm
      rintro ⟨rfl, rfl⟩
      have e2 : (wsO ty σ ad al)[j]? = some (ad q.1 q.2, cE ty σ ad q.1 q.2) := by unfold wsO; rw [List.getElem?_map, hq]; rfl
      exact hj (h.2.1.1 k j _ _ hk e2 rfl)
theorem Rep.put (h : Rep D ty B σ ad al H) {c i k : Nat} (hk : (wsO ty σ ad al)[k]? = some (ad c i, cE ty σ ad c i)) (hc : c ≠ 18) (hi : i < CN σ c) (hCN : ∀ c, CN σ' c = CN σ c) (hs : ∀ c' i', i' < CN σ c' → ¬ (c' = c ∧ i' = i) → cE ty σ' ad c' i' = cE ty σ ad c' i') (e : va_E) (he : e = cE ty σ' ad c i) (hP : va_P D vwCl ((wsO ty σ ad al).set k (ad c i, e)) H1) (hD : va_D (fun q => B ≤ q) ((wsO ty σ ad al).set k (ad c i, e))) : Rep D ty B σ' ad al H1 := by
  rw [h.set hk hc hi hCN hs e he] at hP hD
  exact ⟨hP, hD, fun c i => by rw [h.2.2 c i, hCN]⟩
/-- one more cell -/
def adU (ad : Nat → Nat → Nat) (c i q : Nat) : Nat → Nat → Nat := fun c' i' => if c' = c ∧ i' = i then q else ad c' i'
theorem adU_x (c q : Nat) : adX σ ad (adU ad c (CN σ c) q) := fun c' r h => if_neg (fun e => by rw [e.1, e.2] at h; omega)
theorem Rep.new (h : Rep D ty B σ ad al H) (ok : okS L xs σ) {c q : Nat} (hc : c ≠ 18) (hCN : ∀ c', CN σ' c' = if c' = c then CN σ c + 1 else CN σ c') (hs : ∀ c' i', i' < CN σ c' → cE ty σ' (adU ad c (CN σ c) q) c' i' = cE ty σ ad c' i') (e : va_E) (he : e = cE ty σ' (adU ad c (CN σ c) q) c (CN σ c)) (hP : va_P D vwCl (wsO ty σ ad al ++ [(q, e)]) H1) (hD : va_D (fun q => B ≤ q) (wsO ty σ ad al ++ [(q, e)])) : Rep D ty B σ' (adU ad c (CN σ c) q) (al ++ [(c, CN σ c)]) H1 := by
  have hw : wsO ty σ ad al ++ [(q, e)] = wsO ty σ' (adU ad c (CN σ c) q) (al ++ [(c, CN σ c)]) := by
    unfold wsO
    rw [List.map_append]
    congr 1
    · apply List.map_congr_left
      intro z hz
      have hm := (h.2.2 z.1 z.2).mp hz
      rw [hs z.1 z.2 hm.2, adU_x (σ := σ) (ad := ad) c q z.1 z.2 hm.2]
    · subst he
      simp [adU]
  rw [hw] at hP hD
  refine ⟨hP, hD, fun c' i' => ?_⟩
  rw [List.mem_append, h.2.2 c' i', hCN c', List.mem_singleton, Prod.mk.injEq]
  by_cases hcc : c' = c
  · subst hcc
    rw [if_pos rfl]
    constructor
    · rintro (⟨h1, h2⟩ | ⟨-, h2⟩)
      · exact ⟨h1, by omega⟩
      · exact ⟨hc, by omega⟩
    · rintro ⟨h1, h2⟩
      by_cases hz : i' = CN σ c'
      · exact Or.inr ⟨rfl, hz⟩
      · exact Or.inl ⟨h1, by omega⟩
  · rw [if_neg hcc]
    constructor
    · rintro (h1 | ⟨h1, -⟩)
      · exact h1
      · exact absurd h1 hcc
    · exact Or.inl
end

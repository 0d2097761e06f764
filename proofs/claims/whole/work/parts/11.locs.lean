def LR (ad : Nat → Nat → Nat) (sa : Nat → Nat) (mls : Array Slot) (nL : Nat) (ls : List (Option AV)) : Prop := mls.size = nL ∧ ls.length = nL ∧ lv_wf mls ∧ ∀ (k : Nat) (v : AV), ls[k]? = some (some v) → mls[k]? = some (.val (vV ad sa v))
def lvO (ad : Nat → Nat → Nat) (sa : Nat → Nat) (ls : List (Option AV)) : List (Nat × Value) := (List.range ls.length).filterMap fun k => match ls[k]? with
  | some (some v) => some (k, vV ad sa v)
  | _ => none
theorem lvO_mem {ad : Nat → Nat → Nat} {sa : Nat → Nat} {ls : List (Option AV)} {q : Nat × Value} : q ∈ lvO ad sa ls ↔ ∃ v, ls[q.1]? = some (some v) ∧ q.2 = vV ad sa v := by
  unfold lvO
  rw [List.mem_filterMap]
  constructor
  · rintro ⟨k, hk, h⟩
    split at h
    · rename_i v hv
      cases h
      exact ⟨v, hv, rfl⟩
    · cases h
  · rintro ⟨v, hv, h⟩
    refine ⟨q.1, List.mem_range.mpr (List.getElem?_eq_some_iff.mp hv).1, ?_⟩
    rw [hv]
    simp [← h]
theorem LR.has {ad : Nat → Nat → Nat} {sa : Nat → Nat} {mls : Array Slot} {nL : Nat} {ls : List (Option AV)} (h : LR ad sa mls nL ls) : lv_has mls nL (lvO ad sa ls) := by
  refine ⟨h.1, h.2.2.1, fun q hq => ?_⟩
  obtain ⟨v, hv, e⟩ := lvO_mem.mp hq
  rw [e]
  exact h.2.2.2 _ _ hv
theorem LR.store {ad : Nat → Nat → Nat} {sa : Nat → Nat} {mls : Array Slot} {nL i : Nat} {ls : List (Option AV)} {v : AV} {w : Value} (h1 : ls.length = nL) (h : lv_has mls nL ((i, w) :: (lvO ad sa ls).filter (fun q => !(q.1 == i) && !(q.1 + 1 == i && q.2.category == 2)))) (hw : w = vV ad sa v) : LR ad sa mls nL (ls.set i (some v)) := by
  refine ⟨h.1, by rw [List.length_set]; exact h1, h.2.1, fun k x hk => ?_⟩
  rw [List.getElem?_set] at hk
  split at hk
  · rename_i hik
    subst hik
    split at hk
    · cases hk
      rw [← hw]
      exact h.2.2 (i, w) List.mem_cons_self
    · cases hk
  · rename_i hik
    refine h.2.2 (k, vV ad sa x) (List.mem_cons_of_mem _ (List.mem_filter.mpr ⟨lvO_mem.mpr ⟨x, hk, rfl⟩, ?_⟩))
    have hc := vV_cat ad sa x
    have : ¬ k = i := fun e => hik e.symm
    simp [this, hc]
def okL (σ : AS) (ls : List (Option AV)) : Prop := ∀ (k : Nat) (v : AV), ls[k]? = some (some v) → okV σ v
def okK (σ : AS) (st : List AV) : Prop := ∀ v, v ∈ st → okV σ v
def CNle (σ σ' : AS) : Prop := ∀ c, CN σ c ≤ CN σ' c
theorem okV_le {σ σ' : AS} (h : CNle σ σ') {v : AV} (hv : okV σ v) : okV σ' v := by
  rcases v with n | ⟨c, r⟩ | k
  · exact hv
  · exact fun a ha => Nat.lt_of_lt_of_le (hv a ha) (h c)
  · exact hv
theorem LR.ext {σ : AS} {ad ad' : Nat → Nat → Nat} {sa : Nat → Nat} {mls : Array Slot} {nL : Nat} {ls : List (Option AV)} (h : LR ad sa mls nL ls) (ho : okL σ ls) (hx : adX σ ad ad') : LR ad' sa mls nL ls :=
  ⟨h.1, h.2.1, h.2.2.1, fun k v hk => by rw [vV_ext hx (ho k v hk)]; exact h.2.2.2 k v hk⟩
theorem okK_map {σ : AS} {ad ad' : Nat → Nat → Nat} {sa : Nat → Nat} {st : List AV} (ho : okK σ st) (hx : adX σ ad ad') : st.map (vV ad' sa) = st.map (vV ad sa) :=
  List.map_congr_left (fun v hv => vV_ext hx (ho v hv))
theorem okL_set {σ : AS} {ls : List (Option AV)} {i : Nat} {v : AV} (h : okL σ ls) (hv : okV σ v) : okL σ (ls.set i (some v)) := by
  intro k x hk
  rw [List.getElem?_set] at hk
  split at hk
  · split at hk
    · cases hk; exact hv
    · cases hk
  · exact h k x hk
theorem adX_refl (σ : AS) (ad : Nat → Nat → Nat) : adX σ ad ad := fun _ _ _ => rfl
theorem adX.trans {σ σ' : AS} {a b c : Nat → Nat → Nat} (h1 : adX σ a b) (h2 : adX σ' b c) (h : CNle σ σ') : adX σ a c := fun k r hr => by rw [h2 k r (Nat.lt_of_lt_of_le hr (h k)), h1 k r hr]
theorem cats (ad : Nat → Nat → Nat) (sa : Nat → Nat) (t : List AV) : ((t.map (vV ad sa)).map fun v => v.category).sum = t.length := by
  induction t with
  | nil => rfl
  | cons v t ih =>
    simp only [List.map_cons, List.sum_cons, List.length_cons, vV_cat, ih]
    omega

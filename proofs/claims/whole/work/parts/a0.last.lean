/-! THE CLASS's Last: its list of nodes -/
theorem rowF.eq {σ : AS} {r c cap n : Nat} {f g : Nat → Int} (h : rowF σ r c cap n f) (e : ∀ k, k < n → f k = g k) : rowF σ r c cap n g := ⟨h.1, h.2.1, h.2.2.1, h.2.2.2.1, h.2.2.2.2.1, fun k hk => by rw [← e k hk]; exact h.2.2.2.2.2 k hk⟩
abbrev FL : Type := Nat × Nat × Nat × Nat
def entL (l : List FL) (i : Nat) : FL := l.getD i (0, 0, 0, 0)
def numF (x : FL) : Nat := if x.1 = 1 then x.2.2.1 else x.2.1
def soF (l : List FL) (i : Nat) : Int := ((entL l i).1 : Int)
def nuF (l : List FL) (i : Nat) : Int := (numF (entL l i) : Int)
def wiF (l : List FL) (i : Nat) : Int := ((entL l i).2.2.2 : Int)
/-- what a tree is, seen from its number -/
theorem isT.view {tab : Nat → TT} {K : Nat} {so nu fk ki : Nat → Int} {i : Nat} (h : isT tab K so nu fk ki i) : ∃ (c n m : Nat) (ids : List Nat) (f0 : Nat), so i = (c : Int) ∧ nu i = ((if c = 1 then m else n : Nat) : Int) ∧ (∀ d, flatT (tab i) d = (c, n, m, d) :: flatT (listT (ids.map tab)) (d + 1)) ∧ ((c = 0 ∧ ids.length = 0) ∨ (c = 1 ∧ ids.length = m) ∨ (c = 2 ∧ ids.length = 2)) ∧ (ids ≠ [] → fk i = (f0 : Int)) ∧ ∀ j id, ids[j]? = some id → id < i ∧ f0 + j < K ∧ ki (f0 + j) = (id : Int) := by
  have kl : ∀ (ts : List TT) (f0 : Nat), (∀ j, j < ts.length → f0 + j < K) → (∀ j t, ts[j]? = some t → ∃ id : Nat, id < i ∧ ki (f0 + j) = (id : Int) ∧ tab id = t) → ∃ ids : List Nat, ids.map tab = ts ∧ ∀ j id, ids[j]? = some id → id < i ∧ f0 + j < K ∧ ki (f0 + j) = (id : Int) := by
    intro ts
    induction ts with
    | nil => intro f0 _ _; exact ⟨[], rfl, fun j id h => by cases h⟩
    | cons t ts ih =>
      intro f0 h1 h2
      obtain ⟨id, a1, a2, a3⟩ := h2 0 t rfl
      obtain ⟨ids, b1, b2⟩ := ih (f0 + 1) (fun j hj => by have := h1 (j + 1) (by simp; omega); omega) (fun j u hj => by
        obtain ⟨id, c1, c2, c3⟩ := h2 (j + 1) u (by simpa using hj)
        exact ⟨id, c1, by rw [show f0 + 1 + j = f0 + (j + 1) by omega]; exact c2, c3⟩)
      refine ⟨id :: ids, by rw [List.map_cons, a3, b1], fun j u hj => ?_⟩
      cases j with
      | zero => cases hj; exact ⟨a1, h1 0 (by simp), a2⟩
      | succ j =>
        obtain ⟨c1, c2, c3⟩ := b2 j u (by simpa using hj)
        exact ⟨c1, by omega, by rw [show f0 + (j + 1) = f0 + 1 + j by omega]; exact c3⟩
  rcases h with ⟨n, hn, h1, h2, h3⟩ | ⟨ts, h1, h2, h3, f0, h4, h5, h6⟩ | ⟨c, a, b, hc, h1, h2, h3, f0, h4, h5, h6⟩
  · exact ⟨0, n, 0, [], 0, h2, h3, fun d => by rw [h1]; rfl, Or.inl ⟨rfl, rfl⟩, fun q => absurd rfl q, fun j id h => by cases h⟩
  · obtain ⟨ids, g1, g2⟩ := kl ts f0 h5 h6
    have hlen : ids.length = ts.length := by rw [← g1, List.length_map]
    refine ⟨1, 0, ts.length, ids, f0, h2, h3, fun d => by rw [h1, g1]; simp [boughT, flatT, lenT_list], Or.inr (Or.inl ⟨rfl, hlen⟩), fun _ => h4, g2⟩
  · obtain ⟨ids, g1, g2⟩ := kl [a, b] f0 h5 h6
    have hlen : ids.length = [a, b].length := by rw [← g1, List.length_map]
    refine ⟨2, c, 2, ids, f0, h2, h3, fun d => by rw [h1, g1]; simp [forkT, flatT, listT], Or.inr (Or.inr ⟨rfl, hlen⟩), fun _ => h4, g2⟩
def pendL (N : Nat) (tab : Nat → TT) (nu wi : Nat → Int) : List (Nat × Nat) → Nat → Prop
  | [], _ => True
  | x :: P, pos => nu pos = (x.1 : Int) ∧ wi pos = (x.2 : Int) ∧ (x.1 < N ∧ x.2 ≤ pos) ∧ pendL N tab nu wi P (pos + sizeT (tab x.1))
def totL (tab : Nat → TT) (P : List (Nat × Nat)) : Nat := sizeT (listT (P.map (fun x => tab x.1)))
def flaL (tab : Nat → TT) : List (Nat × Nat) → List FL
  | [] => []
  | x :: P => flatT (tab x.1) x.2 ++ flaL tab P
theorem pendL.after {N : Nat} {tab : Nat → TT} {nu wi nu' wi' : Nat → Int} : ∀ (P : List (Nat × Nat)) (pos : Nat), (∀ j, pos ≤ j → nu' j = nu j ∧ wi' j = wi j) → pendL N tab nu wi P pos → pendL N tab nu' wi' P pos
  | [], _, _, _ => trivial
  | x :: P, pos, h, ⟨a, b, c, d⟩ => ⟨by rw [(h pos (Nat.le_refl _)).1]; exact a, by rw [(h pos (Nat.le_refl _)).2]; exact b, c, pendL.after P _ (fun j hj => h j (by omega)) d⟩
theorem pendL.ahead {N : Nat} {tab : Nat → TT} {nu wi nu' wi' : Nat → Int} (hs : ∀ i, i < N → 1 ≤ sizeT (tab i)) : ∀ (P : List (Nat × Nat)) (pos : Nat), (∀ j, pos ≤ j → j < pos + totL tab P → nu' j = nu j ∧ wi' j = wi j) → pendL N tab nu wi P pos → pendL N tab nu' wi' P pos
  | [], _, _, _ => trivial
  | x :: P, pos, h, ⟨a, b, c, d⟩ => by
    have e : totL tab (x :: P) = sizeT (tab x.1) + totL tab P := rfl
    have := hs _ c.1
    have w := h pos (Nat.le_refl _) (by omega)
    exact ⟨by rw [w.1]; exact a, by rw [w.2]; exact b, c, pendL.ahead hs P _ (fun j h1 h2 => h j (by omega) (by omega)) d⟩
theorem pendL_app {N : Nat} {tab : Nat → TT} {nu wi : Nat → Int} : ∀ (P P' : List (Nat × Nat)) (pos : Nat), pendL N tab nu wi P pos → pendL N tab nu wi P' (pos + totL tab P) → pendL N tab nu wi (P ++ P') pos
  | [], P', pos, _, h => by simpa [totL, listT, sizeT] using h
  | x :: P, P', pos, ⟨a, b, c, d⟩, h => ⟨a, b, c, pendL_app P P' _ d (by
    have e : totL tab (x :: P) = sizeT (tab x.1) + totL tab P := rfl
    rw [e] at h
    rw [show pos + sizeT (tab x.1) + totL tab P = pos + (sizeT (tab x.1) + totL tab P) by omega]
    exact h)⟩
theorem flaL_app (tab : Nat → TT) : ∀ (P P' : List (Nat × Nat)), flaL tab (P ++ P') = flaL tab P ++ flaL tab P'
  | [], _ => rfl
  | x :: P, P' => by simp [flaL, flaL_app tab P P']
theorem flaL_kids (tab : Nat → TT) (d : Nat) : ∀ (ids : List Nat), flaL tab (ids.map (fun i => (i, d))) = flatT (listT (ids.map tab)) d
  | [] => rfl
  | x :: ids => by simp [flaL, listT, flatT, flaL_kids tab d ids]
theorem totL_kids (tab : Nat → TT) (d : Nat) (ids : List Nat) : totL tab (ids.map (fun i => (i, d))) = sizeT (listT (ids.map tab)) := by
  unfold totL
  rw [List.map_map]
  rfl
def rootP (o : Option Nat) : List (Nat × Nat) := match o with
  | none => []
  | some i => [(i, 0)]


/-! WHAT MAY BE NOTHING, WHAT COMES TO ITSELF, pure -/
section
variable {A : Type}
def itNo (N : Nat → Bool) (sub : A → Bool) (it : Item A) : Bool := decide (it.1.2.1 = 42 ∨ it.1.2.1 = 63) || (decide (it.1.1 = 4 ∨ it.1.1 = 5 ∨ it.1.1 = 7 ∨ it.1.1 = 9) || ((decide (it.1.1 = 12) && N it.1.2.2) || (decide (it.1.1 = 6 ∨ it.1.1 = 8 ∨ it.1.1 = 10 ∨ it.1.1 = 11) && sub it.2.2.1)))
def parHd (sub : A → Bool) (hd : A → Nat → Bool) (it : Item A) (r : Nat) : Bool := if it.1.1 = 12 then decide (r = it.1.2.2) else if it.1.1 ≤ 4 ∨ it.1.1 = 7 then false else hd it.2.2.1 r || (decide (it.1.1 = 10) && (sub it.2.2.1 && hd it.2.2.2 r))
def seqHd (N : Nat → Bool) (sub : A → Bool) (hd : A → Nat → Bool) : List (Item A) → Nat → Bool
  | [], _ => false
  | it :: l, r => parHd sub hd it r || (itNo N sub it && seqHd N sub hd l r)
end
def altNo (N : Nat → Bool) : (n : Nat) → PT n → Bool
  | 0, _ => false
  | n + 1, alt => (alt : List (List (Item (PT n)))).any (fun s => s.all (itNo N (altNo N n)))
def altHd (N : Nat → Bool) : (n : Nat) → PT n → Nat → Bool
  | 0, _, _ => false
  | n + 1, alt, r => (alt : List (List (Item (PT n)))).any (fun s => seqHd N (altNo N n) (altHd N n) s r)
/-- is r NOTHING, if those of N are -/
def ruNo (R : Nat → Option (PT 9)) (N : Nat → Bool) (r : Nat) : Bool := match R r with | none => false | some alt => altNo N 9 alt
def setB (N : Nat → Bool) (r : Nat) (b : Bool) : Nat → Bool := fun k => if k = r then b else N k
/-- the first n rules, one behind the other -/
def rndN (R : Nat → Option (PT 9)) (N : Nat → Bool) : Nat → Nat → Bool
  | 0 => N
  | n + 1 => setB (rndN R N n) n (rndN R N n n || ruNo R (rndN R N n) n)
def rnsN (R : Nat → Option (PT 9)) : Nat → Nat → Bool
  | 0 => fun _ => false
  | k + 1 => rndN R (rnsN R k) 8
def nulG (R : Nat → Option (PT 9)) : Nat → Bool := rnsN R 8
def hdG (R : Nat → Option (PT 9)) (r q : Nat) : Bool := match R r with | none => false | some alt => altHd (nulG R) 9 alt q
/-- through the rules below n -/
def warG (R : Nat → Option (PT 9)) : Nat → Nat → Nat → Bool
  | 0 => hdG R
  | n + 1 => fun r q => warG R n r q || (warG R n r n && warG R n n q)
def slfG (R : Nat → Option (PT 9)) (r : Nat) : Bool := warG R 8 r r
theorem any_mono {A : Type} {f g : A → Bool} (h : ∀ x, f x = true → g x = true) : ∀ l : List A, l.any f = true → l.any g = true := by
  intro l w
  rw [List.any_eq_true] at w ⊢
  obtain ⟨x, hx, hf⟩ := w
  exact ⟨x, hx, h x hf⟩
theorem itNo_mono {A : Type} {N N' : Nat → Bool} {sub sub' : A → Bool} (hN : ∀ r, N r = true → N' r = true) (hs : ∀ x, sub x = true → sub' x = true) (it : Item A) (h : itNo N sub it = true) : itNo N' sub' it = true := by
  unfold itNo at h ⊢
  simp only [Bool.or_eq_true, Bool.and_eq_true, decide_eq_true_eq] at h ⊢
  rcases h with h | h | ⟨h1, h2⟩ | ⟨h1, h2⟩
  · exact Or.inl h
  · exact Or.inr (Or.inl h)
  · exact Or.inr (Or.inr (Or.inl ⟨h1, hN _ h2⟩))
  · exact Or.inr (Or.inr (Or.inr ⟨h1, hs _ h2⟩))
theorem altNo_mono {N N' : Nat → Bool} (hN : ∀ r, N r = true → N' r = true) : ∀ (n : Nat) (alt : PT n), altNo N n alt = true → altNo N' n alt = true
  | 0, _, h => h
  | n + 1, alt, h => by
    unfold altNo at h ⊢
    refine any_mono (fun s hs => ?_) _ h
    rw [List.all_eq_true] at hs ⊢
    exact fun it hit => itNo_mono hN (altNo_mono hN n) it (hs it hit)
theorem ruNo_mono {R : Nat → Option (PT 9)} {N N' : Nat → Bool} (hN : ∀ r, N r = true → N' r = true) (r : Nat) (h : ruNo R N r = true) : ruNo R N' r = true := by
  unfold ruNo at h ⊢
  revert h
  cases R r with
  | none => exact id
  | some alt => exact altNo_mono hN 9 alt
theorem setB_le {N : Nat → Bool} {n : Nat} {b : Bool} (r : Nat) (h : N r = true) : setB N n (N n || b) r = true := by
  unfold setB
  split
  · rename_i w; subst w; rw [h]; rfl
  · exact h
theorem rndN_le {R : Nat → Option (PT 9)} {N : Nat → Bool} : ∀ (n r : Nat), N r = true → rndN R N n r = true
  | 0, _, h => h
  | n + 1, r, h => by
    unfold rndN
    exact setB_le r (rndN_le n r h)
/-- what is in N is so by N -/
def okN (R : Nat → Option (PT 9)) (N : Nat → Bool) : Prop := ∀ r, N r = true → ruNo R N r = true
theorem okN_set {R : Nat → Option (PT 9)} {N : Nat → Bool} {n : Nat} (h : okN R N) : okN R (setB N n (N n || ruNo R N n)) := by
  intro r hr
  refine ruNo_mono (N := N) (fun k hk => setB_le k hk) r ?_
  unfold setB at hr
  split at hr
  · rename_i w
    subst w
    rcases Bool.or_eq_true _ _ |>.mp hr with q | q
    · exact h _ q
    · exact q
  · exact h _ hr
theorem okN_rnd {R : Nat → Option (PT 9)} {N : Nat → Bool} (h : okN R N) : ∀ n, okN R (rndN R N n)
  | 0 => h
  | n + 1 => okN_set (okN_rnd h n)
theorem okN_rns (R : Nat → Option (PT 9)) : ∀ k, okN R (rnsN R k)
  | 0 => fun _ h => by cases h
  | k + 1 => okN_rnd (okN_rns R k) 8
/-- the MODEL sets it anew: the same -/
theorem okN_new {R : Nat → Option (PT 9)} {N : Nat → Bool} (h : okN R N) (n : Nat) : (N n || ruNo R N n) = ruNo R N n := by
  cases hn : N n with
  | false => rfl
  | true => rw [h n hn]; rfl
def cntB (N : Nat → Bool) : Nat := ((List.range 8).filter N).length
theorem cntB_lt {N N' : Nat → Bool} (hle : ∀ r, N r = true → N' r = true) (hz : ∀ r, 8 ≤ r → N' r = false) (hne : N ≠ N') : cntB N < cntB N' := by
  have : ∃ r, N r ≠ N' r := Classical.byContradiction (fun w => hne (funext (fun r => Classical.byContradiction (fun q => w ⟨r, q⟩))))
  obtain ⟨r, hr⟩ := this
  have h1 : N r = false := by
    cases h : N r with
    | false => rfl
    | true => exact absurd (by rw [h, hle r h]) hr
  have h2 : N' r = true := by
    cases h : N' r with
    | true => rfl
    | false => exact absurd (by rw [h1, h]) hr
  have h3 : r < 8 := by
    rcases Nat.lt_or_ge r 8 with w | w
    · exact w
    · rw [hz r w] at h2; cases h2
  unfold cntB
  have aux : ∀ n, ((List.range n).filter N).length + (if r < n then 1 else 0) ≤ ((List.range n).filter N').length := by
    intro n
    induction n with
    | zero => simp
    | succ n ih =>
      rw [List.range_succ, List.filter_append, List.filter_append, List.length_append, List.length_append]
      by_cases w : r = n
      · subst w
        rw [List.filter_cons_of_neg (by simp [h1]), List.filter_cons_of_pos h2]
        rw [if_neg (by omega)] at ih
        rw [if_pos (by omega)]
        simp
        omega
      · have : (List.filter N [n]).length ≤ (List.filter N' [n]).length := by
          cases hn : N n with
          | false => rw [List.filter_cons_of_neg (by simp [hn])]; simp
          | true => rw [List.filter_cons_of_pos hn, List.filter_cons_of_pos (hle n hn)]; simp
        by_cases w2 : r < n
        · rw [if_pos w2] at ih; rw [if_pos (by omega)]; omega
        · rw [if_neg w2] at ih; rw [if_neg (by omega)]; omega
  have := aux 8
  rw [if_pos h3] at this
  omega
theorem rndN_hi {R : Nat → Option (PT 9)} {N : Nat → Bool} (h : ∀ r, 8 ≤ r → N r = false) : ∀ n, n ≤ 8 → ∀ r, 8 ≤ r → rndN R N n r = false
  | 0, _, r, hr => h r hr
  | n + 1, hn, r, hr => by
    unfold rndN setB
    rw [if_neg (by omega)]
    exact rndN_hi h n (by omega) r hr
theorem rnsN_hi (R : Nat → Option (PT 9)) : ∀ k r, 8 ≤ r → rnsN R k r = false
  | 0, _, _ => rfl
  | k + 1, r, hr => rndN_hi (rnsN_hi R k) 8 (Nat.le_refl _) r hr
theorem rnsN_stop (R : Nat → Option (PT 9)) : ∀ k, rnsN R k = rnsN R (k + 1) ∨ k + 1 ≤ cntB (rnsN R (k + 1)) := by
  intro k
  induction k with
  | zero =>
    by_cases w : rnsN R 0 = rnsN R 1
    · exact Or.inl w
    · have := cntB_lt (N := rnsN R 0) (N' := rnsN R 1) (fun r h => by cases h) (rnsN_hi R 1) w
      exact Or.inr (by show 1 ≤ cntB (rnsN R 1); omega)
  | succ k ih =>
    by_cases w : rnsN R (k + 1) = rnsN R (k + 2)
    · exact Or.inl w
    · have h1 : cntB (rnsN R (k + 1)) < cntB (rnsN R (k + 2)) := cntB_lt (N := rnsN R (k + 1)) (N' := rnsN R (k + 2)) (fun r h => rndN_le 8 r h) (rnsN_hi R (k + 2)) w
      rcases ih with q | q
      · exfalso
        apply w
        show rnsN R (k + 1) = rndN R (rnsN R (k + 1)) 8
        rw [← q]
        exact q
      · exact Or.inr (by show k + 2 ≤ cntB (rnsN R (k + 2)); omega)
theorem rnsN_9 (R : Nat → Option (PT 9)) : rnsN R 9 = nulG R := by
  rcases rnsN_stop R 8 with h | h
  · exact h.symm
  · exfalso
    have : ((List.range 8).filter (rnsN R (8 + 1))).length ≤ _ := List.length_filter_le (rnsN R (8 + 1)) (List.range 8)
    rw [List.length_range] at this
    unfold cntB at h
    omega
theorem war_le {R : Nat → Option (PT 9)} {r q : Nat} : ∀ {n m : Nat}, n ≤ m → warG R n r q = true → warG R m r q = true := by
  intro n m h w
  induction h with
  | refl => exact w
  | step _ ih => unfold warG; rw [ih]; rfl
/-- what is reached through rules below n, is reached -/
theorem war_tr {R : Nat → Option (PT 9)} : ∀ (n i a b : Nat), i < n → warG R n a i = true → warG R n i b = true → warG R n a b = true := by
  intro n
  induction n with
  | zero => intro i a b h; omega
  | succ n ih =>
    intro i a b hi h1 h2
    unfold warG at h1 h2 ⊢
    simp only [Bool.or_eq_true, Bool.and_eq_true] at h1 h2 ⊢
    by_cases e : i = n
    · subst e
      have g1 : warG R i a i = true := by rcases h1 with h | h; exact h; exact h.1
      have g2 : warG R i i b = true := by rcases h2 with h | h; exact h; exact h.2
      exact Or.inr ⟨g1, g2⟩
    · have hi : i < n := by omega
      rcases h1 with h1 | ⟨h1, h1'⟩
      · rcases h2 with h2 | ⟨h2, h2'⟩
        · exact Or.inl (ih i a b hi h1 h2)
        · exact Or.inr ⟨ih i a n hi h1 h2, h2'⟩
      · rcases h2 with h2 | ⟨h2, h2'⟩
        · exact Or.inr ⟨h1, ih i n b hi h1' h2⟩
        · exact Or.inr ⟨h1, h2'⟩


/-! WHAT READING A GRAMMAR GIVES, pure -/
abbrev AT : Type := Nat × Nat × Nat × Int × Int
/-- where it is (no blank there); atoms; names: place, rule -/
abbrev RT : Type := Nat × List AT × List (Nat × Nat)
/-- a FAULT's place, or what was read and where it is then -/
abbrev PR (A : Type) : Type := Sum Nat (A × RT)
def skF (f : Nat → Int) (n : Nat) : Nat → Nat → Nat
  | 0, a => a
  | k + 1, a => if a < n ∧ f a = 32 then skF f n k (a + 1) else a
/-- past the blanks -/
def sk (t : TP) (a : Nat) : Nat := skF t.2 t.1 (t.1 - a) a
def chT (t : TP) (a : Nat) : Int := if a < t.1 then t.2 a else -1
theorem sk_step {t : TP} {a : Nat} (h : a < t.1) (h2 : t.2 a = 32) : sk t a = sk t (a + 1) := by
  unfold sk
  rw [show t.1 - a = (t.1 - (a + 1)) + 1 by omega]
  simp only [skF]
  rw [if_pos ⟨h, h2⟩]
theorem sk_stop {t : TP} {a : Nat} (h : ¬ (a < t.1 ∧ t.2 a = 32)) : sk t a = a := by
  unfold sk
  cases hk : t.1 - a with
  | zero => rfl
  | succ k => simp only [skF]; rw [if_neg h]
theorem sk_all (t : TP) : ∀ (k a : Nat), t.1 - a = k → a ≤ sk t a ∧ (a ≤ t.1 → sk t a ≤ t.1) ∧ ¬ (sk t a < t.1 ∧ t.2 (sk t a) = 32)
  | 0, a, h => by
    rw [sk_stop (by omega)]
    exact ⟨Nat.le_refl _, id, by omega⟩
  | k + 1, a, h => by
    by_cases w : a < t.1 ∧ t.2 a = 32
    · rw [sk_step w.1 w.2]
      obtain ⟨h1, h2, h3⟩ := sk_all t k (a + 1) (by omega)
      exact ⟨by omega, fun _ => h2 (by omega), h3⟩
    · rw [sk_stop w]
      exact ⟨Nat.le_refl _, id, w⟩
theorem sk_ge (t : TP) (a : Nat) : a ≤ sk t a := (sk_all t _ a rfl).1
theorem sk_le {t : TP} {a : Nat} (h : a ≤ t.1) : sk t a ≤ t.1 := (sk_all t _ a rfl).2.1 h
theorem sk_sk (t : TP) (a : Nat) : sk t (sk t a) = sk t a := sk_stop (sk_all t _ a rfl).2.2
def isNm (c : Int) : Bool := decide (65 ≤ c ∧ c ≤ 72)
def isSm (c : Int) : Bool := decide (97 ≤ c ∧ c ≤ 122)
def ahP (c : Int) : Bool := decide (c = 39 ∨ c = 91 ∨ c = 40) || isNm c || isSm c
/-- the end of the small letters -/
def weF (f : Nat → Int) (n : Nat) : Nat → Nat → Nat
  | 0, a => a
  | k + 1, a => if a < n ∧ isSm (f a) = true then weF f n k (a + 1) else a
def we (t : TP) (a : Nat) : Nat := weF t.2 t.1 (t.1 - a) a
theorem we_step {t : TP} {a : Nat} (h : a < t.1) (h2 : isSm (t.2 a) = true) : we t a = we t (a + 1) := by
  unfold we
  rw [show t.1 - a = (t.1 - (a + 1)) + 1 by omega]
  simp only [weF]
  rw [if_pos ⟨h, h2⟩]
theorem we_stop {t : TP} {a : Nat} (h : ¬ (a < t.1 ∧ isSm (t.2 a) = true)) : we t a = a := by
  unfold we
  cases hk : t.1 - a with
  | zero => rfl
  | succ k => simp only [weF]; rw [if_neg h]
theorem we_all (t : TP) : ∀ (k a : Nat), t.1 - a = k → a ≤ we t a ∧ (a ≤ t.1 → we t a ≤ t.1) ∧ ∀ j, a ≤ j → j < we t a → isSm (t.2 j) = true
  | 0, a, h => by
    rw [we_stop (by omega)]
    exact ⟨Nat.le_refl _, id, fun j h1 h2 => by omega⟩
  | k + 1, a, h => by
    by_cases w : a < t.1 ∧ isSm (t.2 a) = true
    · rw [we_step w.1 w.2]
      obtain ⟨h1, h2, h3⟩ := we_all t k (a + 1) (by omega)
      refine ⟨by omega, fun _ => h2 (by omega), fun j w1 w2 => ?_⟩
      by_cases e : j = a
      · rw [e]; exact w.2
      · exact h3 j (by omega) w2
    · rw [we_stop w]
      exact ⟨Nat.le_refl _, id, fun j h1 h2 => by omega⟩
/-- the letters at p are those of w -/
def isW (t : TP) (p e : Nat) (w : List Nat) : Bool := decide (e = p + w.length) && (List.range w.length).all (fun i => decide (t.2 (p + i) = ((w.getD i 0 : Nat) : Int)))
def kdW (t : TP) (p e : Nat) : Option Nat :=
  if isW t p e [100, 105, 103, 105, 116] then some 2
  else if isW t p e [97, 110, 121] then some 3
  else if isW t p e [101, 110, 100] then some 4
  else if isW t p e [99, 117, 116] then some 7
  else if isW t p e [116, 114, 121] then some 8
  else if isW t p e [110, 111, 116] then some 5
  else if isW t p e [108, 111, 111, 107] then some 9
  else if isW t p e [97, 115] then some 6
  else if isW t p e [99, 104, 97, 105, 110] then some 10
  else none
section
variable {A : Type}
def mkI (kind num : Nat) (lo hi : Int) (b c : A) : Item A := ((kind, 0, num), (lo, hi), b, c)
def tmI (it : Item A) (times : Nat) : Item A := ((it.1.1, times, it.1.2.2), it.2)
/-- ( ALT ) -/
def bodP (t : TP) (dA : A) (alt : Option (RT → PR A)) (kind num : Nat) (st : RT) : PR (Item A) := match alt with
  | none => .inl st.1
  | some alt => if chT t st.1 = 40 then (match alt (sk t (st.1 + 1), st.2) with
    | .inl p => .inl p
    | .inr x => if chT t x.2.1 = 41 then .inr (mkI kind num (-1) (-1) x.1 dA, (sk t (x.2.1 + 1), x.2.2)) else .inl x.2.1) else .inl st.1
/-- ( ALT , ALT ) -/
def chaP (t : TP) (alt : Option (RT → PR A)) (st : RT) : PR (Item A) := match alt with
  | none => .inl st.1
  | some alt => if chT t st.1 = 40 then (match alt (sk t (st.1 + 1), st.2) with
    | .inl p => .inl p
    | .inr x => if chT t x.2.1 = 44 then (match alt (sk t (x.2.1 + 1), x.2.2) with
      | .inl p => .inl p
      | .inr y => if chT t y.2.1 = 41 then .inr (mkI 10 0 (-1) (-1) x.1 y.1, (sk t (y.2.1 + 1), y.2.2)) else .inl y.2.1) else .inl x.2.1) else .inl st.1
def quoP (t : TP) (rule : Nat) (dA : A) (st : RT) : PR (Item A) :=
  if 32 ≤ st.2.1.length then .inl st.1
  else if chT t (st.1 + 1) = -1 ∨ chT t (st.1 + 1) = 39 then .inl (st.1 + 1)
  else if chT t (st.1 + 2) = 39 then .inr (mkI 0 st.2.1.length (chT t (st.1 + 1)) (chT t (st.1 + 1)) dA dA, (sk t (st.1 + 3), st.2.1 ++ [(rule, st.1, 0, chT t (st.1 + 1), chT t (st.1 + 1))], st.2.2))
  else .inl (st.1 + 2)
def ranP (t : TP) (rule : Nat) (dA : A) (st : RT) : PR (Item A) :=
  if 32 ≤ st.2.1.length then .inl st.1
  else if chT t (st.1 + 1) = -1 then .inl (st.1 + 1)
  else if chT t (st.1 + 2) < chT t (st.1 + 1) then .inl (st.1 + 2)
  else if chT t (st.1 + 3) = 93 then .inr (mkI 1 st.2.1.length (chT t (st.1 + 1)) (chT t (st.1 + 2)) dA dA, (sk t (st.1 + 4), st.2.1 ++ [(rule, st.1, 1, chT t (st.1 + 1), chT t (st.1 + 2))], st.2.2))
  else .inl (st.1 + 3)
def worP (t : TP) (rule : Nat) (dA : A) (alt : Option (RT → PR A)) (st : RT) : PR (Item A) := match kdW t st.1 (we t st.1) with
  | none => .inl st.1
  | some k =>
    if k ≤ 6 then
      if 32 ≤ st.2.1.length then .inl st.1
      else
        let st1 : RT := (sk t (we t st.1), st.2.1 ++ [(rule, st.1, k, -1, -1)], st.2.2)
        if k = 5 ∨ k = 6 then bodP t dA alt k st.2.1.length st1 else .inr (mkI k st.2.1.length (-1) (-1) dA dA, st1)
    else
      let st1 : RT := (sk t (we t st.1), st.2)
      if k = 7 then .inr (mkI 7 0 (-1) (-1) dA dA, st1) else if k = 10 then chaP t alt st1 else bodP t dA alt k 0 st1
def parP (t : TP) (rule : Nat) (dA : A) (alt : Option (RT → PR A)) (st : RT) : PR (Item A) :=
  if chT t st.1 = 39 then quoP t rule dA st
  else if chT t st.1 = 91 then ranP t rule dA st
  else if chT t st.1 = 40 then bodP t dA alt 11 0 st
  else if isNm (chT t st.1) = true then .inr (mkI 12 (chT t st.1 - 65).toNat (-1) (-1) dA dA, (sk t (st.1 + 1), st.2.1, st.2.2 ++ [(st.1, (chT t st.1 - 65).toNat)]))
  else worP t rule dA alt st
def timP (t : TP) (x : Item A × RT) : Item A × RT := if chT t x.2.1 = 42 then (tmI x.1 42, (sk t (x.2.1 + 1), x.2.2)) else if chT t x.2.1 = 43 then (tmI x.1 43, (sk t (x.2.1 + 1), x.2.2)) else if chT t x.2.1 = 63 then (tmI x.1 63, (sk t (x.2.1 + 1), x.2.2)) else x
def itmP (t : TP) (rule : Nat) (dA : A) (alt : Option (RT → PR A)) (st : RT) : PR (Item A) := if ahP (chT t st.1) = true then (match parP t rule dA alt st with
    | .inl p => .inl p
    | .inr x => .inr (timP t x)) else .inl st.1
def seqLP (t : TP) (rule : Nat) (dA : A) (alt : Option (RT → PR A)) : Nat → List (Item A) → RT → PR (List (Item A))
  | 0, acc, st => .inr (acc, st)
  | f + 1, acc, st => if ahP (chT t st.1) = true then (match itmP t rule dA alt st with
    | .inl p => .inl p
    | .inr x => seqLP t rule dA alt f (acc ++ [x.1]) x.2) else .inr (acc, st)
def seqP (t : TP) (rule : Nat) (dA : A) (alt : Option (RT → PR A)) (st : RT) : PR (List (Item A)) := match itmP t rule dA alt st with
  | .inl p => .inl p
  | .inr x => seqLP t rule dA alt 240 [x.1] x.2
def altLP (t : TP) (rule : Nat) (dA : A) (alt : Option (RT → PR A)) : Nat → List (List (Item A)) → RT → PR (List (List (Item A)))
  | 0, acc, st => .inr (acc, st)
  | f + 1, acc, st => if chT t st.1 = 124 then (match seqP t rule dA alt (sk t (st.1 + 1), st.2) with
    | .inl p => .inl p
    | .inr x => altLP t rule dA alt f (acc ++ [x.1]) x.2) else .inr (acc, st)
def altP (t : TP) (rule : Nat) (dA : A) (alt : Option (RT → PR A)) (st : RT) : PR (List (List (Item A))) := match seqP t rule dA alt st with
  | .inl p => .inl p
  | .inr x => altLP t rule dA alt 240 [x.1] x.2
end
def dfP : (n : Nat) → PT n
  | 0 => ()
  | n + 1 => ([] : List (List (Item (PT n))))
/-- k more ( may be open -/
def altD (t : TP) (rule : Nat) : (k : Nat) → RT → PR (PT (k + 1))
  | 0 => altP t rule (dfP 0) none
  | k + 1 => altP t rule (dfP (k + 1)) (some (altD t rule k))
/-- the rules so far, and where it is -/
def rulP (t : TP) (R : Nat → Option (PT 9)) (st : RT) : PR (Nat → Option (PT 9)) :=
  if isNm (chT t st.1) = true ∧ (R (chT t st.1 - 65).toNat).isSome = false then
    let r := (chT t st.1 - 65).toNat
    let p := sk t (st.1 + 1)
    if chT t p = 61 then (match altD t r 8 (sk t (p + 1), st.2) with
      | .inl q => .inl q
      | .inr x => if chT t x.2.1 = 59 then .inr (fun k => if k = r then some x.1 else R k, (sk t (x.2.1 + 1), x.2.2)) else .inl x.2.1) else .inl p
  else .inl st.1
def rulLP (t : TP) : Nat → (Nat → Option (PT 9)) → RT → PR (Nat → Option (PT 9))
  | 0, R, st => .inr (R, st)
  | f + 1, R, st => if st.1 < t.1 then (match rulP t R st with
    | .inl p => .inl p
    | .inr x => rulLP t f x.1 x.2) else .inr (R, st)
def rulsP (t : TP) : PR (Nat → Option (PT 9)) := match rulP t (fun _ => none) (sk t 0, [], []) with
  | .inl p => .inl p
  | .inr x => rulLP t 8 x.1 x.2
def readE (t : TP) : Sum Nat ((Nat → Option (PT 9)) × List AT) := match rulsP t with
  | .inl p => .inl p
  | .inr x => match x.2.2.2.find? (fun y => (x.1 y.2).isSome == false) with
    | some y => .inl y.1
    | none => .inr (x.1, x.2.2.1)


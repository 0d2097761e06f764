/-! THE SPECIFICATION OF A PARSE, pure -/
/-- trees: num n a LEAF, mulL 0 (list) a BOUGH, mulR (add a b) c a FORK of byte c; lists: add t ts, var 0 -/
abbrev TT : Type := Nat.Internal.Linear.Expr
def listT : List TT → TT
  | [] => .var 0
  | t :: ts => .add t (listT ts)
def boughT (ts : List TT) : TT := .mulL 0 (listT ts)
def forkT (c : Nat) (a b : TT) : TT := .mulR (.add a b) c
def lenT : TT → Nat
  | .add _ ts => 1 + lenT ts
  | _ => 0
def sizeT : TT → Nat
  | .num _ => 1
  | .var _ => 0
  | .add a b => sizeT a + sizeT b
  | .mulL _ ts => 1 + sizeT ts
  | .mulR ab _ => 1 + sizeT ab
def nodesT : TT → Nat → List (Nat × Nat × Nat)
  | .num n, d => [(0, n, d)]
  | .var _, _ => []
  | .add a b, d => nodesT a d ++ nodesT b d
  | .mulL _ ts, d => (1, lenT ts, d) :: nodesT ts (d + 1)
  | .mulR ab c, d => (2, c, d) :: nodesT ab (d + 1)
def reck (c : Nat) (a b : Int) : Int := if c = 43 then wr (a + b) else if c = 45 then wr (a - b) else if c = 42 then wr (a * b) else 0
/-- 10 times what there is so far, and the worth -/
def worthA : TT → Int → Int
  | .num n, acc => wr (wr (acc * 10) + n)
  | .var _, acc => acc
  | .add a b, acc => worthA b (worthA a acc)
  | .mulL _ ts, acc => wr (wr (acc * 10) + worthA ts 0)
  | .mulR (.add a b) c, acc => wr (wr (acc * 10) + reck c (worthA a 0) (worthA b 0))
  | .mulR _ _, acc => wr (wr (acc * 10) + 0)
def worthT (t : TT) : Int := worthA t 0
def digs (n : Nat) : List Int := (if 100 ≤ n then [((48 + n / 100 : Nat) : Int)] else []) ++ (if 10 ≤ n then [((48 + n / 10 % 10 : Nat) : Int)] else []) ++ [((48 + n % 10 : Nat) : Int)]
def textA : TT → Option (Int × Bool) → List Int
  | .num n, _ => digs n
  | .var _, _ => []
  | .add a b, some (sep, first) => (if first then [] else [sep]) ++ textA a none ++ textA b (some (sep, false))
  | .add _ _, none => []
  | .mulL _ ts, _ => 91 :: textA ts (some (44, true)) ++ [93]
  | .mulR (.add a b) c, _ => 40 :: textA a none ++ [if c = 0 then 63 else (c : Int)] ++ textA b none ++ [41]
  | .mulR _ _, _ => []
def textT (t : TT) : List Int := textA t none
-- grammars: an item is (what it is, its sign, its ATOM's or NAME's number), (first byte, second), its ALT, its second ALT
abbrev Item (A : Type) : Type := (Nat × Nat × Nat) × (Int × Int) × A × A
def PT : Nat → Type
  | 0 => Unit
  | n + 1 => List (List (Item (PT n)))
abbrev Ans : Type := Int × Option TT × Bool
/-- steps, steps of all, answers from MEMORY; FAR, WANTED; MEMORY: none, being run, an answer -/
abbrev ES : Type := (Nat × Nat × Nat) × (Int × Int) × (Nat → Option (Option Ans))
abbrev RR : Type := Int × Option TT × Bool × ES
def noteE (p : Nat) (bits : Int) (fw : Int × Int) : Int × Int := if fw.1 < (p : Int) then ((p : Int), bits) else if (p : Int) = fw.1 then (fw.1, iOr fw.2 bits) else fw
def noteS (p : Nat) (bits : Int) (st : ES) : ES := (st.1, noteE p bits st.2.1, st.2.2)
def expE (a p : Nat) (st : ES) : ES := noteS p (iShl 1 (a : Nat)) st
section
variable {I : Type}
def altsE (sq : List I → Nat → ES → RR) : List (List I) → Nat → ES → RR
  | [], _, st => (-5, none, false, st)
  | s :: ss, p, st =>
    let r := sq s p st
    if r.1 = -5 ∧ r.2.2.1 = false then altsE sq ss p r.2.2.2 else r
/-- a SEQ's end: its tree -/
def joinE (p : Nat) (held : List TT) (quoted : Option TT) (cut : Bool) (st : ES) : RR := match held with
  | [] => ((p : Int), quoted, cut, st)
  | [t] => ((p : Int), some t, cut, st)
  | ts => if 2000 < sizeT (boughT ts) then (-19, none, false, st) else ((p : Int), some (boughT ts), cut, st)
def seqE (item : I → Nat → ES → RR) (just : I → Bool) : List I → Nat → Bool → List TT → Option TT → ES → RR
  | [], p, cut, held, quoted, st => joinE p held quoted cut st
  | it :: rest, p, cut, held, quoted, st =>
    let r := item it p st
    if r.1 < 0 then (r.1, none, cut || r.2.2.1, r.2.2.2)
    else if just it = true then seqE item just rest r.1.toNat (cut || r.2.2.1) held (match quoted with | none => r.2.1 | some q => some q) r.2.2.2
    else seqE item just rest r.1.toNat (cut || r.2.2.1) (held ++ r.2.1.toList) quoted r.2.2.2
end
/-- a repetition: f more rounds at most -/
def repE (part : Nat → ES → RR) (plus : Bool) : Nat → Nat → Bool → List TT → Bool → ES → RR
  | 0, _, _, _, _, st => (-17, none, false, st)
  | f + 1, p, cut, acc, first, st =>
    let r := part p st
    if r.1 < -5 then r
    else if r.1 = -5 then
      if r.2.2.1 = true then r
      else if plus = true ∧ first = true then (-5, none, false, r.2.2.2)
      else if 2000 < sizeT (boughT acc) then (-19, none, false, r.2.2.2)
      else ((p : Int), some (boughT acc), cut, r.2.2.2)
    else if r.1 = (p : Int) then (-15, none, false, r.2.2.2)
    else repE part plus f r.1.toNat (cut || r.2.2.1) (acc ++ r.2.1.toList) false r.2.2.2
def itemE (part : Nat → ES → RR) (times : Nat) (p : Nat) (st : ES) : RR :=
  if times = 0 then part p st
  else if times = 63 then
    let r := part p st
    if r.1 = -5 ∧ r.2.2.1 = false then ((p : Int), some (boughT []), false, r.2.2.2) else r
  else repE part (decide (times = 43)) 1001 p false [] true st
/-- behind the first ALT of a chain -/
def chainE (a b : Nat → ES → RR) : Nat → Nat → Option TT → Bool → ES → RR
  | 0, _, _, _, st => (-17, none, false, st)
  | f + 1, p, whole, cut, st =>
    let r := b p st
    if r.1 < 0 then (if r.1 = -5 ∧ r.2.2.1 = false then ((p : Int), whole, cut, r.2.2.2) else r)
    else
      let q := a r.1.toNat r.2.2.2
      let sh := q.2.2.1 || r.2.2.1
      if q.1 < 0 then (if q.1 = -5 ∧ sh = false then ((p : Int), whole, cut, q.2.2.2) else (q.1, none, sh, q.2.2.2))
      else if q.1 = (p : Int) then (-15, none, false, q.2.2.2)
      else
        let t := forkT (match r.2.1 with | some (.num n) => n | _ => 0) (whole.getD (boughT [])) (q.2.1.getD (boughT []))
        if 2000 < sizeT t then (-19, none, false, q.2.2.2)
        else chainE a b f q.1.toNat (some t) (cut || sh) q.2.2.2
def fitsE (kind : Nat) (lo hi s : Int) : Bool := if kind = 2 then decide (48 ≤ s ∧ s ≤ 57) else if kind = 3 then true else decide (lo ≤ s ∧ s ≤ hi)
/-- ' ', [ ], digit, any, end -/
def matchE (inp : Nat → Int) (size : Nat) (kind atom : Nat) (lo hi : Int) (p : Nat) (st : ES) : RR :=
  if kind = 4 then (if p < size then (-5, none, false, expE atom p st) else ((p : Int), none, false, st))
  else if p < size ∧ fitsE kind lo hi (inp p) = true then (((p + 1 : Nat) : Int), some (.num (if kind = 2 then (inp p - 48).toNat else (inp p).toNat)), false, st)
  else (-5, none, false, expE atom p st)
/-- ( ), try, look, not, as: kinds 11, 8, 9, 5, 6 -/
def brackE (alt : Nat → ES → RR) (kind atom p : Nat) (st : ES) : RR :=
  if kind = 5 then
    let r := alt p (st.1, (-1, 0), st.2.2)
    let st1 : ES := (r.2.2.2.1, st.2.1, r.2.2.2.2.2)
    if r.1 < -5 then (r.1, none, false, st1)
    else if r.1 = -5 then ((p : Int), none, false, st1)
    else (-5, none, false, expE atom p st1)
  else if kind = 6 then
    let r := alt p (st.1, (-1, 0), st.2.2)
    let fw := r.2.2.2.2.1
    let st1 : ES := (r.2.2.2.1, st.2.1, r.2.2.2.2.2)
    if r.1 < -5 then (r.1, none, false, st1)
    else
      let st2 : ES := if 0 ≤ r.1 ∨ (p : Int) < fw.1 then (if fw.1 < 0 then st1 else noteS fw.1.toNat fw.2 st1) else st1
      if r.1 = -5 then (-5, none, r.2.2.1, expE atom p st2) else (r.1, r.2.1, r.2.2.1, st2)
  else
    let r := alt p st
    if kind = 9 ∧ 0 ≤ r.1 then ((p : Int), r.2.1, false, r.2.2.2) else (r.1, r.2.1, r.2.2.1 && decide (kind = 11), r.2.2.2)
/-- a STEP, and what the PART answers; deep: 60 others are around it -/
def partE (inp : Nat → Int) (size : Nat) {A : Type} (alt : A → Nat → ES → RR) (ruled : Nat → Nat → ES → RR) (deep : Bool) (it : Item A) (p : Nat) (st : ES) : RR :=
  if 1000 ≤ st.1.1 ∨ 40000 ≤ st.1.2.1 then (-17, none, false, st)
  else
    let st1 : ES := ((st.1.1 + 1, st.1.2.1 + 1, st.1.2.2), st.2)
    if deep = true then (-18, none, false, st1)
    else if it.1.1 = 12 then
      match st1.2.2 (it.1.2.2 * 241 + p) with
      | none => ruled it.1.2.2 p st1
      | some none => (-16, none, false, st1)
      | some (some (a, t, s)) => (a, t, s, ((st1.1.1, st1.1.2.1, st1.1.2.2 + 1), st1.2))
    else if it.1.1 = 7 then ((p : Int), none, true, st1)
    else if it.1.1 ≤ 4 then matchE inp size it.1.1 it.1.2.2 it.2.1.1 it.2.1.2 p st1
    else if it.1.1 = 10 then
      let r := alt it.2.2.1 p st1
      if r.1 < 0 then r else chainE (alt it.2.2.1) (alt it.2.2.2) 1001 r.1.toNat r.2.1 r.2.2.1 r.2.2.2
    else brackE (alt it.2.2.1) it.1.1 it.1.2.2 p st1
def justI {A : Type} (it : Item A) : Bool := decide (it.1.1 = 0 ∧ it.1.2.1 = 0)
def memS (st : ES) (key : Nat) (v : Option Ans) : ES := (st.1, st.2.1, fun k => if k = key then some v else st.2.2 k)
/-- the ALTs within: k more PARTS may be around one another -/
def altE (inp : Nat → Int) (size : Nat) (rules : Nat → PT 9) : Nat → (n : Nat) → PT n → Nat → ES → RR
  | 0, _, _, _, st => (-18, none, false, st)
  | _ + 1, 0, _, _, st => (-5, none, false, st)
  | k + 1, n + 1, alt, p, st =>
    let ruled := fun r p st =>
      let q := altE inp size rules k 9 (rules r) p (memS st (r * 241 + p) none)
      if q.1 < -5 then q else (q.1, q.2.1, q.2.2.1, memS q.2.2.2 (r * 241 + p) (some (q.1, q.2.1, q.2.2.1)))
    altsE (fun s p st => seqE (fun (it : Item (PT n)) p st => itemE (partE inp size (fun a => altE inp size rules k n a) ruled (decide (k = 0)) it) it.1.2.1 p st) justI s p false [] none st) alt p st
/-- a RULE at a PLACE, its MEMORY empty ahead -/
def parseE (inp : Nat → Int) (size : Nat) (rules : Nat → PT 9) (r p spent : Nat) : RR :=
  let q := altE inp size rules 61 9 (rules r) p (memS ((0, spent, 0), (-1, 0), fun _ => none) (r * 241 + p) none)
  if q.1 < -5 then q else (q.1, q.2.1, q.2.2.1, memS q.2.2.2 (r * 241 + p) (some (q.1, q.2.1, q.2.2.1)))


/-! THE ABSTRACT MACHINE: values, states, one step, runs, weakest preconditions. A reference is (kind, number among its kind). -/
abbrev AV : Type := Sum Int (Sum (Nat × Option Nat) Nat)
abbrev vi (x : Int) : AV := Sum.inl x
abbrev vo (c : Nat) (r : Option Nat) : AV := Sum.inr (Sum.inl (c, r))
abbrev vr (c a : Nat) : AV := Sum.inr (Sum.inl (c, some a))
abbrev vn (c : Nat) : AV := Sum.inr (Sum.inl (c, none))
abbrev vs (k : Nat) : AV := Sum.inr (Sum.inr k)
/-- fields of numbers, fields of references, arrays of numbers, arrays of references, lengths, how many of each kind, cells, slots -/
abbrev AS : Type := (Nat → Nat → Int) × (Nat → Nat → Option Nat) × (Nat → Nat → Nat → Int) × (Nat → Nat → Nat → Option Nat) × (Nat → Nat → Nat) × (Nat → Nat) × Nat × Nat
def FI (s : AS) : Nat → Nat → Int := s.1
def FR (s : AS) : Nat → Nat → Option Nat := s.2.1
def AI (s : AS) : Nat → Nat → Nat → Int := s.2.2.1
def AR (s : AS) : Nat → Nat → Nat → Option Nat := s.2.2.2.1
def LN (s : AS) : Nat → Nat → Nat := s.2.2.2.2.1
def CN (s : AS) : Nat → Nat := s.2.2.2.2.2.1
def nC (s : AS) : Nat := s.2.2.2.2.2.2.1
def nS (s : AS) : Nat := s.2.2.2.2.2.2.2
def sFI (s : AS) (f a : Nat) (v : Int) : AS := (fun f' a' => if f' = f ∧ a' = a then v else s.1 f' a', s.2)
def sFR (s : AS) (f a : Nat) (v : Option Nat) : AS := (s.1, fun f' a' => if f' = f ∧ a' = a then v else s.2.1 f' a', s.2.2)
def sAI (s : AS) (c a k : Nat) (v : Int) : AS := (s.1, s.2.1, fun c' a' k' => if c' = c ∧ a' = a ∧ k' = k then v else s.2.2.1 c' a' k', s.2.2.2)
def sAR (s : AS) (c a k : Nat) (v : Option Nat) : AS := (s.1, s.2.1, s.2.2.1, fun c' a' k' => if c' = c ∧ a' = a ∧ k' = k then v else s.2.2.2.1 c' a' k', s.2.2.2.2)
/-- a new object of class c -/
def nO (s : AS) (c : Nat) : AS := (fun f' a' => if f' / 100 = c ∧ a' = CN s c then 0 else s.1 f' a', fun f' a' => if f' / 100 = c ∧ a' = CN s c then none else s.2.1 f' a', s.2.2.1, s.2.2.2.1, s.2.2.2.2.1, fun c' => if c' = c then CN s c + 1 else CN s c', nC s + 1, nS s + cF c)
/-- a new array of kind c, n long -/
def nA (s : AS) (c n : Nat) : AS := (s.1, s.2.1, fun c' a' k' => if c' = c ∧ a' = CN s c then 0 else s.2.2.1 c' a' k', fun c' a' k' => if c' = c ∧ a' = CN s c then none else s.2.2.2.1 c' a' k', fun c' a' => if c' = c ∧ a' = CN s c then n else LN s c' a', fun c' => if c' = c then CN s c + 1 else CN s c', nC s + 1, nS s + n)
/-- n new rows of k numbers -/
def nRows (s : AS) : Nat → Nat → AS
  | 0, _ => s
  | n + 1, k => nA (nRows s n k) 13 k
/-- a new row of n new rows of k numbers -/
def nM (s : AS) (n k : Nat) : AS :=
  let t := nRows (nA s 17 n) n k
  (t.1, t.2.1, t.2.2.1, fun c' a' j => if c' = 17 ∧ a' = CN s 17 ∧ j < n then some (CN s 13 + j) else t.2.2.2.1 c' a' j, t.2.2.2.2)
theorem FI_sFI (s : AS) (f a : Nat) (v : Int) (f' a' : Nat) : FI (sFI s f a v) f' a' = if f' = f ∧ a' = a then v else FI s f' a' := rfl
theorem FR_sFI (s : AS) (f a : Nat) (v : Int) : FR (sFI s f a v) = FR s := rfl
theorem AI_sFI (s : AS) (f a : Nat) (v : Int) : AI (sFI s f a v) = AI s := rfl
theorem AR_sFI (s : AS) (f a : Nat) (v : Int) : AR (sFI s f a v) = AR s := rfl
theorem LN_sFI (s : AS) (f a : Nat) (v : Int) : LN (sFI s f a v) = LN s := rfl
theorem CN_sFI (s : AS) (f a : Nat) (v : Int) : CN (sFI s f a v) = CN s := rfl
theorem nC_sFI (s : AS) (f a : Nat) (v : Int) : nC (sFI s f a v) = nC s := rfl
theorem nS_sFI (s : AS) (f a : Nat) (v : Int) : nS (sFI s f a v) = nS s := rfl
theorem FI_sFR (s : AS) (f a : Nat) (v : Option Nat) : FI (sFR s f a v) = FI s := rfl
theorem FR_sFR (s : AS) (f a : Nat) (v : Option Nat) (f' a' : Nat) : FR (sFR s f a v) f' a' = if f' = f ∧ a' = a then v else FR s f' a' := rfl
theorem AI_sFR (s : AS) (f a : Nat) (v : Option Nat) : AI (sFR s f a v) = AI s := rfl
theorem AR_sFR (s : AS) (f a : Nat) (v : Option Nat) : AR (sFR s f a v) = AR s := rfl
theorem LN_sFR (s : AS) (f a : Nat) (v : Option Nat) : LN (sFR s f a v) = LN s := rfl
theorem CN_sFR (s : AS) (f a : Nat) (v : Option Nat) : CN (sFR s f a v) = CN s := rfl
theorem nC_sFR (s : AS) (f a : Nat) (v : Option Nat) : nC (sFR s f a v) = nC s := rfl
theorem nS_sFR (s : AS) (f a : Nat) (v : Option Nat) : nS (sFR s f a v) = nS s := rfl
theorem FI_sAI (s : AS) (c a k : Nat) (v : Int) : FI (sAI s c a k v) = FI s := rfl
theorem FR_sAI (s : AS) (c a k : Nat) (v : Int) : FR (sAI s c a k v) = FR s := rfl
theorem AI_sAI (s : AS) (c a k : Nat) (v : Int) (c' a' k' : Nat) : AI (sAI s c a k v) c' a' k' = if c' = c ∧ a' = a ∧ k' = k then v else AI s c' a' k' := rfl
theorem AR_sAI (s : AS) (c a k : Nat) (v : Int) : AR (sAI s c a k v) = AR s := rfl
theorem LN_sAI (s : AS) (c a k : Nat) (v : Int) : LN (sAI s c a k v) = LN s := rfl
theorem CN_sAI (s : AS) (c a k : Nat) (v : Int) : CN (sAI s c a k v) = CN s := rfl
theorem nC_sAI (s : AS) (c a k : Nat) (v : Int) : nC (sAI s c a k v) = nC s := rfl
theorem nS_sAI (s : AS) (c a k : Nat) (v : Int) : nS (sAI s c a k v) = nS s := rfl
theorem FI_sAR (s : AS) (c a k : Nat) (v : Option Nat) : FI (sAR s c a k v) = FI s := rfl
theorem FR_sAR (s : AS) (c a k : Nat) (v : Option Nat) : FR (sAR s c a k v) = FR s := rfl
theorem AI_sAR (s : AS) (c a k : Nat) (v : Option Nat) : AI (sAR s c a k v) = AI s := rfl
theorem AR_sAR (s : AS) (c a k : Nat) (v : Option Nat) (c' a' k' : Nat) : AR (sAR s c a k v) c' a' k' = if c' = c ∧ a' = a ∧ k' = k then v else AR s c' a' k' := rfl
theorem LN_sAR (s : AS) (c a k : Nat) (v : Option Nat) : LN (sAR s c a k v) = LN s := rfl
theorem CN_sAR (s : AS) (c a k : Nat) (v : Option Nat) : CN (sAR s c a k v) = CN s := rfl
theorem nC_sAR (s : AS) (c a k : Nat) (v : Option Nat) : nC (sAR s c a k v) = nC s := rfl
theorem nS_sAR (s : AS) (c a k : Nat) (v : Option Nat) : nS (sAR s c a k v) = nS s := rfl
theorem FI_nO (s : AS) (c f' a' : Nat) : FI (nO s c) f' a' = if f' / 100 = c ∧ a' = CN s c then 0 else FI s f' a' := rfl
theorem FR_nO (s : AS) (c f' a' : Nat) : FR (nO s c) f' a' = if f' / 100 = c ∧ a' = CN s c then none else FR s f' a' := rfl
theorem AI_nO (s : AS) (c : Nat) : AI (nO s c) = AI s := rfl
theorem AR_nO (s : AS) (c : Nat) : AR (nO s c) = AR s := rfl
theorem LN_nO (s : AS) (c : Nat) : LN (nO s c) = LN s := rfl
theorem CN_nO (s : AS) (c c' : Nat) : CN (nO s c) c' = if c' = c then CN s c + 1 else CN s c' := rfl
theorem nC_nO (s : AS) (c : Nat) : nC (nO s c) = nC s + 1 := rfl
theorem nS_nO (s : AS) (c : Nat) : nS (nO s c) = nS s + cF c := rfl
theorem FI_nA (s : AS) (c n : Nat) : FI (nA s c n) = FI s := rfl
theorem FR_nA (s : AS) (c n : Nat) : FR (nA s c n) = FR s := rfl
theorem AI_nA (s : AS) (c n c' a' k' : Nat) : AI (nA s c n) c' a' k' = if c' = c ∧ a' = CN s c then 0 else AI s c' a' k' := rfl
theorem AR_nA (s : AS) (c n c' a' k' : Nat) : AR (nA s c n) c' a' k' = if c' = c ∧ a' = CN s c then none else AR s c' a' k' := rfl
theorem LN_nA (s : AS) (c n c' a' : Nat) : LN (nA s c n) c' a' = if c' = c ∧ a' = CN s c then n else LN s c' a' := rfl
theorem CN_nA (s : AS) (c n c' : Nat) : CN (nA s c n) c' = if c' = c then CN s c + 1 else CN s c' := rfl
theorem nC_nA (s : AS) (c n : Nat) : nC (nA s c n) = nC s + 1 := rfl
theorem nS_nA (s : AS) (c n : Nat) : nS (nA s c n) = nS s + n := rfl
-- numbers: an int is the Int of its value
def wr (x : Int) : Int := Int.bmod x 4294967296
def iAnd (a b : Int) : Int := (Int32.ofInt a &&& Int32.ofInt b).toInt
def iOr (a b : Int) : Int := (Int32.ofInt a ||| Int32.ofInt b).toInt
def iShl (a b : Int) : Int := (Int32.ofInt a <<< (Int32.ofInt b &&& 31)).toInt
def iShr (a b : Int) : Int := (Int32.ofInt a >>> (Int32.ofInt b &&& 31)).toInt
def iUshr (a b : Int) : Int := ((Int32.ofInt a).toUInt32 >>> ((Int32.ofInt b).toUInt32 &&& Int32.toUInt32 31)).toInt32.toInt
def iDiv (a b : Int) : Int := (Int32.ofInt a / Int32.ofInt b).toInt
def iRem (a b : Int) : Int := (Int32.ofInt a - Int32.ofInt a / Int32.ofInt b * Int32.ofInt b).toInt
def cnd (c : Jvm.ClassFile.Cond) (a b : Int) : Prop := match c with
  | .eq => a = b
  | .ne => a ≠ b
  | .lt => a < b
  | .ge => b ≤ a
  | .gt => b < a
  | .le => a ≤ b
-- fields by their numbers: 100 * class + place
def gF (s : AS) (f a : Nat) : AV := if fT f < 2 then vi (FI s f a) else vo (fT f - 2) (FR s f a)
def okP (f : Nat) (v : AV) : Prop := match v with
  | .inl n => fT f = 0 ∨ (fT f = 1 ∧ (n = 0 ∨ n = 1))
  | .inr (.inl (c, r)) => 2 ≤ fT f ∧ (r = none ∨ fT f = c + 2)
  | .inr (.inr _) => False
def pF (s : AS) (f a : Nat) (v : AV) : AS := match v with
  | .inl n => sFI s f a n
  | .inr (.inl (_, r)) => sFR s f a r
  | .inr (.inr _) => s
/-- what an array of references of kind c holds -/
def eK (c : Nat) : Nat := if c = 15 then 0 else if c = 16 then 8 else 13
-- the texts
def sTx : List (List Nat) := [[100, 105, 103, 105, 116], [97, 110, 121], [101, 110, 100], [99, 117, 116], [116, 114, 121], [110, 111, 116], [108, 111, 111, 107], [97, 115], [99, 104, 97, 105, 110], [100, 105, 103, 105, 116, 32, 97, 110, 121, 32, 32, 32, 101, 110, 100, 32, 32, 32, 110, 111, 116, 32, 32, 32, 97, 115, 32, 32, 32, 32, 99, 117, 116, 32, 32, 32, 116, 114, 121, 32, 32, 32, 108, 111, 111, 107, 32, 32, 99, 104, 97, 105, 110, 32]]
def sL (k : Nat) : Nat := (sTx.getD k []).length
def sC (k i : Nat) : Nat := (sTx.getD k []).getD i 0
abbrev AF : Type := Nat × List (Option AV) × List AV × AS
/-- a step that is no call and no return -/
def St1 (pc : Nat) (i : Jvm.ClassFile.Instr) (x y nx : Nat) (ls : List (Option AV)) (st : List AV) (s : AS) (f : AF) : Prop := match i with
  | .iconst n => f = (nx, ls, vi n :: st, s)
  | .bipush n => f = (nx, ls, vi n :: st, s)
  | .sipush n => f = (nx, ls, vi n :: st, s)
  | .ldc _ => f = (nx, ls, (if y = 0 then vi x else vs x) :: st, s)
  | .ldc_w _ => y = 0 ∧ f = (nx, ls, vi x :: st, s)
  | .aconst_null => f = (nx, ls, vn 0 :: st, s)
  | .iload_n k => ∃ v, ls[k.val]? = some (some (vi v)) ∧ f = (nx, ls, vi v :: st, s)
  | .iload k => ∃ v, ls[k]? = some (some (vi v)) ∧ f = (nx, ls, vi v :: st, s)
  | .aload_n k => ∃ v, ls[k.val]? = some (some (.inr v)) ∧ f = (nx, ls, .inr v :: st, s)
  | .aload k => ∃ v, ls[k]? = some (some (.inr v)) ∧ f = (nx, ls, .inr v :: st, s)
  | .istore_n k => ∃ v t, st = vi v :: t ∧ k.val < ls.length ∧ f = (nx, ls.set k.val (some (vi v)), t, s)
  | .istore k => ∃ v t, st = vi v :: t ∧ k < ls.length ∧ f = (nx, ls.set k (some (vi v)), t, s)
  | .astore_n k => ∃ v t, st = .inr v :: t ∧ k.val < ls.length ∧ f = (nx, ls.set k.val (some (.inr v)), t, s)
  | .astore k => ∃ v t, st = .inr v :: t ∧ k < ls.length ∧ f = (nx, ls.set k (some (.inr v)), t, s)
  | .iinc k n => ∃ v, ls[k]? = some (some (vi v)) ∧ f = (nx, ls.set k (some (vi (wr (v + n)))), st, s)
  | .dup => ∃ v t, st = v :: t ∧ f = (nx, ls, v :: v :: t, s)
  | .dup2 => ∃ v w t, st = v :: w :: t ∧ f = (nx, ls, v :: w :: v :: w :: t, s)
  | .pop => ∃ v t, st = v :: t ∧ f = (nx, ls, t, s)
  | .iadd => ∃ a b t, st = vi b :: vi a :: t ∧ f = (nx, ls, vi (wr (a + b)) :: t, s)
  | .isub => ∃ a b t, st = vi b :: vi a :: t ∧ f = (nx, ls, vi (wr (a - b)) :: t, s)
  | .imul => ∃ a b t, st = vi b :: vi a :: t ∧ f = (nx, ls, vi (wr (a * b)) :: t, s)
  | .idiv => ∃ a b t, st = vi b :: vi a :: t ∧ b ≠ 0 ∧ f = (nx, ls, vi (iDiv a b) :: t, s)
  | .irem => ∃ a b t, st = vi b :: vi a :: t ∧ b ≠ 0 ∧ f = (nx, ls, vi (iRem a b) :: t, s)
  | .iand => ∃ a b t, st = vi b :: vi a :: t ∧ f = (nx, ls, vi (iAnd a b) :: t, s)
  | .ior => ∃ a b t, st = vi b :: vi a :: t ∧ f = (nx, ls, vi (iOr a b) :: t, s)
  | .ishl => ∃ a b t, st = vi b :: vi a :: t ∧ f = (nx, ls, vi (iShl a b) :: t, s)
  | .ishr => ∃ a b t, st = vi b :: vi a :: t ∧ f = (nx, ls, vi (iShr a b) :: t, s)
  | .iushr => ∃ a b t, st = vi b :: vi a :: t ∧ f = (nx, ls, vi (iUshr a b) :: t, s)
  | .ifCond c _ => ∃ a t, st = vi a :: t ∧ ((cnd c a 0 ∧ f = (x, ls, t, s)) ∨ (¬ cnd c a 0 ∧ f = (nx, ls, t, s)))
  | .if_icmp c _ => ∃ a b t, st = vi b :: vi a :: t ∧ ((cnd c a b ∧ f = (x, ls, t, s)) ∨ (¬ cnd c a b ∧ f = (nx, ls, t, s)))
  | .ifnull _ => ∃ c r t, st = vo c r :: t ∧ ((r = none ∧ f = (x, ls, t, s)) ∨ (r ≠ none ∧ f = (nx, ls, t, s)))
  | .ifnonnull _ => ∃ c r t, st = vo c r :: t ∧ ((r ≠ none ∧ f = (x, ls, t, s)) ∨ (r = none ∧ f = (nx, ls, t, s)))
  | .goto _ => f = (x, ls, st, s)
  | .tableswitch d lo hi os => ∃ a t off tg, st = vi a :: t ∧ (((a < lo ∨ hi < a) ∧ off = d) ∨ (¬ (a < lo ∨ hi < a) ∧ os[(a - lo).toNat]? = some off)) ∧ (pc : Int) + off = ((tg : Nat) : Int) ∧ f = (tg, ls, t, s)
  | .getfield _ => ∃ a t, st = vr (x / 100) a :: t ∧ f = (nx, ls, gF s x a :: t, s)
  | .putfield _ => ∃ v a t, st = v :: vr (x / 100) a :: t ∧ okP x v ∧ f = (nx, ls, t, pF s x a v)
  | .iaload => ∃ i c a t, st = vi i :: vr c a :: t ∧ (c = 13 ∨ c = 18) ∧ 0 ≤ i ∧ i < LN s c a ∧ f = (nx, ls, vi (AI s c a i.toNat) :: t, s)
  | .baload => ∃ i a t, st = vi i :: vr 14 a :: t ∧ 0 ≤ i ∧ i < LN s 14 a ∧ f = (nx, ls, vi (AI s 14 a i.toNat) :: t, s)
  | .aaload => ∃ i c a t, st = vi i :: vr c a :: t ∧ (c = 15 ∨ c = 16 ∨ c = 17) ∧ 0 ≤ i ∧ i < LN s c a ∧ f = (nx, ls, vo (eK c) (AR s c a i.toNat) :: t, s)
  | .iastore => ∃ v i a t, st = vi v :: vi i :: vr 13 a :: t ∧ 0 ≤ i ∧ i < LN s 13 a ∧ f = (nx, ls, t, sAI s 13 a i.toNat v)
  | .bastore => ∃ v i a t, st = vi v :: vi i :: vr 14 a :: t ∧ 0 ≤ i ∧ i < LN s 14 a ∧ (v = 0 ∨ v = 1) ∧ f = (nx, ls, t, sAI s 14 a i.toNat v)
  | .aastore => ∃ v i c a t, st = vr (eK c) v :: vi i :: vr c a :: t ∧ (c = 15 ∨ c = 16) ∧ 0 ≤ i ∧ i < LN s c a ∧ f = (nx, ls, t, sAR s c a i.toNat (some v))
  | .arraylength => ∃ c a t, st = vr c a :: t ∧ (c = 13 ∨ c = 14 ∨ c = 15 ∨ c = 16 ∨ c = 17 ∨ c = 18) ∧ f = (nx, ls, vi (LN s c a : Nat) :: t, s)
  | .newarray _ => ∃ n t, st = vi n :: t ∧ 0 ≤ n ∧ n ≤ 100000 ∧ f = (nx, ls, vr x (CN s x) :: t, nA s x n.toNat)
  | .anewarray _ => ∃ n t, st = vi n :: t ∧ 0 ≤ n ∧ n ≤ 100000 ∧ f = (nx, ls, vr x (CN s x) :: t, nA s x n.toNat)
  | .multianewarray _ _ => ∃ n k t, st = vi k :: vi n :: t ∧ 0 ≤ n ∧ n ≤ 100000 ∧ 0 ≤ k ∧ k ≤ 100000 ∧ f = (nx, ls, vr 17 (CN s 17) :: t, nM s n.toNat k.toNat)
  | .new _ => f = (nx, ls, vr x (CN s x) :: st, nO s x)
  | .invokevirtual _ => (x = 9001 ∧ ∃ k t, st = vs k :: t ∧ t.length ≤ 8 ∧ f = (nx, ls, vi (sL k : Nat) :: t, s)) ∨ (x = 9002 ∧ ∃ i k t, st = vi i :: vs k :: t ∧ t.length ≤ 8 ∧ 0 ≤ i ∧ i < sL k ∧ f = (nx, ls, vi (sC k i.toNat : Nat) :: t, s))
  | .invokespecial _ => x = 9000 ∧ ∃ c a t, st = vr c a :: t ∧ t.length ≤ 8 ∧ f = (nx, ls, t, s)
  | _ => False
/-- a call: its arguments (the receiver first), and what lies below them -/
def StC (i : Jvm.ClassFile.Instr) (x y : Nat) (st : List AV) (as t : List AV) : Prop := match i with
  | .invokevirtual _ => x < 9000 ∧ t.length ≤ 8 ∧ ∃ a bs, as = vr (mC x) a :: bs ∧ bs.length = y ∧ st = bs.reverse ++ vr (mC x) a :: t
  | .invokespecial _ => x < 9000 ∧ t.length ≤ 8 ∧ ∃ a bs, as = vr (mC x) a :: bs ∧ bs.length = y ∧ st = bs.reverse ++ vr (mC x) a :: t
  | .invokestatic _ => x < 9000 ∧ t.length ≤ 8 ∧ as.length = y ∧ st = as.reverse ++ t
  | _ => False
def StR (m : Nat) (i : Jvm.ClassFile.Instr) (st : List AV) (r : Option AV) : Prop := match i with
  | .ireturn => ∃ v, st = [vi v] ∧ (mK m = 1 ∨ (mK m = 2 ∧ (v = 0 ∨ v = 1))) ∧ r = some (vi v)
  | .areturn => ∃ c q, st = [vo c q] ∧ 3 ≤ mK m ∧ (q = none ∨ c + 3 = mK m) ∧ r = some (vo (mK m - 3) q)
  | .return_ => st = [] ∧ mK m = 0 ∧ r = none
  | _ => False
abbrev AX : Type := Nat → List (Option AV) → List AV → AS → Prop
abbrev AQ : Type := Option AV → AS → Prop
def StepP (C : Nat → List AV → AS → AQ → Prop) (m : Nat) (Q : AQ) (X : AX) : AX := fun pc ls st s =>
  ∃ i len x y nx, ins m pc = some (i, len, x, y, nx) ∧
    ((∃ f, St1 pc i x y nx ls st s f ∧ X f.1 f.2.1 f.2.2.1 f.2.2.2) ∨ (∃ as t, StC i x y st as t ∧ C x as s (fun r u => X nx ls (r.toList ++ t) u)) ∨ (∃ r, StR m i st r ∧ Q r s))
def Ex (C : Nat → List AV → AS → AQ → Prop) (m : Nat) (Q : AQ) : AX := fun pc ls st s => ∀ X : AX, (∀ pc ls st s, StepP C m Q X pc ls st s → X pc ls st s) → X pc ls st s
def wp : Nat → Nat → List AV → AS → AQ → Prop
  | 0, _, _, _, _ => False
  | d + 1, m, as, s, Q => as.length ≤ mL m ∧ Ex (wp d) m Q 0 (as.map some ++ List.replicate (mL m - as.length) none) [] s
theorem StepP.mono {C C' : Nat → List AV → AS → AQ → Prop} {m : Nat} {Q Q' : AQ} {X X' : AX} (hC : ∀ x a s P P', (∀ r t, P r t → P' r t) → C x a s P → C' x a s P') (hQ : ∀ r t, Q r t → Q' r t) (hX : ∀ pc ls st s, X pc ls st s → X' pc ls st s) {pc : Nat} {ls : List (Option AV)} {st : List AV} {s : AS} (h : StepP C m Q X pc ls st s) : StepP C' m Q' X' pc ls st s := by
  obtain ⟨i, len, x, y, nx, h1, h2⟩ := h
  refine ⟨i, len, x, y, nx, h1, ?_⟩
  rcases h2 with ⟨f, h2, h3⟩ | ⟨as, t, h2, h3⟩ | ⟨r, h2, h3⟩
  · exact Or.inl ⟨f, h2, hX _ _ _ _ h3⟩
  · exact Or.inr (Or.inl ⟨as, t, h2, hC _ _ _ _ _ (fun r u h => hX _ _ _ _ h) h3⟩)
  · exact Or.inr (Or.inr ⟨r, h2, hQ _ _ h3⟩)
theorem Ex.mono {C C' : Nat → List AV → AS → AQ → Prop} {m : Nat} {Q Q' : AQ} (hC : ∀ x a s P P', (∀ r t, P r t → P' r t) → C x a s P → C' x a s P') (hQ : ∀ r t, Q r t → Q' r t) {pc : Nat} {ls : List (Option AV)} {st : List AV} {s : AS} (h : Ex C m Q pc ls st s) : Ex C' m Q' pc ls st s :=
  fun X hX => h X fun pc ls st s h2 => hX pc ls st s (StepP.mono hC hQ (fun _ _ _ _ h => h) h2)
theorem wp.mono : ∀ {d m : Nat} {as : List AV} {s : AS} {Q Q' : AQ}, (∀ r t, Q r t → Q' r t) → wp d m as s Q → wp d m as s Q'
  | 0, _, _, _, _, _, _, h => h
  | d + 1, _, _, _, _, _, hQ, h => ⟨h.1, Ex.mono (C := wp d) (C' := wp d) (fun _ _ _ _ _ h1 h2 => wp.mono h1 h2) hQ h.2⟩
theorem wp.up : ∀ {d m : Nat} {as : List AV} {s : AS} {Q : AQ}, wp d m as s Q → wp (d + 1) m as s Q
  | 0, _, _, _, _, h => h.elim
  | d + 1, _, _, _, _, h => ⟨h.1, Ex.mono (C := wp d) (C' := wp (d + 1)) (fun _ _ _ _ _ h1 h2 => wp.mono h1 (wp.up h2)) (fun _ _ h => h) h.2⟩
theorem wp.le {d d' m : Nat} {as : List AV} {s : AS} {Q : AQ} (hd : d ≤ d') (h : wp d m as s Q) : wp d' m as s Q := by
  induction hd with
  | refl => exact h
  | step _ ih => exact wp.up ih
theorem Ex.step {d m : Nat} {Q : AQ} {pc : Nat} {ls : List (Option AV)} {st : List AV} {s : AS} (h : StepP (wp d) m Q (Ex (wp d) m Q) pc ls st s) : Ex (wp d) m Q pc ls st s :=
  fun X hX => hX _ _ _ _ (StepP.mono (C := wp d) (C' := wp d) (fun _ _ _ _ _ h1 h2 => wp.mono h1 h2) (fun _ _ h => h) (fun _ _ _ _ h => h X hX) h)
theorem Ex.conseq {d m : Nat} {Q Q' : AQ} {pc : Nat} {ls : List (Option AV)} {st : List AV} {s : AS} (hQ : ∀ r t, Q r t → Q' r t) (h : Ex (wp d) m Q pc ls st s) : Ex (wp d) m Q' pc ls st s := Ex.mono (C := wp d) (C' := wp d) (fun _ _ _ _ _ h1 h2 => wp.mono h1 h2) hQ h

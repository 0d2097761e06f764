def sLk : List (Nat × Nat × Nat × Nat) := [(11, 203, 9002, 1325), (5, 211, 9001, 619), (5, 216, 9002, 629)]
def sId : List (Nat × Nat × Nat) := [(0, 5, 189), (1, 5, 195), (2, 5, 197), (3, 5, 199), (4, 5, 201), (5, 5, 203), (6, 5, 205), (7, 5, 207), (8, 5, 209), (9, 11, 201)]
def lk3 (l : List (Nat × Nat × Nat × Nat × Bool)) (c i x : Nat) : Bool := l.any (fun e => Nat.beq e.1 c && (Nat.beq e.2.1 i && Nat.beq e.2.2.1 x))
def lkB (l : List (Nat × Nat × Nat × Nat)) (c i x : Nat) : Bool := l.any (fun e => Nat.beq e.1 c && (Nat.beq e.2.1 i && Nat.beq e.2.2.1 x))
def inR (n : Int) : Bool := decide (-2147483648 ≤ n ∧ n ≤ 2147483647)
/-- what the tables say of one instruction -/
def ckI (m p : Nat) (i : Jvm.ClassFile.Instr) (len x y : Nat) : Bool := match i with
  | .iconst n => Nat.beq len 1 && inR n
  | .bipush n => Nat.beq len 2 && inR n && decide ((Int8.ofInt n).toInt32 = Int32.ofInt n)
  | .sipush n => Nat.beq len 3 && inR n && decide ((Int16.ofInt n).toInt32 = Int32.ofInt n)
  | .ldc j => Nat.beq len 2 && (if y = 0 then lkB kL (mC m) j x else sId.any (fun e => Nat.beq e.1 x && (Nat.beq e.2.1 (mC m) && Nat.beq e.2.2 j)))
  | .ldc_w j => Nat.beq len 3 && Nat.beq y 0 && lkB kL (mC m) j x
  | .aconst_null => Nat.beq len 1
  | .iload_n _ => Nat.beq len 1
  | .iload _ => Nat.beq len 2
  | .aload_n _ => Nat.beq len 1
  | .aload _ => Nat.beq len 2
  | .istore_n _ => Nat.beq len 1
  | .istore _ => Nat.beq len 2
  | .astore_n _ => Nat.beq len 1
  | .astore _ => Nat.beq len 2
  | .iinc _ n => Nat.beq len 3 && inR n
  | .dup => Nat.beq len 1
  | .dup2 => Nat.beq len 1
  | .pop => Nat.beq len 1
  | .iadd => Nat.beq len 1
  | .isub => Nat.beq len 1
  | .imul => Nat.beq len 1
  | .idiv => Nat.beq len 1
  | .irem => Nat.beq len 1
  | .iand => Nat.beq len 1
  | .ior => Nat.beq len 1
  | .ishl => Nat.beq len 1
  | .ishr => Nat.beq len 1
  | .iushr => Nat.beq len 1
  | .ifCond _ o => Nat.beq len 3 && decide ((p : Int) + o = (x : Int))
  | .if_icmp _ o => Nat.beq len 3 && decide ((p : Int) + o = (x : Int))
  | .ifnull o => Nat.beq len 3 && decide ((p : Int) + o = (x : Int))
  | .ifnonnull o => Nat.beq len 3 && decide ((p : Int) + o = (x : Int))
  | .goto o => Nat.beq len 3 && decide ((p : Int) + o = (x : Int))
  | .tableswitch _ _ _ _ => true
  | .getfield j => Nat.beq len 3 && lk3 fL (mC m) j x
  | .putfield j => Nat.beq len 3 && (fL.any (fun e => Nat.beq e.1 (mC m) && (Nat.beq e.2.1 j && (Nat.beq e.2.2.1 x && !e.2.2.2.2)))) && (if (cT (x / 100) (x % 100)).2.2.2 = true then mI m && Nat.beq (x / 100) (mC m) else true)
  | .iaload => Nat.beq len 1
  | .baload => Nat.beq len 1
  | .aaload => Nat.beq len 1
  | .iastore => Nat.beq len 1
  | .bastore => Nat.beq len 1
  | .aastore => Nat.beq len 1
  | .arraylength => Nat.beq len 1
  | .newarray t => Nat.beq len 2 && ((decide (t = .int) && Nat.beq x 13) || (decide (t = .boolean) && Nat.beq x 14))
  | .anewarray j => Nat.beq len 3 && ((Nat.beq x 15 && lkB cL (mC m) j 0) || (Nat.beq x 16 && lkB cL (mC m) j 8))
  | .multianewarray j k => Nat.beq len 4 && Nat.beq k 2 && Nat.beq j 146 && Nat.beq (mC m) 11 && Nat.beq x 17
  | .new j => Nat.beq len 3 && lkB cL (mC m) j x
  | .invokevirtual j => Nat.beq len 3 && (if x < 9000 then lk3 mLk (mC m) j x && Nat.beq y (mA x) && !(mS x) && !(mI x) && Nat.blt x 175 else lkB sLk (mC m) j x)
  | .invokespecial j => Nat.beq len 3 && (if x < 9000 then lk3 mLk (mC m) j x && Nat.beq y (mA x) && mI x && Nat.blt x 175 else oL.any (fun e => Nat.beq e.1 (mC m) && Nat.beq e.2.1 j))
  | .invokestatic j => Nat.beq len 3 && lk3 mLk (mC m) j x && Nat.beq y (mA x) && mS x && Nat.blt x 175
  | .ireturn => Nat.beq len 1
  | .areturn => Nat.beq len 1
  | .return_ => Nat.beq len 1
  | _ => false
def chk (m p : Nat) : Bool := match ins m p with
  | none => true
  | some (i, len, x, y, nx) => decide (decode (mB m) p = .ok (i, len)) && Nat.beq nx (p + len) && ckI m p i len x y
set_option maxRecDepth 1000000 in
theorem ck_ins0 : ∀ p, p < 700 → chk 0 p = true := by decide +kernel
set_option maxRecDepth 1000000 in
theorem ck_ins1 : ∀ p, p < 700 → chk 1 p = true := by decide +kernel
set_option maxRecDepth 1000000 in
theorem ck_ins2 : ∀ p, p < 700 → chk 2 p = true := by decide +kernel
set_option maxRecDepth 1000000 in
theorem ck_ins3 : ∀ p, p < 700 → chk 3 p = true := by decide +kernel
set_option maxRecDepth 1000000 in
theorem ck_ins4 : ∀ p, p < 700 → chk 4 p = true := by decide +kernel
set_option maxRecDepth 1000000 in
theorem ck_ins5 : ∀ p, p < 700 → chk 5 p = true := by decide +kernel
set_option maxRecDepth 1000000 in
theorem ck_ins6 : ∀ p, p < 700 → chk 6 p = true := by decide +kernel
set_option maxRecDepth 1000000 in
theorem ck_ins7 : ∀ p, p < 700 → chk 7 p = true := by decide +kernel
set_option maxRecDepth 1000000 in
theorem ck_ins8 : ∀ p, p < 700 → chk 8 p = true := by decide +kernel
set_option maxRecDepth 1000000 in
theorem ck_ins9 : ∀ p, p < 700 → chk 9 p = true := by decide +kernel
set_option maxRecDepth 1000000 in
theorem ck_ins10 : ∀ p, p < 700 → chk 10 p = true := by decide +kernel
set_option maxRecDepth 1000000 in
theorem ck_ins11 : ∀ p, p < 700 → chk 11 p = true := by decide +kernel
set_option maxRecDepth 1000000 in
theorem ck_ins12 : ∀ p, p < 700 → chk 12 p = true := by decide +kernel
set_option maxRecDepth 1000000 in
theorem ck_ins13 : ∀ p, p < 700 → chk 13 p = true := by decide +kernel
set_option maxRecDepth 1000000 in
theorem ck_ins14 : ∀ p, p < 700 → chk 14 p = true := by decide +kernel
set_option maxRecDepth 1000000 in
theorem ck_ins15 : ∀ p, p < 700 → chk 15 p = true := by decide +kernel
set_option maxRecDepth 1000000 in
theorem ck_ins16 : ∀ p, p < 700 → chk 16 p = true := by decide +kernel
set_option maxRecDepth 1000000 in
theorem ck_ins17 : ∀ p, p < 700 → chk 17 p = true := by decide +kernel
set_option maxRecDepth 1000000 in
theorem ck_ins18 : ∀ p, p < 700 → chk 18 p = true := by decide +kernel
set_option maxRecDepth 1000000 in
theorem ck_ins19 : ∀ p, p < 700 → chk 19 p = true := by decide +kernel
set_option maxRecDepth 1000000 in
theorem ck_ins20 : ∀ p, p < 700 → chk 20 p = true := by decide +kernel
set_option maxRecDepth 1000000 in
theorem ck_ins21 : ∀ p, p < 700 → chk 21 p = true := by decide +kernel
set_option maxRecDepth 1000000 in
theorem ck_ins22 : ∀ p, p < 700 → chk 22 p = true := by decide +kernel
set_option maxRecDepth 1000000 in
theorem ck_ins23 : ∀ p, p < 700 → chk 23 p = true := by decide +kernel
set_option maxRecDepth 1000000 in
theorem ck_ins24 : ∀ p, p < 700 → chk 24 p = true := by decide +kernel
set_option maxRecDepth 1000000 in
theorem ck_ins25 : ∀ p, p < 700 → chk 25 p = true := by decide +kernel
set_option maxRecDepth 1000000 in
theorem ck_ins26 : ∀ p, p < 700 → chk 26 p = true := by decide +kernel
set_option maxRecDepth 1000000 in
theorem ck_ins27 : ∀ p, p < 700 → chk 27 p = true := by decide +kernel
set_option maxRecDepth 1000000 in
theorem ck_ins28 : ∀ p, p < 700 → chk 28 p = true := by decide +kernel
set_option maxRecDepth 1000000 in
theorem ck_ins29 : ∀ p, p < 700 → chk 29 p = true := by decide +kernel
set_option maxRecDepth 1000000 in
theorem ck_ins30 : ∀ p, p < 700 → chk 30 p = true := by decide +kernel
set_option maxRecDepth 1000000 in
theorem ck_ins31 : ∀ p, p < 700 → chk 31 p = true := by decide +kernel
set_option maxRecDepth 1000000 in
theorem ck_ins32 : ∀ p, p < 700 → chk 32 p = true := by decide +kernel
set_option maxRecDepth 1000000 in
theorem ck_ins33 : ∀ p, p < 700 → chk 33 p = true := by decide +kernel
set_option maxRecDepth 1000000 in
theorem ck_ins34 : ∀ p, p < 700 → chk 34 p = true := by decide +kernel
set_option maxRecDepth 1000000 in
theorem ck_ins35 : ∀ p, p < 700 → chk 35 p = true := by decide +kernel
set_option maxRecDepth 1000000 in
theorem ck_ins36 : ∀ p, p < 700 → chk 36 p = true := by decide +kernel
set_option maxRecDepth 1000000 in
theorem ck_ins37 : ∀ p, p < 700 → chk 37 p = true := by decide +kernel
set_option maxRecDepth 1000000 in
theorem ck_ins38 : ∀ p, p < 700 → chk 38 p = true := by decide +kernel
set_option maxRecDepth 1000000 in
theorem ck_ins39 : ∀ p, p < 700 → chk 39 p = true := by decide +kernel
set_option maxRecDepth 1000000 in
theorem ck_ins40 : ∀ p, p < 700 → chk 40 p = true := by decide +kernel
set_option maxRecDepth 1000000 in
theorem ck_ins41 : ∀ p, p < 700 → chk 41 p = true := by decide +kernel
set_option maxRecDepth 1000000 in
theorem ck_ins42 : ∀ p, p < 700 → chk 42 p = true := by decide +kernel
set_option maxRecDepth 1000000 in
theorem ck_ins43 : ∀ p, p < 700 → chk 43 p = true := by decide +kernel
set_option maxRecDepth 1000000 in
theorem ck_ins44 : ∀ p, p < 700 → chk 44 p = true := by decide +kernel
set_option maxRecDepth 1000000 in
theorem ck_ins45 : ∀ p, p < 700 → chk 45 p = true := by decide +kernel
set_option maxRecDepth 1000000 in
theorem ck_ins46 : ∀ p, p < 700 → chk 46 p = true := by decide +kernel
set_option maxRecDepth 1000000 in
theorem ck_ins47 : ∀ p, p < 700 → chk 47 p = true := by decide +kernel
set_option maxRecDepth 1000000 in
theorem ck_ins48 : ∀ p, p < 700 → chk 48 p = true := by decide +kernel
set_option maxRecDepth 1000000 in
theorem ck_ins49 : ∀ p, p < 700 → chk 49 p = true := by decide +kernel
set_option maxRecDepth 1000000 in
theorem ck_ins50 : ∀ p, p < 700 → chk 50 p = true := by decide +kernel
set_option maxRecDepth 1000000 in
theorem ck_ins51 : ∀ p, p < 700 → chk 51 p = true := by decide +kernel
set_option maxRecDepth 1000000 in
theorem ck_ins52 : ∀ p, p < 700 → chk 52 p = true := by decide +kernel
set_option maxRecDepth 1000000 in
theorem ck_ins53 : ∀ p, p < 700 → chk 53 p = true := by decide +kernel
set_option maxRecDepth 1000000 in
theorem ck_ins54 : ∀ p, p < 700 → chk 54 p = true := by decide +kernel
set_option maxRecDepth 1000000 in
theorem ck_ins55 : ∀ p, p < 700 → chk 55 p = true := by decide +kernel
set_option maxRecDepth 1000000 in
theorem ck_ins56 : ∀ p, p < 700 → chk 56 p = true := by decide +kernel
set_option maxRecDepth 1000000 in
theorem ck_ins57 : ∀ p, p < 700 → chk 57 p = true := by decide +kernel
set_option maxRecDepth 1000000 in
theorem ck_ins58 : ∀ p, p < 700 → chk 58 p = true := by decide +kernel
set_option maxRecDepth 1000000 in
theorem ck_ins59 : ∀ p, p < 700 → chk 59 p = true := by decide +kernel
set_option maxRecDepth 1000000 in
theorem ck_ins60 : ∀ p, p < 700 → chk 60 p = true := by decide +kernel
set_option maxRecDepth 1000000 in
theorem ck_ins61 : ∀ p, p < 700 → chk 61 p = true := by decide +kernel
set_option maxRecDepth 1000000 in
theorem ck_ins62 : ∀ p, p < 700 → chk 62 p = true := by decide +kernel
set_option maxRecDepth 1000000 in
theorem ck_ins63 : ∀ p, p < 700 → chk 63 p = true := by decide +kernel
set_option maxRecDepth 1000000 in
theorem ck_ins64 : ∀ p, p < 700 → chk 64 p = true := by decide +kernel
set_option maxRecDepth 1000000 in
theorem ck_ins65 : ∀ p, p < 700 → chk 65 p = true := by decide +kernel
set_option maxRecDepth 1000000 in
theorem ck_ins66 : ∀ p, p < 700 → chk 66 p = true := by decide +kernel
set_option maxRecDepth 1000000 in
theorem ck_ins67 : ∀ p, p < 700 → chk 67 p = true := by decide +kernel
set_option maxRecDepth 1000000 in
theorem ck_ins68 : ∀ p, p < 700 → chk 68 p = true := by decide +kernel
set_option maxRecDepth 1000000 in
theorem ck_ins69 : ∀ p, p < 700 → chk 69 p = true := by decide +kernel
set_option maxRecDepth 1000000 in
theorem ck_ins70 : ∀ p, p < 700 → chk 70 p = true := by decide +kernel
set_option maxRecDepth 1000000 in
theorem ck_ins71 : ∀ p, p < 700 → chk 71 p = true := by decide +kernel
set_option maxRecDepth 1000000 in
theorem ck_ins72 : ∀ p, p < 700 → chk 72 p = true := by decide +kernel
set_option maxRecDepth 1000000 in
theorem ck_ins73 : ∀ p, p < 700 → chk 73 p = true := by decide +kernel
set_option maxRecDepth 1000000 in
theorem ck_ins74 : ∀ p, p < 700 → chk 74 p = true := by decide +kernel
set_option maxRecDepth 1000000 in
theorem ck_ins75 : ∀ p, p < 700 → chk 75 p = true := by decide +kernel
set_option maxRecDepth 1000000 in
theorem ck_ins76 : ∀ p, p < 700 → chk 76 p = true := by decide +kernel
set_option maxRecDepth 1000000 in
theorem ck_ins77 : ∀ p, p < 700 → chk 77 p = true := by decide +kernel
set_option maxRecDepth 1000000 in
theorem ck_ins78 : ∀ p, p < 700 → chk 78 p = true := by decide +kernel
set_option maxRecDepth 1000000 in
theorem ck_ins79 : ∀ p, p < 700 → chk 79 p = true := by decide +kernel
set_option maxRecDepth 1000000 in
theorem ck_ins80 : ∀ p, p < 700 → chk 80 p = true := by decide +kernel
set_option maxRecDepth 1000000 in
theorem ck_ins81 : ∀ p, p < 700 → chk 81 p = true := by decide +kernel
set_option maxRecDepth 1000000 in
theorem ck_ins82 : ∀ p, p < 700 → chk 82 p = true := by decide +kernel
set_option maxRecDepth 1000000 in
theorem ck_ins83 : ∀ p, p < 700 → chk 83 p = true := by decide +kernel
set_option maxRecDepth 1000000 in
theorem ck_ins84 : ∀ p, p < 700 → chk 84 p = true := by decide +kernel
set_option maxRecDepth 1000000 in
theorem ck_ins85 : ∀ p, p < 700 → chk 85 p = true := by decide +kernel
set_option maxRecDepth 1000000 in
theorem ck_ins86 : ∀ p, p < 700 → chk 86 p = true := by decide +kernel
set_option maxRecDepth 1000000 in
theorem ck_ins87 : ∀ p, p < 700 → chk 87 p = true := by decide +kernel
set_option maxRecDepth 1000000 in
theorem ck_ins88 : ∀ p, p < 700 → chk 88 p = true := by decide +kernel
set_option maxRecDepth 1000000 in
theorem ck_ins89 : ∀ p, p < 700 → chk 89 p = true := by decide +kernel
set_option maxRecDepth 1000000 in
theorem ck_ins90 : ∀ p, p < 700 → chk 90 p = true := by decide +kernel
set_option maxRecDepth 1000000 in
theorem ck_ins91 : ∀ p, p < 700 → chk 91 p = true := by decide +kernel
set_option maxRecDepth 1000000 in
theorem ck_ins92 : ∀ p, p < 700 → chk 92 p = true := by decide +kernel
set_option maxRecDepth 1000000 in
theorem ck_ins93 : ∀ p, p < 700 → chk 93 p = true := by decide +kernel
set_option maxRecDepth 1000000 in
theorem ck_ins94 : ∀ p, p < 700 → chk 94 p = true := by decide +kernel
set_option maxRecDepth 1000000 in
theorem ck_ins95 : ∀ p, p < 700 → chk 95 p = true := by decide +kernel
set_option maxRecDepth 1000000 in
theorem ck_ins96 : ∀ p, p < 700 → chk 96 p = true := by decide +kernel
set_option maxRecDepth 1000000 in
theorem ck_ins97 : ∀ p, p < 700 → chk 97 p = true := by decide +kernel
set_option maxRecDepth 1000000 in
theorem ck_ins98 : ∀ p, p < 700 → chk 98 p = true := by decide +kernel
set_option maxRecDepth 1000000 in
theorem ck_ins99 : ∀ p, p < 700 → chk 99 p = true := by decide +kernel
set_option maxRecDepth 1000000 in
theorem ck_ins100 : ∀ p, p < 700 → chk 100 p = true := by decide +kernel
set_option maxRecDepth 1000000 in
theorem ck_ins101 : ∀ p, p < 700 → chk 101 p = true := by decide +kernel
set_option maxRecDepth 1000000 in
theorem ck_ins102 : ∀ p, p < 700 → chk 102 p = true := by decide +kernel
set_option maxRecDepth 1000000 in
theorem ck_ins103 : ∀ p, p < 700 → chk 103 p = true := by decide +kernel
set_option maxRecDepth 1000000 in
theorem ck_ins104 : ∀ p, p < 700 → chk 104 p = true := by decide +kernel
set_option maxRecDepth 1000000 in
theorem ck_ins105 : ∀ p, p < 700 → chk 105 p = true := by decide +kernel
set_option maxRecDepth 1000000 in
theorem ck_ins106 : ∀ p, p < 700 → chk 106 p = true := by decide +kernel
set_option maxRecDepth 1000000 in
theorem ck_ins107 : ∀ p, p < 700 → chk 107 p = true := by decide +kernel
set_option maxRecDepth 1000000 in
theorem ck_ins108 : ∀ p, p < 700 → chk 108 p = true := by decide +kernel
set_option maxRecDepth 1000000 in
theorem ck_ins109 : ∀ p, p < 700 → chk 109 p = true := by decide +kernel
set_option maxRecDepth 1000000 in
theorem ck_ins110 : ∀ p, p < 700 → chk 110 p = true := by decide +kernel
set_option maxRecDepth 1000000 in
theorem ck_ins111 : ∀ p, p < 700 → chk 111 p = true := by decide +kernel
set_option maxRecDepth 1000000 in
theorem ck_ins112 : ∀ p, p < 700 → chk 112 p = true := by decide +kernel
set_option maxRecDepth 1000000 in
theorem ck_ins113 : ∀ p, p < 700 → chk 113 p = true := by decide +kernel
set_option maxRecDepth 1000000 in
theorem ck_ins114 : ∀ p, p < 700 → chk 114 p = true := by decide +kernel
set_option maxRecDepth 1000000 in
theorem ck_ins115 : ∀ p, p < 700 → chk 115 p = true := by decide +kernel
set_option maxRecDepth 1000000 in
theorem ck_ins116 : ∀ p, p < 700 → chk 116 p = true := by decide +kernel
set_option maxRecDepth 1000000 in
theorem ck_ins117 : ∀ p, p < 700 → chk 117 p = true := by decide +kernel
set_option maxRecDepth 1000000 in
theorem ck_ins118 : ∀ p, p < 700 → chk 118 p = true := by decide +kernel
set_option maxRecDepth 1000000 in
theorem ck_ins119 : ∀ p, p < 700 → chk 119 p = true := by decide +kernel
set_option maxRecDepth 1000000 in
theorem ck_ins120 : ∀ p, p < 700 → chk 120 p = true := by decide +kernel
set_option maxRecDepth 1000000 in
theorem ck_ins121 : ∀ p, p < 700 → chk 121 p = true := by decide +kernel
set_option maxRecDepth 1000000 in
theorem ck_ins122 : ∀ p, p < 700 → chk 122 p = true := by decide +kernel
set_option maxRecDepth 1000000 in
theorem ck_ins123 : ∀ p, p < 700 → chk 123 p = true := by decide +kernel
set_option maxRecDepth 1000000 in
theorem ck_ins124 : ∀ p, p < 700 → chk 124 p = true := by decide +kernel
set_option maxRecDepth 1000000 in
theorem ck_ins125 : ∀ p, p < 700 → chk 125 p = true := by decide +kernel
set_option maxRecDepth 1000000 in
theorem ck_ins126 : ∀ p, p < 700 → chk 126 p = true := by decide +kernel
set_option maxRecDepth 1000000 in
theorem ck_ins127 : ∀ p, p < 700 → chk 127 p = true := by decide +kernel
set_option maxRecDepth 1000000 in
theorem ck_ins128 : ∀ p, p < 700 → chk 128 p = true := by decide +kernel
set_option maxRecDepth 1000000 in
theorem ck_ins129 : ∀ p, p < 700 → chk 129 p = true := by decide +kernel
set_option maxRecDepth 1000000 in
theorem ck_ins130 : ∀ p, p < 700 → chk 130 p = true := by decide +kernel
set_option maxRecDepth 1000000 in
theorem ck_ins131 : ∀ p, p < 700 → chk 131 p = true := by decide +kernel
set_option maxRecDepth 1000000 in
theorem ck_ins132 : ∀ p, p < 700 → chk 132 p = true := by decide +kernel
set_option maxRecDepth 1000000 in
theorem ck_ins133 : ∀ p, p < 700 → chk 133 p = true := by decide +kernel
set_option maxRecDepth 1000000 in
theorem ck_ins134 : ∀ p, p < 700 → chk 134 p = true := by decide +kernel
set_option maxRecDepth 1000000 in
theorem ck_ins135 : ∀ p, p < 700 → chk 135 p = true := by decide +kernel
set_option maxRecDepth 1000000 in
theorem ck_ins136 : ∀ p, p < 700 → chk 136 p = true := by decide +kernel
set_option maxRecDepth 1000000 in
theorem ck_ins137 : ∀ p, p < 700 → chk 137 p = true := by decide +kernel
set_option maxRecDepth 1000000 in
theorem ck_ins138 : ∀ p, p < 700 → chk 138 p = true := by decide +kernel
set_option maxRecDepth 1000000 in
theorem ck_ins139 : ∀ p, p < 700 → chk 139 p = true := by decide +kernel
set_option maxRecDepth 1000000 in
theorem ck_ins140 : ∀ p, p < 700 → chk 140 p = true := by decide +kernel
set_option maxRecDepth 1000000 in
theorem ck_ins141 : ∀ p, p < 700 → chk 141 p = true := by decide +kernel
set_option maxRecDepth 1000000 in
theorem ck_ins142 : ∀ p, p < 700 → chk 142 p = true := by decide +kernel
set_option maxRecDepth 1000000 in
theorem ck_ins143 : ∀ p, p < 700 → chk 143 p = true := by decide +kernel
set_option maxRecDepth 1000000 in
theorem ck_ins144 : ∀ p, p < 700 → chk 144 p = true := by decide +kernel
set_option maxRecDepth 1000000 in
theorem ck_ins145 : ∀ p, p < 700 → chk 145 p = true := by decide +kernel
set_option maxRecDepth 1000000 in
theorem ck_ins146 : ∀ p, p < 700 → chk 146 p = true := by decide +kernel
set_option maxRecDepth 1000000 in
theorem ck_ins147 : ∀ p, p < 700 → chk 147 p = true := by decide +kernel
set_option maxRecDepth 1000000 in
theorem ck_ins148 : ∀ p, p < 700 → chk 148 p = true := by decide +kernel
set_option maxRecDepth 1000000 in
theorem ck_ins149 : ∀ p, p < 700 → chk 149 p = true := by decide +kernel
set_option maxRecDepth 1000000 in
theorem ck_ins150 : ∀ p, p < 700 → chk 150 p = true := by decide +kernel
set_option maxRecDepth 1000000 in
theorem ck_ins151 : ∀ p, p < 700 → chk 151 p = true := by decide +kernel
set_option maxRecDepth 1000000 in
theorem ck_ins152 : ∀ p, p < 700 → chk 152 p = true := by decide +kernel
set_option maxRecDepth 1000000 in
theorem ck_ins153 : ∀ p, p < 700 → chk 153 p = true := by decide +kernel
set_option maxRecDepth 1000000 in
theorem ck_ins154 : ∀ p, p < 700 → chk 154 p = true := by decide +kernel
set_option maxRecDepth 1000000 in
theorem ck_ins155 : ∀ p, p < 700 → chk 155 p = true := by decide +kernel
set_option maxRecDepth 1000000 in
theorem ck_ins156 : ∀ p, p < 700 → chk 156 p = true := by decide +kernel
set_option maxRecDepth 1000000 in
theorem ck_ins157 : ∀ p, p < 700 → chk 157 p = true := by decide +kernel
set_option maxRecDepth 1000000 in
theorem ck_ins158 : ∀ p, p < 700 → chk 158 p = true := by decide +kernel
set_option maxRecDepth 1000000 in
theorem ck_ins159 : ∀ p, p < 700 → chk 159 p = true := by decide +kernel
set_option maxRecDepth 1000000 in
theorem ck_ins160 : ∀ p, p < 700 → chk 160 p = true := by decide +kernel
set_option maxRecDepth 1000000 in
theorem ck_ins161 : ∀ p, p < 700 → chk 161 p = true := by decide +kernel
set_option maxRecDepth 1000000 in
theorem ck_ins162 : ∀ p, p < 700 → chk 162 p = true := by decide +kernel
set_option maxRecDepth 1000000 in
theorem ck_ins163 : ∀ p, p < 700 → chk 163 p = true := by decide +kernel
set_option maxRecDepth 1000000 in
theorem ck_ins164 : ∀ p, p < 700 → chk 164 p = true := by decide +kernel
set_option maxRecDepth 1000000 in
theorem ck_ins165 : ∀ p, p < 700 → chk 165 p = true := by decide +kernel
set_option maxRecDepth 1000000 in
theorem ck_ins166 : ∀ p, p < 700 → chk 166 p = true := by decide +kernel
set_option maxRecDepth 1000000 in
theorem ck_ins167 : ∀ p, p < 700 → chk 167 p = true := by decide +kernel
set_option maxRecDepth 1000000 in
theorem ck_ins168 : ∀ p, p < 700 → chk 168 p = true := by decide +kernel
set_option maxRecDepth 1000000 in
theorem ck_ins169 : ∀ p, p < 700 → chk 169 p = true := by decide +kernel
set_option maxRecDepth 1000000 in
theorem ck_ins170 : ∀ p, p < 700 → chk 170 p = true := by decide +kernel
set_option maxRecDepth 1000000 in
theorem ck_ins171 : ∀ p, p < 700 → chk 171 p = true := by decide +kernel
set_option maxRecDepth 1000000 in
theorem ck_ins172 : ∀ p, p < 700 → chk 172 p = true := by decide +kernel
set_option maxRecDepth 1000000 in
theorem ck_ins173 : ∀ p, p < 700 → chk 173 p = true := by decide +kernel
set_option maxRecDepth 1000000 in
theorem ck_ins174 : ∀ p, p < 700 → chk 174 p = true := by decide +kernel
set_option maxRecDepth 1000000 in
theorem ck_ins175 : ∀ p, p < 700 → chk 175 p = true := by decide +kernel
theorem ck_insA : ∀ m, m < 176 → ∀ p, p < 700 → chk m p = true := fun m h => by
  rcases Nat.lt_or_ge m 88 with a | a
  · rcases Nat.lt_or_ge m 44 with a | a
    · rcases Nat.lt_or_ge m 22 with a | a
      · rcases Nat.lt_or_ge m 11 with a | a
        · rcases Nat.lt_or_ge m 5 with a | a
          · rcases Nat.lt_or_ge m 2 with a | a
            · rcases Nat.lt_or_ge m 1 with a | a
              · obtain rfl : m = 0 := by omega
                exact ck_ins0
              · obtain rfl : m = 1 := by omega
                exact ck_ins1
            · rcases Nat.lt_or_ge m 3 with a | a
              · obtain rfl : m = 2 := by omega
                exact ck_ins2
              · rcases Nat.lt_or_ge m 4 with a | a
                · obtain rfl : m = 3 := by omega
                  exact ck_ins3
                · obtain rfl : m = 4 := by omega
                  exact ck_ins4
          · rcases Nat.lt_or_ge m 8 with a | a
            · rcases Nat.lt_or_ge m 6 with a | a
              · obtain rfl : m = 5 := by omega
                exact ck_ins5
              · rcases Nat.lt_or_ge m 7 with a | a
                · obtain rfl : m = 6 := by omega
                  exact ck_ins6
                · obtain rfl : m = 7 := by omega
                  exact ck_ins7
            · rcases Nat.lt_or_ge m 9 with a | a
              · obtain rfl : m = 8 := by omega
                exact ck_ins8
              · rcases Nat.lt_or_ge m 10 with a | a
                · obtain rfl : m = 9 := by omega
                  exact ck_ins9
                · obtain rfl : m = 10 := by omega
                  exact ck_ins10
        · rcases Nat.lt_or_ge m 16 with a | a
          · rcases Nat.lt_or_ge m 13 with a | a
            · rcases Nat.lt_or_ge m 12 with a | a
              · obtain rfl : m = 11 := by omega
                exact ck_ins11
              · obtain rfl : m = 12 := by omega
                exact ck_ins12
            · rcases Nat.lt_or_ge m 14 with a | a
              · obtain rfl : m = 13 := by omega
                exact ck_ins13
              · rcases Nat.lt_or_ge m 15 with a | a
                · obtain rfl : m = 14 := by omega
                  exact ck_ins14
                · obtain rfl : m = 15 := by omega
                  exact ck_ins15
          · rcases Nat.lt_or_ge m 19 with a | a
            · rcases Nat.lt_or_ge m 17 with a | a
              · obtain rfl : m = 16 := by omega
                exact ck_ins16
              · rcases Nat.lt_or_ge m 18 with a | a
                · obtain rfl : m = 17 := by omega
                  exact ck_ins17
                · obtain rfl : m = 18 := by omega
                  exact ck_ins18
            · rcases Nat.lt_or_ge m 20 with a | a
              · obtain rfl : m = 19 := by omega
                exact ck_ins19
              · rcases Nat.lt_or_ge m 21 with a | a
                · obtain rfl : m = 20 := by omega
                  exact ck_ins20
                · obtain rfl : m = 21 := by omega
                  exact ck_ins21
      · rcases Nat.lt_or_ge m 33 with a | a
        · rcases Nat.lt_or_ge m 27 with a | a
          · rcases Nat.lt_or_ge m 24 with a | a
            · rcases Nat.lt_or_ge m 23 with a | a
              · obtain rfl : m = 22 := by omega
                exact ck_ins22
              · obtain rfl : m = 23 := by omega
                exact ck_ins23
            · rcases Nat.lt_or_ge m 25 with a | a
              · obtain rfl : m = 24 := by omega
                exact ck_ins24
              · rcases Nat.lt_or_ge m 26 with a | a
                · obtain rfl : m = 25 := by omega
                  exact ck_ins25
                · obtain rfl : m = 26 := by omega
                  exact ck_ins26
          · rcases Nat.lt_or_ge m 30 with a | a
            · rcases Nat.lt_or_ge m 28 with a | a
              · obtain rfl : m = 27 := by omega
                exact ck_ins27
              · rcases Nat.lt_or_ge m 29 with a | a
                · obtain rfl : m = 28 := by omega
                  exact ck_ins28
                · obtain rfl : m = 29 := by omega
                  exact ck_ins29
            · rcases Nat.lt_or_ge m 31 with a | a
              · obtain rfl : m = 30 := by omega
                exact ck_ins30
              · rcases Nat.lt_or_ge m 32 with a | a
                · obtain rfl : m = 31 := by omega
                  exact ck_ins31
                · obtain rfl : m = 32 := by omega
                  exact ck_ins32
        · rcases Nat.lt_or_ge m 38 with a | a
          · rcases Nat.lt_or_ge m 35 with a | a
            · rcases Nat.lt_or_ge m 34 with a | a
              · obtain rfl : m = 33 := by omega
                exact ck_ins33
              · obtain rfl : m = 34 := by omega
                exact ck_ins34
            · rcases Nat.lt_or_ge m 36 with a | a
              · obtain rfl : m = 35 := by omega
                exact ck_ins35
              · rcases Nat.lt_or_ge m 37 with a | a
                · obtain rfl : m = 36 := by omega
                  exact ck_ins36
                · obtain rfl : m = 37 := by omega
                  exact ck_ins37
          · rcases Nat.lt_or_ge m 41 with a | a
            · rcases Nat.lt_or_ge m 39 with a | a
              · obtain rfl : m = 38 := by omega
                exact ck_ins38
              · rcases Nat.lt_or_ge m 40 with a | a
                · obtain rfl : m = 39 := by omega
                  exact ck_ins39
                · obtain rfl : m = 40 := by omega
                  exact ck_ins40
            · rcases Nat.lt_or_ge m 42 with a | a
              · obtain rfl : m = 41 := by omega
                exact ck_ins41
              · rcases Nat.lt_or_ge m 43 with a | a
                · obtain rfl : m = 42 := by omega
                  exact ck_ins42
                · obtain rfl : m = 43 := by omega
                  exact ck_ins43
    · rcases Nat.lt_or_ge m 66 with a | a
      · rcases Nat.lt_or_ge m 55 with a | a
        · rcases Nat.lt_or_ge m 49 with a | a
          · rcases Nat.lt_or_ge m 46 with a | a
            · rcases Nat.lt_or_ge m 45 with a | a
              · obtain rfl : m = 44 := by omega
                exact ck_ins44
              · obtain rfl : m = 45 := by omega
                exact ck_ins45
            · rcases Nat.lt_or_ge m 47 with a | a
              · obtain rfl : m = 46 := by omega
                exact ck_ins46
              · rcases Nat.lt_or_ge m 48 with a | a
                · obtain rfl : m = 47 := by omega
                  exact ck_ins47
                · obtain rfl : m = 48 := by omega
                  exact ck_ins48
          · rcases Nat.lt_or_ge m 52 with a | a
            · rcases Nat.lt_or_ge m 50 with a | a
              · obtain rfl : m = 49 := by omega
                exact ck_ins49
              · rcases Nat.lt_or_ge m 51 with a | a
                · obtain rfl : m = 50 := by omega
                  exact ck_ins50
                · obtain rfl : m = 51 := by omega
                  exact ck_ins51
            · rcases Nat.lt_or_ge m 53 with a | a
              · obtain rfl : m = 52 := by omega
                exact ck_ins52
              · rcases Nat.lt_or_ge m 54 with a | a
                · obtain rfl : m = 53 := by omega
                  exact ck_ins53
                · obtain rfl : m = 54 := by omega
                  exact ck_ins54
        · rcases Nat.lt_or_ge m 60 with a | a
          · rcases Nat.lt_or_ge m 57 with a | a
            · rcases Nat.lt_or_ge m 56 with a | a
              · obtain rfl : m = 55 := by omega
                exact ck_ins55
              · obtain rfl : m = 56 := by omega
                exact ck_ins56
            · rcases Nat.lt_or_ge m 58 with a | a
              · obtain rfl : m = 57 := by omega
                exact ck_ins57
              · rcases Nat.lt_or_ge m 59 with a | a
                · obtain rfl : m = 58 := by omega
                  exact ck_ins58
                · obtain rfl : m = 59 := by omega
                  exact ck_ins59
          · rcases Nat.lt_or_ge m 63 with a | a
            · rcases Nat.lt_or_ge m 61 with a | a
              · obtain rfl : m = 60 := by omega
                exact ck_ins60
              · rcases Nat.lt_or_ge m 62 with a | a
                · obtain rfl : m = 61 := by omega
                  exact ck_ins61
                · obtain rfl : m = 62 := by omega
                  exact ck_ins62
            · rcases Nat.lt_or_ge m 64 with a | a
              · obtain rfl : m = 63 := by omega
                exact ck_ins63
              · rcases Nat.lt_or_ge m 65 with a | a
                · obtain rfl : m = 64 := by omega
                  exact ck_ins64
                · obtain rfl : m = 65 := by omega
                  exact ck_ins65
      · rcases Nat.lt_or_ge m 77 with a | a
        · rcases Nat.lt_or_ge m 71 with a | a
          · rcases Nat.lt_or_ge m 68 with a | a
            · rcases Nat.lt_or_ge m 67 with a | a
              · obtain rfl : m = 66 := by omega
                exact ck_ins66
              · obtain rfl : m = 67 := by omega
                exact ck_ins67
            · rcases Nat.lt_or_ge m 69 with a | a
              · obtain rfl : m = 68 := by omega
                exact ck_ins68
              · rcases Nat.lt_or_ge m 70 with a | a
                · obtain rfl : m = 69 := by omega
                  exact ck_ins69
                · obtain rfl : m = 70 := by omega
                  exact ck_ins70
          · rcases Nat.lt_or_ge m 74 with a | a
            · rcases Nat.lt_or_ge m 72 with a | a
              · obtain rfl : m = 71 := by omega
                exact ck_ins71
              · rcases Nat.lt_or_ge m 73 with a | a
                · obtain rfl : m = 72 := by omega
                  exact ck_ins72
                · obtain rfl : m = 73 := by omega
                  exact ck_ins73
            · rcases Nat.lt_or_ge m 75 with a | a
              · obtain rfl : m = 74 := by omega
                exact ck_ins74
              · rcases Nat.lt_or_ge m 76 with a | a
                · obtain rfl : m = 75 := by omega
                  exact ck_ins75
                · obtain rfl : m = 76 := by omega
                  exact ck_ins76
        · rcases Nat.lt_or_ge m 82 with a | a
          · rcases Nat.lt_or_ge m 79 with a | a
            · rcases Nat.lt_or_ge m 78 with a | a
              · obtain rfl : m = 77 := by omega
                exact ck_ins77
              · obtain rfl : m = 78 := by omega
                exact ck_ins78
            · rcases Nat.lt_or_ge m 80 with a | a
              · obtain rfl : m = 79 := by omega
                exact ck_ins79
              · rcases Nat.lt_or_ge m 81 with a | a
                · obtain rfl : m = 80 := by omega
                  exact ck_ins80
                · obtain rfl : m = 81 := by omega
                  exact ck_ins81
          · rcases Nat.lt_or_ge m 85 with a | a
            · rcases Nat.lt_or_ge m 83 with a | a
              · obtain rfl : m = 82 := by omega
                exact ck_ins82
              · rcases Nat.lt_or_ge m 84 with a | a
                · obtain rfl : m = 83 := by omega
                  exact ck_ins83
                · obtain rfl : m = 84 := by omega
                  exact ck_ins84
            · rcases Nat.lt_or_ge m 86 with a | a
              · obtain rfl : m = 85 := by omega
                exact ck_ins85
              · rcases Nat.lt_or_ge m 87 with a | a
                · obtain rfl : m = 86 := by omega
                  exact ck_ins86
                · obtain rfl : m = 87 := by omega
                  exact ck_ins87
  · rcases Nat.lt_or_ge m 132 with a | a
    · rcases Nat.lt_or_ge m 110 with a | a
      · rcases Nat.lt_or_ge m 99 with a | a
        · rcases Nat.lt_or_ge m 93 with a | a
          · rcases Nat.lt_or_ge m 90 with a | a
            · rcases Nat.lt_or_ge m 89 with a | a
              · obtain rfl : m = 88 := by omega
                exact ck_ins88
              · obtain rfl : m = 89 := by omega
                exact ck_ins89
            · rcases Nat.lt_or_ge m 91 with a | a
              · obtain rfl : m = 90 := by omega
                exact ck_ins90
              · rcases Nat.lt_or_ge m 92 with a | a
                · obtain rfl : m = 91 := by omega
                  exact ck_ins91
                · obtain rfl : m = 92 := by omega
                  exact ck_ins92
          · rcases Nat.lt_or_ge m 96 with a | a
            · rcases Nat.lt_or_ge m 94 with a | a
              · obtain rfl : m = 93 := by omega
                exact ck_ins93
              · rcases Nat.lt_or_ge m 95 with a | a
                · obtain rfl : m = 94 := by omega
                  exact ck_ins94
                · obtain rfl : m = 95 := by omega
                  exact ck_ins95
            · rcases Nat.lt_or_ge m 97 with a | a
              · obtain rfl : m = 96 := by omega
                exact ck_ins96
              · rcases Nat.lt_or_ge m 98 with a | a
                · obtain rfl : m = 97 := by omega
                  exact ck_ins97
                · obtain rfl : m = 98 := by omega
                  exact ck_ins98
        · rcases Nat.lt_or_ge m 104 with a | a
          · rcases Nat.lt_or_ge m 101 with a | a
            · rcases Nat.lt_or_ge m 100 with a | a
              · obtain rfl : m = 99 := by omega
                exact ck_ins99
              · obtain rfl : m = 100 := by omega
                exact ck_ins100
            · rcases Nat.lt_or_ge m 102 with a | a
              · obtain rfl : m = 101 := by omega
                exact ck_ins101
              · rcases Nat.lt_or_ge m 103 with a | a
                · obtain rfl : m = 102 := by omega
                  exact ck_ins102
                · obtain rfl : m = 103 := by omega
                  exact ck_ins103
          · rcases Nat.lt_or_ge m 107 with a | a
            · rcases Nat.lt_or_ge m 105 with a | a
              · obtain rfl : m = 104 := by omega
                exact ck_ins104
              · rcases Nat.lt_or_ge m 106 with a | a
                · obtain rfl : m = 105 := by omega
                  exact ck_ins105
                · obtain rfl : m = 106 := by omega
                  exact ck_ins106
            · rcases Nat.lt_or_ge m 108 with a | a
              · obtain rfl : m = 107 := by omega
                exact ck_ins107
              · rcases Nat.lt_or_ge m 109 with a | a
                · obtain rfl : m = 108 := by omega
                  exact ck_ins108
                · obtain rfl : m = 109 := by omega
                  exact ck_ins109
      · rcases Nat.lt_or_ge m 121 with a | a
        · rcases Nat.lt_or_ge m 115 with a | a
          · rcases Nat.lt_or_ge m 112 with a | a
            · rcases Nat.lt_or_ge m 111 with a | a
              · obtain rfl : m = 110 := by omega
                exact ck_ins110
              · obtain rfl : m = 111 := by omega
                exact ck_ins111
            · rcases Nat.lt_or_ge m 113 with a | a
              · obtain rfl : m = 112 := by omega
                exact ck_ins112
              · rcases Nat.lt_or_ge m 114 with a | a
                · obtain rfl : m = 113 := by omega
                  exact ck_ins113
                · obtain rfl : m = 114 := by omega
                  exact ck_ins114
          · rcases Nat.lt_or_ge m 118 with a | a
            · rcases Nat.lt_or_ge m 116 with a | a
              · obtain rfl : m = 115 := by omega
                exact ck_ins115
              · rcases Nat.lt_or_ge m 117 with a | a
                · obtain rfl : m = 116 := by omega
                  exact ck_ins116
                · obtain rfl : m = 117 := by omega
                  exact ck_ins117
            · rcases Nat.lt_or_ge m 119 with a | a
              · obtain rfl : m = 118 := by omega
                exact ck_ins118
              · rcases Nat.lt_or_ge m 120 with a | a
                · obtain rfl : m = 119 := by omega
                  exact ck_ins119
                · obtain rfl : m = 120 := by omega
                  exact ck_ins120
        · rcases Nat.lt_or_ge m 126 with a | a
          · rcases Nat.lt_or_ge m 123 with a | a
            · rcases Nat.lt_or_ge m 122 with a | a
              · obtain rfl : m = 121 := by omega
                exact ck_ins121
              · obtain rfl : m = 122 := by omega
                exact ck_ins122
            · rcases Nat.lt_or_ge m 124 with a | a
              · obtain rfl : m = 123 := by omega
                exact ck_ins123
              · rcases Nat.lt_or_ge m 125 with a | a
                · obtain rfl : m = 124 := by omega
                  exact ck_ins124
                · obtain rfl : m = 125 := by omega
                  exact ck_ins125
          · rcases Nat.lt_or_ge m 129 with a | a
            · rcases Nat.lt_or_ge m 127 with a | a
              · obtain rfl : m = 126 := by omega
                exact ck_ins126
              · rcases Nat.lt_or_ge m 128 with a | a
                · obtain rfl : m = 127 := by omega
                  exact ck_ins127
                · obtain rfl : m = 128 := by omega
                  exact ck_ins128
            · rcases Nat.lt_or_ge m 130 with a | a
              · obtain rfl : m = 129 := by omega
                exact ck_ins129
              · rcases Nat.lt_or_ge m 131 with a | a
                · obtain rfl : m = 130 := by omega
                  exact ck_ins130
                · obtain rfl : m = 131 := by omega
                  exact ck_ins131
    · rcases Nat.lt_or_ge m 154 with a | a
      · rcases Nat.lt_or_ge m 143 with a | a
        · rcases Nat.lt_or_ge m 137 with a | a
          · rcases Nat.lt_or_ge m 134 with a | a
            · rcases Nat.lt_or_ge m 133 with a | a
              · obtain rfl : m = 132 := by omega
                exact ck_ins132
              · obtain rfl : m = 133 := by omega
                exact ck_ins133
            · rcases Nat.lt_or_ge m 135 with a | a
              · obtain rfl : m = 134 := by omega
                exact ck_ins134
              · rcases Nat.lt_or_ge m 136 with a | a
                · obtain rfl : m = 135 := by omega
                  exact ck_ins135
                · obtain rfl : m = 136 := by omega
                  exact ck_ins136
          · rcases Nat.lt_or_ge m 140 with a | a
            · rcases Nat.lt_or_ge m 138 with a | a
              · obtain rfl : m = 137 := by omega
                exact ck_ins137
              · rcases Nat.lt_or_ge m 139 with a | a
                · obtain rfl : m = 138 := by omega
                  exact ck_ins138
                · obtain rfl : m = 139 := by omega
                  exact ck_ins139
            · rcases Nat.lt_or_ge m 141 with a | a
              · obtain rfl : m = 140 := by omega
                exact ck_ins140
              · rcases Nat.lt_or_ge m 142 with a | a
                · obtain rfl : m = 141 := by omega
                  exact ck_ins141
                · obtain rfl : m = 142 := by omega
                  exact ck_ins142
        · rcases Nat.lt_or_ge m 148 with a | a
          · rcases Nat.lt_or_ge m 145 with a | a
            · rcases Nat.lt_or_ge m 144 with a | a
              · obtain rfl : m = 143 := by omega
                exact ck_ins143
              · obtain rfl : m = 144 := by omega
                exact ck_ins144
            · rcases Nat.lt_or_ge m 146 with a | a
              · obtain rfl : m = 145 := by omega
                exact ck_ins145
              · rcases Nat.lt_or_ge m 147 with a | a
                · obtain rfl : m = 146 := by omega
                  exact ck_ins146
                · obtain rfl : m = 147 := by omega
                  exact ck_ins147
          · rcases Nat.lt_or_ge m 151 with a | a
            · rcases Nat.lt_or_ge m 149 with a | a
              · obtain rfl : m = 148 := by omega
                exact ck_ins148
              · rcases Nat.lt_or_ge m 150 with a | a
                · obtain rfl : m = 149 := by omega
                  exact ck_ins149
                · obtain rfl : m = 150 := by omega
                  exact ck_ins150
            · rcases Nat.lt_or_ge m 152 with a | a
              · obtain rfl : m = 151 := by omega
                exact ck_ins151
              · rcases Nat.lt_or_ge m 153 with a | a
                · obtain rfl : m = 152 := by omega
                  exact ck_ins152
                · obtain rfl : m = 153 := by omega
                  exact ck_ins153
      · rcases Nat.lt_or_ge m 165 with a | a
        · rcases Nat.lt_or_ge m 159 with a | a
          · rcases Nat.lt_or_ge m 156 with a | a
            · rcases Nat.lt_or_ge m 155 with a | a
              · obtain rfl : m = 154 := by omega
                exact ck_ins154
              · obtain rfl : m = 155 := by omega
                exact ck_ins155
            · rcases Nat.lt_or_ge m 157 with a | a
              · obtain rfl : m = 156 := by omega
                exact ck_ins156
              · rcases Nat.lt_or_ge m 158 with a | a
                · obtain rfl : m = 157 := by omega
                  exact ck_ins157
                · obtain rfl : m = 158 := by omega
                  exact ck_ins158
          · rcases Nat.lt_or_ge m 162 with a | a
            · rcases Nat.lt_or_ge m 160 with a | a
              · obtain rfl : m = 159 := by omega
                exact ck_ins159
              · rcases Nat.lt_or_ge m 161 with a | a
                · obtain rfl : m = 160 := by omega
                  exact ck_ins160
                · obtain rfl : m = 161 := by omega
                  exact ck_ins161
            · rcases Nat.lt_or_ge m 163 with a | a
              · obtain rfl : m = 162 := by omega
                exact ck_ins162
              · rcases Nat.lt_or_ge m 164 with a | a
                · obtain rfl : m = 163 := by omega
                  exact ck_ins163
                · obtain rfl : m = 164 := by omega
                  exact ck_ins164
        · rcases Nat.lt_or_ge m 170 with a | a
          · rcases Nat.lt_or_ge m 167 with a | a
            · rcases Nat.lt_or_ge m 166 with a | a
              · obtain rfl : m = 165 := by omega
                exact ck_ins165
              · obtain rfl : m = 166 := by omega
                exact ck_ins166
            · rcases Nat.lt_or_ge m 168 with a | a
              · obtain rfl : m = 167 := by omega
                exact ck_ins167
              · rcases Nat.lt_or_ge m 169 with a | a
                · obtain rfl : m = 168 := by omega
                  exact ck_ins168
                · obtain rfl : m = 169 := by omega
                  exact ck_ins169
          · rcases Nat.lt_or_ge m 173 with a | a
            · rcases Nat.lt_or_ge m 171 with a | a
              · obtain rfl : m = 170 := by omega
                exact ck_ins170
              · rcases Nat.lt_or_ge m 172 with a | a
                · obtain rfl : m = 171 := by omega
                  exact ck_ins171
                · obtain rfl : m = 172 := by omega
                  exact ck_ins172
            · rcases Nat.lt_or_ge m 174 with a | a
              · obtain rfl : m = 173 := by omega
                exact ck_ins173
              · rcases Nat.lt_or_ge m 175 with a | a
                · obtain rfl : m = 174 := by omega
                  exact ck_ins174
                · obtain rfl : m = 175 := by omega
                  exact ck_ins175

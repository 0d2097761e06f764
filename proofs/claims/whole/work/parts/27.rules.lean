/-! RULES FOR WALKING A METHOD OF THE ABSTRACT MACHINE -/
section
variable {d m pc len x y nx : Nat} {Q : AQ} {σ : AS} {ls ls' : List (Option AV)} {st t : List AV}
theorem x_in {as : List AV} (h1 : Nat.ble as.length (mL m) = true) (he : as.map some ++ List.replicate (mL m - as.length) none = ls) (kk : Ex (wp d) m Q 0 ls [] σ) : wp (d + 1) m as σ Q := ⟨Nat.le_of_ble_eq_true h1, by rw [he]; exact kk⟩
theorem x1 {i : Jvm.ClassFile.Instr} {f : AF} (hi : ins m pc = some (i, len, x, y, nx)) (h : St1 pc i x y nx ls st σ f) (kk : Ex (wp d) m Q f.1 f.2.1 f.2.2.1 f.2.2.2) : Ex (wp d) m Q pc ls st σ := Ex.step ⟨i, len, x, y, nx, hi, Or.inl ⟨f, h, kk⟩⟩
theorem x_iconst {n : Int} (hi : ins m pc = some (.iconst n, len, x, y, nx))  (kk : Ex (wp d) m Q nx ls (vi n :: st) σ) : Ex (wp d) m Q pc ls st σ := x1 hi rfl kk
theorem x_bipush {n : Int} (hi : ins m pc = some (.bipush n, len, x, y, nx))  (kk : Ex (wp d) m Q nx ls (vi n :: st) σ) : Ex (wp d) m Q pc ls st σ := x1 hi rfl kk
theorem x_sipush {n : Int} (hi : ins m pc = some (.sipush n, len, x, y, nx))  (kk : Ex (wp d) m Q nx ls (vi n :: st) σ) : Ex (wp d) m Q pc ls st σ := x1 hi rfl kk
theorem x_ldcI {j : Nat} (hi : ins m pc = some (.ldc j, len, x, 0, nx)) (kk : Ex (wp d) m Q nx ls (vi (x : Nat) :: st) σ) : Ex (wp d) m Q pc ls st σ := x1 hi rfl kk
theorem x_ldcS {j : Nat} (hi : ins m pc = some (.ldc j, len, x, 1, nx)) (kk : Ex (wp d) m Q nx ls (vs x :: st) σ) : Ex (wp d) m Q pc ls st σ := x1 hi rfl kk
theorem x_ldcW {j : Nat} (hi : ins m pc = some (.ldc_w j, len, x, 0, nx)) (kk : Ex (wp d) m Q nx ls (vi (x : Nat) :: st) σ) : Ex (wp d) m Q pc ls st σ := x1 hi ⟨rfl, rfl⟩ kk
theorem x_null (hi : ins m pc = some (.aconst_null, len, x, y, nx))  (kk : Ex (wp d) m Q nx ls (vn 0 :: st) σ) : Ex (wp d) m Q pc ls st σ := x1 hi rfl kk
theorem x_iload_n {k : Fin 4} {v : Int} (hi : ins m pc = some (.iload_n k, len, x, y, nx)) (hl : ls[k.val]? = some (some (vi v))) (kk : Ex (wp d) m Q nx ls (vi v :: st) σ) : Ex (wp d) m Q pc ls st σ := x1 hi ⟨v, hl, rfl⟩ kk
theorem x_iload {k : Nat} {v : Int} (hi : ins m pc = some (.iload k, len, x, y, nx)) (hl : ls[k]? = some (some (vi v))) (kk : Ex (wp d) m Q nx ls (vi v :: st) σ) : Ex (wp d) m Q pc ls st σ := x1 hi ⟨v, hl, rfl⟩ kk
theorem x_aload_n {k : Fin 4} {v : Sum (Nat × Option Nat) Nat} (hi : ins m pc = some (.aload_n k, len, x, y, nx)) (hl : ls[k.val]? = some (some (Sum.inr v))) (kk : Ex (wp d) m Q nx ls (Sum.inr v :: st) σ) : Ex (wp d) m Q pc ls st σ := x1 hi ⟨v, hl, rfl⟩ kk
theorem x_aload {k : Nat} {v : Sum (Nat × Option Nat) Nat} (hi : ins m pc = some (.aload k, len, x, y, nx)) (hl : ls[k]? = some (some (Sum.inr v))) (kk : Ex (wp d) m Q nx ls (Sum.inr v :: st) σ) : Ex (wp d) m Q pc ls st σ := x1 hi ⟨v, hl, rfl⟩ kk
theorem x_istore_n {k : Fin 4} {v : Int} (hi : ins m pc = some (.istore_n k, len, x, y, nx)) (hk : Nat.ble (k.val + 1) ls.length = true) (he : ls.set k.val (some (vi v)) = ls') (kk : Ex (wp d) m Q nx ls' t σ) : Ex (wp d) m Q pc ls (vi v :: t) σ := x1 hi ⟨v, t, rfl, Nat.le_of_ble_eq_true hk, by rw [he]⟩ kk
theorem x_istore {k : Nat} {v : Int} (hi : ins m pc = some (.istore k, len, x, y, nx)) (hk : Nat.ble (k + 1) ls.length = true) (he : ls.set k (some (vi v)) = ls') (kk : Ex (wp d) m Q nx ls' t σ) : Ex (wp d) m Q pc ls (vi v :: t) σ := x1 hi ⟨v, t, rfl, Nat.le_of_ble_eq_true hk, by rw [he]⟩ kk
theorem x_astore_n {k : Fin 4} {v : Sum (Nat × Option Nat) Nat} (hi : ins m pc = some (.astore_n k, len, x, y, nx)) (hk : Nat.ble (k.val + 1) ls.length = true) (he : ls.set k.val (some (Sum.inr v)) = ls') (kk : Ex (wp d) m Q nx ls' t σ) : Ex (wp d) m Q pc ls (Sum.inr v :: t) σ := x1 hi ⟨v, t, rfl, Nat.le_of_ble_eq_true hk, by rw [he]⟩ kk
theorem x_astore {k : Nat} {v : Sum (Nat × Option Nat) Nat} (hi : ins m pc = some (.astore k, len, x, y, nx)) (hk : Nat.ble (k + 1) ls.length = true) (he : ls.set k (some (Sum.inr v)) = ls') (kk : Ex (wp d) m Q nx ls' t σ) : Ex (wp d) m Q pc ls (Sum.inr v :: t) σ := x1 hi ⟨v, t, rfl, Nat.le_of_ble_eq_true hk, by rw [he]⟩ kk
theorem x_iinc {k : Nat} {n v : Int} (hi : ins m pc = some (.iinc k n, len, x, y, nx)) (hl : ls[k]? = some (some (vi v))) (hw : -2147483648 ≤ v + n ∧ v + n ≤ 2147483647) (he : ls.set k (some (vi (v + n))) = ls') (kk : Ex (wp d) m Q nx ls' st σ) : Ex (wp d) m Q pc ls st σ := x1 hi ⟨v, hl, by rw [wr_id hw.1 hw.2, he]⟩ kk
theorem x_dup {v : AV} (hi : ins m pc = some (.dup, len, x, y, nx))  (kk : Ex (wp d) m Q nx ls (v :: v :: t) σ) : Ex (wp d) m Q pc ls (v :: t) σ := x1 hi ⟨v, t, rfl, rfl⟩ kk
theorem x_dup2 {v w : AV} (hi : ins m pc = some (.dup2, len, x, y, nx))  (kk : Ex (wp d) m Q nx ls (v :: w :: v :: w :: t) σ) : Ex (wp d) m Q pc ls (v :: w :: t) σ := x1 hi ⟨v, w, t, rfl, rfl⟩ kk
theorem x_pop {v : AV} (hi : ins m pc = some (.pop, len, x, y, nx))  (kk : Ex (wp d) m Q nx ls t σ) : Ex (wp d) m Q pc ls (v :: t) σ := x1 hi ⟨v, t, rfl, rfl⟩ kk
theorem x_iadd {a b : Int} (hi : ins m pc = some (.iadd, len, x, y, nx)) (hw : -2147483648 ≤ a + b ∧ a + b ≤ 2147483647) (kk : Ex (wp d) m Q nx ls (vi (a + b) :: t) σ) : Ex (wp d) m Q pc ls (vi b :: vi a :: t) σ := x1 hi ⟨a, b, t, rfl, by rw [wr_id hw.1 hw.2]⟩ kk
theorem x_iaddW {a b : Int} (hi : ins m pc = some (.iadd, len, x, y, nx))  (kk : Ex (wp d) m Q nx ls (vi (wr (a + b)) :: t) σ) : Ex (wp d) m Q pc ls (vi b :: vi a :: t) σ := x1 hi ⟨a, b, t, rfl, rfl⟩ kk
theorem x_isub {a b : Int} (hi : ins m pc = some (.isub, len, x, y, nx)) (hw : -2147483648 ≤ a - b ∧ a - b ≤ 2147483647) (kk : Ex (wp d) m Q nx ls (vi (a - b) :: t) σ) : Ex (wp d) m Q pc ls (vi b :: vi a :: t) σ := x1 hi ⟨a, b, t, rfl, by rw [wr_id hw.1 hw.2]⟩ kk
theorem x_isubW {a b : Int} (hi : ins m pc = some (.isub, len, x, y, nx))  (kk : Ex (wp d) m Q nx ls (vi (wr (a - b)) :: t) σ) : Ex (wp d) m Q pc ls (vi b :: vi a :: t) σ := x1 hi ⟨a, b, t, rfl, rfl⟩ kk
theorem x_imul {a b : Int} (hi : ins m pc = some (.imul, len, x, y, nx)) (hw : -2147483648 ≤ a * b ∧ a * b ≤ 2147483647) (kk : Ex (wp d) m Q nx ls (vi (a * b) :: t) σ) : Ex (wp d) m Q pc ls (vi b :: vi a :: t) σ := x1 hi ⟨a, b, t, rfl, by rw [wr_id hw.1 hw.2]⟩ kk
theorem x_imulW {a b : Int} (hi : ins m pc = some (.imul, len, x, y, nx))  (kk : Ex (wp d) m Q nx ls (vi (wr (a * b)) :: t) σ) : Ex (wp d) m Q pc ls (vi b :: vi a :: t) σ := x1 hi ⟨a, b, t, rfl, rfl⟩ kk
theorem x_idiv {a b : Int} (hi : ins m pc = some (.idiv, len, x, y, nx)) (hb : b ≠ 0) (kk : Ex (wp d) m Q nx ls (vi (iDiv a b) :: t) σ) : Ex (wp d) m Q pc ls (vi b :: vi a :: t) σ := x1 hi ⟨a, b, t, rfl, hb, rfl⟩ kk
theorem x_irem {a b : Int} (hi : ins m pc = some (.irem, len, x, y, nx)) (hb : b ≠ 0) (kk : Ex (wp d) m Q nx ls (vi (iRem a b) :: t) σ) : Ex (wp d) m Q pc ls (vi b :: vi a :: t) σ := x1 hi ⟨a, b, t, rfl, hb, rfl⟩ kk
theorem x_iand {a b : Int} (hi : ins m pc = some (.iand, len, x, y, nx))  (kk : Ex (wp d) m Q nx ls (vi (iAnd a b) :: t) σ) : Ex (wp d) m Q pc ls (vi b :: vi a :: t) σ := x1 hi ⟨a, b, t, rfl, rfl⟩ kk
theorem x_ior {a b : Int} (hi : ins m pc = some (.ior, len, x, y, nx))  (kk : Ex (wp d) m Q nx ls (vi (iOr a b) :: t) σ) : Ex (wp d) m Q pc ls (vi b :: vi a :: t) σ := x1 hi ⟨a, b, t, rfl, rfl⟩ kk
theorem x_ishl {a b : Int} (hi : ins m pc = some (.ishl, len, x, y, nx))  (kk : Ex (wp d) m Q nx ls (vi (iShl a b) :: t) σ) : Ex (wp d) m Q pc ls (vi b :: vi a :: t) σ := x1 hi ⟨a, b, t, rfl, rfl⟩ kk
theorem x_ishr {a b : Int} (hi : ins m pc = some (.ishr, len, x, y, nx))  (kk : Ex (wp d) m Q nx ls (vi (iShr a b) :: t) σ) : Ex (wp d) m Q pc ls (vi b :: vi a :: t) σ := x1 hi ⟨a, b, t, rfl, rfl⟩ kk
theorem x_iushr {a b : Int} (hi : ins m pc = some (.iushr, len, x, y, nx))  (kk : Ex (wp d) m Q nx ls (vi (iUshr a b) :: t) σ) : Ex (wp d) m Q pc ls (vi b :: vi a :: t) σ := x1 hi ⟨a, b, t, rfl, rfl⟩ kk
theorem x_if_eq_t {a : Int} {o : Int} (hi : ins m pc = some (.ifCond .eq o, len, x, y, nx)) (h : a = 0) (kk : Ex (wp d) m Q x ls t σ) : Ex (wp d) m Q pc ls (vi a :: t) σ := x1 hi ⟨a, t, rfl, Or.inl ⟨h, rfl⟩⟩ kk
theorem x_if_eq_f {a : Int} {o : Int} (hi : ins m pc = some (.ifCond .eq o, len, x, y, nx)) (h : a ≠ 0) (kk : Ex (wp d) m Q nx ls t σ) : Ex (wp d) m Q pc ls (vi a :: t) σ := x1 hi ⟨a, t, rfl, Or.inr ⟨h, rfl⟩⟩ kk
theorem x_if_eq {a : Int} {o : Int} (hi : ins m pc = some (.ifCond .eq o, len, x, y, nx)) (kt : a = 0 → Ex (wp d) m Q x ls t σ) (kf : a ≠ 0 → Ex (wp d) m Q nx ls t σ) : Ex (wp d) m Q pc ls (vi a :: t) σ := by
  by_cases h : a = 0
  · exact x_if_eq_t hi h (kt h)
  · exact x_if_eq_f hi (by omega) (kf (by omega))
theorem x_icmp_eq_t {a b : Int} {o : Int} (hi : ins m pc = some (.if_icmp .eq o, len, x, y, nx)) (h : a = b) (kk : Ex (wp d) m Q x ls t σ) : Ex (wp d) m Q pc ls (vi b :: vi a :: t) σ := x1 hi ⟨a, b, t, rfl, Or.inl ⟨h, rfl⟩⟩ kk
theorem x_icmp_eq_f {a b : Int} {o : Int} (hi : ins m pc = some (.if_icmp .eq o, len, x, y, nx)) (h : a ≠ b) (kk : Ex (wp d) m Q nx ls t σ) : Ex (wp d) m Q pc ls (vi b :: vi a :: t) σ := x1 hi ⟨a, b, t, rfl, Or.inr ⟨h, rfl⟩⟩ kk
theorem x_icmp_eq {a b : Int} {o : Int} (hi : ins m pc = some (.if_icmp .eq o, len, x, y, nx)) (kt : a = b → Ex (wp d) m Q x ls t σ) (kf : a ≠ b → Ex (wp d) m Q nx ls t σ) : Ex (wp d) m Q pc ls (vi b :: vi a :: t) σ := by
  by_cases h : a = b
  · exact x_icmp_eq_t hi h (kt h)
  · exact x_icmp_eq_f hi (by omega) (kf (by omega))
theorem x_if_ne_t {a : Int} {o : Int} (hi : ins m pc = some (.ifCond .ne o, len, x, y, nx)) (h : a ≠ 0) (kk : Ex (wp d) m Q x ls t σ) : Ex (wp d) m Q pc ls (vi a :: t) σ := x1 hi ⟨a, t, rfl, Or.inl ⟨h, rfl⟩⟩ kk
theorem x_if_ne_f {a : Int} {o : Int} (hi : ins m pc = some (.ifCond .ne o, len, x, y, nx)) (h : a = 0) (kk : Ex (wp d) m Q nx ls t σ) : Ex (wp d) m Q pc ls (vi a :: t) σ := x1 hi ⟨a, t, rfl, Or.inr ⟨(fun q => q h), rfl⟩⟩ kk
theorem x_if_ne {a : Int} {o : Int} (hi : ins m pc = some (.ifCond .ne o, len, x, y, nx)) (kt : a ≠ 0 → Ex (wp d) m Q x ls t σ) (kf : a = 0 → Ex (wp d) m Q nx ls t σ) : Ex (wp d) m Q pc ls (vi a :: t) σ := by
  by_cases h : a ≠ 0
  · exact x_if_ne_t hi h (kt h)
  · exact x_if_ne_f hi (by omega) (kf (by omega))
theorem x_icmp_ne_t {a b : Int} {o : Int} (hi : ins m pc = some (.if_icmp .ne o, len, x, y, nx)) (h : a ≠ b) (kk : Ex (wp d) m Q x ls t σ) : Ex (wp d) m Q pc ls (vi b :: vi a :: t) σ := x1 hi ⟨a, b, t, rfl, Or.inl ⟨h, rfl⟩⟩ kk
theorem x_icmp_ne_f {a b : Int} {o : Int} (hi : ins m pc = some (.if_icmp .ne o, len, x, y, nx)) (h : a = b) (kk : Ex (wp d) m Q nx ls t σ) : Ex (wp d) m Q pc ls (vi b :: vi a :: t) σ := x1 hi ⟨a, b, t, rfl, Or.inr ⟨(fun q => q h), rfl⟩⟩ kk
theorem x_icmp_ne {a b : Int} {o : Int} (hi : ins m pc = some (.if_icmp .ne o, len, x, y, nx)) (kt : a ≠ b → Ex (wp d) m Q x ls t σ) (kf : a = b → Ex (wp d) m Q nx ls t σ) : Ex (wp d) m Q pc ls (vi b :: vi a :: t) σ := by
  by_cases h : a ≠ b
  · exact x_icmp_ne_t hi h (kt h)
  · exact x_icmp_ne_f hi (by omega) (kf (by omega))
theorem x_if_lt_t {a : Int} {o : Int} (hi : ins m pc = some (.ifCond .lt o, len, x, y, nx)) (h : a < 0) (kk : Ex (wp d) m Q x ls t σ) : Ex (wp d) m Q pc ls (vi a :: t) σ := x1 hi ⟨a, t, rfl, Or.inl ⟨h, rfl⟩⟩ kk
theorem x_if_lt_f {a : Int} {o : Int} (hi : ins m pc = some (.ifCond .lt o, len, x, y, nx)) (h : 0 ≤ a) (kk : Ex (wp d) m Q nx ls t σ) : Ex (wp d) m Q pc ls (vi a :: t) σ := x1 hi ⟨a, t, rfl, Or.inr ⟨(Int.not_lt.mpr h), rfl⟩⟩ kk
theorem x_if_lt {a : Int} {o : Int} (hi : ins m pc = some (.ifCond .lt o, len, x, y, nx)) (kt : a < 0 → Ex (wp d) m Q x ls t σ) (kf : 0 ≤ a → Ex (wp d) m Q nx ls t σ) : Ex (wp d) m Q pc ls (vi a :: t) σ := by
  by_cases h : a < 0
  · exact x_if_lt_t hi h (kt h)
  · exact x_if_lt_f hi (by omega) (kf (by omega))
theorem x_icmp_lt_t {a b : Int} {o : Int} (hi : ins m pc = some (.if_icmp .lt o, len, x, y, nx)) (h : a < b) (kk : Ex (wp d) m Q x ls t σ) : Ex (wp d) m Q pc ls (vi b :: vi a :: t) σ := x1 hi ⟨a, b, t, rfl, Or.inl ⟨h, rfl⟩⟩ kk
theorem x_icmp_lt_f {a b : Int} {o : Int} (hi : ins m pc = some (.if_icmp .lt o, len, x, y, nx)) (h : b ≤ a) (kk : Ex (wp d) m Q nx ls t σ) : Ex (wp d) m Q pc ls (vi b :: vi a :: t) σ := x1 hi ⟨a, b, t, rfl, Or.inr ⟨(Int.not_lt.mpr h), rfl⟩⟩ kk
theorem x_icmp_lt {a b : Int} {o : Int} (hi : ins m pc = some (.if_icmp .lt o, len, x, y, nx)) (kt : a < b → Ex (wp d) m Q x ls t σ) (kf : b ≤ a → Ex (wp d) m Q nx ls t σ) : Ex (wp d) m Q pc ls (vi b :: vi a :: t) σ := by
  by_cases h : a < b
  · exact x_icmp_lt_t hi h (kt h)
  · exact x_icmp_lt_f hi (by omega) (kf (by omega))
theorem x_if_ge_t {a : Int} {o : Int} (hi : ins m pc = some (.ifCond .ge o, len, x, y, nx)) (h : 0 ≤ a) (kk : Ex (wp d) m Q x ls t σ) : Ex (wp d) m Q pc ls (vi a :: t) σ := x1 hi ⟨a, t, rfl, Or.inl ⟨h, rfl⟩⟩ kk
theorem x_if_ge_f {a : Int} {o : Int} (hi : ins m pc = some (.ifCond .ge o, len, x, y, nx)) (h : a < 0) (kk : Ex (wp d) m Q nx ls t σ) : Ex (wp d) m Q pc ls (vi a :: t) σ := x1 hi ⟨a, t, rfl, Or.inr ⟨(Int.not_le.mpr h), rfl⟩⟩ kk
theorem x_if_ge {a : Int} {o : Int} (hi : ins m pc = some (.ifCond .ge o, len, x, y, nx)) (kt : 0 ≤ a → Ex (wp d) m Q x ls t σ) (kf : a < 0 → Ex (wp d) m Q nx ls t σ) : Ex (wp d) m Q pc ls (vi a :: t) σ := by
  by_cases h : 0 ≤ a
  · exact x_if_ge_t hi h (kt h)
  · exact x_if_ge_f hi (by omega) (kf (by omega))
theorem x_icmp_ge_t {a b : Int} {o : Int} (hi : ins m pc = some (.if_icmp .ge o, len, x, y, nx)) (h : b ≤ a) (kk : Ex (wp d) m Q x ls t σ) : Ex (wp d) m Q pc ls (vi b :: vi a :: t) σ := x1 hi ⟨a, b, t, rfl, Or.inl ⟨h, rfl⟩⟩ kk
theorem x_icmp_ge_f {a b : Int} {o : Int} (hi : ins m pc = some (.if_icmp .ge o, len, x, y, nx)) (h : a < b) (kk : Ex (wp d) m Q nx ls t σ) : Ex (wp d) m Q pc ls (vi b :: vi a :: t) σ := x1 hi ⟨a, b, t, rfl, Or.inr ⟨(Int.not_le.mpr h), rfl⟩⟩ kk
theorem x_icmp_ge {a b : Int} {o : Int} (hi : ins m pc = some (.if_icmp .ge o, len, x, y, nx)) (kt : b ≤ a → Ex (wp d) m Q x ls t σ) (kf : a < b → Ex (wp d) m Q nx ls t σ) : Ex (wp d) m Q pc ls (vi b :: vi a :: t) σ := by
  by_cases h : b ≤ a
  · exact x_icmp_ge_t hi h (kt h)
  · exact x_icmp_ge_f hi (by omega) (kf (by omega))
theorem x_if_gt_t {a : Int} {o : Int} (hi : ins m pc = some (.ifCond .gt o, len, x, y, nx)) (h : 0 < a) (kk : Ex (wp d) m Q x ls t σ) : Ex (wp d) m Q pc ls (vi a :: t) σ := x1 hi ⟨a, t, rfl, Or.inl ⟨h, rfl⟩⟩ kk
theorem x_if_gt_f {a : Int} {o : Int} (hi : ins m pc = some (.ifCond .gt o, len, x, y, nx)) (h : a ≤ 0) (kk : Ex (wp d) m Q nx ls t σ) : Ex (wp d) m Q pc ls (vi a :: t) σ := x1 hi ⟨a, t, rfl, Or.inr ⟨(Int.not_lt.mpr h), rfl⟩⟩ kk
theorem x_if_gt {a : Int} {o : Int} (hi : ins m pc = some (.ifCond .gt o, len, x, y, nx)) (kt : 0 < a → Ex (wp d) m Q x ls t σ) (kf : a ≤ 0 → Ex (wp d) m Q nx ls t σ) : Ex (wp d) m Q pc ls (vi a :: t) σ := by
  by_cases h : 0 < a
  · exact x_if_gt_t hi h (kt h)
  · exact x_if_gt_f hi (by omega) (kf (by omega))
theorem x_icmp_gt_t {a b : Int} {o : Int} (hi : ins m pc = some (.if_icmp .gt o, len, x, y, nx)) (h : b < a) (kk : Ex (wp d) m Q x ls t σ) : Ex (wp d) m Q pc ls (vi b :: vi a :: t) σ := x1 hi ⟨a, b, t, rfl, Or.inl ⟨h, rfl⟩⟩ kk
theorem x_icmp_gt_f {a b : Int} {o : Int} (hi : ins m pc = some (.if_icmp .gt o, len, x, y, nx)) (h : a ≤ b) (kk : Ex (wp d) m Q nx ls t σ) : Ex (wp d) m Q pc ls (vi b :: vi a :: t) σ := x1 hi ⟨a, b, t, rfl, Or.inr ⟨(Int.not_lt.mpr h), rfl⟩⟩ kk
theorem x_icmp_gt {a b : Int} {o : Int} (hi : ins m pc = some (.if_icmp .gt o, len, x, y, nx)) (kt : b < a → Ex (wp d) m Q x ls t σ) (kf : a ≤ b → Ex (wp d) m Q nx ls t σ) : Ex (wp d) m Q pc ls (vi b :: vi a :: t) σ := by
  by_cases h : b < a
  · exact x_icmp_gt_t hi h (kt h)
  · exact x_icmp_gt_f hi (by omega) (kf (by omega))
theorem x_if_le_t {a : Int} {o : Int} (hi : ins m pc = some (.ifCond .le o, len, x, y, nx)) (h : a ≤ 0) (kk : Ex (wp d) m Q x ls t σ) : Ex (wp d) m Q pc ls (vi a :: t) σ := x1 hi ⟨a, t, rfl, Or.inl ⟨h, rfl⟩⟩ kk
theorem x_if_le_f {a : Int} {o : Int} (hi : ins m pc = some (.ifCond .le o, len, x, y, nx)) (h : 0 < a) (kk : Ex (wp d) m Q nx ls t σ) : Ex (wp d) m Q pc ls (vi a :: t) σ := x1 hi ⟨a, t, rfl, Or.inr ⟨(Int.not_le.mpr h), rfl⟩⟩ kk
theorem x_if_le {a : Int} {o : Int} (hi : ins m pc = some (.ifCond .le o, len, x, y, nx)) (kt : a ≤ 0 → Ex (wp d) m Q x ls t σ) (kf : 0 < a → Ex (wp d) m Q nx ls t σ) : Ex (wp d) m Q pc ls (vi a :: t) σ := by
  by_cases h : a ≤ 0
  · exact x_if_le_t hi h (kt h)
  · exact x_if_le_f hi (by omega) (kf (by omega))
theorem x_icmp_le_t {a b : Int} {o : Int} (hi : ins m pc = some (.if_icmp .le o, len, x, y, nx)) (h : a ≤ b) (kk : Ex (wp d) m Q x ls t σ) : Ex (wp d) m Q pc ls (vi b :: vi a :: t) σ := x1 hi ⟨a, b, t, rfl, Or.inl ⟨h, rfl⟩⟩ kk
theorem x_icmp_le_f {a b : Int} {o : Int} (hi : ins m pc = some (.if_icmp .le o, len, x, y, nx)) (h : b < a) (kk : Ex (wp d) m Q nx ls t σ) : Ex (wp d) m Q pc ls (vi b :: vi a :: t) σ := x1 hi ⟨a, b, t, rfl, Or.inr ⟨(Int.not_le.mpr h), rfl⟩⟩ kk
theorem x_icmp_le {a b : Int} {o : Int} (hi : ins m pc = some (.if_icmp .le o, len, x, y, nx)) (kt : a ≤ b → Ex (wp d) m Q x ls t σ) (kf : b < a → Ex (wp d) m Q nx ls t σ) : Ex (wp d) m Q pc ls (vi b :: vi a :: t) σ := by
  by_cases h : a ≤ b
  · exact x_icmp_le_t hi h (kt h)
  · exact x_icmp_le_f hi (by omega) (kf (by omega))
theorem x_ifnull_t {c : Nat} {r : Option Nat} {o : Int} (hi : ins m pc = some (.ifnull o, len, x, y, nx)) (h : r = none) (kk : Ex (wp d) m Q x ls t σ) : Ex (wp d) m Q pc ls (vo c r :: t) σ := x1 hi ⟨c, r, t, rfl, Or.inl ⟨h, rfl⟩⟩ kk
theorem x_ifnull_f {c : Nat} {r : Option Nat} {o : Int} (hi : ins m pc = some (.ifnull o, len, x, y, nx)) (h : r ≠ none) (kk : Ex (wp d) m Q nx ls t σ) : Ex (wp d) m Q pc ls (vo c r :: t) σ := x1 hi ⟨c, r, t, rfl, Or.inr ⟨h, rfl⟩⟩ kk
theorem x_ifnonnull_t {c : Nat} {r : Option Nat} {o : Int} (hi : ins m pc = some (.ifnonnull o, len, x, y, nx)) (h : r ≠ none) (kk : Ex (wp d) m Q x ls t σ) : Ex (wp d) m Q pc ls (vo c r :: t) σ := x1 hi ⟨c, r, t, rfl, Or.inl ⟨h, rfl⟩⟩ kk
theorem x_ifnonnull_f {c : Nat} {r : Option Nat} {o : Int} (hi : ins m pc = some (.ifnonnull o, len, x, y, nx)) (h : r = none) (kk : Ex (wp d) m Q nx ls t σ) : Ex (wp d) m Q pc ls (vo c r :: t) σ := x1 hi ⟨c, r, t, rfl, Or.inr ⟨h, rfl⟩⟩ kk
theorem x_goto {o : Int} (hi : ins m pc = some (.goto o, len, x, y, nx))  (kk : Ex (wp d) m Q x ls st σ) : Ex (wp d) m Q pc ls st σ := x1 hi rfl kk
theorem x_switch {a lo hi1 df : Int} {os : Array Int} {off : Int} {tg : Nat} (hi : ins m pc = some (.tableswitch df lo hi1 os, len, x, y, nx)) (h1 : lo ≤ a ∧ a ≤ hi1) (h2 : os[(a - lo).toNat]? = some off) (h3 : (pc : Int) + off = ((tg : Nat) : Int)) (kk : Ex (wp d) m Q tg ls t σ) : Ex (wp d) m Q pc ls (vi a :: t) σ :=
  x1 hi ⟨a, t, off, tg, rfl, Or.inr ⟨by omega, h2⟩, h3, rfl⟩ kk
theorem x_switchD {a lo hi1 df : Int} {os : Array Int} {tg : Nat} (hi : ins m pc = some (.tableswitch df lo hi1 os, len, x, y, nx)) (h1 : a < lo ∨ hi1 < a) (h3 : (pc : Int) + df = ((tg : Nat) : Int)) (kk : Ex (wp d) m Q tg ls t σ) : Ex (wp d) m Q pc ls (vi a :: t) σ :=
  x1 hi ⟨a, t, df, tg, rfl, Or.inl ⟨h1, rfl⟩, h3, rfl⟩ kk
theorem gF_int {f a : Nat} (h : Nat.blt (fT f) 2 = true) : gF σ f a = vi (FI σ f a) := if_pos (Nat.le_of_ble_eq_true h)
theorem gF_ref {f a c : Nat} (h : fT f = c + 2) : gF σ f a = vo c (FR σ f a) := by unfold gF; rw [if_neg (by omega), show fT f - 2 = c by omega]
theorem x_getI {j a c : Nat} (hi : ins m pc = some (.getfield j, len, x, y, nx)) (hc : x / 100 = c) (hf : Nat.blt (fT x) 2 = true) (kk : Ex (wp d) m Q nx ls (vi (FI σ x a) :: t) σ) : Ex (wp d) m Q pc ls (vr c a :: t) σ := by subst hc; exact x1 hi ⟨a, t, rfl, by rw [gF_int hf]⟩ kk
theorem x_getO {j a c c2 : Nat} (hi : ins m pc = some (.getfield j, len, x, y, nx)) (hc : x / 100 = c) (hf : fT x = c2 + 2) (kk : Ex (wp d) m Q nx ls (vo c2 (FR σ x a) :: t) σ) : Ex (wp d) m Q pc ls (vr c a :: t) σ := by subst hc; exact x1 hi ⟨a, t, rfl, by rw [gF_ref hf]⟩ kk
theorem x_getR {j a c c2 b : Nat} (hi : ins m pc = some (.getfield j, len, x, y, nx)) (hc : x / 100 = c) (hf : fT x = c2 + 2) (h : FR σ x a = some b) (kk : Ex (wp d) m Q nx ls (vr c2 b :: t) σ) : Ex (wp d) m Q pc ls (vr c a :: t) σ := x_getO hi hc hf (by rw [h]; exact kk)
theorem x_putI {j a c : Nat} {v : Int} (hi : ins m pc = some (.putfield j, len, x, y, nx)) (hc : x / 100 = c) (hf : fT x = 0) (kk : Ex (wp d) m Q nx ls t (sFI σ x a v)) : Ex (wp d) m Q pc ls (vi v :: vr c a :: t) σ := by subst hc; exact x1 hi ⟨vi v, a, t, rfl, Or.inl hf, rfl⟩ kk
theorem x_putZ {j a c : Nat} {v : Int} (hi : ins m pc = some (.putfield j, len, x, y, nx)) (hc : x / 100 = c) (hf : fT x = 1) (hv : v = 0 ∨ v = 1) (kk : Ex (wp d) m Q nx ls t (sFI σ x a v)) : Ex (wp d) m Q pc ls (vi v :: vr c a :: t) σ := by subst hc; exact x1 hi ⟨vi v, a, t, rfl, Or.inr ⟨hf, hv⟩, rfl⟩ kk
theorem x_putO {j a c c2 : Nat} {r : Option Nat} (hi : ins m pc = some (.putfield j, len, x, y, nx)) (hc : x / 100 = c) (hf : fT x = c2 + 2) (kk : Ex (wp d) m Q nx ls t (sFR σ x a r)) : Ex (wp d) m Q pc ls (vo c2 r :: vr c a :: t) σ := by subst hc; exact x1 hi ⟨vo c2 r, a, t, rfl, ⟨by omega, Or.inr hf⟩, rfl⟩ kk
theorem x_putN {j a c c2 c3 : Nat} (hi : ins m pc = some (.putfield j, len, x, y, nx)) (hc : x / 100 = c) (hf : fT x = c3 + 2) (kk : Ex (wp d) m Q nx ls t (sFR σ x a none)) : Ex (wp d) m Q pc ls (vn c2 :: vr c a :: t) σ := by subst hc; exact x1 hi ⟨vn c2, a, t, rfl, ⟨by omega, Or.inl rfl⟩, rfl⟩ kk
theorem x_iaload {a k : Nat} {i : Int} (hi : ins m pc = some (.iaload, len, x, y, nx)) (hk : i = (k : Int)) (h1 : k < LN σ 13 a) (kk : Ex (wp d) m Q nx ls (vi (AI σ 13 a k) :: t) σ) : Ex (wp d) m Q pc ls (vi i :: vr 13 a :: t) σ := by subst hk; exact x1 hi ⟨_, 13, a, t, rfl, Or.inl rfl, by omega, by omega, rfl⟩ kk
theorem x_saload {a k : Nat} {i : Int} (hi : ins m pc = some (.iaload, len, x, y, nx)) (hk : i = (k : Int)) (h1 : k < LN σ 18 a) (kk : Ex (wp d) m Q nx ls (vi (AI σ 18 a k) :: t) σ) : Ex (wp d) m Q pc ls (vi i :: vr 18 a :: t) σ := by subst hk; exact x1 hi ⟨_, 18, a, t, rfl, Or.inr rfl, by omega, by omega, rfl⟩ kk
theorem x_baload {a k : Nat} {i : Int} (hi : ins m pc = some (.baload, len, x, y, nx)) (hk : i = (k : Int)) (h1 : k < LN σ 14 a) (kk : Ex (wp d) m Q nx ls (vi (AI σ 14 a k) :: t) σ) : Ex (wp d) m Q pc ls (vi i :: vr 14 a :: t) σ := by subst hk; exact x1 hi ⟨_, a, t, rfl, by omega, by omega, rfl⟩ kk
theorem x_aaload {a k c : Nat} {i : Int} (hi : ins m pc = some (.aaload, len, x, y, nx)) (hc : c = 15 ∨ c = 16 ∨ c = 17) (hk : i = (k : Int)) (h1 : k < LN σ c a) (kk : Ex (wp d) m Q nx ls (vo (eK c) (AR σ c a k) :: t) σ) : Ex (wp d) m Q pc ls (vi i :: vr c a :: t) σ := by subst hk; exact x1 hi ⟨_, c, a, t, rfl, hc, by omega, by omega, rfl⟩ kk
theorem x_iastore {a k : Nat} {i v : Int} (hi : ins m pc = some (.iastore, len, x, y, nx)) (hk : i = (k : Int)) (h1 : k < LN σ 13 a) (kk : Ex (wp d) m Q nx ls t (sAI σ 13 a k v)) : Ex (wp d) m Q pc ls (vi v :: vi i :: vr 13 a :: t) σ := by subst hk; exact x1 hi ⟨v, _, a, t, rfl, by omega, by omega, rfl⟩ kk
theorem x_bastore {a k : Nat} {i v : Int} (hi : ins m pc = some (.bastore, len, x, y, nx)) (hk : i = (k : Int)) (h1 : k < LN σ 14 a) (hv : v = 0 ∨ v = 1) (kk : Ex (wp d) m Q nx ls t (sAI σ 14 a k v)) : Ex (wp d) m Q pc ls (vi v :: vi i :: vr 14 a :: t) σ := by subst hk; exact x1 hi ⟨v, _, a, t, rfl, by omega, by omega, hv, rfl⟩ kk
theorem x_aastore {a k c e v : Nat} {i : Int} (hi : ins m pc = some (.aastore, len, x, y, nx)) (hc : c = 15 ∨ c = 16) (he : eK c = e) (hk : i = (k : Int)) (h1 : k < LN σ c a) (kk : Ex (wp d) m Q nx ls t (sAR σ c a k (some v))) : Ex (wp d) m Q pc ls (vr e v :: vi i :: vr c a :: t) σ := by subst hk; subst he; exact x1 hi ⟨v, _, c, a, t, rfl, hc, by omega, by omega, rfl⟩ kk
theorem x_alen {c a : Nat} (hi : ins m pc = some (.arraylength, len, x, y, nx)) (hc : c = 13 ∨ c = 14 ∨ c = 15 ∨ c = 16 ∨ c = 17 ∨ c = 18) (kk : Ex (wp d) m Q nx ls (vi (LN σ c a : Nat) :: t) σ) : Ex (wp d) m Q pc ls (vr c a :: t) σ := x1 hi ⟨c, a, t, rfl, hc, rfl⟩ kk
theorem x_newa {ty : Jvm.ClassFile.ArrayType} {n : Int} {k : Nat} (hi : ins m pc = some (.newarray ty, len, x, y, nx)) (hk : n = (k : Int)) (hn : k ≤ 100000) (kk : Ex (wp d) m Q nx ls (vr x (CN σ x) :: t) (nA σ x k)) : Ex (wp d) m Q pc ls (vi n :: t) σ := by subst hk; exact x1 hi ⟨_, t, rfl, by omega, by omega, rfl⟩ kk
theorem x_newq {j : Nat} {n : Int} {k : Nat} (hi : ins m pc = some (.anewarray j, len, x, y, nx)) (hk : n = (k : Int)) (hn : k ≤ 100000) (kk : Ex (wp d) m Q nx ls (vr x (CN σ x) :: t) (nA σ x k)) : Ex (wp d) m Q pc ls (vi n :: t) σ := by subst hk; exact x1 hi ⟨_, t, rfl, by omega, by omega, rfl⟩ kk
theorem x_newm {j z : Nat} {n1 n2 : Int} {k1 k2 : Nat} (hi : ins m pc = some (.multianewarray j z, len, x, y, nx)) (hk : n1 = (k1 : Int)) (hk2 : n2 = (k2 : Int)) (hn : k1 ≤ 100000) (hn2 : k2 ≤ 100000) (kk : Ex (wp d) m Q nx ls (vr 17 (CN σ 17) :: t) (nM σ k1 k2)) : Ex (wp d) m Q pc ls (vi n2 :: vi n1 :: t) σ := by subst hk; subst hk2; exact x1 hi ⟨_, _, t, rfl, by omega, by omega, by omega, by omega, rfl⟩ kk
theorem x_new {j : Nat} (hi : ins m pc = some (.new j, len, x, y, nx)) (kk : Ex (wp d) m Q nx ls (vr x (CN σ x) :: st) (nO σ x)) : Ex (wp d) m Q pc ls st σ := x1 hi rfl kk
theorem x_objInit {j c a : Nat} (hi : ins m pc = some (.invokespecial j, len, 9000, y, nx)) (ht : Nat.ble t.length 8 = true) (kk : Ex (wp d) m Q nx ls t σ) : Ex (wp d) m Q pc ls (vr c a :: t) σ := x1 hi ⟨rfl, c, a, t, rfl, Nat.le_of_ble_eq_true ht, rfl⟩ kk
theorem x_strLen {j k : Nat} (hi : ins m pc = some (.invokevirtual j, len, 9001, y, nx)) (ht : Nat.ble t.length 8 = true) (kk : Ex (wp d) m Q nx ls (vi (sL k : Nat) :: t) σ) : Ex (wp d) m Q pc ls (vs k :: t) σ := x1 hi (Or.inl ⟨rfl, k, t, rfl, Nat.le_of_ble_eq_true ht, rfl⟩) kk
theorem x_strAt {j k n : Nat} {i : Int} (hi : ins m pc = some (.invokevirtual j, len, 9002, y, nx)) (ht : Nat.ble t.length 8 = true) (hk : i = (n : Int)) (hn : n < sL k) (kk : Ex (wp d) m Q nx ls (vi (sC k n : Nat) :: t) σ) : Ex (wp d) m Q pc ls (vi i :: vs k :: t) σ := by subst hk; exact x1 hi (Or.inr ⟨rfl, _, k, t, rfl, Nat.le_of_ble_eq_true ht, by omega, by omega, rfl⟩) kk
theorem xc {i : Jvm.ClassFile.Instr} {as : List AV} (hi : ins m pc = some (i, len, x, y, nx)) (h : StC i x y st as t) (kk : wp d x as σ (fun r u => Ex (wp d) m Q nx ls (r.toList ++ t) u)) : Ex (wp d) m Q pc ls st σ := Ex.step ⟨i, len, x, y, nx, hi, Or.inr (Or.inl ⟨as, t, h, kk⟩)⟩
theorem x_cv0 {j c a : Nat} (hi : ins m pc = some (.invokevirtual j, len, x, 0, nx)) (hx : Nat.blt x 9000 = true) (hc : mC x = c) (ht : Nat.ble t.length 8 = true) (kk : wp d x [vr c a] σ (fun r u => Ex (wp d) m Q nx ls (r.toList ++ t) u)) : Ex (wp d) m Q pc ls (vr c a :: t) σ := by subst hc; exact xc hi ⟨Nat.le_of_ble_eq_true hx, Nat.le_of_ble_eq_true ht, a, [], rfl, rfl, rfl⟩ kk
theorem x_cv1 {j c a : Nat} {a0 : AV} (hi : ins m pc = some (.invokevirtual j, len, x, 1, nx)) (hx : Nat.blt x 9000 = true) (hc : mC x = c) (ht : Nat.ble t.length 8 = true) (kk : wp d x [vr c a, a0] σ (fun r u => Ex (wp d) m Q nx ls (r.toList ++ t) u)) : Ex (wp d) m Q pc ls (a0 :: vr c a :: t) σ := by subst hc; exact xc hi ⟨Nat.le_of_ble_eq_true hx, Nat.le_of_ble_eq_true ht, a, [a0], rfl, rfl, rfl⟩ kk
theorem x_cv2 {j c a : Nat} {a0 a1 : AV} (hi : ins m pc = some (.invokevirtual j, len, x, 2, nx)) (hx : Nat.blt x 9000 = true) (hc : mC x = c) (ht : Nat.ble t.length 8 = true) (kk : wp d x [vr c a, a0, a1] σ (fun r u => Ex (wp d) m Q nx ls (r.toList ++ t) u)) : Ex (wp d) m Q pc ls (a1 :: a0 :: vr c a :: t) σ := by subst hc; exact xc hi ⟨Nat.le_of_ble_eq_true hx, Nat.le_of_ble_eq_true ht, a, [a0, a1], rfl, rfl, rfl⟩ kk
theorem x_cv3 {j c a : Nat} {a0 a1 a2 : AV} (hi : ins m pc = some (.invokevirtual j, len, x, 3, nx)) (hx : Nat.blt x 9000 = true) (hc : mC x = c) (ht : Nat.ble t.length 8 = true) (kk : wp d x [vr c a, a0, a1, a2] σ (fun r u => Ex (wp d) m Q nx ls (r.toList ++ t) u)) : Ex (wp d) m Q pc ls (a2 :: a1 :: a0 :: vr c a :: t) σ := by subst hc; exact xc hi ⟨Nat.le_of_ble_eq_true hx, Nat.le_of_ble_eq_true ht, a, [a0, a1, a2], rfl, rfl, rfl⟩ kk
theorem x_cv4 {j c a : Nat} {a0 a1 a2 a3 : AV} (hi : ins m pc = some (.invokevirtual j, len, x, 4, nx)) (hx : Nat.blt x 9000 = true) (hc : mC x = c) (ht : Nat.ble t.length 8 = true) (kk : wp d x [vr c a, a0, a1, a2, a3] σ (fun r u => Ex (wp d) m Q nx ls (r.toList ++ t) u)) : Ex (wp d) m Q pc ls (a3 :: a2 :: a1 :: a0 :: vr c a :: t) σ := by subst hc; exact xc hi ⟨Nat.le_of_ble_eq_true hx, Nat.le_of_ble_eq_true ht, a, [a0, a1, a2, a3], rfl, rfl, rfl⟩ kk
theorem x_ci0 {j c a : Nat} (hi : ins m pc = some (.invokespecial j, len, x, 0, nx)) (hx : Nat.blt x 9000 = true) (hc : mC x = c) (ht : Nat.ble t.length 8 = true) (kk : wp d x [vr c a] σ (fun r u => Ex (wp d) m Q nx ls (r.toList ++ t) u)) : Ex (wp d) m Q pc ls (vr c a :: t) σ := by subst hc; exact xc hi ⟨Nat.le_of_ble_eq_true hx, Nat.le_of_ble_eq_true ht, a, [], rfl, rfl, rfl⟩ kk
theorem x_ci1 {j c a : Nat} {a0 : AV} (hi : ins m pc = some (.invokespecial j, len, x, 1, nx)) (hx : Nat.blt x 9000 = true) (hc : mC x = c) (ht : Nat.ble t.length 8 = true) (kk : wp d x [vr c a, a0] σ (fun r u => Ex (wp d) m Q nx ls (r.toList ++ t) u)) : Ex (wp d) m Q pc ls (a0 :: vr c a :: t) σ := by subst hc; exact xc hi ⟨Nat.le_of_ble_eq_true hx, Nat.le_of_ble_eq_true ht, a, [a0], rfl, rfl, rfl⟩ kk
theorem x_ci2 {j c a : Nat} {a0 a1 : AV} (hi : ins m pc = some (.invokespecial j, len, x, 2, nx)) (hx : Nat.blt x 9000 = true) (hc : mC x = c) (ht : Nat.ble t.length 8 = true) (kk : wp d x [vr c a, a0, a1] σ (fun r u => Ex (wp d) m Q nx ls (r.toList ++ t) u)) : Ex (wp d) m Q pc ls (a1 :: a0 :: vr c a :: t) σ := by subst hc; exact xc hi ⟨Nat.le_of_ble_eq_true hx, Nat.le_of_ble_eq_true ht, a, [a0, a1], rfl, rfl, rfl⟩ kk
theorem x_ci3 {j c a : Nat} {a0 a1 a2 : AV} (hi : ins m pc = some (.invokespecial j, len, x, 3, nx)) (hx : Nat.blt x 9000 = true) (hc : mC x = c) (ht : Nat.ble t.length 8 = true) (kk : wp d x [vr c a, a0, a1, a2] σ (fun r u => Ex (wp d) m Q nx ls (r.toList ++ t) u)) : Ex (wp d) m Q pc ls (a2 :: a1 :: a0 :: vr c a :: t) σ := by subst hc; exact xc hi ⟨Nat.le_of_ble_eq_true hx, Nat.le_of_ble_eq_true ht, a, [a0, a1, a2], rfl, rfl, rfl⟩ kk
theorem x_ci4 {j c a : Nat} {a0 a1 a2 a3 : AV} (hi : ins m pc = some (.invokespecial j, len, x, 4, nx)) (hx : Nat.blt x 9000 = true) (hc : mC x = c) (ht : Nat.ble t.length 8 = true) (kk : wp d x [vr c a, a0, a1, a2, a3] σ (fun r u => Ex (wp d) m Q nx ls (r.toList ++ t) u)) : Ex (wp d) m Q pc ls (a3 :: a2 :: a1 :: a0 :: vr c a :: t) σ := by subst hc; exact xc hi ⟨Nat.le_of_ble_eq_true hx, Nat.le_of_ble_eq_true ht, a, [a0, a1, a2, a3], rfl, rfl, rfl⟩ kk
theorem x_cs0 {j : Nat} (hi : ins m pc = some (.invokestatic j, len, x, 0, nx)) (hx : Nat.blt x 9000 = true) (ht : Nat.ble t.length 8 = true) (kk : wp d x [] σ (fun r u => Ex (wp d) m Q nx ls (r.toList ++ t) u)) : Ex (wp d) m Q pc ls (t) σ := xc hi ⟨Nat.le_of_ble_eq_true hx, Nat.le_of_ble_eq_true ht, rfl, rfl⟩ kk
theorem x_cs1 {j : Nat} {a0 : AV} (hi : ins m pc = some (.invokestatic j, len, x, 1, nx)) (hx : Nat.blt x 9000 = true) (ht : Nat.ble t.length 8 = true) (kk : wp d x [a0] σ (fun r u => Ex (wp d) m Q nx ls (r.toList ++ t) u)) : Ex (wp d) m Q pc ls (a0 :: t) σ := xc hi ⟨Nat.le_of_ble_eq_true hx, Nat.le_of_ble_eq_true ht, rfl, rfl⟩ kk
theorem x_cs2 {j : Nat} {a0 a1 : AV} (hi : ins m pc = some (.invokestatic j, len, x, 2, nx)) (hx : Nat.blt x 9000 = true) (ht : Nat.ble t.length 8 = true) (kk : wp d x [a0, a1] σ (fun r u => Ex (wp d) m Q nx ls (r.toList ++ t) u)) : Ex (wp d) m Q pc ls (a1 :: a0 :: t) σ := xc hi ⟨Nat.le_of_ble_eq_true hx, Nat.le_of_ble_eq_true ht, rfl, rfl⟩ kk
theorem x_cs3 {j : Nat} {a0 a1 a2 : AV} (hi : ins m pc = some (.invokestatic j, len, x, 3, nx)) (hx : Nat.blt x 9000 = true) (ht : Nat.ble t.length 8 = true) (kk : wp d x [a0, a1, a2] σ (fun r u => Ex (wp d) m Q nx ls (r.toList ++ t) u)) : Ex (wp d) m Q pc ls (a2 :: a1 :: a0 :: t) σ := xc hi ⟨Nat.le_of_ble_eq_true hx, Nat.le_of_ble_eq_true ht, rfl, rfl⟩ kk
theorem x_cs4 {j : Nat} {a0 a1 a2 a3 : AV} (hi : ins m pc = some (.invokestatic j, len, x, 4, nx)) (hx : Nat.blt x 9000 = true) (ht : Nat.ble t.length 8 = true) (kk : wp d x [a0, a1, a2, a3] σ (fun r u => Ex (wp d) m Q nx ls (r.toList ++ t) u)) : Ex (wp d) m Q pc ls (a3 :: a2 :: a1 :: a0 :: t) σ := xc hi ⟨Nat.le_of_ble_eq_true hx, Nat.le_of_ble_eq_true ht, rfl, rfl⟩ kk
theorem xr {i : Jvm.ClassFile.Instr} {r : Option AV} (hi : ins m pc = some (i, len, x, y, nx)) (h : StR m i st r) (kk : Q r σ) : Ex (wp d) m Q pc ls st σ := Ex.step ⟨i, len, x, y, nx, hi, Or.inr (Or.inr ⟨r, h, kk⟩)⟩
theorem x_iret {v : Int} (hi : ins m pc = some (.ireturn, len, x, y, nx)) (hm : mK m = 1) (kk : Q (some (vi v)) σ) : Ex (wp d) m Q pc ls [vi v] σ := xr hi ⟨v, rfl, Or.inl hm, rfl⟩ kk
theorem x_zret {v : Int} (hi : ins m pc = some (.ireturn, len, x, y, nx)) (hm : mK m = 2) (hv : v = 0 ∨ v = 1) (kk : Q (some (vi v)) σ) : Ex (wp d) m Q pc ls [vi v] σ := xr hi ⟨v, rfl, Or.inr ⟨hm, hv⟩, rfl⟩ kk
theorem x_aret {c : Nat} {q : Option Nat} (hi : ins m pc = some (.areturn, len, x, y, nx)) (hm : mK m = c + 3) (kk : Q (some (vo c q)) σ) : Ex (wp d) m Q pc ls [vo c q] σ := xr hi ⟨c, q, rfl, by omega, Or.inr hm.symm, by rw [show mK m - 3 = c by omega]⟩ kk
theorem x_aretN {c c2 : Nat} (hi : ins m pc = some (.areturn, len, x, y, nx)) (hm : mK m = c + 3) (kk : Q (some (vn c)) σ) : Ex (wp d) m Q pc ls [vn c2] σ := xr hi ⟨c2, none, rfl, by omega, Or.inl rfl, by rw [show mK m - 3 = c by omega]⟩ kk
theorem x_vret (hi : ins m pc = some (.return_, len, x, y, nx)) (hm : mK m = 0) (kk : Q none σ) : Ex (wp d) m Q pc ls [] σ := xr hi ⟨rfl, hm, rfl⟩ kk
/-- a place with less known of its locals -/
def wkL : List (Option AV) → List (Option AV) → Prop
  | [], [] => True
  | a :: as, b :: bs => (a = none ∨ a = b) ∧ wkL as bs
  | _, _ => False
theorem wkL_get : ∀ {ls ls' : List (Option AV)}, wkL ls ls' → ∀ {k : Nat} {v : AV}, ls[k]? = some (some v) → ls'[k]? = some (some v)
  | [], [], _, _, _, h => h
  | a :: as, b :: bs, ⟨h1, h2⟩, 0, v, h => by
    cases h
    rcases h1 with h1 | h1
    · cases h1
    · rw [← h1]; rfl
  | a :: as, b :: bs, ⟨h1, h2⟩, k + 1, v, h => wkL_get h2 (k := k) h
theorem wkL_len : ∀ {ls ls' : List (Option AV)}, wkL ls ls' → ls.length = ls'.length
  | [], [], _ => rfl
  | _ :: _, _ :: _, ⟨_, h⟩ => congrArg (· + 1) (wkL_len h)
theorem wkL_set : ∀ {ls ls' : List (Option AV)}, wkL ls ls' → ∀ (k : Nat) (v : Option AV), wkL (ls.set k v) (ls'.set k v)
  | [], [], _, _, _ => trivial
  | a :: as, b :: bs, ⟨h1, h2⟩, 0, v => ⟨Or.inr rfl, h2⟩
  | a :: as, b :: bs, ⟨h1, h2⟩, k + 1, v => ⟨h1, wkL_set h2 k v⟩
end

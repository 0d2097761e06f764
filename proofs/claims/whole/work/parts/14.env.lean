/-! WHAT STANDS AROUND EVERY FRAME: the tables, the texts, the script -/
def WW : List Cond := lw_tbl.filter goodWord
theorem WW_in {w : Cond} {k : Nat} (h : lw_tbl[k]? = some w) (hg : goodWord w = true) : w ∈ WW := List.mem_filter.mpr ⟨List.mem_of_getElem? h, hg⟩
def sLen : List Nat := sTx.map List.length
def sByt : List (List Int32) := sTx.map (fun t => t.map Int32.ofNat)
def sOwn (k : Nat) : Nat := if k < 9 then 5 else 11
def sIdx (k : Nat) : Nat := ([189, 195, 197, 199, 201, 203, 205, 207, 209, 201] : List Nat).getD k 0
def sText (k : Nat) : String := (["digit", "any", "end", "cut", "try", "not", "look", "as", "chain", "digit any   end   not   as    cut   try   look  chain "] : List String).getD k ""
def nestF : List (Nat × Nat) := [(65, 700 + 3), (69, 700 + 6)]
def AOA (U : State) : Prop := (Cond.arrayOver (.array .int)).before #[] U = true
def nestFOk (U : State) : Prop := ∀ e ∈ fL, e.2.2.2.2 = true → va_Nw (Cond.fieldLinkNest (cN e.1) e.2.1 (cN (e.2.2.1 / 100)) (cT (e.2.2.1 / 100) (e.2.2.1 % 100)).2.1 (cT (e.2.2.1 / 100) (e.2.2.1 % 100)).2.2.1 "CommittedParsers") U
def nestMOk (U : State) : Prop := ∀ e ∈ mLk, e.2.2.2.2 = true → va_Nw (Cond.methodLinkNest (cN e.1) e.2.1 (mY e.2.2.1) "CommittedParsers") U
def EnvS (D : va_G) (ty : Nat → ClassId) (B : Nat) (sa sv : Nat → Nat) (b L : Nat) (xs : Nat → Int32) (U : State) (H : Heap) : Prop :=
  va_K D vwCl (tysL ty) U ∧ vk_S 10 sLen sByt sa sv (fun q => B ≤ q) U H ∧ (∀ k, k < 10 → vk_R (cN (sOwn k)) (sIdx k) (sText k) (sa k) U) ∧ nestFOk U ∧ nestMOk U ∧ va_AO RX8 U ∧ va_AO RX0 U ∧ (AOA U ∧ va_Z "java/lang/String" "COMPACT_STRINGS" "Z" (.int 1) (fun q => B ≤ q) U H ∧ va_Zq "jdk/internal/util/Preconditions" "SIOOBE_FORMATTER" "Ljava/util/function/BiFunction;" (fun q => B ≤ q) U H) ∧ va_X b L xs U H ∧ b < B
theorem AOA.moved {u U : State} (hvm : u.vm.Alike U.vm) (h : AOA u) : AOA U := by
  unfold AOA Cond.before Cond.holds at h ⊢
  simp only [Cond.value] at h ⊢
  rw [hvm.findClass]
  cases hc : u.vm.findClass (FieldType.array FieldType.int).toString with
  | none => rw [hc] at h; simp at h
  | some comp =>
    rw [hc] at h
    simp only [Option.bind_some] at h ⊢
    have hi : (U.vm.classes.findIdx? fun (x : Class) => match x.kind with | .array component _ => component == comp | _ => false) = (u.vm.classes.findIdx? fun (x : Class) => match x.kind with | .array component _ => component == comp | _ => false) := by
      have hb : U.vm.bare = u.vm.bare := by first | exact hvm.bare_eq | exact hvm.bare_eq.symm
      exact Eq.trans (va_idx_bare U.vm comp).symm (Eq.trans (congrArg (fun (vm : Vm) => vm.classes.findIdx? fun (x : Class) => match x.kind with | .array component _ => component == comp | _ => false) hb) (va_idx_bare u.vm comp))
    have hi2 := hi
    cases hf : (u.vm.classes.findIdx? fun (x : Class) => match x.kind with | .array component _ => component == comp | _ => false) with
    | none =>
      erw [hf] at h
      simp at h
    | some c =>
      erw [hf] at h
      rw [hf] at hi2
      erw [hi2]
      simp only [Option.bind_some] at h ⊢
      cases hk : u.vm.classes[c]? with
      | none => rw [hk] at h; simp at h
      | some k =>
        obtain ⟨k', hk', he⟩ := hvm.2.2 _ _ hk
        rw [hk] at h
        rw [hk']
        simp only [Option.map_some] at h ⊢
        rw [he]
        have hff : U.vm.findClass ("[" ++ (FieldType.array FieldType.int).toString) = u.vm.findClass ("[" ++ (FieldType.array FieldType.int).toString) := hvm.findClass _ _
        simp only [hff]
        exact h
theorem EnvS.warm {D : va_G} {ty : Nat → ClassId} {B : Nat} {sa sv : Nat → Nat} {b L : Nat} {xs : Nat → Int32} {s U : State} {H : Heap} (hW : s.WarmedH U.vm) (h : EnvS D ty B sa sv b L xs s H) : EnvS D ty B sa sv b L xs U H := by
  obtain ⟨h1, h2, h3, h4, h5, h6, h7, h8, h9, h10⟩ := h
  exact ⟨h1.moved hW.alike, h2.moved hW.alike, fun k hk => (h3 k hk).warm hW, fun e he hn => (h4 e he hn).warmF hW, fun e he hn => (h5 e he hn).warmM hW, h6.moved hW.alike, h7.moved hW.alike, ⟨h8.1.moved hW.alike, h8.2.1.moved hW.alike, h8.2.2.moved hW.alike⟩, h9.moved hW.alike, h10⟩
theorem EnvS.call {D : va_G} {ty : Nat → ClassId} {B : Nat} {sa sv : Nat → Nat} {b L : Nat} {xs : Nat → Int32} {U : State} {H : Heap} (h : EnvS D ty B sa sv b L xs U H) (g : JFrame) (mk : MethodId) (a : Array Value) : EnvS D ty B sa sv b L xs (U.calling g mk a) H := by
  obtain ⟨h1, h2, h3, h4, h5, h6, h7, h8, h9, h10⟩ := h
  exact ⟨va_K.moved (u := U) (U := U.calling g mk a) (Vm.Alike.refl U.vm) h1, vk_S.moved (u := U) (U := U.calling g mk a) (Vm.Alike.refl U.vm) h2, fun k hk => vk_R.same (u := U) (U := U.calling g mk a) rfl (h3 k hk), fun e he hn => va_Nw.same rfl (u := U) (U := U.calling g mk a) rfl (h4 e he hn), fun e he hn => va_Nw.same rfl (u := U) (U := U.calling g mk a) rfl (h5 e he hn), va_AO.moved (u := U) (U := U.calling g mk a) (Vm.Alike.refl U.vm) h6, va_AO.moved (u := U) (U := U.calling g mk a) (Vm.Alike.refl U.vm) h7, ⟨AOA.moved (u := U) (U := U.calling g mk a) (Vm.Alike.refl U.vm) h8.1, va_Z.moved (u := U) (U := U.calling g mk a) (Vm.Alike.refl U.vm) h8.2.1, va_Zq.moved (u := U) (U := U.calling g mk a) (Vm.Alike.refl U.vm) h8.2.2⟩, va_X.moved (u := U) (U := U.calling g mk a) (Vm.Alike.refl U.vm) h9, h10⟩
theorem EnvS.kept {D : va_G} {ty : Nat → ClassId} {B : Nat} {sa sv : Nat → Nat} {b L : Nat} {xs : Nat → Int32} {U : State} {H H1 : Heap} (h : EnvS D ty B sa sv b L xs U H) (hB : B ≤ H.size) (hk : ∀ q : Nat, q < H.size → ¬ B ≤ q → H1[q]? = H[q]?) : EnvS D ty B sa sv b L xs U H1 := by
  obtain ⟨h1, h2, h3, h4, h5, h6, h7, h8, h9, h10⟩ := h
  exact ⟨h1, h2.kept hk, h3, h4, h5, h6, h7, ⟨h8.1, h8.2.1.kept hk, h8.2.2.kept hk⟩, h9.kept (hk b (by omega) (by omega)), h10⟩
/-- what a frame of method mm knows -/
def Ctx (mm : Nat) (p : Program) (s : State) (m : MethodId) (args : Array Value) (meth : Method) (c : Code) (D : va_G) (ty : Nat → ClassId) (B : Nat) (sa sv : Nat → Nat) (b L : Nat) (xs : Nat → Int32) : Prop :=
  p.tables.exec = Jvm.exec ∧ c.code = mB mm ∧ c.maxLocals = mL mm ∧ s.vm.findClass (cN (mC mm)) = some m.cls ∧ (∀ w ∈ WW, w.before args s = true) ∧ EnvS D ty B sa sv b L xs s s.heap ∧ B ≤ s.heap.size ∧ (mI mm = true → meth.name = "<init>")
theorem lay_in (c : Nat) (hc : c < 12) : ∀ w ∈ u_ws (cN c) (cT c) (cF c), w ∈ WW := by
  intro w hw
  unfold u_ws at hw
  obtain ⟨k, hk, rfl⟩ := List.mem_map.mp hw
  have hk := List.mem_range.mp hk
  refine WW_in (ck_lay c hc k hk) ?_
  unfold u_lay
  split <;> rfl

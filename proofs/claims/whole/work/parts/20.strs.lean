theorem WW_good {w : Cond} (h : w ∈ WW) : (w.onTables && w.keeps) = true ∨ ∃ ty, w = .arrayClass ty := good_of_word (List.mem_filter.mp h).2
def JE (B : Nat) (sa sv : Nat → Nat) (U : State) (H : Heap) : Prop := vk_S 10 sLen sByt sa sv (fun q => B ≤ q) U H ∧ va_Z "java/lang/String" "COMPACT_STRINGS" "Z" (.int 1) (fun q => B ≤ q) U H ∧ va_Zq "jdk/internal/util/Preconditions" "SIOOBE_FORMATTER" "Ljava/util/function/BiFunction;" (fun q => B ≤ q) U H
def PcJ (B : Nat) (sa sv : Nat → Nat) (av : List Value) : Array Value → State → Prop := fun a U => a = av.toArray ∧ JE B sa sv U U.heap
def QcJ (r : Option Value) : Array Value → State → Outcome → State → Prop := fun _ st o t => o = .returned r ∧ t.heap = st.heap
theorem PcJ.blind {B : Nat} {sa sv : Nat → Nat} {av : List Value} : FrameBlind (PcJ B sa sv av) := fun _ U g mk h =>
  ⟨h.1, vk_S.moved (u := U) (U := U.calling g mk _) (Vm.Alike.refl U.vm) h.2.1, va_Z.moved (u := U) (U := U.calling g mk _) (Vm.Alike.refl U.vm) h.2.2.1, va_Zq.moved (u := U) (U := U.calling g mk _) (Vm.Alike.refl U.vm) h.2.2.2⟩
theorem JE.next {B : Nat} {sa sv : Nat → Nat} {s U : State} (h : JE B sa sv s s.heap) {H : Heap} {locs : List Loc} (hS : va_S (fun q => B ≤ q) s.heap H locs) (hU : U.heap = H) (hW : s.WarmedH U.vm) : JE B sa sv U U.heap := by
  rw [hU]
  exact ⟨(h.1.kept hS.2.1).moved hW.alike, (h.2.1.kept hS.2.1).moved hW.alike, (h.2.2.kept hS.2.1).moved hW.alike⟩
def WJ (y : MethodName) (b : ByteArray) (n : Nat) (r : Option FieldType) : List Cond := Cond.code y b n r :: WW
def RMJ (d : Nat) : Room := { frames := d, cells := 0, slots := 0, locals := 30 * d }
theorem WJ_good {y : MethodName} {b : ByteArray} {n : Nat} {r : Option FieldType} (h : Cond.code y b n r ∈ WW) : GoodIn WW (WJ y b n r) := by
  intro w hw
  rcases List.mem_cons.mp hw with rfl | hw
  · exact ⟨h, WW_good h⟩
  · exact ⟨hw, WW_good hw⟩
set_option maxRecDepth 1000000 in
theorem jc_LEN : Cond.code yJ0_length_8abf5 cJ0_length_8abf5 1 (some .int) ∈ WW := WW_in (k := 622) rfl rfl
set_option maxRecDepth 1000000 in
theorem jc_CHA : Cond.code yJ0_charAt_5068e cJ0_charAt_5068e 2 (some .char) ∈ WW := WW_in (k := 632) rfl rfl
set_option maxRecDepth 1000000 in
theorem jc_COD : Cond.code yJ0_coder_7d493 cJ0_coder_7d493 1 (some .byte) ∈ WW := WW_in (k := 626) rfl rfl
set_option maxRecDepth 1000000 in
theorem jc_LAT : Cond.code yJ0_isLatin1_aae02 cJ0_isLatin1_aae02 1 (some .boolean) ∈ WW := WW_in (k := 636) rfl rfl
set_option maxRecDepth 1000000 in
theorem jc_CKI : Cond.code yJ0_checkIndex_df160 cJ0_checkIndex_df160 2 none ∈ WW := WW_in (k := 642) rfl rfl
set_option maxRecDepth 1000000 in
theorem jc_L1C : Cond.code yJ1_charAt_3b067 cJ1_charAt_3b067 2 (some .char) ∈ WW := WW_in (k := 639) rfl rfl
set_option maxRecDepth 1000000 in
theorem jc_PRE : Cond.code yJ3_checkIndex_8e157 cJ3_checkIndex_8e157 3 (some .int) ∈ WW := WW_in (k := 647) rfl rfl
theorem jf_val : Cond.fieldLink RJ0 9 "java/lang/String" "value" "[B" ∈ WW := WW_in (k := 1480) (by decide +kernel) rfl
theorem jf_cod : Cond.fieldLink RJ0 15 "java/lang/String" "coder" "B" ∈ WW := WW_in (k := 1481) (by decide +kernel) rfl
theorem jf_com : Cond.fieldLink RJ0 38 "java/lang/String" "COMPACT_STRINGS" "Z" ∈ WW := WW_in (k := 627) (by decide +kernel) rfl
theorem jf_sio : Cond.fieldLink RJ0 1053 "jdk/internal/util/Preconditions" "SIOOBE_FORMATTER" "Ljava/util/function/BiFunction;" ∈ WW := WW_in (k := 643) (by decide +kernel) rfl
theorem jm_cod : Cond.methodLink RJ0 335 yJ0_coder_7d493 ∈ WW := WW_in (k := 623) (by decide +kernel) rfl
theorem jm_lat : Cond.methodLink RJ0 492 yJ0_isLatin1_aae02 ∈ WW := WW_in (k := 633) (by decide +kernel) rfl
theorem jm_l1c : Cond.methodLink RJ0 495 yJ1_charAt_3b067 ∈ WW := WW_in (k := 637) (by decide +kernel) rfl
theorem jm_cki : Cond.methodLink RJ1 9 yJ0_checkIndex_df160 ∈ WW := WW_in (k := 640) (by decide +kernel) rfl
theorem jm_pre : Cond.methodLink RJ0 1059 yJ3_checkIndex_8e157 ∈ WW := WW_in (k := 645) (by decide +kernel) rfl
theorem ji_COD : Cond.instanceMethod yJ0_coder_7d493 ∈ WW := WW_in (k := 624) (by decide +kernel) rfl
theorem ji_LAT : Cond.instanceMethod yJ0_isLatin1_aae02 ∈ WW := WW_in (k := 634) (by decide +kernel) rfl
theorem ji_LEN : Cond.instanceMethod yJ0_length_8abf5 ∈ WW := WW_in (k := 620) (by decide +kernel) rfl
theorem ji_CHA : Cond.instanceMethod yJ0_charAt_5068e ∈ WW := WW_in (k := 630) (by decide +kernel) rfl
theorem js_COD : Cond.selects RJ0 yJ0_coder_7d493 yJ0_coder_7d493 ∈ WW := WW_in (k := 625) (by decide +kernel) rfl
theorem js_LAT : Cond.selects RJ0 yJ0_isLatin1_aae02 yJ0_isLatin1_aae02 ∈ WW := WW_in (k := 635) (by decide +kernel) rfl
theorem js_LEN : Cond.selects RJ0 yJ0_length_8abf5 yJ0_length_8abf5 ∈ WW := WW_in (k := 621) (by decide +kernel) rfl
theorem js_CHA : Cond.selects RJ0 yJ0_charAt_5068e yJ0_charAt_5068e ∈ WW := WW_in (k := 631) (by decide +kernel) rfl
theorem jt_L1C : Cond.static yJ1_charAt_3b067 ∈ WW := WW_in (k := 638) (by decide +kernel) rfl
theorem jt_CKI : Cond.static yJ0_checkIndex_df160 ∈ WW := WW_in (k := 641) (by decide +kernel) rfl
theorem jt_PRE : Cond.static yJ3_checkIndex_8e157 ∈ WW := WW_in (k := 646) (by decide +kernel) rfl
theorem jn_0 : Cond.initialized RJ0 ∈ WW := WW_in (k := 109) (by decide +kernel) rfl
theorem jn_1 : Cond.initialized RJ1 ∈ WW := WW_in (k := 110) (by decide +kernel) rfl
theorem jn_3 : Cond.initialized RJ3 ∈ WW := WW_in (k := 111) (by decide +kernel) rfl
theorem sLk_ok : ∀ e ∈ sLk, lw_tbl[e.2.2.2]? = some (Cond.methodLink (cN e.1) e.2.1 (if e.2.2.1 = 9001 then yJ0_length_8abf5 else yJ0_charAt_5068e)) := by decide +kernel
section
variable {p : Program} {l : Launch} {e : Env} {R : Room} {s : State} {m : MethodId} {args : Array Value} {below : List Frame} {meth : Method} {c : Code} {H : Heap} {locs : List Loc} {Q : State → Prop}
variable {D : va_G} {ty : Nat → ClassId} {B : Nat} {sa sv : Nat → Nat} {b L : Nat} {xs : Nat → Int32} {mls : Array Slot} {mm : Nat} {cells slots : Nat} {t : List Value}
theorem call_go0 {pc : Nat} {st0 rest : List Value} {r1 : Option Value} {a : Array Value} (hr : va_Run p l e R s m args below meth c H locs cells slots 0 0 (F0 m pc mls st0) rest (QcJ r1 a) (fun q => B ≤ q)) (hS : va_S (fun q => B ≤ q) s.heap H locs)
    (kk : ∀ locs1, va_S (fun q => B ≤ q) s.heap H locs1 → W p l e R s m args below meth c H locs1 cells slots Q (F0 m (pc + 3) mls (r1.toList ++ rest))) : W p l e R s m args below meth c H locs cells slots Q (F0 m pc mls st0) := by
  intro T hT X
  obtain ⟨v, st₀, t, T', L, h0, X', hL, e1, e2, ⟨hv, hz⟩, st⟩ := hr T hT X
  cases hv
  have hS1 : va_S (fun q => B ≤ q) s.heap H (locs ++ L) := ⟨hS.1, hS.2.1, fun q hq => by
      rcases List.mem_append.mp hq with h | h
      · exact hS.2.2 q h
      · exact hL q h⟩
  obtain ⟨t2, a1, b1⟩ := kk (locs ++ L) hS1 T' (by rw [e1, hz, h0]) X'
  exact ⟨t2, st t2 a1, b1⟩
/-- a call of a static method of the JDK's, a receiver's method of String's -/
theorem go_S {pc j n N d : Nat} {y : MethodName} {by1 cc : ByteArray} {maxL : Nat} {ret : Option FieldType} {own : String} {av t : List Value} {r : Option Value} (hfix : CallFix p m c cc N s args WW own) (hM : Met l y (WJ y by1 maxL ret) (RMJ d) (PcJ B sa sv av) (QcJ r) 0 0 (fun q => B ≤ q)) (hcode : Cond.code y by1 maxL ret ∈ WW) (hini : Cond.initialized y.cls ∈ WW) (hml : Cond.methodLink own j y ∈ WW) (hst : Cond.static y ∈ WW) (hd : y.cls ≠ "java/lang/invoke/MethodHandle" ∧ y.cls ≠ "java/lang/invoke/VarHandle" ∧ (parseMethodDescriptor y.desc).map (fun d => d.parameters.length) = some n) (hn : av.length = n) (hm3 : maxL ≤ 3) (hE : JE B sa sv s s.heap) (hS : va_S (fun q => B ≤ q) s.heap H locs) (hsz : mls.size = N) (hw : (t.map fun v => v.category).sum ≤ 8) (hdec : decode cc pc = .ok (.invokestatic j, 3)) (hf : d + 1 ≤ R.frames) (hlo : 30 * (d + 1) ≤ R.locals) (hcr : cells ≤ R.cells) (hsr : slots ≤ R.slots)
    (kk : ∀ locs1, va_S (fun q => B ≤ q) s.heap H locs1 → W p l e R s m args below meth c H locs1 cells slots Q (F0 m (pc + 3) mls (r.toList ++ t))) : W p l e R s m args below meth c H locs cells slots Q (F0 m pc mls (av.reverse ++ t)) := by
  obtain ⟨hx, hb, hml2, hown, hts⟩ := hfix
  have cw : CallB R s args own j y by1 maxL ret (WJ y by1 maxL ret) (RMJ d) 0 0 n := callB_of n hts (WJ_good hcode) rfl rfl rfl (hts _ hini) (hts _ hml) hd ⟨by show d + 1 ≤ _; omega, by show 8 + (maxL + 11) + 30 * d ≤ _; omega⟩
  exact call_go0 (va_runS (As := av) (rest := t) (g := F0 m pc mls (av.reverse ++ t)) (H := H) (locs := locs) (cells := cells) (slots := slots) ⟨hx, hb, hml2, hown, hts⟩ hM ⟨cw, hts _ hst⟩ ⟨PcJ.blind, fun U hU hW => ⟨rfl, hE.next hS hU hW⟩⟩ rfl hn hsz rfl (by show 2 * 0 + _ ≤ 8; omega) hdec ⟨hcr, hsr⟩) hS kk
theorem go_V {pc j n N d k : Nat} {y : MethodName} {by1 cc : ByteArray} {maxL : Nat} {ret : Option FieldType} {own : String} {av t : List Value} {r : Option Value} (hk : k < 10) (hfix : CallFix p m c cc N s args WW own) (hM : Met l y (WJ y by1 maxL ret) (RMJ d) (PcJ B sa sv (.ref (sa k) :: av)) (QcJ r) 0 0 (fun q => B ≤ q)) (hcode : Cond.code y by1 maxL ret ∈ WW) (hcls : y.cls = RJ0) (hml : Cond.methodLink own j y ∈ WW) (hin : Cond.instanceMethod y ∈ WW) (hse : Cond.selects RJ0 y y ∈ WW) (hd : y.cls ≠ "java/lang/invoke/MethodHandle" ∧ y.cls ≠ "java/lang/invoke/VarHandle" ∧ (parseMethodDescriptor y.desc).map (fun d => d.parameters.length) = some n) (hn : av.length = n) (hm3 : maxL ≤ 3) (hE : JE B sa sv s s.heap) (hS : va_S (fun q => B ≤ q) s.heap H locs) (hsz : mls.size = N) (hw : (t.map fun v => v.category).sum ≤ 8) (hdec : decode cc pc = .ok (.invokevirtual j, 3)) (hf : d + 1 ≤ R.frames) (hlo : 30 * (d + 1) ≤ R.locals) (hcr : cells ≤ R.cells) (hsr : slots ≤ R.slots)
    (kk : ∀ locs1, va_S (fun q => B ≤ q) s.heap H locs1 → W p l e R s m args below meth c H locs1 cells slots Q (F0 m (pc + 3) mls (r.toList ++ t))) : W p l e R s m args below meth c H locs cells slots Q (F0 m pc mls (av.reverse ++ .ref (sa k) :: t)) := by
  obtain ⟨hx, hb, hml2, hown, hts⟩ := hfix
  have cw : CallW R s args own RJ0 j y by1 maxL ret (WJ y by1 maxL ret) (RMJ d) 0 0 n := ⟨callB_of n hts (WJ_good hcode) rfl rfl rfl (hts _ (by rw [hcls]; exact jn_0)) (hts _ hml) hd ⟨by show d + 1 ≤ _; omega, by show 8 + (maxL + 11) + 30 * d ≤ _; omega⟩, hts _ hin, hts _ hse⟩
  exact call_go0 (va_runV (C := RJ0) (b := sa k) (As := av) (rest := t) (g := F0 m pc mls (av.reverse ++ .ref (sa k) :: t)) (H := H) (locs := locs) (cells := cells) (slots := slots) ⟨hx, hb, hml2, hown, hts⟩ hM cw ⟨PcJ.blind, vk_recv hE.1 hk hS, fun U hU hW => ⟨rfl, hE.next hS hU hW⟩⟩ rfl hn hsz rfl (by show 2 * 0 + _ ≤ 8; omega) hdec ⟨hcr, hsr⟩) hS kk
end
set_option maxHeartbeats 4000000 in
theorem j_COD (l : Launch) (B : Nat) (sa sv : Nat → Nat) {k : Nat} (hk : k < 10) : Met l yJ0_coder_7d493 (WJ yJ0_coder_7d493 cJ0_coder_7d493 1 (some .byte)) (RMJ 0) (PcJ B sa sv [.ref (sa k)]) (QcJ (some (.int 0))) 0 0 (fun q => B ≤ q) := by
  refine Met.ofW (cc := cJ0_coder_7d493) (maxL := 1) (ret := (some .byte)) (by decide) rfl ?_
  intro p e s m args below meth c s₁ Bd hml hv
  obtain ⟨rfl, hE⟩ := hv
  have hlocks := Bd.notSynchronized
  have hx := Bd.exec
  have hb := Bd.bytes
  have hr := Bd.returns
  have hts : ∀ w ∈ WW, w.before _ s = true := fun w hw => atoms_spec (ws := WJ yJ0_coder_7d493 cJ0_coder_7d493 1 (some .byte)) Bd.pre w (List.mem_cons_of_mem _ hw)
  have hown : s.vm.findClass RJ0 = some m.cls := findClass_of_methodNamed Bd.named
  have hS : va_S (fun q => B ≤ q) s.heap s.heap [] := va_S.rf
  have hl := lv_entry [.ref (sa k)] (n := 1) (Nat.le_of_ble_eq_true rfl)
  rw [lg_entry_eq]
  generalize (lg_sl [.ref (sa k)] ++ List.replicate (1 - (lg_sl [.ref (sa k)]).length) Slot.unset).toArray = ls at hl ⊢
  refine va_gets hx hb hE.2.1 hS hown (hts _ jf_com) (fun _ h => h) dJ0_coder_7d493_0 ?_
  refine lv_if_eq (tgt := 13) hx hb dJ0_coder_7d493_3 (by decide) (fun q => absurd q (by decide)) (fun _ => ?_)
  refine lv_aload_n hx hb dJ0_coder_7d493_6 rfl (lv_at hl 0 rfl) ?_
  refine vk_getf hx hb (hE.1.1 k hk).2.1 hS hown (hts _ jf_cod) (fun _ h => h) dJ0_coder_7d493_7 ?_
  refine lv_goto (tgt := 14) hx hb dJ0_coder_7d493_10 (by decide) ?_
  exact W.zret hx hb hr (by decide) (fun t ht hWt => ⟨rfl, ht⟩) hS.2.2 dJ0_coder_7d493_14
set_option maxHeartbeats 4000000 in
theorem j_LAT (l : Launch) (B : Nat) (sa sv : Nat → Nat) {k : Nat} (hk : k < 10) : Met l yJ0_isLatin1_aae02 (WJ yJ0_isLatin1_aae02 cJ0_isLatin1_aae02 1 (some .boolean)) (RMJ 0) (PcJ B sa sv [.ref (sa k)]) (QcJ (some (.int 1))) 0 0 (fun q => B ≤ q) := by
  refine Met.ofW (cc := cJ0_isLatin1_aae02) (maxL := 1) (ret := (some .boolean)) (by decide) rfl ?_
  intro p e s m args below meth c s₁ Bd hml hv
  obtain ⟨rfl, hE⟩ := hv
  have hlocks := Bd.notSynchronized
  have hx := Bd.exec
  have hb := Bd.bytes
  have hr := Bd.returns
  have hts : ∀ w ∈ WW, w.before _ s = true := fun w hw => atoms_spec (ws := WJ yJ0_isLatin1_aae02 cJ0_isLatin1_aae02 1 (some .boolean)) Bd.pre w (List.mem_cons_of_mem _ hw)
  have hown : s.vm.findClass RJ0 = some m.cls := findClass_of_methodNamed Bd.named
  have hS : va_S (fun q => B ≤ q) s.heap s.heap [] := va_S.rf
  have hl := lv_entry [.ref (sa k)] (n := 1) (Nat.le_of_ble_eq_true rfl)
  rw [lg_entry_eq]
  generalize (lg_sl [.ref (sa k)] ++ List.replicate (1 - (lg_sl [.ref (sa k)]).length) Slot.unset).toArray = ls at hl ⊢
  refine va_gets hx hb hE.2.1 hS hown (hts _ jf_com) (fun _ h => h) dJ0_isLatin1_aae02_0 ?_
  refine lv_if_eq (tgt := 17) hx hb dJ0_isLatin1_aae02_3 (by decide) (fun q => absurd q (by decide)) (fun _ => ?_)
  refine lv_aload_n hx hb dJ0_isLatin1_aae02_6 rfl (lv_at hl 0 rfl) ?_
  refine vk_getf hx hb (hE.1.1 k hk).2.1 hS hown (hts _ jf_cod) (fun _ h => h) dJ0_isLatin1_aae02_7 ?_
  refine lv_if_ne (tgt := 17) hx hb dJ0_isLatin1_aae02_10 (by decide) (fun q => absurd rfl q) (fun _ => ?_)
  refine lv_iconst (v := 1) hx hb dJ0_isLatin1_aae02_13 (by decide) ?_
  refine lv_goto (tgt := 18) hx hb dJ0_isLatin1_aae02_14 (by decide) ?_
  exact W.zret hx hb hr (by decide) (fun t ht hWt => ⟨rfl, ht⟩) hS.2.2 dJ0_isLatin1_aae02_18
set_option maxHeartbeats 4000000 in
theorem j_PRE (l : Launch) (B : Nat) (sa sv : Nat → Nat) {i n : Nat} (hin : i < n) (hn : n ≤ 100000) {f : Value} (hf : f = .null ∨ ∃ z, f = .ref z) : Met l yJ3_checkIndex_8e157 (WJ yJ3_checkIndex_8e157 cJ3_checkIndex_8e157 3 (some .int)) (RMJ 0) (PcJ B sa sv [.int (Int32.ofInt (i : Nat)), .int (Int32.ofInt (n : Nat)), f]) (QcJ (some (.int (Int32.ofInt (i : Nat))))) 0 0 (fun q => B ≤ q) := by
  refine Met.ofW (cc := cJ3_checkIndex_8e157) (maxL := 3) (ret := (some .int)) (by decide) rfl ?_
  intro p e s m args below meth c s₁ Bd hml hv
  obtain ⟨rfl, hE⟩ := hv
  have hlocks := Bd.notSynchronized
  have hx := Bd.exec
  have hb := Bd.bytes
  have hr := Bd.returns
  have hts : ∀ w ∈ WW, w.before _ s = true := fun w hw => atoms_spec (ws := WJ yJ3_checkIndex_8e157 cJ3_checkIndex_8e157 3 (some .int)) Bd.pre w (List.mem_cons_of_mem _ hw)
  have hown : s.vm.findClass RJ3 = some m.cls := findClass_of_methodNamed Bd.named
  have hS : va_S (fun q => B ≤ q) s.heap s.heap [] := va_S.rf
  have hl := lv_entry [.int (Int32.ofInt (i : Nat)), .int (Int32.ofInt (n : Nat)), f] (n := 3) (by rcases hf with rfl | ⟨z, rfl⟩ <;> exact Nat.le_of_ble_eq_true rfl)
  rw [lg_entry_eq]
  generalize (lg_sl [.int (Int32.ofInt (i : Nat)), .int (Int32.ofInt (n : Nat)), f] ++ List.replicate (3 - (lg_sl [.int (Int32.ofInt (i : Nat)), .int (Int32.ofInt (n : Nat)), f]).length) Slot.unset).toArray = ls at hl ⊢
  have hi1 : InR (i : Int) := inr_nat (by omega)
  have hn1 : InR (n : Int) := inr_nat (by omega)
  have hl : lv_has ls 3 [(0, .int (Int32.ofInt (i : Nat))), (1, .int (Int32.ofInt (n : Nat)))] := by
    rcases hf with rfl | ⟨z, rfl⟩
    · exact lv_sub hl [0, 1] rfl
    · exact lv_sub hl [0, 1] rfl
  refine lv_iload_n hx hb dJ3_checkIndex_8e157_0 rfl (lv_at hl 0 rfl) ?_
  refine lv_if_lt (tgt := 9) hx hb dJ3_checkIndex_8e157_1 (by decide) (fun q => absurd q (by rw [oI_0, oI_lt hi1 inr_0]; omega)) (fun _ => ?_)
  refine lv_iload_n hx hb dJ3_checkIndex_8e157_4 rfl (lv_at hl 0 rfl) ?_
  refine lv_iload_n hx hb dJ3_checkIndex_8e157_5 rfl (lv_at hl 1 rfl) ?_
  refine lv_icmp_lt (tgt := 16) hx hb dJ3_checkIndex_8e157_6 (by decide) (fun _ => ?_) (fun q => absurd ((oI_lt hi1 hn1).mpr (by omega)) q)
  refine lv_iload_n hx hb dJ3_checkIndex_8e157_16 rfl (lv_at hl 0 rfl) ?_
  exact W.iret hx hb hr (fun t ht hWt => ⟨rfl, ht⟩) hS.2.2 dJ3_checkIndex_8e157_17
set_option maxHeartbeats 4000000 in
theorem j_CKI (l : Launch) (B : Nat) (sa sv : Nat → Nat) {i n : Nat} (hin : i < n) (hn : n ≤ 100000) : Met l yJ0_checkIndex_df160 (WJ yJ0_checkIndex_df160 cJ0_checkIndex_df160 2 none) (RMJ 1) (PcJ B sa sv [.int (Int32.ofInt (i : Nat)), .int (Int32.ofInt (n : Nat))]) (QcJ none) 0 0 (fun q => B ≤ q) := by
  refine Met.ofW (cc := cJ0_checkIndex_df160) (maxL := 2) (ret := none) (by decide) rfl ?_
  intro p e s m args below meth c s₁ Bd hml hv
  obtain ⟨rfl, hE⟩ := hv
  have hlocks := Bd.notSynchronized
  have hx := Bd.exec
  have hb := Bd.bytes
  have hr := Bd.returns
  have hts : ∀ w ∈ WW, w.before _ s = true := fun w hw => atoms_spec (ws := WJ yJ0_checkIndex_df160 cJ0_checkIndex_df160 2 none) Bd.pre w (List.mem_cons_of_mem _ hw)
  have hown : s.vm.findClass RJ0 = some m.cls := findClass_of_methodNamed Bd.named
  have hS : va_S (fun q => B ≤ q) s.heap s.heap [] := va_S.rf
  have hl := lv_entry [.int (Int32.ofInt (i : Nat)), .int (Int32.ofInt (n : Nat))] (n := 2) (Nat.le_of_ble_eq_true rfl)
  rw [lg_entry_eq]
  generalize (lg_sl [.int (Int32.ofInt (i : Nat)), .int (Int32.ofInt (n : Nat))] ++ List.replicate (2 - (lg_sl [.int (Int32.ofInt (i : Nat)), .int (Int32.ofInt (n : Nat))]).length) Slot.unset).toArray = ls at hl ⊢
  refine lv_iload_n hx hb dJ0_checkIndex_df160_0 rfl (lv_at hl 0 rfl) ?_
  refine lv_iload_n hx hb dJ0_checkIndex_df160_1 rfl (lv_at hl 1 rfl) ?_
  rcases hE.2.2 with hz | ⟨z, hz⟩
  · refine va_gets hx hb hz hS hown (hts _ jf_sio) (fun _ h => h) dJ0_checkIndex_df160_2 ?_
    refine go_S (av := [.int (Int32.ofInt (i : Nat)), .int (Int32.ofInt (n : Nat)), .null]) (t := []) (n := 3) (B := B) ⟨hx, hb, hml, hown, hts⟩ (j_PRE l B sa sv hin hn (Or.inl rfl)) jc_PRE jn_3 jm_pre jt_PRE (by decide) rfl (by omega) hE hS hl.1 (by simp) dJ0_checkIndex_df160_5 (Nat.le_refl 1) (Nat.le_refl 30) (Nat.le_refl _) (Nat.le_refl _) (fun locs1 hS1 => ?_)
    refine lv_pop hx hb dJ0_checkIndex_df160_8 rfl ?_
    exact W.vret hx hb hr (fun t ht hWt => ⟨rfl, ht⟩) hS1.2.2 dJ0_checkIndex_df160_9
  · refine va_gets hx hb hz hS hown (hts _ jf_sio) (fun _ h => h) dJ0_checkIndex_df160_2 ?_
    refine go_S (av := [.int (Int32.ofInt (i : Nat)), .int (Int32.ofInt (n : Nat)), .ref z]) (t := []) (n := 3) (B := B) ⟨hx, hb, hml, hown, hts⟩ (j_PRE l B sa sv hin hn (Or.inr ⟨z, rfl⟩)) jc_PRE jn_3 jm_pre jt_PRE (by decide) rfl (by omega) hE hS hl.1 (by simp) dJ0_checkIndex_df160_5 (Nat.le_refl 1) (Nat.le_refl 30) (Nat.le_refl _) (Nat.le_refl _) (fun locs1 hS1 => ?_)
    refine lv_pop hx hb dJ0_checkIndex_df160_8 rfl ?_
    exact W.vret hx hb hr (fun t ht hWt => ⟨rfl, ht⟩) hS1.2.2 dJ0_checkIndex_df160_9
theorem sLen_ok : ∀ k, k < 10 → sLen.getD k 0 = sL k ∧ (sByt.getD k []).length = sL k ∧ sL k ≤ 100000 := by decide +kernel
theorem sByt_ok : ∀ k, k < 10 → ∀ i, i < sL k → ((sByt.getD k []).getD i 0 &&& 255 = Int32.ofNat (sC k i)) ∧ ((Int32.ofNat (sC k i)).toUInt32 % 65536).toInt32 = Int32.ofNat (sC k i) ∧ narrow .char (.int (Int32.ofNat (sC k i))) = .int (Int32.ofNat (sC k i)) := by decide +kernel
set_option maxHeartbeats 4000000 in
theorem j_L1C (l : Launch) (B : Nat) (sa sv : Nat → Nat) {k i : Nat} (hk : k < 10) (hi : i < sL k) : Met l yJ1_charAt_3b067 (WJ yJ1_charAt_3b067 cJ1_charAt_3b067 2 (some .char)) (RMJ 2) (PcJ B sa sv [.ref (sv k), .int (Int32.ofInt (i : Nat))]) (QcJ (some (.int (Int32.ofInt (sC k i : Nat))))) 0 0 (fun q => B ≤ q) := by
  refine Met.ofW (cc := cJ1_charAt_3b067) (maxL := 2) (ret := (some .char)) (by decide) rfl ?_
  intro p e s m args below meth c s₁ Bd hml hv
  obtain ⟨rfl, hE⟩ := hv
  have hlocks := Bd.notSynchronized
  have hx := Bd.exec
  have hb := Bd.bytes
  have hr := Bd.returns
  have hts : ∀ w ∈ WW, w.before _ s = true := fun w hw => atoms_spec (ws := WJ yJ1_charAt_3b067 cJ1_charAt_3b067 2 (some .char)) Bd.pre w (List.mem_cons_of_mem _ hw)
  have hown : s.vm.findClass RJ1 = some m.cls := findClass_of_methodNamed Bd.named
  have hS : va_S (fun q => B ≤ q) s.heap s.heap [] := va_S.rf
  have hl := lv_entry [.ref (sv k), .int (Int32.ofInt (i : Nat))] (n := 2) (Nat.le_of_ble_eq_true rfl)
  rw [lg_entry_eq]
  generalize (lg_sl [.ref (sv k), .int (Int32.ofInt (i : Nat))] ++ List.replicate (2 - (lg_sl [.ref (sv k), .int (Int32.ofInt (i : Nat))]).length) Slot.unset).toArray = ls at hl ⊢
  have hT := (hE.1.1 k hk).2.2.2
  rw [(sLen_ok k hk).1] at hT
  have hi1 : InR (i : Int) := inr_nat (by have := (sLen_ok k hk).2.2; omega)
  refine lv_iload_n hx hb dJ1_charAt_3b067_0 rfl (lv_at hl 1 rfl) ?_
  refine lv_aload_n hx hb dJ1_charAt_3b067_1 rfl (lv_at hl 0 rfl) ?_
  refine va_tlen hx hb hT hS rfl dJ1_charAt_3b067_2 ?_
  refine go_S (av := [.int (Int32.ofInt (i : Nat)), .int (Int32.ofInt (sL k : Nat))]) (t := []) (n := 2) (B := B) ⟨hx, hb, hml, hown, hts⟩ (j_CKI l B sa sv hi (sLen_ok k hk).2.2) jc_CKI jn_0 jm_cki jt_CKI (by decide) rfl (by omega) hE hS hl.1 (by simp) dJ1_charAt_3b067_3 (Nat.le_refl 2) (Nat.le_refl 60) (Nat.le_refl _) (Nat.le_refl _) (fun locs1 hS1 => ?_)
  refine lv_aload_n hx hb dJ1_charAt_3b067_6 rfl (lv_at hl 0 rfl) ?_
  refine lv_iload_n hx hb dJ1_charAt_3b067_7 rfl (lv_at hl 1 rfl) ?_
  refine va_tb (v := .int ((sByt.getD k []).getD i 0)) hx hb hT hS1 (oI_in hi1 (by omega) (by omega)) (by rw [oI_clamp hi1]; rfl) dJ1_charAt_3b067_8 ?_
  refine lv_sipush (v := 255) hx hb dJ1_charAt_3b067_9 (by decide) ?_
  refine lv_iand hx hb dJ1_charAt_3b067_12 ?_
  obtain ⟨z1, z2, z3⟩ := sByt_ok k hk i hi
  rw [z1]
  refine lv_i2c hx hb dJ1_charAt_3b067_13 z2 ?_
  exact W.zret hx hb hr z3 (fun t ht hWt => ⟨rfl, ht⟩) hS1.2.2 dJ1_charAt_3b067_14
set_option maxHeartbeats 4000000 in
theorem j_CHA (l : Launch) (B : Nat) (sa sv : Nat → Nat) {k i : Nat} (hk : k < 10) (hi : i < sL k) : Met l yJ0_charAt_5068e (WJ yJ0_charAt_5068e cJ0_charAt_5068e 2 (some .char)) (RMJ 3) (PcJ B sa sv [.ref (sa k), .int (Int32.ofInt (i : Nat))]) (QcJ (some (.int (Int32.ofInt (sC k i : Nat))))) 0 0 (fun q => B ≤ q) := by
  refine Met.ofW (cc := cJ0_charAt_5068e) (maxL := 2) (ret := (some .char)) (by decide) rfl ?_
  intro p e s m args below meth c s₁ Bd hml hv
  obtain ⟨rfl, hE⟩ := hv
  have hlocks := Bd.notSynchronized
  have hx := Bd.exec
  have hb := Bd.bytes
  have hr := Bd.returns
  have hts : ∀ w ∈ WW, w.before _ s = true := fun w hw => atoms_spec (ws := WJ yJ0_charAt_5068e cJ0_charAt_5068e 2 (some .char)) Bd.pre w (List.mem_cons_of_mem _ hw)
  have hown : s.vm.findClass RJ0 = some m.cls := findClass_of_methodNamed Bd.named
  have hS : va_S (fun q => B ≤ q) s.heap s.heap [] := va_S.rf
  have hl := lv_entry [.ref (sa k), .int (Int32.ofInt (i : Nat))] (n := 2) (Nat.le_of_ble_eq_true rfl)
  rw [lg_entry_eq]
  generalize (lg_sl [.ref (sa k), .int (Int32.ofInt (i : Nat))] ++ List.replicate (2 - (lg_sl [.ref (sa k), .int (Int32.ofInt (i : Nat))]).length) Slot.unset).toArray = ls at hl ⊢
  refine lv_aload_n hx hb dJ0_charAt_5068e_0 rfl (lv_at hl 0 rfl) ?_
  refine go_V (av := []) (t := []) (n := 0) (B := B) hk ⟨hx, hb, hml, hown, hts⟩ (j_LAT l B sa sv hk) jc_LAT rfl jm_lat ji_LAT js_LAT (by decide) rfl (by omega) hE hS hl.1 (by simp) dJ0_charAt_5068e_1 (by decide) (by decide) (Nat.le_refl _) (Nat.le_refl _) (fun locs1 hS1 => ?_)
  refine lv_if_eq (tgt := 16) hx hb dJ0_charAt_5068e_4 (by decide) (fun q => absurd q (by decide)) (fun _ => ?_)
  refine lv_aload_n hx hb dJ0_charAt_5068e_7 rfl (lv_at hl 0 rfl) ?_
  refine vk_getf hx hb (hE.1.1 k hk).2.2.1 hS1 hown (hts _ jf_val) (fun _ h => h) dJ0_charAt_5068e_8 ?_
  refine lv_iload_n hx hb dJ0_charAt_5068e_11 rfl (lv_at hl 1 rfl) ?_
  refine go_S (av := [.ref (sv k), .int (Int32.ofInt (i : Nat))]) (t := []) (n := 2) (B := B) ⟨hx, hb, hml, hown, hts⟩ (j_L1C l B sa sv hk hi) jc_L1C jn_1 jm_l1c jt_L1C (by decide) rfl (by omega) hE hS1 hl.1 (by simp) dJ0_charAt_5068e_12 (Nat.le_refl 3) (Nat.le_refl 90) (Nat.le_refl _) (Nat.le_refl _) (fun locs2 hS2 => ?_)
  exact W.zret hx hb hr (sByt_ok k hk i hi).2.2 (fun t ht hWt => ⟨rfl, ht⟩) hS2.2.2 dJ0_charAt_5068e_15
set_option maxHeartbeats 4000000 in
theorem j_LEN (l : Launch) (B : Nat) (sa sv : Nat → Nat) {k : Nat} (hk : k < 10) : Met l yJ0_length_8abf5 (WJ yJ0_length_8abf5 cJ0_length_8abf5 1 (some .int)) (RMJ 1) (PcJ B sa sv [.ref (sa k)]) (QcJ (some (.int (Int32.ofInt (sL k : Nat))))) 0 0 (fun q => B ≤ q) := by
  refine Met.ofW (cc := cJ0_length_8abf5) (maxL := 1) (ret := (some .int)) (by decide) rfl ?_
  intro p e s m args below meth c s₁ Bd hml hv
  obtain ⟨rfl, hE⟩ := hv
  have hlocks := Bd.notSynchronized
  have hx := Bd.exec
  have hb := Bd.bytes
  have hr := Bd.returns
  have hts : ∀ w ∈ WW, w.before _ s = true := fun w hw => atoms_spec (ws := WJ yJ0_length_8abf5 cJ0_length_8abf5 1 (some .int)) Bd.pre w (List.mem_cons_of_mem _ hw)
  have hown : s.vm.findClass RJ0 = some m.cls := findClass_of_methodNamed Bd.named
  have hS : va_S (fun q => B ≤ q) s.heap s.heap [] := va_S.rf
  have hl := lv_entry [.ref (sa k)] (n := 1) (Nat.le_of_ble_eq_true rfl)
  rw [lg_entry_eq]
  generalize (lg_sl [.ref (sa k)] ++ List.replicate (1 - (lg_sl [.ref (sa k)]).length) Slot.unset).toArray = ls at hl ⊢
  have hT := (hE.1.1 k hk).2.2.2
  rw [(sLen_ok k hk).1] at hT
  refine lv_aload_n hx hb dJ0_length_8abf5_0 rfl (lv_at hl 0 rfl) ?_
  refine vk_getf hx hb (hE.1.1 k hk).2.2.1 hS hown (hts _ jf_val) (fun _ h => h) dJ0_length_8abf5_1 ?_
  refine va_tlen hx hb hT hS rfl dJ0_length_8abf5_4 ?_
  refine lv_aload_n hx hb dJ0_length_8abf5_5 rfl (lv_at hl 0 rfl) ?_
  refine go_V (av := []) (t := [.int (Int32.ofNat (sL k))]) (n := 0) (B := B) hk ⟨hx, hb, hml, hown, hts⟩ (j_COD l B sa sv hk) jc_COD rfl jm_cod ji_COD js_COD (by decide) rfl (by omega) hE hS hl.1 (Nat.le_of_ble_eq_true rfl) dJ0_length_8abf5_6 (Nat.le_refl 1) (Nat.le_refl 30) (Nat.le_refl _) (Nat.le_refl _) (fun locs1 hS1 => ?_)
  refine lv_ishr hx hb dJ0_length_8abf5_9 ?_
  have hsh : Int32.ofNat (sL k) >>> ((0 : Int32) &&& 31) = Int32.ofInt (sL k : Nat) := by
    have : ∀ k, k < 10 → Int32.ofNat (sL k) >>> ((0 : Int32) &&& 31) = Int32.ofInt (sL k : Nat) := by decide +kernel
    exact this k hk
  rw [hsh]
  exact W.iret hx hb hr (fun t ht hWt => ⟨rfl, ht⟩) hS1.2.2 dJ0_length_8abf5_10
section
variable {p : Program} {l : Launch} {e : Env} {R : Room} {s : State} {m : MethodId} {args : Array Value} {below : List Frame} {meth : Method} {c : Code} {H : Heap} {locs : List Loc} {Q : State → Prop}
variable {D : va_G} {ty : Nat → ClassId} {B : Nat} {sa sv : Nat → Nat} {b L : Nat} {xs : Nat → Int32} {mls : Array Slot} {mm : Nat} {cells slots : Nat} {t : List Value}
theorem Ctx.je (hc : Ctx mm p s m args meth c D ty B sa sv b L xs) : JE B sa sv s s.heap := ⟨hc.2.2.2.2.2.1.2.1, hc.2.2.2.2.2.1.2.2.2.2.2.2.2.1.2.1, hc.2.2.2.2.2.1.2.2.2.2.2.2.2.1.2.2⟩
theorem sp_len {pc j k : Nat} (hc : Ctx mm p s m args meth c D ty B sa sv b L xs) (hdec : decode (mB mm) pc = .ok (.invokevirtual j, 3)) (hlk : lkB sLk (mC mm) j 9001 = true) (hS : va_S (fun q => B ≤ q) s.heap H locs) (hsz : mls.size = mL mm) (hk : k < 10) (hw : (t.map fun v => v.category).sum ≤ 8) (hf : 5 ≤ R.frames) (hlo : 200 ≤ R.locals) (hcr : cells ≤ R.cells) (hsr : slots ≤ R.slots)
    (kk : ∀ locs1, va_S (fun q => B ≤ q) s.heap H locs1 → W p l e R s m args below meth c H locs1 cells slots Q (F0 m (pc + 3) mls (.int (Int32.ofInt (sL k : Nat)) :: t))) : W p l e R s m args below meth c H locs cells slots Q (F0 m pc mls (.ref (sa k) :: t)) := by
  have hE := Ctx.je hc
  obtain ⟨hx, hb, hml, hown, hts, -, hB, hin⟩ := hc
  obtain ⟨q, hq, e1, e2, e3⟩ := lkB_mem hlk
  have hw2 := sLk_ok q hq
  rw [e1, e2, e3, if_pos rfl] at hw2
  exact go_V (av := []) (n := 0) (d := 1) hk ⟨hx, hb, hml, hown, hts⟩ (j_LEN l B sa sv hk) jc_LEN rfl (WW_in hw2 rfl) ji_LEN js_LEN (by decide) rfl (by omega) hE hS hsz hw hdec (by omega) (by omega) hcr hsr kk
theorem sp_at {pc j k i : Nat} (hc : Ctx mm p s m args meth c D ty B sa sv b L xs) (hdec : decode (mB mm) pc = .ok (.invokevirtual j, 3)) (hlk : lkB sLk (mC mm) j 9002 = true) (hS : va_S (fun q => B ≤ q) s.heap H locs) (hsz : mls.size = mL mm) (hk : k < 10) (hi : i < sL k) (hw : (t.map fun v => v.category).sum ≤ 8) (hf : 5 ≤ R.frames) (hlo : 200 ≤ R.locals) (hcr : cells ≤ R.cells) (hsr : slots ≤ R.slots)
    (kk : ∀ locs1, va_S (fun q => B ≤ q) s.heap H locs1 → W p l e R s m args below meth c H locs1 cells slots Q (F0 m (pc + 3) mls (.int (Int32.ofInt (sC k i : Nat)) :: t))) : W p l e R s m args below meth c H locs cells slots Q (F0 m pc mls (.int (Int32.ofInt (i : Nat)) :: .ref (sa k) :: t)) := by
  have hE := Ctx.je hc
  obtain ⟨hx, hb, hml, hown, hts, -, hB, hin⟩ := hc
  obtain ⟨q, hq, e1, e2, e3⟩ := lkB_mem hlk
  have hw2 := sLk_ok q hq
  rw [e1, e2, e3, if_neg (by omega)] at hw2
  exact go_V (av := [.int (Int32.ofInt (i : Nat))]) (n := 1) (d := 3) hk ⟨hx, hb, hml, hown, hts⟩ (j_CHA l B sa sv hk hi) jc_CHA rfl (WW_in hw2 rfl) ji_CHA js_CHA (by decide) rfl (by omega) hE hS hsz hw hdec (by omega) (by omega) hcr hsr kk
end

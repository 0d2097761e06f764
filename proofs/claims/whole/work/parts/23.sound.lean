section
variable {L : Nat} {xs : Nat → Int32}
/-- behind a return of r at σ1: what the frame's own end is -/
def RetK (mm : Nat) (p : Program) (l : Launch) (e : Env) (R : Room) (s : State) (m : MethodId) (args : Array Value) (below : List Frame) (meth : Method) (c : Code) (Qs : State → Prop) (D : va_G) (ty : Nat → ClassId) (B : Nat) (sa : Nat → Nat) (n0 s0 : Nat) (σ : AS) (ad : Nat → Nat → Nat) (σ1 : AS) (r : Option AV) : Prop :=
  ∀ pc i len x y nx st H locs mls ad' al', ins mm pc = some (i, len, x, y, nx) → StR mm i st r → Rep D ty B σ1 ad' al' H → va_S (fun q => B ≤ q) s.heap H locs → adX σ ad ad' → W p l e R s m args below meth c H locs (nC σ1 - n0) (nS σ1 - s0) Qs (F0 m pc mls (st.map (vV ad' sa)))
/-- what a run from a place comes to: an answer with Q, and the machine goes there -/
def XS (L : Nat) (xs : Nat → Int32) (d mm : Nat) (Q : AQ) : AX := fun pc ls st σ =>
  okS L xs σ → okL σ ls → okK σ st → ls.length = mL mm → ∃ r σ1, Q r σ1 ∧ okS L xs σ1 ∧ Grow σ σ1 ∧ (∀ v, r = some v → okV σ1 v) ∧
    ∀ (p : Program) (l : Launch) (e : Env) (R : Room) (s : State) (m : MethodId) (args : Array Value) (below : List Frame) (meth : Method) (c : Code) (Qs : State → Prop) (D : va_G) (ty : Nat → ClassId) (B : Nat) (sa sv : Nat → Nat) (b n0 s0 : Nat) (ad : Nat → Nat → Nat) (al : List (Nat × Nat)) (H : Heap) (locs : List Loc) (mls : Array Slot),
      Ctx mm p s m args meth c D ty B sa sv b L xs → Rep D ty B σ ad al H → va_S (fun q => B ≤ q) s.heap H locs → LR ad sa mls (mL mm) ls → ad 18 0 = b → n0 ≤ nC σ → s0 ≤ nS σ → nC σ1 - n0 ≤ R.cells → nS σ1 - s0 ≤ R.slots → d + 6 ≤ R.frames → 40 * (d + 6) ≤ R.locals →
      RetK mm p l e R s m args below meth c Qs D ty B sa n0 s0 σ ad σ1 r → W p l e R s m args below meth c H locs (nC σ - n0) (nS σ - s0) Qs (F0 m pc mls (st.map (vV ad sa)))
def Sound (L : Nat) (xs : Nat → Int32) (d : Nat) : Prop := ∀ m as σ Q, wp d m as σ Q → m < 175 → okS L xs σ → okK σ as → ∃ r σ1, Q r σ1 ∧ okS L xs σ1 ∧ Grow σ σ1 ∧ (∀ v, r = some v → okV σ1 v) ∧
  ∀ (l : Launch) (D : va_G) (ty : Nat → ClassId) (B : Nat) (sa sv : Nat → Nat) (b : Nat) (ad : Nat → Nat → Nat) (al : List (Nat × Nat)), Met l (mY m) (WS m) (RM d (nC σ1 - nC σ) (nS σ1 - nS σ)) (PcM D ty B sa sv b L xs σ ad al as) (QcM D ty B sa σ ad σ1 r) (nC σ1 - nC σ) (nS σ1 - nS σ) (fun q => B ≤ q)
theorem StC_x {mm pc i len x y nx : Nat} {ii : Jvm.ClassFile.Instr} {st as t : List AV} (hi : ins mm pc = some (ii, len, x, y, nx)) (h : StC ii x y st as t) : x < 175 := by
  obtain ⟨hmm, hdec, rfl, hck⟩ := ck_all hi
  cases ii with
  | invokevirtual j =>
    simp only [ckI, Bool.and_eq_true, if_pos h.1] at hck
    exact Nat.le_of_ble_eq_true hck.2.2
  | invokespecial j =>
    simp only [ckI, Bool.and_eq_true, if_pos h.1] at hck
    exact Nat.le_of_ble_eq_true hck.2.2
  | invokestatic j =>
    simp only [ckI, Bool.and_eq_true] at hck
    exact Nat.le_of_ble_eq_true hck.2
  | _ => exact h.elim
theorem StC_ok {i : Jvm.ClassFile.Instr} {x y : Nat} {σ : AS} {st as t : List AV} (h : StC i x y st as t) (hk : okK σ st) : okK σ as ∧ okK σ t := by
  cases i with
  | invokevirtual j =>
    obtain ⟨-, -, a, bs, rfl, -, rfl⟩ := h
    exact ⟨fun v hv => hk v (by rcases List.mem_cons.mp hv with rfl | hv <;> simp [*]), fun v hv => hk v (by simp [hv])⟩
  | invokespecial j =>
    obtain ⟨-, -, a, bs, rfl, -, rfl⟩ := h
    exact ⟨fun v hv => hk v (by rcases List.mem_cons.mp hv with rfl | hv <;> simp [*]), fun v hv => hk v (by simp [hv])⟩
  | invokestatic j =>
    obtain ⟨-, -, -, rfl⟩ := h
    exact ⟨fun v hv => hk v (by simp [hv]), fun v hv => hk v (by simp [hv])⟩
  | _ => exact h.elim
theorem St1_len {pc x y nx : Nat} {i : Jvm.ClassFile.Instr} {ls : List (Option AV)} {st : List AV} {σ : AS} {f : AF} (h : St1 pc i x y nx ls st σ f) : f.2.1.length = ls.length := by
  cases i with
  | istore_n k => obtain ⟨v, t, rfl, hlt, rfl⟩ := h; simp
  | istore k => obtain ⟨v, t, rfl, hlt, rfl⟩ := h; simp
  | astore_n k => obtain ⟨v, t, rfl, hlt, rfl⟩ := h; simp
  | astore k => obtain ⟨v, t, rfl, hlt, rfl⟩ := h; simp
  | iinc k n => obtain ⟨v, hv, rfl⟩ := h; simp
  | ldc_w j => obtain ⟨hy, rfl⟩ := h; rfl
  | invokevirtual j => rcases h with ⟨-, k, t, rfl, -, rfl⟩ | ⟨-, n, k, t, rfl, -, -, -, rfl⟩ <;> rfl
  | invokespecial j => obtain ⟨-, c, a, t, rfl, -, rfl⟩ := h; rfl
  | tableswitch d lo hi os => obtain ⟨a, t, off, tg, rfl, -, -, rfl⟩ := h; rfl
  | ifCond c o => obtain ⟨a, t, rfl, ⟨-, rfl⟩ | ⟨-, rfl⟩⟩ := h <;> rfl
  | if_icmp c o => obtain ⟨a, b, t, rfl, ⟨-, rfl⟩ | ⟨-, rfl⟩⟩ := h <;> rfl
  | ifnull o => obtain ⟨c, r, t, rfl, ⟨-, rfl⟩ | ⟨-, rfl⟩⟩ := h <;> rfl
  | ifnonnull o => obtain ⟨c, r, t, rfl, ⟨-, rfl⟩ | ⟨-, rfl⟩⟩ := h <;> rfl
  | putfield j => obtain ⟨v, a, t, rfl, hp, rfl⟩ := h; rfl
  | getfield j => obtain ⟨a, t, rfl, rfl⟩ := h; rfl
  | iaload => obtain ⟨j, c, a, t, rfl, -, -, -, rfl⟩ := h; rfl
  | baload => obtain ⟨j, a, t, rfl, -, -, rfl⟩ := h; rfl
  | aaload => obtain ⟨j, c, a, t, rfl, -, -, -, rfl⟩ := h; rfl
  | iastore => obtain ⟨v, j, a, t, rfl, -, -, rfl⟩ := h; rfl
  | bastore => obtain ⟨v, j, a, t, rfl, -, -, -, rfl⟩ := h; rfl
  | aastore => obtain ⟨v, j, c, a, t, rfl, -, -, -, rfl⟩ := h; rfl
  | arraylength => obtain ⟨c, a, t, rfl, -, rfl⟩ := h; rfl
  | newarray ty => obtain ⟨n, t, rfl, h0, h1, rfl⟩ := h; rfl
  | anewarray j => obtain ⟨n, t, rfl, h0, h1, rfl⟩ := h; rfl
  | multianewarray j d => obtain ⟨n, k, t, rfl, h0, h1, h2, h3, rfl⟩ := h; rfl
  | iload_n k => obtain ⟨v, hv, rfl⟩ := h; rfl
  | iload k => obtain ⟨v, hv, rfl⟩ := h; rfl
  | aload_n k => obtain ⟨v, hv, rfl⟩ := h; rfl
  | aload k => obtain ⟨v, hv, rfl⟩ := h; rfl
  | dup => obtain ⟨v, t, rfl, rfl⟩ := h; rfl
  | dup2 => obtain ⟨v, w, t, rfl, rfl⟩ := h; rfl
  | pop => obtain ⟨v, t, rfl, rfl⟩ := h; rfl
  | idiv => obtain ⟨a, b, t, rfl, -, rfl⟩ := h; rfl
  | irem => obtain ⟨a, b, t, rfl, -, rfl⟩ := h; rfl
  | iadd => obtain ⟨a, b, t, rfl, rfl⟩ := h; rfl
  | isub => obtain ⟨a, b, t, rfl, rfl⟩ := h; rfl
  | imul => obtain ⟨a, b, t, rfl, rfl⟩ := h; rfl
  | iand => obtain ⟨a, b, t, rfl, rfl⟩ := h; rfl
  | ior => obtain ⟨a, b, t, rfl, rfl⟩ := h; rfl
  | ishl => obtain ⟨a, b, t, rfl, rfl⟩ := h; rfl
  | ishr => obtain ⟨a, b, t, rfl, rfl⟩ := h; rfl
  | iushr => obtain ⟨a, b, t, rfl, rfl⟩ := h; rfl
  | iconst n => subst h; rfl
  | bipush n => subst h; rfl
  | sipush n => subst h; rfl
  | ldc j => subst h; rfl
  | aconst_null => subst h; rfl
  | goto o => subst h; rfl
  | new j => subst h; rfl
  | _ => exact h.elim
theorem StR_ok {m : Nat} {i : Jvm.ClassFile.Instr} {σ : AS} {st : List AV} {r : Option AV} (h : StR m i st r) (hk : okK σ st) : ∀ v, r = some v → okV σ v := by
  cases i with
  | ireturn =>
    obtain ⟨v, rfl, -, rfl⟩ := h
    intro w e; cases e
    exact hk _ (by simp)
  | areturn =>
    obtain ⟨c, q, rfl, h3, hq, rfl⟩ := h
    intro w e; cases e
    intro a ha
    subst ha
    rcases hq with hq | hq
    · cases hq
    · rw [show mK m - 3 = c by omega]
      exact hk _ (List.mem_singleton.mpr rfl) a rfl
  | return_ => obtain ⟨-, -, rfl⟩ := h; intro w e; cases e
  | _ => exact h.elim
/-- the induction's step: one instruction -/
theorem XS_step {d mm : Nat} {Q : AQ} (hS : Sound L xs d) {pc : Nat} {ls : List (Option AV)} {st : List AV} {σ : AS} (h : StepP (wp d) mm Q (XS L xs d mm Q) pc ls st σ) : XS L xs d mm Q pc ls st σ := by
  intro ok hl hk hlen
  obtain ⟨i, len, x, y, nx, hi, h⟩ := h
  rcases h with ⟨f, h1, hX⟩ | ⟨as, t, h1, hX⟩ | ⟨r, h1, hQ⟩
  · obtain ⟨-, -, -, hck⟩ := ck_all hi
    obtain ⟨k1, k2, k3, k4⟩ := st1_pure hck h1 ok hl hk
    obtain ⟨r, σ1, hQ, o1, g1, v1, hW⟩ := hX k1 k2 k3 (by rw [St1_len h1]; exact hlen)
    refine ⟨r, σ1, hQ, o1, k4.tr g1, v1, ?_⟩
    intro p l e R s m args below meth c Qs D ty B sa sv b n0 s0 ad al H locs mls hc hR hVS hLR h18 hn0 hs0 hcr hsr hfr hlo hRet
    have hb1 := k4.2.1
    have hb2 := k4.2.2
    have hb3 := g1.2.1
    have hb4 := g1.2.2
    refine st1_ok hc hi h1 ok hl hk hR hVS hLR h18 hn0 hs0 (by omega) (by omega) (by omega) (by omega) ?_
    intro al' ad' H' locs' mls' hR' hS' hL' hax
    refine hW p l e R s m args below meth c Qs D ty B sa sv b n0 s0 ad' al' H' locs' mls' hc hR' hS' hL' ?_ (by omega) (by omega) hcr hsr hfr hlo ?_
    · rw [hax 18 0 (by rw [ok.2.2.2.2.2.2.1]; omega)]; exact h18
    · intro pc2 i2 len2 x2 y2 nx2 st2 H2 locs2 mls2 ad2 al2 a1 a2 a3 a4 a5
      exact hRet pc2 i2 len2 x2 y2 nx2 st2 H2 locs2 mls2 ad2 al2 a1 a2 a3 a4 (hax.trans a5 k4.1)
  · obtain ⟨ka, kt⟩ := StC_ok h1 hk
    obtain ⟨r1, σ1, hX1, o1, g1, v1, hM⟩ := hS x as σ _ hX (StC_x (i := 0) hi h1) ok ka
    obtain ⟨r, σ2, hQ, o2, g2, v2, hW⟩ := hX1 o1 (okL_le g1.1 hl) (by
      intro v hv
      rcases List.mem_append.mp hv with hv | hv
      · cases r1 with
        | none => cases hv
        | some w => rw [List.mem_singleton.mp hv]; exact v1 w rfl
      · exact okV_le g1.1 (kt v hv)) hlen
    refine ⟨r, σ2, hQ, o2, g1.tr g2, v2, ?_⟩
    intro p l e R s m args below meth c Qs D ty B sa sv b n0 s0 ad al H locs mls hc hR hVS hLR h18 hn0 hs0 hcr hsr hfr hlo hRet
    have hb1 := g1.2.1
    have hb2 := g1.2.2
    have hb3 := g2.2.1
    have hb4 := g2.2.2
    refine sp_call (d := d) hc hi h1 hk hR hVS hLR.1 h18 hfr hlo (by omega) (by omega) (hM l D ty B sa sv b ad al) ?_
    intro ad' al' H1 locs1 hR1 hax hS1
    have k2 := hW p l e R s m args below meth c Qs D ty B sa sv b n0 s0 ad' al' H1 locs1 mls hc hR1 hS1 (hLR.ext hl hax) (by rw [hax 18 0 (by rw [ok.2.2.2.2.2.2.1]; omega)]; exact h18) (by omega) (by omega) hcr hsr hfr hlo (by
      intro pc2 i2 len2 x2 y2 nx2 st2 H2 locs2 mls2 ad2 al2 a1 a2 a3 a4 a5
      exact hRet pc2 i2 len2 x2 y2 nx2 st2 H2 locs2 mls2 ad2 al2 a1 a2 a3 a4 (hax.trans a5 g1.1))
    rw [show nC σ - n0 + (nC σ1 - nC σ) = nC σ1 - n0 by omega, show nS σ - s0 + (nS σ1 - nS σ) = nS σ1 - s0 by omega]
    rw [List.map_append, okK_map kt hax] at k2
    cases r1 with
    | none => exact k2
    | some w => exact k2
  · refine ⟨r, σ, hQ, ok, Grow.rf σ, StR_ok h1 hk, ?_⟩
    intro p l e R s m args below meth c Qs D ty B sa sv b n0 s0 ad al H locs mls hc hR hVS hLR h18 hn0 hs0 hcr hsr hfr hlo hRet
    exact hRet pc i len x y nx st H locs mls ad al hi h1 hR hVS (adX_refl σ ad)
theorem XS_of {d mm : Nat} {Q : AQ} (hS : Sound L xs d) {pc : Nat} {ls : List (Option AV)} {st : List AV} {σ : AS} (h : Ex (wp d) mm Q pc ls st σ) : XS L xs d mm Q pc ls st σ := h _ (fun _ _ _ _ h2 => XS_step hS h2)
theorem lv_args_mem (w : Nat → Nat) : ∀ (vs : List Value) (i k : Nat) (v : Value), (∀ u ∈ vs, u.category = 1) → vs[k]? = some v → (i + k, v) ∈ lv_args i vs
  | [], _, _, _, _, h => by cases h
  | u :: vs, i, 0, v, hc, h => by
    cases h
    exact List.mem_cons_self
  | u :: vs, i, k + 1, v, hc, h => by
    have h1 : u.category = 1 := hc u List.mem_cons_self
    refine List.mem_cons_of_mem _ ?_
    rw [if_neg (by omega)]
    have := lv_args_mem w vs (i + 1) k v (fun z hz => hc z (List.mem_cons_of_mem _ hz)) h
    rw [show i + (k + 1) = i + 1 + k by omega]
    exact this
theorem lg_len (ad : Nat → Nat → Nat) (sa : Nat → Nat) (as : List AV) : (lg_sl (as.map (vV ad sa))).length = as.length := by
  induction as with
  | nil => rfl
  | cons v as ih =>
    simp only [lg_sl, List.map_cons, List.flatMap_cons, List.length_append, List.length_cons] at ih ⊢
    rw [ih, if_neg (by rw [vV_cat]; omega)]
    simp; omega
theorem LR_entry (ad : Nat → Nat → Nat) (sa : Nat → Nat) (as : List AV) {n : Nat} (h : as.length ≤ n) : LR ad sa ((lg_sl (as.map (vV ad sa)) ++ List.replicate (n - (lg_sl (as.map (vV ad sa))).length) Slot.unset).toArray) n (as.map some ++ List.replicate (n - as.length) none) := by
  have hz := lv_entry (as.map (vV ad sa)) (n := n) (by rw [lg_len]; exact h)
  refine ⟨hz.1, by simp; omega, hz.2.1, fun k v hk => ?_⟩
  have hk2 : as[k]? = some v := by
    by_cases hlt : k < as.length
    · rw [List.getElem?_append_left (by rw [List.length_map]; exact hlt), List.getElem?_map] at hk
      cases ha : as[k]? with
      | none => rw [ha] at hk; cases hk
      | some w => rw [ha] at hk; cases hk; rfl
    · rw [List.getElem?_append_right (by rw [List.length_map]; omega)] at hk
      have := List.mem_of_getElem? hk
      rw [List.mem_replicate] at this
      cases this.2
  have hm : (as.map (vV ad sa))[k]? = some (vV ad sa v) := by rw [List.getElem?_map, hk2]; rfl
  have := lv_args_mem (fun k => k) (as.map (vV ad sa)) 0 k _ (fun u hu => by obtain ⟨z, -, rfl⟩ := List.mem_map.mp hu; exact vV_cat ad sa z) hm
  rw [Nat.zero_add] at this
  exact hz.2.2 (k, vV ad sa v) this
theorem mR_of : ∀ m, m < 176 → (mK m = 0 → mR m = none) ∧ (mK m = 1 → mR m = some .int) ∧ (mK m = 2 → mR m = some .boolean) ∧ (3 ≤ mK m → ∃ t : FieldType, mR m = some t ∧ ((∃ n, t = .object n) ∨ ∃ u, t = .array u)) := by
  have h : ∀ m, m < 176 → (mK m = 0 → mR m = none) ∧ (mK m = 1 → mR m = some .int) ∧ (mK m = 2 → mR m = some .boolean) ∧ (3 ≤ mK m → (mR m).any (fun t => t.isReference) = true) := by decide +kernel
  intro m hm
  obtain ⟨h1, h2, h3, h4⟩ := h m hm
  refine ⟨h1, h2, h3, fun h5 => ?_⟩
  have h6 := h4 h5
  cases hr : mR m with
  | none => rw [hr] at h6; cases h6
  | some t =>
    rw [hr] at h6
    refine ⟨t, rfl, ?_⟩
    cases t <;> first | exact Or.inl ⟨_, rfl⟩ | exact Or.inr ⟨_, rfl⟩ | cases h6
set_option maxHeartbeats 4000000 in
theorem Sound_succ {d : Nat} (hS : Sound L xs d) : Sound L xs (d + 1) := by
  intro mm as σ Q hw hmm ok hk
  obtain ⟨hlen, hex⟩ := hw
  have hX := XS_of hS hex
  have hl0 : okL σ (as.map some ++ List.replicate (mL mm - as.length) none) := by
    intro k v hkv
    have := List.mem_of_getElem? hkv
    rcases List.mem_append.mp this with h | h
    · obtain ⟨w, hw, e⟩ := List.mem_map.mp h
      cases e
      exact hk _ hw
    · rw [List.mem_replicate] at h
      cases h.2
  obtain ⟨r, σ1, hQ, o1, g1, v1, hW⟩ := hX ok hl0 okK_nil (by simp; omega)
  refine ⟨r, σ1, hQ, o1, g1, v1, ?_⟩
  intro l D ty B sa sv b ad al
  obtain ⟨y1, -, -, -, y5, y6, -⟩ := (ck_y mm (by omega)) (by omega)
  refine Met.ofW (cc := mB mm) (maxL := mL mm) (ret := mR mm) y6 rfl ?_
  intro p e s m args below meth c s₁ Bd hml hv
  obtain ⟨rfl, hR, hE, hB, h18⟩ := hv
  have hlocks := Bd.notSynchronized
  have hx := Bd.exec
  have hb := Bd.bytes
  have hr := Bd.returns
  have hc : Ctx mm p s m (as.map (vV ad sa)).toArray meth c D ty B sa sv b L xs := by
    refine ⟨hx, hb, hml, ?_, fun w hw => atoms_spec (ws := WS mm) Bd.pre w (List.mem_cons_of_mem _ hw), hE, hB, fun hi => ?_⟩
    · rw [← y1]; exact findClass_of_methodNamed Bd.named
    · rw [(name_of_methodNamed Bd.named Bd.method).1]; exact (y5 hi).1
  rw [lg_entry_eq]
  have k2 := hW p l e (headSpec (WS mm) (RM (d + 1) (nC σ1 - nC σ) (nS σ1 - nS σ))).room s m _ below meth c (MQ below (QcM D ty B sa σ ad σ1 r) (as.map (vV ad sa)).toArray s (nC σ1 - nC σ) (nS σ1 - nS σ) (fun q => B ≤ q)) D ty B sa sv b (nC σ) (nS σ) ad al s.heap [] _ hc hR va_S.rf (LR_entry ad sa as hlen) h18 (Nat.le_refl _) (Nat.le_refl _) (Nat.le_refl _) (Nat.le_refl _) (Nat.le_refl _) (Nat.le_refl _) ?_
  · rw [Nat.sub_self, Nat.sub_self] at k2
    exact k2
  · intro pc i len x y nx st H locs mls ad' al' hi hst hR1 hS1 hax
    obtain ⟨hm2, hdec, -, hck⟩ := ck_all hi
    obtain ⟨r0, r1, r2, r3⟩ := mR_of mm hm2
    cases i with
    | ireturn =>
      obtain rfl : len = 1 := by simpa [ckI] using hck
      obtain ⟨v, rfl, hk12, rfl⟩ := hst
      rcases hk12 with h | ⟨h, hv01⟩
      · exact W.iret hx hb (by rw [hr]; exact r1 h) (fun t ht hWt => ⟨ad', al', rfl, by rw [ht]; exact hR1, hax, hS1.F ht⟩) hS1.2.2 hdec
      · exact W.zret hx hb (by rw [hr]; exact r2 h) (by rcases hv01 with rfl | rfl; exact (by decide : narrow .boolean (.int (Int32.ofInt 0)) = .int (Int32.ofInt 0)); exact (by decide : narrow .boolean (.int (Int32.ofInt 1)) = .int (Int32.ofInt 1))) (fun t ht hWt => ⟨ad', al', rfl, by rw [ht]; exact hR1, hax, hS1.F ht⟩) hS1.2.2 hdec
    | areturn =>
      obtain rfl : len = 1 := by simpa [ckI] using hck
      obtain ⟨c9, q, rfl, h3, hq, rfl⟩ := hst
      obtain ⟨t9, e9, ht9⟩ := r3 h3
      have hval : vV ad' sa (vo c9 q) = vV ad' sa (vo (mK mm - 3) q) := by
        rcases hq with rfl | hq
        · rfl
        · rw [show mK mm - 3 = c9 by omega]
      show W p l e _ s m _ below meth c H locs _ _ _ (F0 m pc mls [vV ad' sa (vo c9 q)])
      rw [hval]
      refine W.aret hx hb (by rw [hr]; exact e9) ht9 ?_ (fun t ht hWt => ⟨ad', al', rfl, by rw [ht]; exact hR1, hax, hS1.F ht⟩) hS1.2.2 hdec
      cases q with
      | none => exact Or.inl rfl
      | some a => exact Or.inr ⟨_, rfl⟩
    | return_ =>
      obtain rfl : len = 1 := by simpa [ckI] using hck
      obtain ⟨rfl, h0, rfl⟩ := hst
      exact W.vret hx hb (by rw [hr]; exact r0 h0) (fun t ht hWt => ⟨ad', al', rfl, by rw [ht]; exact hR1, hax, hS1.F ht⟩) hS1.2.2 hdec
    | _ => exact hst.elim
theorem Sound_all : ∀ d, Sound L xs d
  | 0 => fun _ _ _ _ h => h.elim
  | d + 1 => Sound_succ (Sound_all d)
end

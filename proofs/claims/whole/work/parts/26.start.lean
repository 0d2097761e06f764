set_option maxHeartbeats 4000000 in
/-- the law from its entry, out of a run of the abstract machine -/
theorem law_start {p : Program} {e : Env} {s : State} {m : MethodId} {below : List Frame} {meth : Method} {c : Code} (l : Launch) {b L : Nat} {xs : Nat → Int32} (hL : L ≤ 2560) (hlaw : Ex (wp 2042) m_L_law lawQ 0 [some (vr 18 0), none, none, none] [] (lawS L xs)) (C0 : lw_At p s m meth c b L xs) : W p l e room_1 s m #[Value.ref b] below meth c s.heap [] 0 0 (lw_Z below #[Value.ref b] s) (entryFrame m ([Value.ref b] : List Value).toArray 4) := by
  obtain ⟨hx, hb, hr, hml, hown, hts, hX, hbl, hlocks, hgv⟩ := C0
  have hfl : ∀ w ∈ nFl, w.before #[Value.ref b] s = true := flat_of_before _ hgv
  have hA : ∀ a : Nat, a < s.heap.size → ¬ s.heap.size ≤ a := fun a h => by omega
  obtain ⟨sa, sv, hVS, htm⟩ := vk_Sof (N := 10) (tm := sTm) (len := sLen) (byt := sByt) (A := fun q => s.heap.size ≤ q) (fun i hi => by rw [(sLen_ok i hi).1]; have := (sLen_ok i hi).2.2; omega) (fun i hi => hfl _ (n_ex i hi)) (fun i hi => hfl _ (n_co i hi)) (fun i hi => hfl _ (n_ar i hi)) (fun i hi => hfl _ (n_le i hi)) (fun i hi j hj => hfl _ (n_el i hi j hj)) (fun i j hi hj hne => (n_ne i hi j hj hne).imp (fun h => hfl _ h) (fun h => hfl _ h)) hA
  have hWW : ∀ w ∈ WW, w.before #[Value.ref b] s = true := fun w hw => hts w (List.mem_filter.mp hw).1
  have hkn : ∀ k : Nat, ∃ q : ClassId × (Nat → Nat), k < 12 → u_Kn s (cN k) (cT k) (cF k) q.1 q.2 := by
    intro k
    by_cases hk : k < 12
    · obtain ⟨cC, iS, h⟩ := u_known hWW (lay_in k hk) (hWW _ (WW_in (ck_mk k hk) rfl))
      exact ⟨(cC, iS), fun _ => h⟩
    · exact ⟨(0, fun _ => 0), fun h => absurd h hk⟩
  obtain ⟨kn, hkn⟩ := Classical.axiomOfChoice hkn
  obtain ⟨z1, z2, z3, z4, z5, z6, z7⟩ := n_lays
  obtain ⟨cI, kI, cmI, i1, i2, i3⟩ := Cond.arrayClass_spec (hts _ z6)
  obtain ⟨cZ, kZ, cmZ, b1, b2, b3⟩ := Cond.arrayClass_spec (hts _ z7)
  obtain ⟨cmA, cA, kA, a1, a2, a3, a4, a5⟩ := Cond.arrayOver_spec (hts _ z4)
  obtain ⟨cmS, cS, kS, s1, s2, s3, s4, s5⟩ := Cond.arrayOver_spec (hts _ z3)
  obtain ⟨cR, kR, cmR, r2, r3, r4⟩ : ∃ (cR : ClassId) (kR : Class) (cmR : ClassId), s.vm.classes[cR]? = some kR ∧ kR.kind = .array cmR (.array .int) ∧ s.vm.findClass ("[" ++ (FieldType.array .int).toString) = some cR := by
    have h := hts _ z5
    simp only [Cond.before, Cond.holds, Cond.value, beq_iff_eq] at h
    cases hc : s.vm.findClass (FieldType.array .int).toString with
    | none => rw [hc] at h; simp at h
    | some comp =>
      rw [hc] at h
      simp only [Option.bind_some] at h
      cases hf : (s.vm.classes.findIdx? fun (x : Class) => match x.kind with | .array component _ => component == comp | _ => false) with
      | none => erw [hf] at h; simp at h
      | some cx =>
        erw [hf] at h
        simp only [Option.bind_some] at h
        cases hk : s.vm.classes[cx]? with
        | none => rw [hk] at h; simp at h
        | some k =>
          rw [hk] at h
          simp only [Option.map_some] at h
          split at h
          · rename_i comp2 ty2 hk2
            simp at h
            exact ⟨cx, k, comp2, hk, by rw [hk2, h.1], h.2⟩
          · simp at h
  let ty : Nat → ClassId := fun k => if k = 13 then cI else if k = 14 then cZ else if k = 15 then cA else if k = 16 then cS else cR
  have hK : va_K (fun k => (kn k).1, fun k => (kn k).2) vwCl (tysL ty) s := by
    refine ⟨fun k q hq => ?_, fun k q hq => ?_⟩
    · have hk : k < 12 := (List.getElem?_eq_some_iff.mp hq).1
      rw [ck_cl k hk] at hq
      cases hq
      exact hkn k hk
    · have hk : k < 5 := (List.getElem?_eq_some_iff.mp hq).1
      rcases (by omega : k = 0 ∨ k = 1 ∨ k = 2 ∨ k = 3 ∨ k = 4) with rfl | rfl | rfl | rfl | rfl
      · cases hq; exact ⟨fun n z => ⟨(fun k h => by cases h), kI, i2, cmI, i3⟩, i1⟩
      · cases hq; exact ⟨fun n z => ⟨(fun k h => by cases h), kZ, b2, cmZ, b3⟩, b1⟩
      · cases hq; exact ⟨fun n z => ⟨(fun k h => by cases h), kA, a3, cmA, a4⟩, kA, cmA, a3, a4, a1, a5⟩
      · cases hq; exact ⟨fun n z => ⟨(fun k h => by cases h), kS, s3, cmS, s4⟩, kS, cmS, s3, s4, s1, s5⟩
      · cases hq; exact ⟨fun n z => ⟨(fun k h => by cases h), kR, r2, cmR, r3⟩, r4⟩
  have hE : EnvS (fun k => (kn k).1, fun k => (kn k).2) ty s.heap.size sa sv b L xs s s.heap := by
    refine ⟨hK, hVS, fun k hk => vk_R.of (hts _ (n_str k hk)) (htm k hk), fun q hq hn => ?_, fun q hq hn => ?_, va_AO.of (hts _ z3), va_AO.of (hts _ z4), ⟨hts _ z5, va_Zof (hts _ z1) (hWW _ jn_0) (va_eqi (hfl _ n_st.1)) hA, va_Zqof (hts _ z2) (hWW _ jn_3) (hfl _ n_st.2) hA⟩, hX, hbl⟩
    · obtain ⟨-, -, -, f4, -⟩ := fF_all q hq
      rw [hn, if_pos rfl] at f4
      exact va_Nw.of rfl (hts _ (List.mem_of_getElem? f4))
    · obtain ⟨-, -, -, f4⟩ := fM_all q hq
      rw [hn, if_pos rfl] at f4
      exact va_Nw.of rfl (hts _ (List.mem_of_getElem? f4))
  have hc : Ctx 175 p s m #[Value.ref b] meth c (fun k => (kn k).1, fun k => (kn k).2) ty s.heap.size sa sv b L xs := ⟨hx, hb, hml, hown, hWW, hE, Nat.le_refl _, fun h => by cases h⟩
  obtain ⟨r, σ1, ⟨hq1, hq2, hq3⟩, o1, g1, v1, hW⟩ := XS_of (Sound_all 2042) hlaw (lawS_ok hL) (by
    intro k v hk
    have := List.mem_of_getElem? hk
    simp at this
    subst this
    intro a ha
    cases ha
    show 0 < (if (18 : Nat) = 18 then 1 else 0)
    decide) okK_nil rfl
  subst hq1
  have hR : Rep (fun k => (kn k).1, fun k => (kn k).2) ty s.heap.size (lawS L xs) (fun _ _ => b) [] s.heap := by
    refine ⟨fun k q h => by simp [wsO] at h, ⟨fun i j p q h => by simp [wsO] at h, fun k q h => by simp [wsO] at h⟩, fun c i => ?_⟩
    constructor
    · intro h; cases h
    · rintro ⟨h1, h2⟩
      have h2 : i < (if c = 18 then 1 else 0) := h2
      rw [if_neg h1] at h2
      omega
  rw [lg_entry_eq]
  have k2 := hW p l e room_1 s m #[Value.ref b] below meth c (lw_Z below #[Value.ref b] s) (fun k => (kn k).1, fun k => (kn k).2) ty s.heap.size sa sv b 0 0 (fun _ _ => b) [] s.heap [] _ hc hR va_S.rf (LR_entry (fun _ _ => b) sa [vr 18 0] (by decide : 1 ≤ 4)) rfl (Nat.le_refl _) (Nat.le_refl _) (by show _ ≤ 600000; omega) (by show _ ≤ 7302249; omega) (by show 2048 ≤ 2048; exact Nat.le_refl _) (by show 40 * 2048 ≤ 84000; exact Nat.le_of_ble_eq_true rfl) ?_
  · exact k2
  · intro pc i len x y nx st H locs mls ad' al' hi hst hR1 hS1 hax
    obtain ⟨hm2, hdec, -, hck⟩ := ck_all hi
    cases i with
    | ireturn =>
      obtain rfl : len = 1 := by simpa [ckI] using hck
      obtain ⟨v, rfl, -, hv⟩ := hst
      cases hv
      refine va_forget (fun q hq => hS1.2.2 q hq) ?_
      refine W.widen (k := 600000) (n := 7302249) (by omega) (by omega) ?_
      exact lw_ret hx hb hr hlocks hdec
    | areturn => obtain ⟨c9, q, rfl, h3, hq, hv⟩ := hst; cases hv
    | return_ => obtain ⟨-, h0, hv⟩ := hst; cases hv
    | _ => exact hst.elim

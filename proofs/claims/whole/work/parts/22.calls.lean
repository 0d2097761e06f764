def RM (d mc ms : Nat) : Room := { frames := d + 5, cells := mc, slots := ms, locals := 40 * (d + 5) }
def WS (m : Nat) : List Cond := Cond.code (mY m) (mB m) (mL m) (mR m) :: WW
def PcM (D : va_G) (ty : Nat → ClassId) (B : Nat) (sa sv : Nat → Nat) (b L : Nat) (xs : Nat → Int32) (σ : AS) (ad : Nat → Nat → Nat) (al : List (Nat × Nat)) (as : List AV) : Array Value → State → Prop := fun a U =>
  a = (as.map (vV ad sa)).toArray ∧ Rep D ty B σ ad al U.heap ∧ EnvS D ty B sa sv b L xs U U.heap ∧ B ≤ U.heap.size ∧ ad 18 0 = b
def QcM (D : va_G) (ty : Nat → ClassId) (B : Nat) (sa : Nat → Nat) (σ : AS) (ad : Nat → Nat → Nat) (σ1 : AS) (r : Option AV) : Array Value → State → Outcome → State → Prop := fun _ st o t =>
  ∃ ad' al', o = .returned (r.map (vV ad' sa)) ∧ Rep D ty B σ1 ad' al' t.heap ∧ adX σ ad ad' ∧ va_F (fun q => B ≤ q) st t
theorem PcM.blind {D : va_G} {ty : Nat → ClassId} {B : Nat} {sa sv : Nat → Nat} {b L : Nat} {xs : Nat → Int32} {σ : AS} {ad : Nat → Nat → Nat} {al : List (Nat × Nat)} {as : List AV} : FrameBlind (PcM D ty B sa sv b L xs σ ad al as) :=
  fun _ _ g mk h => ⟨h.1, h.2.1, h.2.2.1.call g mk _, h.2.2.2.1, h.2.2.2.2⟩
theorem WS_code {m : Nat} (h : m < 175) : Cond.code (mY m) (mB m) (mL m) (mR m) ∈ WW := WW_in (ck_code m (by omega) (by omega)) rfl
theorem WS_good {m : Nat} (h : m < 175) : GoodIn WW (WS m) := by
  intro w hw
  rcases List.mem_cons.mp hw with rfl | hw
  · exact ⟨WS_code h, WW_good (WS_code h)⟩
  · exact ⟨hw, WW_good hw⟩
theorem fM_all : ∀ e ∈ mLk, e.1 < 14 ∧ e.2.2.1 < 176 ∧ e.2.2.1 ≠ 175 ∧ lw_tbl[e.2.2.2.1]? = some (if e.2.2.2.2 = true then Cond.methodLinkNest (cN e.1) e.2.1 (mY e.2.2.1) "CommittedParsers" else Cond.methodLink (cN e.1) e.2.1 (mY e.2.2.1)) := by
  intro e he
  unfold mLk at he
  simp only [List.mem_append] at he
  rcases he with ((he | he) | he) | he
  · exact ck_m0 e he
  · exact ck_m1 e he
  · exact ck_m2 e he
  · exact ck_m3 e he
theorem fM_nest : ∀ e ∈ mLk, e.2.2.2.2 = true → mI e.2.2.1 = true := by decide +kernel
section
variable {p : Program} {l : Launch} {e : Env} {R : Room} {s : State} {m : MethodId} {args : Array Value} {below : List Frame} {meth : Method} {c : Code} {H : Heap} {locs : List Loc} {Q : State → Prop}
variable {D : va_G} {ty : Nat → ClassId} {B : Nat} {sa sv : Nat → Nat} {b L : Nat} {xs : Nat → Int32} {σ σ1 : AS} {ad : Nat → Nat → Nat} {al : List (Nat × Nat)} {mls : Array Slot} {mm n0 s0 : Nat} {cells slots : Nat}
theorem call_go {pc mc ms : Nat} {st0 rest : List Value} {r1 : Option AV} {a : Array Value} (hr : va_Run p l e R s m args below meth c H locs cells slots mc ms (F0 m pc mls st0) rest (QcM D ty B sa σ ad σ1 r1 a) (fun q => B ≤ q)) (hS : va_S (fun q => B ≤ q) s.heap H locs)
    (kk : ∀ ad' al' H1 locs1, Rep D ty B σ1 ad' al' H1 → adX σ ad ad' → va_S (fun q => B ≤ q) s.heap H1 locs1 → W p l e R s m args below meth c H1 locs1 (cells + mc) (slots + ms) Q (F0 m (pc + 3) mls ((r1.map (vV ad' sa)).toList ++ rest))) : W p l e R s m args below meth c H locs cells slots Q (F0 m pc mls st0) := by
  intro T hT X
  obtain ⟨v, st₀, t, T', L, h0, X', hL, e1, e2, ⟨ad', al', hv, hRep, hax, hz, hk⟩, st⟩ := hr T hT X
  cases hv
  rw [h0] at hz hk
  have hS1 : va_S (fun q => B ≤ q) s.heap T'.heap (locs ++ L) := ⟨Nat.le_trans hS.1 (by rw [e1]; exact hz), fun q h1 h2 => by rw [e1, hk q (Nat.lt_of_lt_of_le h1 hS.1) h2]; exact hS.2.1 q h1 h2, fun q hq => by
      rcases List.mem_append.mp hq with h | h
      · exact hS.2.2 q h
      · exact hL q h⟩
  obtain ⟨t2, a1, b1⟩ := kk ad' al' T'.heap (locs ++ L) (by rw [e1]; exact hRep) hax hS1 T' rfl X'
  exact ⟨t2, st t2 a1, b1⟩
/-- what stands before a call -/
theorem pre_call (hc : Ctx mm p s m args meth c D ty B sa sv b L xs) (hR : Rep D ty B σ ad al H) (hS : va_S (fun q => B ≤ q) s.heap H locs) (h18 : ad 18 0 = b) (as : List AV) : ∀ U : State, U.heap = H → s.WarmedH U.vm → PcM D ty B sa sv b L xs σ ad al as (as.map (vV ad sa)).toArray U := by
  obtain ⟨hx, hb, hml, hown, hts, hE, hB, hin⟩ := hc
  intro U hU hW
  rw [PcM, hU]
  exact ⟨rfl, hR, (hE.kept (H1 := H) hB hS.2.1).warm hW, Nat.le_trans hB hS.1, h18⟩
theorem st_words (n : Nat) (t : List AV) (h : t.length ≤ 8) (g : JFrame) (hg : g.monitorRoom = 0) : 2 * g.monitorRoom + ((t.map (vV ad sa)).map fun v => v.category).sum ≤ 8 := by rw [cats, hg]; omega
set_option maxHeartbeats 4000000 in
theorem sp_call {d pc len x y nx : Nat} {i : Jvm.ClassFile.Instr} {st as t : List AV} {r1 : Option AV} (hc : Ctx mm p s m args meth c D ty B sa sv b L xs) (hi : ins mm pc = some (i, len, x, y, nx)) (h : StC i x y st as t) (hk0 : okK σ st) (hR : Rep D ty B σ ad al H) (hS : va_S (fun q => B ≤ q) s.heap H locs) (hsz : mls.size = mL mm) (h18 : ad 18 0 = b) (hfr : d + 6 ≤ R.frames) (hlo : 40 * (d + 6) ≤ R.locals) {mc ms : Nat} (hcr : cells + mc ≤ R.cells) (hsr : slots + ms ≤ R.slots)
    (hM : Met l (mY x) (WS x) (RM d mc ms) (PcM D ty B sa sv b L xs σ ad al as) (QcM D ty B sa σ ad σ1 r1) mc ms (fun q => B ≤ q))
    (kk : ∀ ad' al' H1 locs1, Rep D ty B σ1 ad' al' H1 → adX σ ad ad' → va_S (fun q => B ≤ q) s.heap H1 locs1 → W p l e R s m args below meth c H1 locs1 (cells + mc) (slots + ms) Q (F0 m nx mls ((r1.map (vV ad' sa)).toList ++ t.map (vV ad sa)))) :
    W p l e R s m args below meth c H locs cells slots Q (F0 m pc mls (st.map (vV ad sa))) := by
  obtain ⟨hmm, hdec, rfl, hck⟩ := ck_all hi
  have hpre := pre_call hc hR hS h18 as
  obtain ⟨hx, hb, hml, hown, hts, hE, hB, hin⟩ := hc
  have hfix : CallFix p m c (mB mm) (mL mm) s args WW (cN (mC mm)) := ⟨hx, hb, hml, hown, hts⟩
  cases i with
  | invokevirtual j =>
    have hz := hck
    obtain rfl : len = 3 := by simp only [ckI, Bool.and_eq_true, Nat.beq_eq] at hck; exact hck.1
    obtain ⟨hx9, ht, a, bs, rfl, hy, rfl⟩ := h
    simp only [ckI, Bool.and_eq_true, if_pos hx9, Nat.beq_eq, Bool.not_eq_true'] at hz
    obtain ⟨-, ⟨⟨⟨hlk, hy2⟩, hst⟩, hini⟩, hlt⟩ := hz
    have hlt := Nat.le_of_ble_eq_true hlt
    obtain ⟨q, hq, e1, e2, e3⟩ := lk3_mem hlk
    obtain ⟨-, -, -, f4⟩ := fM_all q hq
    have hnn : q.2.2.2.2 = false := by
      cases hnn : q.2.2.2.2 with
      | false => rfl
      | true => have := fM_nest q hq hnn; rw [e3, hini] at this; cases this
    rw [hnn, if_neg (by decide), e1, e2, e3] at f4
    obtain ⟨y1, y2, -, y4, -, -, y7, y8, y9, -⟩ := (ck_y x (by omega)) (by omega)
    have hsel := ((ck_sel x (by omega)) (by omega)).resolve_left (by rw [hst]; decide) |>.resolve_left (by rw [hini]; decide)
    have hinst := (ck_inst x (by omega)) (by omega)
    rw [hst, if_neg (by decide)] at hinst
    have hcell := hR.get (c := mC x) (i := a) (by
      intro h; have : ∀ x, x < 175 → mC x ≠ 18 := by decide +kernel
      exact this x (by omega) h) (by
      have : okV σ (vr (mC x) a) := hk0 _ (by simp)
      exact this a rfl)
    obtain ⟨q0, hq0⟩ := hcell
    have hc12 : mC x < 12 := by
      have : ∀ x, x < 175 → mS x = false → mC x < 12 := by decide +kernel
      exact this x (by omega) hst
    rw [cE_obj hc12] at hq0
    have hrecv := va_recv hE.1 hR.1 (ck_cl _ hc12) hq0
    rw [← y1] at hrecv
    have cw : CallW R s args (cN (mC mm)) (mY x).cls j (mY x) (mB x) (mL x) (mR x) (WS x) (RM d mc ms) mc ms (mA x) :=
      ⟨callB_of (mA x) hts (WS_good (by omega)) rfl rfl rfl (hts _ (by rw [y1]; exact WW_in (ck_ini _ y9) rfl)) (hts _ (WW_in f4 rfl)) ⟨y7, y8, y2⟩ ⟨by show d + 5 + 1 ≤ _; omega, by show 8 + (mL x + 11) + 40 * (d + 5) ≤ _; omega⟩, hts _ (WW_in hinst rfl), hts _ (WW_in hsel rfl)⟩
    have hrun := va_runV (C := (mY x).cls) (b := ad (mC x) a) (As := bs.map (vV ad sa)) (rest := t.map (vV ad sa)) (g := F0 m pc mls ((bs.reverse ++ vr (mC x) a :: t).map (vV ad sa))) (H := H) (locs := locs) (cells := cells) (slots := slots) (below := below) (e := e) (meth := meth) hfix hM cw ⟨PcM.blind, hrecv, fun U hU hW => hpre U hU hW⟩ rfl (by rw [List.length_map]; omega) hsz (by simp [vV, va_rf]) (st_words x t ht _ rfl) hdec ⟨hcr, hsr⟩
    exact call_go hrun hS (fun ad' al' H1 locs1 g1 g2 g3 => kk ad' al' H1 locs1 g1 g2 g3)
  | invokespecial j =>
    have hz := hck
    obtain rfl : len = 3 := by simp only [ckI, Bool.and_eq_true, Nat.beq_eq] at hck; exact hck.1
    obtain ⟨hx9, ht, a, bs, rfl, hy, rfl⟩ := h
    simp only [ckI, Bool.and_eq_true, if_pos hx9, Nat.beq_eq] at hz
    obtain ⟨-, ⟨⟨hlk, hy2⟩, hini⟩, hlt⟩ := hz
    have hlt := Nat.le_of_ble_eq_true hlt
    obtain ⟨q, hq, e1, e2, e3⟩ := lk3_mem hlk
    obtain ⟨-, -, -, f4⟩ := fM_all q hq
    obtain ⟨y1, y2, -, y4, y5, -, y7, y8, y9, -⟩ := (ck_y x (by omega)) (by omega)
    obtain ⟨y51, y52, y53⟩ := y5 hini
    have hinst := (ck_inst x (by omega)) (by omega)
    rw [y53, if_neg (by decide)] at hinst
    have hws : WS x = Cond.code (mY x) (mB x) (mL x) none :: WW := by rw [WS, y52]
    have hI := hts _ (show Cond.initialized (mY x).cls ∈ WW by rw [y1]; exact WW_in (ck_ini _ y9) rfl)
    by_cases hn : q.2.2.2.2 = true
    · have hnw := hE.2.2.2.2.1 q hq hn
      rw [e1, e2, e3] at hnw
      have cw : va_CN R s args (cN (mC mm)) j (mY x) "CommittedParsers" (mB x) (mL x) none (WS x) (RM d mc ms) mc ms (mA x) := va_cnB (mA x) hts (WS_good (by omega)) hws rfl rfl hnw hI ⟨y7, y8, y2⟩ ⟨by show d + 5 + 1 ≤ _; omega, by show 8 + (mL x + 11) + 40 * (d + 5) ≤ _; omega⟩
      have hrun := va_runIN (b := ad (mC x) a) (As := bs.map (vV ad sa)) (rest := t.map (vV ad sa)) (g := F0 m pc mls ((bs.reverse ++ vr (mC x) a :: t).map (vV ad sa))) (H := H) (locs := locs) (cells := cells) (slots := slots) (below := below) (e := e) (meth := meth) hfix hM ⟨cw, y51, hts _ (WW_in hinst rfl)⟩ ⟨PcM.blind, fun U hU hW => hpre U hU hW⟩ rfl (by rw [List.length_map]; omega) hsz (by simp [vV, va_rf]) (st_words x t ht _ rfl) hdec ⟨hcr, hsr⟩
      exact call_go hrun hS (fun ad' al' H1 locs1 g1 g2 g3 => kk ad' al' H1 locs1 g1 g2 g3)
    · rw [if_neg hn, e1, e2, e3] at f4
      have cw : CallB R s args (cN (mC mm)) j (mY x) (mB x) (mL x) none (WS x) (RM d mc ms) mc ms (mA x) := callB_of (mA x) hts (WS_good (by omega)) hws rfl rfl hI (hts _ (WW_in f4 rfl)) ⟨y7, y8, y2⟩ ⟨by show d + 5 + 1 ≤ _; omega, by show 8 + (mL x + 11) + 40 * (d + 5) ≤ _; omega⟩
      have hrun := va_runI (b := ad (mC x) a) (As := bs.map (vV ad sa)) (rest := t.map (vV ad sa)) (g := F0 m pc mls ((bs.reverse ++ vr (mC x) a :: t).map (vV ad sa))) (H := H) (locs := locs) (cells := cells) (slots := slots) (below := below) (e := e) (meth := meth) hfix hM ⟨cw, y51, hts _ (WW_in hinst rfl)⟩ ⟨PcM.blind, fun U hU hW => hpre U hU hW⟩ rfl (by rw [List.length_map]; omega) hsz (by simp [vV, va_rf]) (st_words x t ht _ rfl) hdec ⟨hcr, hsr⟩
      exact call_go hrun hS (fun ad' al' H1 locs1 g1 g2 g3 => kk ad' al' H1 locs1 g1 g2 g3)
  | invokestatic j =>
    have hz := hck
    obtain rfl : len = 3 := by simp only [ckI, Bool.and_eq_true, Nat.beq_eq] at hck; exact hck.1.1.1.1
    obtain ⟨hx9, ht, hy, rfl⟩ := h
    simp only [ckI, Bool.and_eq_true, Nat.beq_eq] at hz
    obtain ⟨⟨⟨⟨-, hlk⟩, hy2⟩, hst⟩, hlt⟩ := hz
    have hlt := Nat.le_of_ble_eq_true hlt
    obtain ⟨q, hq, e1, e2, e3⟩ := lk3_mem hlk
    obtain ⟨-, -, -, f4⟩ := fM_all q hq
    obtain ⟨y1, y2, -, y4, y5, -, y7, y8, y9, -⟩ := (ck_y x (by omega)) (by omega)
    have hnn : q.2.2.2.2 = false := by
      cases hnn : q.2.2.2.2 with
      | false => rfl
      | true =>
        have := fM_nest q hq hnn
        rw [e3] at this
        have := (y5 this).2.2
        rw [hst] at this; cases this
    rw [hnn, if_neg (by decide), e1, e2, e3] at f4
    have hinst := (ck_inst x (by omega)) (by omega)
    rw [hst, if_pos rfl] at hinst
    have cw : CallB R s args (cN (mC mm)) j (mY x) (mB x) (mL x) (mR x) (WS x) (RM d mc ms) mc ms (mA x) := callB_of (mA x) hts (WS_good (by omega)) rfl rfl rfl (hts _ (by rw [y1]; exact WW_in (ck_ini _ y9) rfl)) (hts _ (WW_in f4 rfl)) ⟨y7, y8, y2⟩ ⟨by show d + 5 + 1 ≤ _; omega, by show 8 + (mL x + 11) + 40 * (d + 5) ≤ _; omega⟩
    have hrun := va_runS (As := as.map (vV ad sa)) (rest := t.map (vV ad sa)) (g := F0 m pc mls ((as.reverse ++ t).map (vV ad sa))) (H := H) (locs := locs) (cells := cells) (slots := slots) (below := below) (e := e) (meth := meth) hfix hM ⟨cw, hts _ (WW_in hinst rfl)⟩ ⟨PcM.blind, fun U hU hW => hpre U hU hW⟩ rfl (by rw [List.length_map]; omega) hsz (by simp) (st_words x t ht _ rfl) hdec ⟨hcr, hsr⟩
    exact call_go hrun hS (fun ad' al' H1 locs1 g1 g2 g3 => kk ad' al' H1 locs1 g1 g2 g3)
  | _ => exact h.elim
end

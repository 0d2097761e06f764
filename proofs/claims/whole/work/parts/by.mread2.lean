/-! THE MODEL's reading: states -/
def ct (σ : AS) (f : Nat) : Nat := (FI σ f 0).toNat
def cnB (σ : AS) (A S I P : Nat) : Prop := (FI σ 1130 0 = (ct σ 1130 : Int) ∧ ct σ 1130 ≤ A) ∧ (FI σ 1131 0 = (ct σ 1131 : Int) ∧ ct σ 1131 ≤ S) ∧ (FI σ 1132 0 = (ct σ 1132 : Int) ∧ ct σ 1132 ≤ I) ∧ (FI σ 1133 0 = (ct σ 1133 : Int) ∧ ct σ 1133 ≤ P)
theorem cnB.mono {σ : AS} {A S I P A' S' I' P' : Nat} (h : cnB σ A S I P) (w1 : A ≤ A') (w2 : S ≤ S') (w3 : I ≤ I') (w4 : P ≤ P') : cnB σ A' S' I' P' := ⟨⟨h.1.1, Nat.le_trans h.1.2 w1⟩, ⟨h.2.1.1, Nat.le_trans h.2.1.2 w2⟩, ⟨h.2.2.1.1, Nat.le_trans h.2.2.1.2 w3⟩, ⟨h.2.2.2.1, Nat.le_trans h.2.2.2.2 w4⟩⟩
theorem cnB.cg {σ σ' : AS} {A S I P : Nat} (h : cnB σ A S I P) (e : ∀ f, 1130 ≤ f → f ≤ 1133 → FI σ' f 0 = FI σ f 0) : cnB σ' A S I P := by
  unfold cnB ct
  rw [e 1130 (by decide) (by decide), e 1131 (by decide) (by decide), e 1132 (by decide) (by decide), e 1133 (by decide) (by decide)]
  exact h
def namM (σ : AS) (l : List (Nat × Nat)) : Prop := FI σ 1134 0 = (l.length : Int) ∧ ∀ (i : Nat) y, l[i]? = some y → AI σ 13 43 i = (y.1 : Int) ∧ AI σ 13 44 i = (y.2 : Int)
def atoM (σ : AS) (l : List AT) : Prop := FI σ 1129 0 = (l.length : Int) ∧ (FI σ 1136 0 = 0 ∨ FI σ 1136 0 = 1) ∧ (FI σ 1136 0 = 1 → ∀ (i : Nat) a, l[i]? = some a → AI σ 13 41 i = (a.1 : Int) ∧ AI σ 13 37 i = (a.2.1 : Int) ∧ AI σ 13 38 i = (a.2.2.1 : Int) ∧ AI σ 13 39 i = a.2.2.2.1 ∧ AI σ 13 40 i = a.2.2.2.2)
def MdS (σ : AS) (t : TP) (st : RT) (opn e : Nat) : Prop := rmB σ t ∧ okT t st ∧ (∃ a : Nat, FI σ 1125 0 = (a : Int) ∧ a ≤ t.1 ∧ sk t a = st.1) ∧ FI σ 1126 0 = -1 ∧ FI σ 1127 0 = (opn : Int) ∧ atoM σ st.2.1 ∧ (namM σ st.2.2 ∧ st.2.2.length ≤ st.1) ∧ cnB σ (st.1 + e) (st.1 + e) st.1 st.1
def MdF (σ : AS) (t : TP) (p opn u : Nat) : Prop := rmB σ t ∧ p ≤ t.1 ∧ (∃ a : Nat, FI σ 1125 0 = (a : Int) ∧ a ≤ t.1) ∧ FI σ 1126 0 = (p : Int) ∧ ((opn : Int) - 1 ≤ FI σ 1127 0 ∧ FI σ 1127 0 ≤ opn) ∧ cnB σ (t.1 + 1) (t.1 + 1) (t.1 + u) (t.1 + u)
def rmF (f a : Nat) : Prop := (1125 ≤ f ∧ f ≠ 1128) ∧ f ≤ 1137 ∧ a = 0
def rmA (s : Prop) (k a : Nat) : Prop := k = 13 ∧ ((27 ≤ a ∧ a ≤ 36) ∨ (a = 43 ∨ a = 44) ∨ (s ∧ 37 ≤ a ∧ a ≤ 41))
/-- alts lA .. hA, seqs lS .. hS, items below hI, parts below hP are as they were -/
def nodI (lA hA lS hS hI hP : Nat) (σ σ' : AS) : Prop := (∀ j, lA ≤ j → j < hA → AI σ' 13 27 j = AI σ 13 27 j) ∧ (∀ j, lS ≤ j → j < hS → AI σ' 13 28 j = AI σ 13 28 j ∧ AI σ' 13 29 j = AI σ 13 29 j) ∧ (∀ j, j < hI → AI σ' 13 30 j = AI σ 13 30 j ∧ AI σ' 13 31 j = AI σ 13 31 j ∧ AI σ' 13 32 j = AI σ 13 32 j) ∧ (∀ j, j < hP → AI σ' 13 33 j = AI σ 13 33 j ∧ AI σ' 13 34 j = AI σ 13 34 j ∧ AI σ' 13 35 j = AI σ 13 35 j ∧ AI σ' 13 36 j = AI σ 13 36 j)
def rdM (σ σ' : AS) : Prop := fX rmF (rmA (FI σ 1136 0 = 1)) σ σ' ∧ (FI σ' 1136 0 = FI σ 1136 0 ∧ FI σ' 1137 0 = FI σ 1137 0) ∧ (∀ f, 1130 ≤ f → f ≤ 1133 → ct σ f ≤ ct σ' f) ∧ nodI 0 (ct σ 1130) 0 (ct σ 1131) (ct σ 1132) (ct σ 1133) σ σ'
theorem nodI.rf (lA hA lS hS hI hP : Nat) (σ : AS) : nodI lA hA lS hS hI hP σ σ := ⟨fun _ _ _ => rfl, fun _ _ _ => ⟨rfl, rfl⟩, fun _ _ => ⟨rfl, rfl, rfl⟩, fun _ _ => ⟨rfl, rfl, rfl, rfl⟩⟩
theorem nodI.tr {lA hA lS hS hI hP : Nat} {a b c : AS} (h : nodI lA hA lS hS hI hP a b) (g : nodI lA hA lS hS hI hP b c) : nodI lA hA lS hS hI hP a c :=
  ⟨fun j w1 w2 => (g.1 j w1 w2).trans (h.1 j w1 w2), fun j w1 w2 => ⟨(g.2.1 j w1 w2).1.trans (h.2.1 j w1 w2).1, (g.2.1 j w1 w2).2.trans (h.2.1 j w1 w2).2⟩, fun j w => ⟨(g.2.2.1 j w).1.trans (h.2.2.1 j w).1, (g.2.2.1 j w).2.1.trans (h.2.2.1 j w).2.1, (g.2.2.1 j w).2.2.trans (h.2.2.1 j w).2.2⟩, fun j w => ⟨(g.2.2.2 j w).1.trans (h.2.2.2 j w).1, (g.2.2.2 j w).2.1.trans (h.2.2.2 j w).2.1, (g.2.2.2 j w).2.2.1.trans (h.2.2.2 j w).2.2.1, (g.2.2.2 j w).2.2.2.trans (h.2.2.2 j w).2.2.2⟩⟩
theorem nodI.sub {lA hA lS hS hI hP lA' hA' lS' hS' hI' hP' : Nat} {σ σ' : AS} (h : nodI lA hA lS hS hI hP σ σ') (w1 : lA ≤ lA') (w2 : hA' ≤ hA) (w3 : lS ≤ lS') (w4 : hS' ≤ hS) (w5 : hI' ≤ hI) (w6 : hP' ≤ hP) : nodI lA' hA' lS' hS' hI' hP' σ σ' := ⟨fun j v1 v2 => h.1 j (by omega) (by omega), fun j v1 v2 => h.2.1 j (by omega) (by omega), fun j v => h.2.2.1 j (by omega), fun j v => h.2.2.2 j (by omega)⟩
theorem rdM.rf (σ : AS) : rdM σ σ := ⟨fX.rf _ _ _, ⟨rfl, rfl⟩, fun _ _ _ => Nat.le_refl _, nodI.rf _ _ _ _ _ _ _⟩
theorem rdM.tr {a b c : AS} (h : rdM a b) (g : rdM b c) : rdM a c := ⟨h.1.tr (by have := g.1; rw [h.2.1.1] at this; exact this), ⟨g.2.1.1.trans h.2.1.1, g.2.1.2.trans h.2.1.2⟩, fun f w1 w2 => Nat.le_trans (h.2.2.1 f w1 w2) (g.2.2.1 f w1 w2), h.2.2.2.tr (g.2.2.2.sub (Nat.le_refl _) (h.2.2.1 _ (by decide) (by decide)) (Nat.le_refl _) (h.2.2.1 _ (by decide) (by decide)) (h.2.2.1 _ (by decide) (by decide)) (h.2.2.1 _ (by decide) (by decide)))⟩
theorem rdM.nod {σ σ' : AS} (h : rdM σ σ') {lA hA lS hS hI hP : Nat} (w2 : hA ≤ ct σ 1130) (w4 : hS ≤ ct σ 1131) (w5 : hI ≤ ct σ 1132) (w6 : hP ≤ ct σ 1133) : nodI lA hA lS hS hI hP σ σ' := h.2.2.2.sub (Nat.zero_le _) w2 (Nat.zero_le _) w4 w5 w6
theorem atX.rd {σ σ' : AS} (h : atX σ σ') : rdM σ σ' := by
  have fi : ∀ f, f < 1125 ∨ 1127 < f → FI σ' f 0 = FI σ f 0 := fun f w => h.1 _ _ (fun q => by have := q.1; have := q.2.1; omega)
  have ai : ∀ a j, AI σ' 13 a j = AI σ 13 a j := fun a j => h.2.2.1 _ _ _ (fun q => q)
  refine ⟨h.mono (fun f x q => ⟨⟨q.1, by have := q.2.1; omega⟩, Nat.le_trans q.2.1 (by decide), q.2.2⟩) (fun k x q => q.elim), ⟨fi _ (by decide), fi _ (by decide)⟩, fun f w1 w2 => by unfold ct; rw [fi f (by omega)]; exact Nat.le_refl _, ⟨fun j _ _ => ai _ _, fun j _ _ => ⟨ai _ _, ai _ _⟩, fun j _ => ⟨ai _ _, ai _ _, ai _ _⟩, fun j _ => ⟨ai _ _, ai _ _, ai _ _, ai _ _⟩⟩⟩
theorem atX_ct {σ σ' : AS} (h : atX σ σ') {f : Nat} (w : 1127 < f) : ct σ' f = ct σ f := by
  unfold ct
  rw [h.1 f 0 (fun q => by have := q.2.1; omega)]
theorem MdS.at_ {σ σ' : AS} {t : TP} {st : RT} {opn opn' e : Nat} {n : Nat} (h : MdS σ t st opn e) (hx : atX σ σ') (hn : st.1 ≤ n) (ha : ∃ a : Nat, FI σ' 1125 0 = (a : Int) ∧ a ≤ t.1 ∧ sk t a = n) (h1 : FI σ' 1126 0 = -1) (h2 : FI σ' 1127 0 = (opn' : Int)) {e' : Nat} (he : st.1 + e ≤ n + e') : MdS σ' t (n, st.2) opn' e' := by
  obtain ⟨b1, ⟨o1, o2, o3⟩, b3, b4, b5, b6, ⟨b7, b71⟩, b8⟩ := h
  have fi : ∀ f, 1127 < f → FI σ' f 0 = FI σ f 0 := fun f w => hx.1 _ _ (fun q => by have := q.2.1; omega)
  have ai : ∀ a j, AI σ' 13 a j = AI σ 13 a j := fun a j => hx.2.2.1 _ _ _ (fun q => q)
  obtain ⟨a, a1, a2, a3⟩ := ha
  refine ⟨b1.at_ hx, ⟨by rw [← a3]; exact sk_le a2, by rw [← a3]; exact sk_sk _ _, o3⟩, ⟨a, a1, a2, a3⟩, h1, h2, ?_, ⟨?_, Nat.le_trans b71 hn⟩, (b8.cg (fun f w1 w2 => fi f (by omega))).mono he he hn hn⟩
  · unfold atoM
    rw [fi _ (by decide), fi _ (by decide)]
    exact ⟨b6.1, b6.2.1, fun w i a hi => by rw [ai, ai, ai, ai, ai]; exact b6.2.2 w i a hi⟩
  · unfold namM
    rw [fi _ (by decide)]
    exact ⟨b7.1, fun i y hi => by rw [ai, ai]; exact b7.2 i y hi⟩
theorem MdS.flt {σ σ' : AS} {t : TP} {st : RT} {opn opn' e p u : Nat} (h : MdS σ t st opn e) (hx : atX σ σ') (hp : p ≤ t.1) (ha : ∃ a : Nat, FI σ' 1125 0 = (a : Int) ∧ a ≤ t.1) (h1 : FI σ' 1126 0 = (p : Int)) (h2 : (opn' : Int) - 1 ≤ FI σ' 1127 0 ∧ FI σ' 1127 0 ≤ opn') (he : e ≤ 1) : MdF σ' t p opn' u := by
  obtain ⟨b1, ⟨o1, o2, o3⟩, b3, b4, b5, b6, ⟨b7, b71⟩, b8⟩ := h
  have fi : ∀ f, 1127 < f → FI σ' f 0 = FI σ f 0 := fun f w => hx.1 _ _ (fun q => by have := q.2.1; omega)
  exact ⟨b1.at_ hx, hp, ha, h1, h2, (b8.cg (fun f w1 w2 => fi f (by omega))).mono (by omega) (by omega) (by omega) (by omega)⟩
theorem MdF.at_ {σ σ' : AS} {t : TP} {opn opn' p u u' : Nat} (h : MdF σ t p opn u) (hx : atX σ σ') (ha : ∃ a : Nat, FI σ' 1125 0 = (a : Int) ∧ a ≤ t.1) (h1 : FI σ' 1126 0 = (p : Int)) (h2 : (opn' : Int) - 1 ≤ FI σ' 1127 0 ∧ FI σ' 1127 0 ≤ opn') (hu : u ≤ u') : MdF σ' t p opn' u' := by
  obtain ⟨b1, b2, b3, b4, b5, b8⟩ := h
  have fi : ∀ f, 1127 < f → FI σ' f 0 = FI σ f 0 := fun f w => hx.1 _ _ (fun q => by have := q.2.1; omega)
  exact ⟨b1.at_ hx, b2, ha, h1, h2, (b8.cg (fun f w1 w2 => fi f (by omega))).mono (Nat.le_refl _) (Nat.le_refl _) (by omega) (by omega)⟩
section
variable {d : Nat} {Q : AQ} {σ : AS} {t : TP} {st : RT} {opn e : Nat}
theorem c_M_takesS (h : MdS σ t st opn e) {c : Int} (hc : 0 ≤ c) (kt : chT t st.1 = c → ∀ σ', atX σ σ' → MdS σ' t (sk t (st.1 + 1), st.2) opn (e - 1) → Q (some (vi 1)) σ') (kf : chT t st.1 ≠ c → ∀ σ', atX σ σ' → MdS σ' t st opn e → FI σ' 1125 0 = (st.1 : Int) → Q (some (vi 0)) σ') : wp (d + 3) m_M_takes [vr 11 0, vi c] σ Q := by
  obtain ⟨b1, b2, ⟨a, b3, b31, b32⟩, b4, b5, -⟩ := id h
  refine c_M_takesN b1 b4 b3 b31 hc (fun w σ1 x1 f1 f2 f3 => ?_) (fun w σ1 x1 f1 f2 f3 => ?_)
  · rw [b32] at w f1
    have hlt := chT_lt (t := t) (a := st.1) (by omega)
    have := sk_ge t (st.1 + 1)
    exact kt w σ1 x1 (h.at_ x1 (by omega) ⟨st.1 + 1, f1, hlt, rfl⟩ f2 (f3.trans b5) (by omega))
  · rw [b32] at w f1
    exact kf w σ1 x1 (h.at_ x1 (Nat.le_refl _) ⟨st.1, f1, b2.1, b2.2.1⟩ f2 (f3.trans b5) (Nat.le_refl _)) f1
theorem c_M_needF {p : Nat} (hf : FI σ 1126 0 = (p : Int)) {c : Int} (kk : Q none σ) : wp (d + 2) m_M_need [vr 11 0, vi c] σ Q := by
  refine x_in (ls := [some _, some _]) rfl rfl ?_
  refine x_aload_n i_M_need_0 rfl ?_
  refine x_iload_n i_M_need_1 rfl ?_
  refine x_cv1 i_M_need_2 rfl rfl rfl ?_
  refine c_M_takesF hf ?_
  refine x_if_ne_f i_M_need_5 rfl ?_
  refine x_aload_n i_M_need_8 rfl ?_
  refine x_aload_n i_M_need_9 rfl ?_
  refine x_getI i_M_need_10 rfl rfl ?_
  refine x_cv1 i_M_need_13 rfl rfl rfl ?_
  refine c_M_wrongF hf ?_
  refine x_vret i_M_need_16 rfl ?_
  exact kk
theorem c_M_wrongS (h : MdS σ t st opn e) (he : e ≤ 1) {p u : Nat} (hp : p ≤ t.1) (kk : ∀ σ', atX σ σ' → MdF σ' t p opn u → FI σ' 1125 0 = FI σ 1125 0 → Q none σ') : wp (d + 1) m_M_wrong [vr 11 0, vi (p : Nat)] σ Q := by
  obtain ⟨b1, b2, ⟨a, b3, b31, b32⟩, b4, b5, -⟩ := id h
  have x1 : atX σ (sFI σ 1126 0 (p : Nat)) := atX_sFI (by decide) (by decide)
  have e1 : FI (sFI σ 1126 0 (p : Nat)) 1125 0 = FI σ 1125 0 := by rw [FI_sFI, if_neg (by omega)]
  have e2 : FI (sFI σ 1126 0 (p : Nat)) 1127 0 = FI σ 1127 0 := by rw [FI_sFI, if_neg (by omega)]
  exact c_M_wrongN b4 (kk _ x1 (h.flt x1 hp ⟨a, by rw [e1]; exact b3, b31⟩ (by rw [FI_sFI, if_pos ⟨rfl, rfl⟩]) (by rw [e2, b5]; omega) he) e1)
theorem c_M_needS (h : MdS σ t st opn e) (he : e ≤ 1) {c : Int} (hc : 0 ≤ c) {u : Nat} (kt : chT t st.1 = c → ∀ σ', atX σ σ' → MdS σ' t (sk t (st.1 + 1), st.2) opn (e - 1) → Q none σ') (kf : chT t st.1 ≠ c → ∀ σ', atX σ σ' → MdF σ' t st.1 opn u → Q none σ') : wp (d + 4) m_M_need [vr 11 0, vi c] σ Q := by
  refine x_in (ls := [some _, some _]) rfl rfl ?_
  refine x_aload_n i_M_need_0 rfl ?_
  refine x_iload_n i_M_need_1 rfl ?_
  refine x_cv1 i_M_need_2 rfl rfl rfl ?_
  refine c_M_takesS h hc (fun w σ1 x1 h1 => ?_) (fun w σ1 x1 h1 f1 => ?_)
  · refine x_if_ne_t i_M_need_5 (by decide) ?_
    refine x_vret i_M_need_16 rfl ?_
    exact kt w σ1 x1 h1
  · refine x_if_ne_f i_M_need_5 rfl ?_
    refine x_aload_n i_M_need_8 rfl ?_
    refine x_aload_n i_M_need_9 rfl ?_
    refine x_getI i_M_need_10 rfl rfl ?_
    rw [f1]
    refine x_cv1 i_M_need_13 rfl rfl rfl ?_
    refine c_M_wrongS (u := u) h1 he h1.2.1.1 (fun σ2 x2 h2 _ => ?_)
    refine x_vret i_M_need_16 rfl ?_
    exact kf w σ2 (x1.tr x2) h2
theorem c_M_opensF {p : Nat} (hf : FI σ 1126 0 = (p : Int)) (kk : Q none σ) : wp (d + 1) m_M_opens [vr 11 0] σ Q := by
  refine x_in (ls := [some _]) rfl rfl ?_
  refine x_aload_n i_M_opens_0 rfl ?_
  refine x_getI i_M_opens_1 rfl rfl ?_
  rw [hf]
  refine x_if_lt_f i_M_opens_4 (by omega) ?_
  refine x_vret i_M_opens_7 rfl ?_
  exact kk
theorem c_M_opensS (h : MdS σ t st opn e) (he : e ≤ 1) (ho : opn ≤ 8) {u : Nat} (kt : opn < 8 → chT t st.1 = 40 → ∀ σ', atX σ σ' → MdS σ' t (sk t (st.1 + 1), st.2) (opn + 1) (e - 1) → Q none σ') (kf : (opn = 8 ∨ chT t st.1 ≠ 40) → ∀ σ', atX σ σ' → MdF σ' t st.1 (opn + 1) u → Q none σ') : wp (d + 3) m_M_opens [vr 11 0] σ Q := by
  obtain ⟨b1, b2, ⟨a, b3, b31, b32⟩, b4, b5, -⟩ := id h
  have ht1 := b1.2.1.1
  refine x_in (ls := [some _]) rfl rfl ?_
  refine x_aload_n i_M_opens_0 rfl ?_
  refine x_getI i_M_opens_1 rfl rfl ?_
  rw [b4]
  refine x_if_lt_t i_M_opens_4 (by decide) ?_
  refine x_aload_n i_M_opens_8 rfl ?_
  refine x_cv0 i_M_opens_9 rfl rfl rfl ?_
  refine c_M_skips b1 b3 b31 (fun σ1 x1 f1 f2 f3 => ?_)
  rw [b32] at f1
  have h1 : MdS σ1 t st opn e := h.at_ x1 (Nat.le_refl _) ⟨st.1, f1, b2.1, b2.2.1⟩ (f2.trans b4) (f3.trans b5) (Nat.le_refl _)
  have bad : (opn = 8 ∨ chT t st.1 ≠ 40) → Ex (wp (d + 2)) m_M_opens Q 32 [some (vr 11 0)] [] σ1 := by
    intro w
    refine x_aload_n i_M_opens_32 rfl ?_
    refine x_aload_n i_M_opens_33 rfl ?_
    refine x_getI i_M_opens_34 rfl rfl ?_
    rw [f1]
    have x2 : atX σ1 (sFI σ1 1126 0 (st.1 : Nat)) := atX_sFI (by decide) (by decide)
    have e2 : ∀ f, f ≠ 1126 → FI (sFI σ1 1126 0 (st.1 : Nat)) f 0 = FI σ1 f 0 := fun f w => by rw [FI_sFI, if_neg (fun q => w q.1)]
    refine x_cv1 i_M_opens_37 rfl rfl rfl ?_
    refine c_M_wrongN (f2.trans b4) ?_
    refine x_vret i_M_opens_40 rfl ?_
    exact kf w _ (x1.tr x2) (h1.flt (opn' := opn + 1) x2 b2.1 ⟨st.1, by rw [e2 _ (by decide)]; exact f1, b2.1⟩ (by rw [FI_sFI, if_pos ⟨rfl, rfl⟩]) (by rw [e2 _ (by decide), f3, b5]; omega) he)
  refine x_aload_n i_M_opens_12 rfl ?_
  refine x_bipush i_M_opens_13 ?_
  refine x_bipush i_M_opens_15 ?_
  refine x_cv2 i_M_opens_17 rfl rfl rfl ?_
  refine c_M_isCh h1.1 f1 b2.1 (by decide) ?_
  by_cases w : chT t st.1 = 40
  · rw [decide_eq_true w]
    have hlt := chT_lt (t := t) (a := st.1) (by omega)
    refine x_if_eq_f i_M_opens_20 (by decide) ?_
    refine x_aload_n i_M_opens_23 rfl ?_
    refine x_getI i_M_opens_24 rfl rfl ?_
    rw [f3, b5]
    refine x_bipush i_M_opens_27 ?_
    refine x_icmp_ne i_M_opens_29 (fun g1 => ?_) (fun g1 => ?_)
    · refine x_aload_n i_M_opens_41 rfl ?_
      refine x_dup i_M_opens_42 ?_
      refine x_getI i_M_opens_43 rfl rfl ?_
      rw [f1]
      refine x_iconst i_M_opens_46 ?_
      refine x_iadd i_M_opens_47 (by omega) ?_
      refine x_putI i_M_opens_48 rfl rfl ?_
      have e3 : FI (sFI σ1 1125 0 ((st.1 : Int) + 1)) 1127 0 = (opn : Int) := by rw [FI_sFI, if_neg (by omega)]; exact f3.trans b5
      refine x_aload_n i_M_opens_51 rfl ?_
      refine x_dup i_M_opens_52 ?_
      refine x_getI i_M_opens_53 rfl rfl ?_
      rw [e3]
      refine x_iconst i_M_opens_56 ?_
      refine x_iadd i_M_opens_57 (by omega) ?_
      refine x_putI i_M_opens_58 rfl rfl ?_
      have x2 : atX σ1 (sFI (sFI σ1 1125 0 ((st.1 : Int) + 1)) 1127 0 ((opn : Int) + 1)) := (atX_sFI (by decide) (by decide)).tr (atX_sFI (by decide) (by decide))
      have := sk_ge t (st.1 + 1)
      refine x_vret i_M_opens_61 rfl ?_
      exact kt (by omega) w _ (x1.tr x2) (h1.at_ x2 (by omega) ⟨st.1 + 1, by rw [FI_sFI, if_neg (by omega), FI_sFI, if_pos ⟨rfl, rfl⟩]; omega, hlt, rfl⟩ (by rw [FI_sFI, if_neg (by omega), FI_sFI, if_neg (by omega)]; exact f2.trans b4) (by rw [FI_sFI, if_pos ⟨rfl, rfl⟩]; omega) (by omega))
    · exact bad (Or.inl (by omega))
  · rw [decide_eq_false w]
    refine x_if_eq_t i_M_opens_20 rfl ?_
    exact bad (Or.inr w)
theorem c_M_closesS (h : MdS σ t st (opn + 1) e) (he : e ≤ 1) {u : Nat} (ho : opn ≤ 8) (kt : chT t st.1 = 41 → ∀ σ', atX σ σ' → MdS σ' t (sk t (st.1 + 1), st.2) opn (e - 1) → Q none σ') (kf : chT t st.1 ≠ 41 → ∀ σ', atX σ σ' → MdF σ' t st.1 opn u → Q none σ') : wp (d + 5) m_M_closes [vr 11 0] σ Q := by
  refine x_in (ls := [some _]) rfl rfl ?_
  refine x_aload_n i_M_closes_0 rfl ?_
  refine x_bipush i_M_closes_1 ?_
  refine x_cv1 i_M_closes_3 rfl rfl rfl ?_
  refine c_M_needS (u := u) h he (by decide) (fun w σ1 x1 h1 => ?_) (fun w σ1 x1 h1 => ?_)
  · obtain ⟨b1, b2, ⟨a, b3, b31, b32⟩, b4, b5, -⟩ := id h1
    refine x_aload_n i_M_closes_6 rfl ?_
    refine x_dup i_M_closes_7 ?_
    refine x_getI i_M_closes_8 rfl rfl ?_
    rw [b5]
    refine x_iconst i_M_closes_11 ?_
    refine x_isub i_M_closes_12 (by omega) ?_
    refine x_putI i_M_closes_13 rfl rfl ?_
    have x2 : atX σ1 (sFI σ1 1127 0 (((opn + 1 : Nat) : Int) - 1)) := atX_sFI (by decide) (by decide)
    refine x_vret i_M_closes_16 rfl ?_
    exact kt w _ (x1.tr x2) (h1.at_ x2 (Nat.le_refl _) ⟨a, by rw [FI_sFI, if_neg (by omega)]; exact b3, b31, b32⟩ (by rw [FI_sFI, if_neg (by omega)]; exact b4) (by rw [FI_sFI, if_pos ⟨rfl, rfl⟩]; omega) (Nat.le_refl _))
  · obtain ⟨b1, b2, ⟨a, b3, b31⟩, b4, b5, -⟩ := id h1
    refine x_aload_n i_M_closes_6 rfl ?_
    refine x_dup i_M_closes_7 ?_
    refine x_getI i_M_closes_8 rfl rfl ?_
    refine x_iconst i_M_closes_11 ?_
    refine x_isub i_M_closes_12 (by omega) ?_
    refine x_putI i_M_closes_13 rfl rfl ?_
    have x2 : atX σ1 (sFI σ1 1127 0 (FI σ1 1127 0 - 1)) := atX_sFI (by decide) (by decide)
    refine x_vret i_M_closes_16 rfl ?_
    exact kf w _ (x1.tr x2) (h1.at_ x2 ⟨a, by rw [FI_sFI, if_neg (by omega)]; exact b3, b31⟩ (by rw [FI_sFI, if_neg (by omega)]; exact b4) (by rw [FI_sFI, if_pos ⟨rfl, rfl⟩]; omega) (Nat.le_refl _))
theorem c_M_closesF {p u : Nat} (h : MdF σ t p (opn + 1) u) (ho : opn ≤ 8) (kk : ∀ σ', atX σ σ' → MdF σ' t p opn u → Q none σ') : wp (d + 3) m_M_closes [vr 11 0] σ Q := by
  obtain ⟨b1, b2, ⟨a, b3, b31⟩, b4, b5, -⟩ := id h
  refine x_in (ls := [some _]) rfl rfl ?_
  refine x_aload_n i_M_closes_0 rfl ?_
  refine x_bipush i_M_closes_1 ?_
  refine x_cv1 i_M_closes_3 rfl rfl rfl ?_
  refine c_M_needF b4 ?_
  refine x_aload_n i_M_closes_6 rfl ?_
  refine x_dup i_M_closes_7 ?_
  refine x_getI i_M_closes_8 rfl rfl ?_
  refine x_iconst i_M_closes_11 ?_
  refine x_isub i_M_closes_12 (by omega) ?_
  refine x_putI i_M_closes_13 rfl rfl ?_
  have x2 : atX σ (sFI σ 1127 0 (FI σ 1127 0 - 1)) := atX_sFI (by decide) (by decide)
  refine x_vret i_M_closes_16 rfl ?_
  exact kk _ x2 (h.at_ x2 ⟨a, by rw [FI_sFI, if_neg (by omega)]; exact b3, b31⟩ (by rw [FI_sFI, if_neg (by omega)]; exact b4) (by rw [FI_sFI, if_pos ⟨rfl, rfl⟩]; omega) (Nat.le_refl _))
end


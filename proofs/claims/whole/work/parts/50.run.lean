/-! A RUN OF THE CLASS: its state -/
def bI (b : Bool) : Int := if b = true then 1 else 0
theorem bI_01 (b : Bool) : bI b = 0 ∨ bI b = 1 := by cases b <;> simp [bI]
def chnR {A : Type} (nx : Nat → Option Nat) (R : A → Nat → Prop) : List A → Option Nat → Prop
  | [], o => o = none
  | x :: xs, o => ∃ a, o = some a ∧ R x a ∧ chnR nx R xs (nx a)
theorem chnR.mono {A : Type} {nx nx' : Nat → Option Nat} {R R' : A → Nat → Prop} (hn : nx' = nx) (hR : ∀ x a, R x a → R' x a) : ∀ (l : List A) (o : Option Nat), chnR nx R l o → chnR nx' R' l o
  | [], _, h => h
  | x :: xs, o, h => by
    obtain ⟨a, h1, h2, h3⟩ := h
    subst hn
    exact ⟨a, h1, hR x a h2, chnR.mono rfl hR xs _ h3⟩
def itemR (σ : AS) (dn : Nat → Prop) {A : Type} (sub : A → Option Nat → Prop) (it : Item A) (a : Nat) : Prop :=
  FI σ 400 a = (it.1.1 : Int) ∧ FI σ 401 a = (it.1.2.1 : Int) ∧ it.1.1 ≤ 12 ∧ (it.1.2.1 = 0 ∨ it.1.2.1 = 63 ∨ it.1.2.1 = 42 ∨ it.1.2.1 = 43) ∧
  (it.1.1 ≤ 6 → ∃ t, FR σ 402 a = some t ∧ FI σ 2 t = (it.1.2.2 : Int) ∧ FI σ 3 t = it.2.1.1 ∧ FI σ 4 t = it.2.1.2 ∧ it.1.2.2 < 32) ∧
  (it.1.1 = 12 → FI σ 403 a = (it.1.2.2 : Int) ∧ it.1.2.2 < 8 ∧ dn it.1.2.2) ∧
  ((it.1.1 = 5 ∨ it.1.1 = 6 ∨ (8 ≤ it.1.1 ∧ it.1.1 ≤ 11)) → sub it.2.2.1 (FR σ 404 a)) ∧ (it.1.1 = 10 → sub it.2.2.2 (FR σ 405 a))
def altR (σ : AS) (dn : Nat → Prop) : (n : Nat) → PT n → Option Nat → Prop
  | 0, _, _ => False
  | n + 1, alt, o => (alt : List (List (Item (PT n)))) ≠ [] ∧ chnR (FR σ 801) (fun (s : List (Item (PT n))) a => s ≠ [] ∧ chnR (FR σ 406) (itemR σ dn (altR σ dn n)) s (FR σ 800 a)) alt o
theorem chnR.mono2 {A : Type} {nx nx' : Nat → Option Nat} {R R' : A → Nat → Prop} (hn : ∀ a, nx' a = nx a) (hR : ∀ x a, R x a → R' x a) (l : List A) (o : Option Nat) (h : chnR nx R l o) : chnR nx' R' l o := h.mono (funext hn) hR
theorem altR.keep {σ σ' : AS} {dn : Nat → Prop} (h1 : ∀ f a, f < 600 → FI σ' f a = FI σ f a) (h2 : ∀ f a, f < 600 ∨ (800 ≤ f ∧ f < 900) → FR σ' f a = FR σ f a) : ∀ (n : Nat) (alt : PT n) (o : Option Nat), altR σ dn n alt o → altR σ' dn n alt o
  | 0, _, _, h => h
  | n + 1, alt, o, h => by
    obtain ⟨a1, a2⟩ := h
    refine ⟨a1, chnR.mono2 (fun a => h2 _ _ (by decide)) ?_ _ _ a2⟩
    intro s a ⟨b1, b2⟩
    rw [h2 _ _ (by decide)]
    refine ⟨b1, chnR.mono2 (fun a => h2 _ _ (by decide)) ?_ _ _ b2⟩
    intro it a ⟨c1, c2, c3, c4, c5, c6, c7, c8⟩
    refine ⟨by rw [h1 _ _ (by decide)]; exact c1, by rw [h1 _ _ (by decide)]; exact c2, c3, c4, fun h => ?_, fun h => by rw [h1 _ _ (by decide)]; exact c6 h, fun h => by rw [h2 _ _ (by decide)]; exact altR.keep h1 h2 n _ _ (c7 h), fun h => by rw [h2 _ _ (by decide)]; exact altR.keep h1 h2 n _ _ (c8 h)⟩
    obtain ⟨t, d1, d2, d3, d4, d5⟩ := c5 h
    exact ⟨t, by rw [h2 _ _ (by decide)]; exact d1, by rw [h1 _ _ (by decide)]; exact d2, by rw [h1 _ _ (by decide)]; exact d3, by rw [h1 _ _ (by decide)]; exact d4, d5⟩
/-- (grammar, its bodies, the row of the input, its room, its size), the input, the rules -/
abbrev RE : Type := (Nat × Nat × Nat × Nat × Nat) × (Nat → Int) × (Nat → PT 9)
def eZ (e : RE) : Nat := e.1.2.2.2.2
def dnR (σ : AS) (b : Nat) (r : Nat) : Prop := AR σ 16 b r ≠ none
def lawR (σ : AS) (b : Nat) (rules : Nat → PT 9) : Prop := LN σ 16 b = 8 ∧ ∀ r, r < 8 → AR σ 16 b r ≠ none → altR σ (dnR σ b) 9 (rules r) (AR σ 16 b r)
def runR (σ : AS) : Prop := FR σ 700 0 = some 3 ∧ FR σ 701 0 = some 4 ∧ FR σ 702 0 = some 5 ∧ FR σ 703 0 = some 0
def envR (σ : AS) (e : RE) : Prop := runR σ ∧ FR σ 704 0 = some e.1.1 ∧ FR σ 100 e.1.1 = some e.1.2.1 ∧ FR σ 705 0 = some e.1.2.2.1 ∧ lawR σ e.1.2.1 e.2.2 ∧ rowF σ e.1.2.2.1 e.1.2.2.1 e.1.2.2.2.1 (eZ e) e.2.1 ∧ e.1.2.2.1 < 3 ∧ eZ e ≤ 240 ∧ ∀ i, i < eZ e → 0 ≤ e.2.1 i ∧ e.2.1 i ≤ 255
theorem lawR.keep {F : Nat → Nat → Prop} {A : Nat → Prop} {σ σ' : AS} {b : Nat} {rules : Nat → PT 9} (h : lawR σ b rules) (hx : tX F A σ σ') (hF : ∀ f a, f < 600 → ¬ F f a) : lawR σ' b rules := by
  obtain ⟨h1, h2⟩ := h
  obtain ⟨b1, b2, b3, b4, b5, b6⟩ := hx
  have e : dnR σ' b = dnR σ b := by unfold dnR; rw [b4]
  refine ⟨by rw [b5]; exact h1, fun r hr hn => ?_⟩
  rw [b4] at hn ⊢
  rw [e]
  exact (h2 r hr hn).keep (fun f a hf => b1 f a (hF f a hf)) (fun f a _ => by rw [b2])
theorem altR.tx {F : Nat → Nat → Prop} {A : Nat → Prop} {σ σ' : AS} {b n : Nat} {alt : PT n} {o : Option Nat} (h : altR σ (dnR σ b) n alt o) (hx : tX F A σ σ') (hF : ∀ f a, f < 600 → ¬ F f a) : altR σ' (dnR σ' b) n alt o := by
  obtain ⟨b1, b2, b3, b4, b5, b6⟩ := hx
  have e : dnR σ' b = dnR σ b := by unfold dnR; rw [b4]
  rw [e]
  exact h.keep (fun f a hf => b1 f a (hF f a hf)) (fun f a _ => by rw [b2])
theorem envR.keep {F : Nat → Nat → Prop} {A : Nat → Prop} {σ σ' : AS} {e : RE} (h : envR σ e) (hx : tX F A σ σ') (hF : ∀ f a, f < 600 → ¬ F f a) (h1 : ∀ r, r < 3 → ¬ F 601 r) (h2 : ∀ r, r < 3 → ¬ A r) : envR σ' e := by
  obtain ⟨a0, a1, a2, a3, a4, a5, a6, a7⟩ := h
  refine ⟨?_, by rw [hx.2.1]; exact a1, by rw [hx.2.1]; exact a2, by rw [hx.2.1]; exact a3, a4.keep hx hF, hx.row a5 (h1 _ a6) (h2 _ a6), a6, a7⟩
  unfold runR
  rw [hx.2.1]
  exact a0
def memR (e : RE) (N : Nat) (tab : Nat → TT) (ma mt ms : Nat → Int) (k : Nat) : Option (Option Ans) → Prop
  | none => ma k = -8
  | some none => ma k = -9
  | some (some q) => ma k = q.1 ∧ ms k = bI q.2.2 ∧ (q.1 = -5 ∨ (0 ≤ q.1 ∧ q.1 ≤ eZ e ∧ ∃ o, mt k = oI o ∧ oN N o ∧ o.map tab = q.2.1))
def bndR (st : ES) (N K : Nat) (H : List Nat) : Prop := st.1.1 ≤ 1000 ∧ st.1.2.1 ≤ 40000 ∧ st.1.2.2 ≤ st.1.1 ∧ N ≤ 257 + 2 * st.1.1 ∧ K ≤ 3 * st.1.1 ∧ H.length ≤ st.1.1
def fwR (fw : Int × Int) : Prop := -1 ≤ fw.1 ∧ fw.1 ≤ 240 ∧ (fw.1 = -1 → fw.2 = 0)
def cntR (σ : AS) (st : ES) : Prop := FI σ 707 0 = (st.1.1 : Int) ∧ FI σ 708 0 = (st.1.2.1 : Int) ∧ FI σ 709 0 = (st.1.2.2 : Int) ∧ FI σ 710 0 = st.2.1.1 ∧ FI σ 711 0 = st.2.1.2
def RS (σ : AS) (e : RE) (st : ES) (N K : Nat) (tab : Nat → TT) (H : List Nat) : Prop :=
  envR σ e ∧ TrS σ N K tab H ∧ cntR σ st ∧ bndR st N K H ∧ fwR st.2.1 ∧ ∃ ma mt ms : Nat → Int, rowF σ 3 3 1928 1928 ma ∧ rowF σ 4 4 1928 1928 mt ∧ rowF σ 5 5 1928 1928 ms ∧ ∀ k, k < 1928 → memR e N tab ma mt ms k (st.2.2 k)
def rnF (f a : Nat) : Prop := 706 ≤ f ∧ f ≤ 712 ∧ a = 0
def noA (_ : Nat) : Prop := False
def runF (f a : Nat) : Prop := (706 ≤ f ∧ f ≤ 712 ∧ a = 0) ∨ (f = 601 ∧ 3 ≤ a ∧ a ≤ 12)
def runA (a : Nat) : Prop := 3 ≤ a ∧ a ≤ 12
def runX (σ σ' : AS) : Prop := tX runF runA σ σ'
def rnX (σ σ' : AS) : Prop := tX rnF noA σ σ'
theorem rnX.run {σ σ' : AS} (h : rnX σ σ') : runX σ σ' := h.mono (fun _ _ h => Or.inl h) (fun _ h => h.elim)
theorem trX.run {σ σ' : AS} (h : trX σ σ') : runX σ σ' := tX.mono h (fun _ _ h => Or.inr ⟨h.1, by have := h.2.1; omega, h.2.2⟩) (fun _ h => ⟨by have := h.1; omega, h.2⟩)
theorem tX_sFI {F : Nat → Nat → Prop} {A : Nat → Prop} {σ : AS} {f a : Nat} {v : Int} (h : F f a) : tX F A σ (sFI σ f a v) := ⟨fun f' a' hn => by rw [FI_sFI, if_neg (fun q => hn (by rw [q.1, q.2]; exact h))], rfl, fun _ _ _ _ => rfl, rfl, rfl, rfl, rfl, rfl⟩
theorem rnX_sFI {σ : AS} {f : Nat} {v : Int} (h1 : 706 ≤ f) (h2 : f ≤ 712) : rnX σ (sFI σ f 0 v) := tX_sFI ⟨h1, h2, rfl⟩
theorem memR.up {e : RE} {N N' : Nat} {tab tab' : Nat → TT} {ma mt ms : Nat → Int} {k : Nat} {v : Option (Option Ans)} (h : memR e N tab ma mt ms k v) (hN : N ≤ N') (ht : ∀ j, j < N → tab' j = tab j) : memR e N' tab' ma mt ms k v := by
  match v, h with
  | none, h => exact h
  | some none, h => exact h
  | some (some q), ⟨h1, h2, h3⟩ =>
    refine ⟨h1, h2, h3.elim Or.inl (fun ⟨a, b, o, c1, c2, c3⟩ => Or.inr ⟨a, b, o, c1, fun i hi => Nat.lt_of_lt_of_le (c2 i hi) hN, ?_⟩)⟩
    rw [← c3]
    cases o with
    | none => rfl
    | some i => simp only [Option.map_some]; rw [ht i (c2 i rfl)]
section
variable {e : RE} {st st' : ES} {N K N' K' : Nat} {tab tab' : Nat → TT} {H H' : List Nat} {σ σ' : AS}
theorem RS.upd (h : RS σ e st N K tab H) (hx : rnX σ σ') (hc : cntR σ' st') (hb : bndR st' N K H) (hf : fwR st'.2.1) (hm : st'.2.2 = st.2.2) : RS σ' e st' N K tab H := by
  obtain ⟨a1, a2, a3, a4, a5, ma, mt, ms, a6, a7, a8, a9⟩ := h
  have k1 : ∀ r, ¬ rnF 601 r := fun r q => by have := q.1; omega
  refine ⟨a1.keep hx (fun f a hf q => by have := q.1; omega) (fun r _ => k1 r) (fun r _ q => q), a2.keep hx (fun r _ _ => k1 r) (fun r _ _ q => q), hc, hb, hf, ma, mt, ms, hx.row a6 (k1 _) (fun q => q), hx.row a7 (k1 _) (fun q => q), hx.row a8 (k1 _) (fun q => q), fun k hk => ?_⟩
  rw [hm]
  exact a9 k hk
/-- tree and sharp are set -/
theorem RS.set (h : RS σ e st N K tab H) (hx : tX (fun f a => (f = 706 ∨ f = 712) ∧ a = 0) noA σ σ') : RS σ' e st N K tab H := by
  have g := h
  obtain ⟨a1, a2, ⟨c1, c2, c3, c4, c5⟩, a4, a5, -⟩ := g
  have k : ∀ f, 707 ≤ f → f ≤ 711 → FI σ' f 0 = FI σ f 0 := fun f p q => hx.1 f 0 (fun w => by rcases w.1 with w | w <;> omega)
  exact h.upd (hx.mono (fun f a q => ⟨by rcases q.1 with w | w <;> omega, by rcases q.1 with w | w <;> omega, q.2⟩) (fun _ q => q)) ⟨by rw [k _ (by omega) (by omega)]; exact c1, by rw [k _ (by omega) (by omega)]; exact c2, by rw [k _ (by omega) (by omega)]; exact c3, by rw [k _ (by omega) (by omega)]; exact c4, by rw [k _ (by omega) (by omega)]; exact c5⟩ a4 a5 rfl
theorem RS.tr (h : RS σ e st N K tab H) (hx : trX σ σ') (ht : TrS σ' N' K' tab' H') (hN : N ≤ N') (hj : ∀ j, j < N → tab' j = tab j) (hb : bndR st N' K' H') : RS σ' e st N' K' tab' H' := by
  obtain ⟨a1, a2, ⟨c1, c2, c3, c4, c5⟩, a4, a5, ma, mt, ms, a6, a7, a8, a9⟩ := h
  have k0 : ∀ f, 707 ≤ f → f ≤ 711 → FI σ' f 0 = FI σ f 0 := fun f p q => hx.1 f 0 (fun w => by have := w.1; omega)
  have k1 : ∀ r, r < 6 → ¬ trF 601 r := fun r hr q => by have := q.2.1; omega
  have k2 : ∀ r, r < 6 → ¬ trA r := fun r hr q => by have := q.1; omega
  exact ⟨a1.keep hx (fun f a hf q => by have := q.1; omega) (fun r hr => k1 r (by omega)) (fun r hr => k2 r (by omega)), ht, ⟨by rw [k0 _ (by omega) (by omega)]; exact c1, by rw [k0 _ (by omega) (by omega)]; exact c2, by rw [k0 _ (by omega) (by omega)]; exact c3, by rw [k0 _ (by omega) (by omega)]; exact c4, by rw [k0 _ (by omega) (by omega)]; exact c5⟩, hb, a5, ma, mt, ms, hx.row a6 (k1 _ (by omega)) (k2 _ (by omega)), hx.row a7 (k1 _ (by omega)) (k2 _ (by omega)), hx.row a8 (k1 _ (by omega)) (k2 _ (by omega)), fun k hk => (a9 k hk).up hN hj⟩
end
/-- what an answer leaves -/
def OutR (e : RE) (lim : Int) (c : Nat) (σ : AS) (s0 N K : Nat) (tab : Nat → TT) (H : List Nat) (r : RR) (σ' : AS) (N' K' : Nat) (tab' : Nat → TT) (H' : List Nat) : Prop :=
  RS σ' e r.2.2.2 N' K' tab' H' ∧ runX σ σ' ∧ N ≤ N' ∧ (∀ j, j < N → tab' j = tab j) ∧ (∃ E, H' = H ++ E) ∧ s0 ≤ r.2.2.2.1.1 ∧
  (-5 ≤ r.1 → N' + 2 + 2 * s0 ≤ N + 2 * r.2.2.2.1.1 ∧ K' + c + 3 * s0 ≤ K + 3 * r.2.2.2.1.1 ∧ FI σ' 712 0 = bI r.2.2.1 ∧ (lim ≤ r.1 → H' = H)) ∧
  (0 ≤ r.1 → r.1 ≤ eZ e ∧ ∃ o, FI σ' 706 0 = oI o ∧ oN N' o ∧ o.map tab' = r.2.1) ∧ (r.1 < -9 ∨ r.1 = -5 ∨ 0 ≤ r.1)
def PostR (e : RE) (Q : AQ) (lim : Int) (c : Nat) (σ : AS) (s0 N K : Nat) (tab : Nat → TT) (H : List Nat) (r : RR) : Prop :=
  ∀ σ' N' K' tab' H', OutR e lim c σ s0 N K tab H r σ' N' K' tab' H' → Q (some (vi r.1)) σ'
theorem OutR.from {e : RE} {lim : Int} {c : Nat} {σ σ1 σ' : AS} {s0 s1 N K N1 K1 N' K' : Nat} {tab tab1 tab' : Nat → TT} {H H' : List Nat} {r : RR} (h : OutR e lim c σ1 s1 N1 K1 tab1 H r σ' N' K' tab' H') (hx : runX σ σ1) (hN : N ≤ N1) (hj : ∀ j, j < N → tab1 j = tab j) (hs : s0 ≤ s1) (b1 : N1 + 2 * s0 ≤ N + 2 * s1) (b2 : K1 + 3 * s0 ≤ K + 3 * s1) : OutR e lim c σ s0 N K tab H r σ' N' K' tab' H' := by
  obtain ⟨a1, a2, a3, a4, a5, a6, a7, a8⟩ := h
  exact ⟨a1, hx.tr a2, by omega, fun j hj2 => by rw [a4 j (by omega), hj j hj2], a5, by omega, fun hr => by
    obtain ⟨c1, c2, c3⟩ := a7 hr
    exact ⟨by omega, by omega, c3⟩, a8⟩
section
variable {d : Nat} {Q : AQ} {σ : AS} {e : RE} {st : ES} {N K : Nat} {tab : Nat → TT} {H : List Nat}
theorem c_R_note (h : RS σ e st N K tab H) {p : Nat} (hp : p ≤ 240) {bits : Int} (kk : ∀ σ', RS σ' e (noteS p bits st) N K tab H → tX (fun f a => (f = 710 ∨ f = 711) ∧ a = 0) noA σ σ' → Q none σ') : wp (d + 1) m_Run_note [vr 7 0, vi (p : Nat), vi bits] σ Q := by
  obtain ⟨a1, a2, ⟨c1, c2, c3, c4, c5⟩, a4, ⟨f1, f2, f3⟩, a6⟩ := id h
  have rn : ∀ {σ'}, tX (fun f a => (f = 710 ∨ f = 711) ∧ a = 0) noA σ σ' → rnX σ σ' := fun t => t.mono (fun f a q => ⟨by rcases q.1 with w | w <;> omega, by rcases q.1 with w | w <;> omega, q.2⟩) (fun _ q => q)
  refine x_in (ls := [some _, some _, some _]) rfl rfl ?_
  refine x_iload_n i_Run_note_0 rfl ?_
  refine x_aload_n i_Run_note_1 rfl ?_
  refine x_getI i_Run_note_2 rfl rfl ?_
  rw [c4]
  refine x_icmp_le i_Run_note_5 (fun h1 => ?_) (fun h1 => ?_)
  · refine x_iload_n i_Run_note_21 rfl ?_
    refine x_aload_n i_Run_note_22 rfl ?_
    refine x_getI i_Run_note_23 rfl rfl ?_
    rw [show FI σ 710 0 = st.2.1.1 from c4]
    refine x_icmp_ne i_Run_note_26 (fun h2 => ?_) (fun h2 => ?_)
    · have e1 : noteS p bits st = st := by unfold noteS noteE; rw [if_neg (by omega), if_neg (fun q => h2 q)]
      rw [e1] at kk
      refine x_vret i_Run_note_39 rfl ?_
      exact kk σ h (tX.rf _ _ _)
    · have e1 : noteS p bits st = (st.1, (st.2.1.1, iOr st.2.1.2 bits), st.2.2) := by unfold noteS noteE; rw [if_neg (by omega), if_pos h2]
      refine x_aload_n i_Run_note_29 rfl ?_
      refine x_dup i_Run_note_30 ?_
      refine x_getI i_Run_note_31 rfl rfl ?_
      refine x_iload_n i_Run_note_34 rfl ?_
      refine x_ior i_Run_note_35 ?_
      refine x_putI i_Run_note_36 rfl rfl ?_
      rw [show FI σ 711 0 = st.2.1.2 from c5]
      refine x_vret i_Run_note_39 rfl ?_
      refine kk _ ?_ (tX_sFI ⟨Or.inr rfl, rfl⟩)
      rw [e1]
      exact h.upd (rnX_sFI (by omega) (by omega)) ⟨c1, c2, c3, c4, rfl⟩ a4 ⟨f1, f2, fun q => by have q : st.2.1.1 = -1 := q; omega⟩ rfl
  · have e1 : noteS p bits st = (st.1, ((p : Int), bits), st.2.2) := by unfold noteS noteE; rw [if_pos (by omega)]
    refine x_aload_n i_Run_note_8 rfl ?_
    refine x_iload_n i_Run_note_9 rfl ?_
    refine x_putI i_Run_note_10 rfl rfl ?_
    refine x_aload_n i_Run_note_13 rfl ?_
    refine x_iload_n i_Run_note_14 rfl ?_
    refine x_putI i_Run_note_15 rfl rfl ?_
    refine x_goto i_Run_note_18 ?_
    refine x_vret i_Run_note_39 rfl ?_
    refine kk _ ?_ ((tX_sFI ⟨Or.inl rfl, rfl⟩).tr (tX_sFI ⟨Or.inr rfl, rfl⟩))
    rw [e1]
    exact h.upd ((rnX_sFI (by omega) (by omega)).tr (rnX_sFI (by omega) (by omega))) ⟨c1, c2, c3, rfl, rfl⟩ a4 ⟨by show (-1 : Int) ≤ (p : Int); omega, by show (p : Int) ≤ 240; omega, fun q => by have q : (p : Int) = -1 := q; omega⟩ rfl
theorem c_A_bit {t : Nat} (kk : Q (some (vi (iShl 1 (FI σ 2 t)))) σ) : wp (d + 1) m_Atom_bit [vr 0 t] σ Q := by
  refine x_in (ls := [some _]) rfl rfl ?_
  refine x_iconst i_Atom_bit_0 ?_
  refine x_aload_n i_Atom_bit_1 rfl ?_
  refine x_getI i_Atom_bit_2 rfl rfl ?_
  refine x_ishl i_Atom_bit_5 ?_
  refine x_iret i_Atom_bit_6 rfl ?_
  exact kk
theorem c_R_expect (h : RS σ e st N K tab H) {p t a : Nat} (hp : p ≤ 240) (ht : FI σ 2 t = (a : Int)) (kk : ∀ σ', RS σ' e (expE a p st) N K tab H → tX (fun f a => (f = 710 ∨ f = 711) ∧ a = 0) noA σ σ' → Q none σ') : wp (d + 2) m_Run_expect [vr 7 0, vr 0 t, vi (p : Nat)] σ Q := by
  refine x_in (ls := [some _, some _, some _]) rfl rfl ?_
  refine x_aload_n i_Run_expect_0 rfl ?_
  refine x_ifnull_f i_Run_expect_1 (by intro q; cases q) ?_
  refine x_aload_n i_Run_expect_4 rfl ?_
  refine x_iload_n i_Run_expect_5 rfl ?_
  refine x_aload_n i_Run_expect_6 rfl ?_
  refine x_cv0 i_Run_expect_7 rfl rfl rfl ?_
  refine c_A_bit ?_
  rw [ht]
  refine x_cv2 i_Run_expect_10 rfl rfl rfl ?_
  refine c_R_note h hp (fun σ' g1 g2 => ?_)
  refine x_vret i_Run_expect_13 rfl ?_
  exact kk σ' g1 g2
theorem c_R_settled {v b : Int} {p : Nat} (hb : b = 0 ∨ b = 1) (kk : ∀ σ', tX (fun f a => (f = 706 ∨ f = 712) ∧ a = 0) noA σ σ' → FI σ' 706 0 = v → FI σ' 712 0 = b → Q (some (vi (if v = -2 then -19 else (p : Int)))) σ') : wp (d + 1) m_Run_settled [vr 7 0, vi v, vi b, vi (p : Nat)] σ Q := by
  have k := kk _ ((tX_sFI (v := v) ⟨Or.inl rfl, rfl⟩).tr (tX_sFI (v := b) (f := 712) (a := 0) ⟨Or.inr rfl, rfl⟩)) (by simp [FI_sFI]) (by simp [FI_sFI])
  refine x_in (ls := [some _, some _, some _, some _]) rfl rfl ?_
  refine x_aload_n i_Run_settled_0 rfl ?_
  refine x_iload_n i_Run_settled_1 rfl ?_
  refine x_putI i_Run_settled_2 rfl rfl ?_
  refine x_aload_n i_Run_settled_5 rfl ?_
  refine x_iload_n i_Run_settled_6 rfl ?_
  refine x_putZ i_Run_settled_7 rfl rfl (by omega) ?_
  refine x_iload_n i_Run_settled_10 rfl ?_
  refine x_bipush i_Run_settled_11 ?_
  refine x_icmp_ne i_Run_settled_13 (fun h1 => ?_) (fun h1 => ?_)
  · refine x_iload_n i_Run_settled_21 rfl ?_
    rw [if_neg (by omega)] at k
    refine x_iret i_Run_settled_22 rfl ?_
    exact k
  · refine x_bipush i_Run_settled_16 ?_
    refine x_goto i_Run_settled_18 ?_
    rw [if_pos (by omega)] at k
    refine x_iret i_Run_settled_22 rfl ?_
    exact k
end


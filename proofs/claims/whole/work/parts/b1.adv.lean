/-! WHAT READING KEEPS, pure -/
def exA (rule : Nat) (l l' : List AT) : Prop := ∃ ext, l' = l ++ ext ∧ ∀ a ∈ ext, a.1 = rule ∧ (a.2.2.1 = 0 → 0 ≤ a.2.2.2.1 ∧ a.2.2.2.1 ≤ 255)
def exN (lo hi : Nat) (l l' : List (Nat × Nat)) : Prop := ∃ ext, l' = l ++ ext ∧ ext.Pairwise (fun x y => x.1 < y.1) ∧ ∀ y ∈ ext, lo ≤ y.1 ∧ y.1 < hi ∧ y.2 < 8
theorem exA.rf (rule : Nat) (l : List AT) : exA rule l l := ⟨[], by simp, fun a h => by cases h⟩
theorem exN.rf (lo hi : Nat) (l : List (Nat × Nat)) : exN lo hi l l := ⟨[], by simp, List.Pairwise.nil, fun a h => by cases h⟩
theorem exA.tr {rule : Nat} {a b c : List AT} (h : exA rule a b) (g : exA rule b c) : exA rule a c := by
  obtain ⟨e1, h1, h2⟩ := h
  obtain ⟨e2, g1, g2⟩ := g
  exact ⟨e1 ++ e2, by rw [g1, h1, List.append_assoc], fun x hx => by
    rcases List.mem_append.mp hx with w | w
    · exact h2 x w
    · exact g2 x w⟩
theorem exN.tr {lo mi hi : Nat} {a b c : List (Nat × Nat)} (h : exN lo mi a b) (g : exN mi hi b c) (w1 : lo ≤ mi) (w2 : mi ≤ hi) : exN lo hi a c := by
  obtain ⟨e1, h1, h2, h3⟩ := h
  obtain ⟨e2, g1, g2, g3⟩ := g
  refine ⟨e1 ++ e2, by rw [g1, h1, List.append_assoc], List.pairwise_append.mpr ⟨h2, g2, fun x hx y hy => ?_⟩, fun x hx => ?_⟩
  · have := h3 x hx
    have := g3 y hy
    omega
  · rcases List.mem_append.mp hx with w | w
    · have := h3 x w; exact ⟨this.1, by omega, this.2.2⟩
    · have := g3 x w; exact ⟨by omega, this.2⟩
def advW (t : TP) (rule : Nat) (st st' : RT) : Prop := st.1 ≤ st'.1 ∧ st'.1 ≤ t.1 ∧ sk t st'.1 = st'.1 ∧ exA rule st.2.1 st'.2.1 ∧ exN st.1 st'.1 st.2.2 st'.2.2 ∧ st'.2.1.length ≤ 32
def advI (t : TP) (rule : Nat) (st st' : RT) : Prop := st.1 < st'.1 ∧ advW t rule st st'
def adv {A : Type} (t : TP) (rule : Nat) (st : RT) (R : PR A) : Prop := match R with
  | .inl p => st.1 ≤ p ∧ p ≤ t.1
  | .inr x => advI t rule st x.2
def advL {A : Type} (t : TP) (rule : Nat) (st : RT) (R : PR A) : Prop := match R with
  | .inl p => st.1 ≤ p ∧ p ≤ t.1
  | .inr x => advW t rule st x.2
def okT (t : TP) (st : RT) : Prop := st.1 ≤ t.1 ∧ sk t st.1 = st.1 ∧ st.2.1.length ≤ 32
theorem advW.tr {t : TP} {rule : Nat} {a b c : RT} (h : advW t rule a b) (g : advW t rule b c) : advW t rule a c := ⟨by have := h.1; have := g.1; omega, g.2.1, g.2.2.1, h.2.2.2.1.tr g.2.2.2.1, h.2.2.2.2.1.tr g.2.2.2.2.1 h.1 g.1, g.2.2.2.2.2⟩
theorem advW.ok {t : TP} {rule : Nat} {a b : RT} (h : advW t rule a b) : okT t b := ⟨h.2.1, h.2.2.1, h.2.2.2.2.2⟩
theorem advW.rf {t : TP} {rule : Nat} {a : RT} (h : okT t a) : advW t rule a a := ⟨Nat.le_refl _, h.1, h.2.1, exA.rf _ _, exN.rf _ _ _, h.2.2⟩
/-- one byte on -/
theorem advW.tok {t : TP} {rule : Nat} {st : RT} (h : okT t st) {c : Int} (hc : chT t st.1 = c) (h1 : c ≠ -1) : advI t rule st (sk t (st.1 + 1), st.2) := by
  have hlt : st.1 < t.1 := by
    unfold chT at hc
    split at hc
    · assumption
    · exact absurd hc.symm h1
  have := sk_ge t (st.1 + 1)
  exact ⟨by show st.1 < sk t (st.1 + 1); omega, by show st.1 ≤ sk t (st.1 + 1); omega, sk_le (by omega), sk_sk _ _, exA.rf _ _, exN.rf _ _ _, h.2.2⟩
theorem chT_lt {t : TP} {a : Nat} (h : chT t a ≠ -1) : a < t.1 := by
  unfold chT at h
  split at h
  · assumption
  · exact absurd rfl h
theorem chT_in {t : TP} (ht : tpOK t) (a : Nat) : -1 ≤ chT t a ∧ chT t a ≤ 255 ∧ (chT t a ≠ -1 → 0 ≤ chT t a) := by
  unfold chT
  split
  · have := ht.2 a (by assumption)
    exact ⟨by omega, by omega, fun _ => by omega⟩
  · exact ⟨by decide, by decide, fun w => absurd rfl w⟩
theorem adv.tr {A : Type} {t : TP} {rule : Nat} {a b : RT} {R : PR A} (h : advW t rule a b) (g : adv t rule b R) : adv t rule a R := by
  cases R with
  | inl p => exact ⟨Nat.le_trans h.1 g.1, g.2⟩
  | inr x => exact ⟨by have := h.1; have : b.1 < x.2.1 := g.1; omega, h.tr g.2⟩
section
variable {t : TP} (ht : tpOK t) {rule : Nat} {A : Type} {dA : A} {alt : Option (RT → PR A)} (ha : ∀ f, alt = some f → ∀ st, okT t st → adv t rule st (f st))
theorem adv_bod {kind num : Nat} {st : RT} (h : okT t st) (ha : ∀ f, alt = some f → ∀ st, okT t st → adv t rule st (f st)) : adv t rule st (bodP t dA alt kind num st) := by
  unfold bodP
  cases alt with
  | none => exact ⟨Nat.le_refl _, h.1⟩
  | some f =>
    simp only []
    split
    · rename_i hc
      have h1 := advW.tok (rule := rule) h hc (by decide)
      have h2 := ha f rfl _ h1.2.ok
      generalize f (sk t (st.1 + 1), st.2) = R at h2
      have h3 := adv.tr h1.2 h2
      cases R with
      | inl p => exact h3
      | inr x =>
        simp only []
        have h3 : advI t rule st x.2 := h3
        split
        · rename_i hd
          have h4 := advW.tok (rule := rule) h3.2.ok hd (by decide)
          exact ⟨Nat.lt_trans h3.1 h4.1, h3.2.tr h4.2⟩
        · exact ⟨h3.2.1, h3.2.2.1⟩
    · exact ⟨Nat.le_refl _, h.1⟩
theorem adv_cha {st : RT} (h : okT t st) (ha : ∀ f, alt = some f → ∀ st, okT t st → adv t rule st (f st)) : adv t rule st (chaP t alt st) := by
  unfold chaP
  cases alt with
  | none => exact ⟨Nat.le_refl _, h.1⟩
  | some f =>
    simp only []
    split
    · rename_i hc
      have h1 := advW.tok (rule := rule) h hc (by decide)
      have h2 := ha f rfl _ h1.2.ok
      generalize f (sk t (st.1 + 1), st.2) = R at h2
      have h3 := adv.tr h1.2 h2
      cases R with
      | inl p => exact h3
      | inr x =>
        simp only []
        have h3 : advI t rule st x.2 := h3
        split
        · rename_i hd
          have h4 := advW.tok (rule := rule) h3.2.ok hd (by decide)
          have h5 := ha f rfl _ h4.2.ok
          generalize f (sk t (x.2.1 + 1), x.2.2) = R at h5
          have h6 := adv.tr (h3.2.tr h4.2) h5
          cases R with
          | inl p => exact h6
          | inr y =>
            simp only []
            have h6 : advI t rule st y.2 := h6
            split
            · rename_i he
              have h7 := advW.tok (rule := rule) h6.2.ok he (by decide)
              exact ⟨Nat.lt_trans h6.1 h7.1, h6.2.tr h7.2⟩
            · exact ⟨h6.2.1, h6.2.2.1⟩
        · exact ⟨h3.2.1, h3.2.2.1⟩
    · exact ⟨Nat.le_refl _, h.1⟩
theorem adv_quo {st : RT} (ht : tpOK t) (h : okT t st) (hc : chT t st.1 = 39) : adv t rule st (quoP t rule dA st) := by
  have hlt := chT_lt (t := t) (a := st.1) (by rw [hc]; decide)
  unfold quoP
  split
  · exact ⟨Nat.le_refl _, h.1⟩
  · split
    · exact ⟨Nat.le_succ _, hlt⟩
    · rename_i hf hv
      have hlt1 := chT_lt (t := t) (a := st.1 + 1) (fun w => hv (Or.inl w))
      split
      · rename_i hd
        have hlt2 := chT_lt (t := t) (a := st.1 + 2) (by rw [hd]; decide)
        have := sk_ge t (st.1 + 3)
        refine ⟨by show st.1 < sk t (st.1 + 3); omega, by show st.1 ≤ sk t (st.1 + 3); omega, sk_le (by omega), sk_sk _ _, ⟨_, rfl, fun a hx => ?_⟩, exN.rf _ _ _, by show (st.2.1 ++ [_]).length ≤ 32; simp; omega⟩
        rw [List.mem_singleton.mp hx]
        have hb := chT_in ht (st.1 + 1)
        exact ⟨rfl, fun _ => ⟨hb.2.2 (fun w => hv (Or.inl w)), hb.2.1⟩⟩
      · exact ⟨by omega, hlt1⟩
theorem adv_ran {st : RT} (h : okT t st) (hc : chT t st.1 = 91) (ht : tpOK t) : adv t rule st (ranP t rule dA st) := by
  have hlt := chT_lt (t := t) (a := st.1) (by rw [hc]; decide)
  unfold ranP
  split
  · exact ⟨Nat.le_refl _, h.1⟩
  · split
    · exact ⟨Nat.le_succ _, hlt⟩
    · rename_i hf hv
      have hlt1 := chT_lt (t := t) (a := st.1 + 1) hv
      split
      · exact ⟨by omega, hlt1⟩
      · rename_i hw
        have hb := chT_in ht (st.1 + 1)
        have hlt2 := chT_lt (t := t) (a := st.1 + 2) (fun w => hw (by rw [w]; have := hb.2.2 hv; omega))
        split
        · rename_i hd
          have hlt3 := chT_lt (t := t) (a := st.1 + 3) (by rw [hd]; decide)
          have := sk_ge t (st.1 + 4)
          refine ⟨by show st.1 < sk t (st.1 + 4); omega, by show st.1 ≤ sk t (st.1 + 4); omega, sk_le (by omega), sk_sk _ _, ⟨_, rfl, fun a hx => ?_⟩, exN.rf _ _ _, by show (st.2.1 ++ [_]).length ≤ 32; simp; omega⟩
          rw [List.mem_singleton.mp hx]
          exact ⟨rfl, fun w => by cases w⟩
        · exact ⟨by omega, hlt2⟩
theorem kdW_lt {t : TP} {p e k : Nat} (h : kdW t p e = some k) : p < e ∧ 2 ≤ k ∧ k ≤ 10 := by
  have hw : ∀ w, w ≠ [] → isW t p e w = true → p < e := by
    intro w hw h
    unfold isW at h
    rw [Bool.and_eq_true, decide_eq_true_eq] at h
    have : 0 < w.length := List.length_pos_iff.mpr hw
    omega
  unfold kdW at h
  repeat' split at h
  all_goals first | (cases h; done) | skip
  all_goals (cases h; rename_i q; exact ⟨hw _ (by decide) q, by decide, by decide⟩)
theorem adv_wor {st : RT} (h : okT t st) (ha : ∀ f, alt = some f → ∀ st, okT t st → adv t rule st (f st)) : adv t rule st (worP t rule dA alt st) := by
  unfold worP
  cases hk : kdW t st.1 (we t st.1) with
  | none => exact ⟨Nat.le_refl _, h.1⟩
  | some k =>
    obtain ⟨k1, k2, k3⟩ := kdW_lt hk
    have hle := (we_all t _ st.1 rfl).2.1 h.1
    have := sk_ge t (we t st.1)
    simp only []
    have w0 : ∀ l' : List AT, exA rule st.2.1 l' → l'.length ≤ 32 → advI t rule st (sk t (we t st.1), l', st.2.2) := fun l' he hl => ⟨by show st.1 < sk t (we t st.1); omega, by show st.1 ≤ sk t (we t st.1); omega, sk_le hle, sk_sk _ _, he, exN.rf _ _ _, hl⟩
    split
    · split
      · exact ⟨Nat.le_refl _, h.1⟩
      · have w1 := w0 (st.2.1 ++ [(rule, st.1, k, -1, -1)]) ⟨_, rfl, fun a hx => by
          rw [List.mem_singleton.mp hx]
          exact ⟨rfl, fun w => by have : k = 0 := w; omega⟩⟩ (by simp; omega)
        split
        · have := adv_bod (dA := dA) (kind := k) (num := st.2.1.length) w1.2.ok ha
          exact adv.tr w1.2 this
        · exact w1
    · have w1 := w0 st.2.1 (exA.rf _ _) h.2.2
      split
      · exact w1
      · split
        · exact adv.tr w1.2 (adv_cha w1.2.ok ha)
        · exact adv.tr w1.2 (adv_bod w1.2.ok ha)
theorem isNm_in {c : Int} (h : isNm c = true) : 65 ≤ c ∧ c ≤ 72 := of_decide_eq_true h
theorem adv_par {st : RT} (ht : tpOK t) (h : okT t st) (ha : ∀ f, alt = some f → ∀ st, okT t st → adv t rule st (f st)) : adv t rule st (parP t rule dA alt st) := by
  unfold parP
  split
  · rename_i hc; exact adv_quo ht h hc
  · split
    · rename_i hc; exact adv_ran h hc ht
    · split
      · exact adv_bod h ha
      · split
        · rename_i hc
          have hn := isNm_in hc
          have w1 := advW.tok (rule := rule) h (c := chT t st.1) rfl (by omega)
          obtain ⟨v0, v1, v2, v3, v4, v5, v6⟩ := w1
          refine ⟨v0, v1, v2, v3, v4, ⟨_, rfl, List.pairwise_singleton _ _, fun y hy => ?_⟩, v6⟩
          rw [List.mem_singleton.mp hy]
          exact ⟨Nat.le_refl _, v0, by show (chT t st.1 - 65).toNat < 8; omega⟩
        · exact adv_wor h ha
theorem adv_tim {st : RT} {x : Item A × RT} (h : advI t rule st x.2) : advI t rule st (timP t x).2 := by
  have go : ∀ c : Int, c ≠ -1 → chT t x.2.1 = c → advI t rule st (sk t (x.2.1 + 1), x.2.2) := fun c h1 h2 => by
    have h4 := advW.tok (rule := rule) h.2.ok h2 h1
    exact ⟨Nat.lt_trans h.1 h4.1, h.2.tr h4.2⟩
  unfold timP
  split
  · rename_i q; exact go _ (by decide) q
  · split
    · rename_i q; exact go _ (by decide) q
    · split
      · rename_i q; exact go _ (by decide) q
      · exact h
theorem adv_itm {st : RT} (ht : tpOK t) (h : okT t st) (ha : ∀ f, alt = some f → ∀ st, okT t st → adv t rule st (f st)) : adv t rule st (itmP t rule dA alt st) := by
  unfold itmP
  split
  · have := adv_par (dA := dA) (rule := rule) ht h ha
    revert this
    generalize parP t rule dA alt st = R
    intro this
    cases R with
    | inl p => exact this
    | inr x => exact adv_tim (x := x) this
  · exact ⟨Nat.le_refl _, h.1⟩
theorem adv_seqL (ht : tpOK t) (ha : ∀ f, alt = some f → ∀ st, okT t st → adv t rule st (f st)) : ∀ (f : Nat) (acc : List (Item A)) (st : RT), okT t st → advL t rule st (seqLP t rule dA alt f acc st)
  | 0, acc, st, h => advW.rf h
  | f + 1, acc, st, h => by
    simp only [seqLP]
    split
    · have := adv_itm (dA := dA) (rule := rule) ht h ha
      revert this
      generalize itmP t rule dA alt st = R
      intro this
      cases R with
      | inl p => exact this
      | inr x =>
        simp only []
        have this : advI t rule st x.2 := this
        have := adv_seqL ht ha f (acc ++ [x.1]) x.2 this.2.ok
        revert this
        generalize seqLP t rule dA alt f (acc ++ [x.1]) x.2 = R
        intro g
        cases R with
        | inl p => exact ⟨Nat.le_trans (Nat.le_of_lt this.1) g.1, g.2⟩
        | inr y => exact this.2.tr g
    · exact advW.rf h
theorem adv_seq {st : RT} (ht : tpOK t) (h : okT t st) (ha : ∀ f, alt = some f → ∀ st, okT t st → adv t rule st (f st)) : adv t rule st (seqP t rule dA alt st) := by
  unfold seqP
  have := adv_itm (dA := dA) (rule := rule) ht h ha
  revert this
  generalize itmP t rule dA alt st = R
  intro this
  cases R with
  | inl p => exact this
  | inr x =>
    simp only []
    have this : advI t rule st x.2 := this
    have := adv_seqL (dA := dA) ht ha 240 [x.1] x.2 this.2.ok
    revert this
    generalize seqLP t rule dA alt 240 [x.1] x.2 = R
    intro g
    cases R with
    | inl p => exact ⟨Nat.le_trans (Nat.le_of_lt this.1) g.1, g.2⟩
    | inr y => exact ⟨Nat.lt_of_lt_of_le this.1 g.1, this.2.tr g⟩
theorem adv_altL (ht : tpOK t) (ha : ∀ f, alt = some f → ∀ st, okT t st → adv t rule st (f st)) : ∀ (f : Nat) (acc : List (List (Item A))) (st : RT), okT t st → advL t rule st (altLP t rule dA alt f acc st)
  | 0, acc, st, h => advW.rf h
  | f + 1, acc, st, h => by
    simp only [altLP]
    split
    · rename_i hc
      have h1 := advW.tok (rule := rule) h hc (by decide)
      have := adv.tr h1.2 (adv_seq (dA := dA) ht h1.2.ok ha)
      revert this
      generalize seqP t rule dA alt (sk t (st.1 + 1), st.2) = R
      intro this
      cases R with
      | inl p => exact this
      | inr x =>
        simp only []
        have this : advI t rule st x.2 := this
        have := adv_altL ht ha f (acc ++ [x.1]) x.2 this.2.ok
        revert this
        generalize altLP t rule dA alt f (acc ++ [x.1]) x.2 = R
        intro g
        cases R with
        | inl p => exact ⟨Nat.le_trans (Nat.le_of_lt this.1) g.1, g.2⟩
        | inr y => exact this.2.tr g
    · exact advW.rf h
theorem adv_alt {st : RT} (ht : tpOK t) (h : okT t st) (ha : ∀ f, alt = some f → ∀ st, okT t st → adv t rule st (f st)) : adv t rule st (altP t rule dA alt st) := by
  unfold altP
  have := adv_seq (dA := dA) (rule := rule) ht h ha
  revert this
  generalize seqP t rule dA alt st = R
  intro this
  cases R with
  | inl p => exact this
  | inr x =>
    simp only []
    have this : advI t rule st x.2 := this
    have := adv_altL (dA := dA) ht ha 240 [x.1] x.2 this.2.ok
    revert this
    generalize altLP t rule dA alt 240 [x.1] x.2 = R
    intro g
    cases R with
    | inl p => exact ⟨Nat.le_trans (Nat.le_of_lt this.1) g.1, g.2⟩
    | inr y => exact ⟨Nat.lt_of_lt_of_le this.1 g.1, this.2.tr g⟩
end
theorem adv_D {t : TP} (ht : tpOK t) {rule : Nat} : ∀ (k : Nat) (st : RT), okT t st → adv t rule st (altD t rule k st)
  | 0, st, h => adv_alt ht h (fun f w => by cases w)
  | k + 1, st, h => adv_alt ht h (fun f w st h => by injection w with w; subst w; exact adv_D ht k st h)


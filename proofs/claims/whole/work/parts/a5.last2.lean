/-! THE CLASS's Last: its calls -/
def flatO (o : Option TT) : List FL := match o with | none => [] | some t => flatT t 0
def textO (o : Option TT) : List Int := match o with | none => [] | some t => textT t
def worthO (o : Option TT) : Int := match o with | none => 0 | some t => worthT t
def goodO (o : Option TT) : Prop := ∀ t, o = some t → gA true t ∧ sizeT t ≤ 2000
def lasC (σ : AS) (r : RR) : Prop := FI σ 201 0 = r.2.2.2.2.1.1 ∧ FI σ 202 0 = r.2.2.2.2.1.2 ∧ FI σ 203 0 = (r.2.2.2.1.1 : Int) ∧ FI σ 204 0 = (r.2.2.2.1.2.2 : Int) ∧ FI σ 206 0 = bI (sharpE r) ∧ FI σ 205 0 = worthO (treeE r) ∧ goodO (treeE r) ∧ rowF σ 16 16 2000 (flatO (treeE r)).length (soF (flatO (treeE r))) ∧ rowF σ 17 17 2000 (flatO (treeE r)).length (nuF (flatO (treeE r))) ∧ rowF σ 18 18 2000 (flatO (treeE r)).length (wiF (flatO (treeE r))) ∧ (FI σ 212 0 = 0 ∨ (FI σ 212 0 = 1 ∧ rowLs σ 20 8000 (textO (treeE r))))
def lastC (σ : AS) (o : Option RR) : Prop := lsR σ ∧ (∃ n f, rowF σ 16 16 2000 n f) ∧ (∃ n f, rowF σ 17 17 2000 n f) ∧ (∃ n f, rowF σ 18 18 2000 n f) ∧ (∃ L, rowLs σ 19 2000 L) ∧ (∃ L, rowLs σ 20 8000 L) ∧ (match o with | none => FI σ 200 0 = 0 | some r => FI σ 200 0 = 1 ∧ lasC σ r)
def laCF (f a : Nat) : Prop := (200 ≤ f ∧ f ≤ 212 ∧ a = 0) ∨ (f = 601 ∧ 16 ≤ a ∧ a ≤ 20)
def laCA (a : Nat) : Prop := 16 ≤ a ∧ a ≤ 20
theorem lsX_la {σ σ' : AS} (h : tX lsF lsA σ σ') : tX laCF laCA σ σ' := h.mono (fun f a q => Or.inr ⟨q.1, q.2.1, by have := q.2.2; omega⟩) (fun a q => ⟨q.1, by have := q.2; omega⟩)
theorem spX_la {σ σ' : AS} (h : tX spF spA σ σ') : tX laCF laCA σ σ' := h.mono (fun f a q => Or.inr ⟨q.1, by have := q.2.1; omega, q.2.2⟩) (fun a q => ⟨by have := q.1; omega, q.2⟩)
theorem TrS.good {σ : AS} {N K : Nat} {tab : Nat → TT} {H : List Nat} (h : TrS σ N K tab H) : ∀ (D i : Nat), i < D → i < N → gA true (tab i)
  | 0, i, w, _ => absurd w (Nat.not_lt_zero _)
  | D + 1, i, w, hi => by
    obtain ⟨so, nu, fk, sz, va, ki, he, q, r1, r2, r3, r4, r5, r6, r7, z1, z2, z3⟩ := id h
    have kid : ∀ ts, kidsAt tab K fk ki i ts → ∀ t ∈ ts, gA true t := by
      rintro ts ⟨f0, a1, a2, a3⟩ t ht
      obtain ⟨j, hj⟩ := List.getElem?_of_mem ht
      obtain ⟨id', b1, b2, b3⟩ := a3 j t hj
      rw [← b3]
      exact TrS.good h D id' (by omega) (by omega)
    rcases (z1 i hi).2.2.1 with ⟨n, hn, h1, h2, h3⟩ | ⟨ts, h1, h2, h3, h4⟩ | ⟨c, a, b, hc, h1, h2, h3, h4⟩
    · rw [h1]; exact hn
    · rw [h1]; exact gA_list ts (kid ts h4)
    · rw [h1]; exact ⟨hc, kid _ h4 a (by simp), kid _ h4 b (by simp)⟩
section
variable {d : Nat} {Q : AQ} {σ : AS}
theorem c_L_forget (kk : Q none (sFI σ 200 0 0)) : wp (d + 1) m_Last_forget [vr 2 0] σ Q := by
  refine x_in (ls := [some _]) rfl rfl ?_
  refine x_aload_n i_Last_forget_0 rfl ?_
  refine x_iconst i_Last_forget_1 ?_
  refine x_putZ i_Last_forget_2 rfl rfl (by omega) ?_
  refine x_vret i_Last_forget_5 rfl ?_
  exact kk
theorem lastC.none {o : Option RR} (h : lastC σ o) : lastC (sFI σ 200 0 0) none := by
  obtain ⟨a1, ⟨n1, f1, a2⟩, ⟨n2, f2, a3⟩, ⟨n3, f3, a4⟩, ⟨L4, a5⟩, ⟨L5, a6⟩, -⟩ := h
  have k : ∀ {r c cap n : Nat} {f : Nat → Int}, rowF σ r c cap n f → rowF (sFI σ 200 0 0) r c cap n f := fun h => ⟨h.1, by rw [FI_sFI, if_neg (by omega)]; exact h.2.1, h.2.2⟩
  exact ⟨a1, ⟨n1, f1, k a2⟩, ⟨n2, f2, k a3⟩, ⟨n3, f3, k a4⟩, ⟨L4, k a5⟩, ⟨L5, k a6⟩, by simp [FI_sFI]⟩
theorem lastC.keep {σ' : AS} {F : Nat → Nat → Prop} {A : Nat → Prop} {o : Option RR} (h : lastC σ o) (hx : tX F A σ σ') (h1 : ∀ f a, F f a → ¬ laCF f a) (h2 : ∀ a, A a → ¬ laCA a) : lastC σ' o := by
  obtain ⟨a1, ⟨n1, f1, a2⟩, ⟨n2, f2, a3⟩, ⟨n3, f3, a4⟩, ⟨L4, a5⟩, ⟨L5, a6⟩, a7⟩ := h
  have k : ∀ {r cap n : Nat} {f : Nat → Int}, 16 ≤ r → r ≤ 20 → rowF σ r r cap n f → rowF σ' r r cap n f := fun w1 w2 h => hx.row h (fun q => h1 _ _ q (Or.inr ⟨rfl, w1, w2⟩)) (fun q => h2 _ q ⟨w1, w2⟩)
  have fi : ∀ f, 200 ≤ f → f ≤ 212 → FI σ' f 0 = FI σ f 0 := fun f w1 w2 => hx.1 _ _ (fun q => h1 _ _ q (Or.inl ⟨w1, w2, rfl⟩))
  refine ⟨a1.fr hx.2.1, ⟨n1, f1, k (by decide) (by decide) a2⟩, ⟨n2, f2, k (by decide) (by decide) a3⟩, ⟨n3, f3, k (by decide) (by decide) a4⟩, ⟨L4, k (by decide) (by decide) a5⟩, ⟨L5, k (by decide) (by decide) a6⟩, ?_⟩
  cases o with
  | none => show FI σ' 200 0 = 0; rw [fi _ (by decide) (by decide)]; exact a7
  | some r =>
    obtain ⟨b0, b1, b2, b3, b4, b5, b6, b7, b8, b9, b10, b11⟩ := a7
    exact ⟨by rw [fi _ (by decide) (by decide)]; exact b0, by rw [fi _ (by decide) (by decide)]; exact b1, by rw [fi _ (by decide) (by decide)]; exact b2, by rw [fi _ (by decide) (by decide)]; exact b3, by rw [fi _ (by decide) (by decide)]; exact b4, by rw [fi _ (by decide) (by decide)]; exact b5, by rw [fi _ (by decide) (by decide)]; exact b6, b7, k (by decide) (by decide) b8, k (by decide) (by decide) b9, k (by decide) (by decide) b10, by rw [fi _ (by decide) (by decide)]; exact b11.imp id (fun w => ⟨w.1, k (by decide) (by decide) w.2⟩)⟩
theorem c_L_nodes {r : RR} (h : lastC σ (some r)) (kk : Q (some (vi (match treeE r with | none => 0 | some t => (sizeT t : Int)))) σ) : wp (d + 2) m_Last_nodes [vr 2 0] σ Q := by
  obtain ⟨⟨p1, p2, p3, p4, p5⟩, -, -, -, -, -, b0, b1, b2, b3, b4, b5, b6, b7, b8, b9, b10, b11⟩ := h
  refine x_in (ls := [some _]) rfl rfl ?_
  refine x_aload_n i_Last_nodes_0 rfl ?_
  refine x_getR (c2 := 6) i_Last_nodes_1 rfl rfl (by assumption) ?_
  refine x_cv0 i_Last_nodes_4 rfl rfl rfl ?_
  refine c_Row_size b8 ?_
  have e : (((flatO (treeE r)).length : Nat) : Int) = (match treeE r with | none => 0 | some t => (sizeT t : Int)) := by
    cases treeE r with
    | none => rfl
    | some t => show ((flatT t 0).length : Int) = _; rw [flatT_len]
  rw [← e] at kk
  refine x_iret i_Last_nodes_7 rfl ?_
  exact kk
theorem rAt_node {l : List FL} {g : Nat → Int} {k : Int} : rAt l.length g k = if k < 0 ∨ (l.length : Int) ≤ k then -1 else g k.toNat := by
  unfold rAt
  by_cases w : 0 ≤ k ∧ k < l.length
  · rw [if_pos w, if_neg (by omega)]
  · rw [if_neg w, if_pos (by omega)]
theorem c_L_about {r : RR} (h : lastC σ (some r)) {k w : Int} (hw : 0 ≤ w ∧ w ≤ 2) (kk : Q (some (vi (nodeE (treeE r) k w))) σ) : wp (d + 3) m_Last_about [vr 2 0, vi k, vi w] σ Q := by
  obtain ⟨⟨p1, p2, p3, p4, p5⟩, -, -, -, -, -, b0, b1, b2, b3, b4, b5, b6, b7, b8, b9, b10, b11⟩ := h
  have e : ∀ g : Nat → Int, (∀ i, g i = if w = 0 then soF (flatO (treeE r)) i else if w = 2 then wiF (flatO (treeE r)) i else nuF (flatO (treeE r)) i) → rAt (flatO (treeE r)).length g k = nodeE (treeE r) k w := by
    intro g hg
    rw [rAt_node, hg]
    cases treeE r with
    | none =>
      show (if k < 0 ∨ ((0 : Nat) : Int) ≤ k then -1 else _) = -1
      rw [if_pos (by omega)]
    | some t =>
      rw [show flatO (some t) = flatT t 0 from rfl, flatT_len]
      simp only [nodeE]
      split
      · rfl
      · unfold soF wiF nuF numF entL
        split
        · rfl
        · split
          · rfl
          · split <;> rfl
  refine x_in (ls := [some _, some _, some _]) rfl rfl ?_
  refine x_iload_n i_Last_about_0 rfl ?_
  refine x_if_ne i_Last_about_1 (fun c0 => ?_) (fun c0 => ?_)
  · refine x_iload_n i_Last_about_15 rfl ?_
    refine x_iconst i_Last_about_16 ?_
    refine x_icmp_ne i_Last_about_17 (fun c1 => ?_) (fun c1 => ?_)
    · refine x_aload_n i_Last_about_31 rfl ?_
      refine x_getR (c2 := 6) i_Last_about_32 rfl rfl (by assumption) ?_
      refine x_iload_n i_Last_about_35 rfl ?_
      refine x_cv1 i_Last_about_36 rfl rfl rfl ?_
      refine c_at b10 ?_
      rw [e _ (fun i => by rw [if_neg c0, if_pos (by omega)])]
      refine x_iret i_Last_about_39 rfl ?_
      exact kk
    · refine x_aload_n i_Last_about_20 rfl ?_
      refine x_getR (c2 := 6) i_Last_about_21 rfl rfl (by assumption) ?_
      refine x_iload_n i_Last_about_24 rfl ?_
      refine x_cv1 i_Last_about_25 rfl rfl rfl ?_
      refine c_at b9 ?_
      rw [e _ (fun i => by rw [if_neg c0, if_neg (by omega)])]
      refine x_goto i_Last_about_28 ?_
      refine x_iret i_Last_about_39 rfl ?_
      exact kk
  · refine x_aload_n i_Last_about_4 rfl ?_
    refine x_getR (c2 := 6) i_Last_about_5 rfl rfl (by assumption) ?_
    refine x_iload_n i_Last_about_8 rfl ?_
    refine x_cv1 i_Last_about_9 rfl rfl rfl ?_
    refine c_at b8 ?_
    rw [e _ (fun i => by rw [if_pos (by omega)])]
    refine x_goto i_Last_about_12 ?_
    refine x_iret i_Last_about_39 rfl ?_
    exact kk
theorem c_L_spell {r : RR} (h : lastC σ (some r)) (kk : ∀ σ', tX spF spA σ σ' → rowLs σ' 20 8000 (textO (treeE r)) → (∃ L, rowLs σ' 19 2000 L) → Q none σ') : wp (d + 4) m_Last_spell [vr 2 0] σ Q := by
  obtain ⟨⟨p1, p2, p3, p4, p5⟩, -, -, -, ⟨L4, a5⟩, ⟨L5, a6⟩, b0, b1, b2, b3, b4, b5, b6, b7, b8, b9, b10, b11⟩ := h
  refine x_in (ls := [some _, none]) rfl rfl ?_
  refine x_aload_n i_Last_spell_0 rfl ?_
  refine x_getR (c2 := 6) i_Last_spell_1 rfl rfl (by assumption) ?_
  refine x_iconst i_Last_spell_4 ?_
  refine x_cv1 i_Last_spell_5 rfl rfl rfl ?_
  refine c_Ls_shrink a6 (j := 0) (Nat.zero_le _) (fun σ1 y1 x1 => ?_)
  have e1 := x1.2.1
  rw [← e1] at p1 p2 p3 p4 p5
  refine x_aload_n i_Last_spell_8 rfl ?_
  refine x_getR (c2 := 6) i_Last_spell_9 rfl rfl (by assumption) ?_
  refine x_iconst i_Last_spell_12 ?_
  refine x_cv1 i_Last_spell_13 rfl rfl rfl ?_
  refine c_Ls_shrink (a5.keep x1 (by decide)) (j := 0) (Nat.zero_le _) (fun σ2 y2 x2 => ?_)
  have e2 := x2.2.1
  rw [← e2] at p1 p2 p3 p4 p5
  refine x_iconst i_Last_spell_16 ?_
  refine x_istore_n (ls' := [_, _]) i_Last_spell_17 rfl rfl ?_
  have x12 : tX spF spA σ σ2 := (x1.tx ⟨rfl, by decide, by decide⟩ ⟨by decide, by decide⟩).tr (x2.tx ⟨rfl, by decide, by decide⟩ ⟨by decide, by decide⟩)
  have h2 : SpS σ2 (flatO (treeE r)) [] [] := ⟨⟨p1, p2, p3, p4, p5⟩, (b8.keep x1 (by decide) (by decide)).keep x2 (by decide) (by decide), (b9.keep x1 (by decide) (by decide)).keep x2 (by decide) (by decide), (b10.keep x1 (by decide) (by decide)).keep x2 (by decide) (by decide), by simpa [natL] using y2, by simpa using y1.keep x2 (by decide), by
    cases ht : treeE r with
    | none => exact Nat.zero_le _
    | some t => show (flatT t 0).length ≤ 2000; rw [flatT_len]; exact (b7 t ht).2, fun x hx => by cases hx⟩
  have fin : ∀ (σ3 : AS) (O : List Nat) (A : List Int), tX spF spA σ σ3 → SpS σ3 (flatO (treeE r)) O A → A ++ cloL (flatO (treeE r)) O = textO (treeE r) → A.length + O.length ≤ 8000 → Ex (wp (d + 3)) m_Last_spell Q 18 [some (vr 2 0), some (vi ((flatO (treeE r)).length : Nat))] [] σ3 := by
    intro σ3 O A x3 h3 e hA
    obtain ⟨⟨p1, p2, p3, p4, p5⟩, r16, r17, r18, r19, r20, hlen, hO⟩ := id h3
    refine x_iload_n i_Last_spell_18 rfl ?_
    refine x_aload_n i_Last_spell_19 rfl ?_
    refine x_getR (c2 := 6) i_Last_spell_20 rfl rfl (by assumption) ?_
    refine x_cv0 i_Last_spell_23 rfl rfl rfl ?_
    refine c_Row_size r16 ?_
    refine x_icmp_ge_t i_Last_spell_26 (by omega) ?_
    refine x_aload_n i_Last_spell_112 rfl ?_
    refine x_iconst i_Last_spell_113 ?_
    refine x_cv1 i_Last_spell_114 rfl rfl rfl ?_
    refine c_L_close h3 (left := 0) (Nat.zero_le _) (by omega) (fun σ4 x4 h4 => ?_)
    rw [List.drop_zero, e] at h4
    refine x_vret i_Last_spell_117 rfl ?_
    exact kk σ4 (x3.tr x4) h4.2.2.2.2.2.1 ⟨_, h4.2.2.2.2.1⟩
  cases ht : treeE r with
  | none =>
    rw [ht] at h2 fin
    exact fin σ2 [] [] x12 h2 rfl (Nat.zero_le _)
  | some t =>
    rw [ht] at h2 fin
    obtain ⟨g1, g2⟩ := b7 t ht
    have hlen : (textT t).length + 1 ≤ 4 * sizeT t := (text_len t).1 g1
    have e0 : flatO (some t) = flatT t 0 := rfl
    rw [e0] at h2 fin
    refine spell_tree 2000 t g1 g2 0 0 [] [] [] σ2 h2 (by rw [List.append_nil, List.drop_zero]) (Nat.zero_le _) (Nat.zero_le _) (by simp [sepL]; omega) (fun σ3 O3 A3 x3 h3 c1 c2 c3 => ?_)
    rw [List.drop_zero] at c3
    simp [cloL, sepL] at c3
    have hl3 := congrArg List.length c3
    rw [List.length_append] at hl3
    simp at hl3
    have := fin σ3 O3 A3 (x12.tr x3) h3 (by show A3 ++ cloL (flatT t 0) O3 = textT t; simpa [cloL] using c3) (by omega)
    rw [flatT_len] at this
    rw [Nat.zero_add]
    exact this
theorem c_L_sign {r : RR} (h : lastC σ (some r)) {k : Int} (kk : ∀ σ', tX laCF laCA σ σ' → lastC σ' (some r) → Q (some (vi (textE (treeE r) k))) σ') : wp (d + 5) m_Last_sign [vr 2 0, vi k] σ Q := by
  obtain ⟨⟨p1, p2, p3, p4, p5⟩, a2, a3, a4, ⟨L4, a5⟩, ⟨L5, a6⟩, b0, b1, b2, b3, b4, b5, b6, b7, b8, b9, b10, b11⟩ := id h
  have e : rAt (textO (treeE r)).length (fun j => (textO (treeE r)).getD j 0) k = textE (treeE r) k := by
    unfold rAt
    cases treeE r with
    | none =>
      show (if 0 ≤ k ∧ k < ((0 : Nat) : Int) then _ else -1) = -1
      rw [if_neg (by omega)]
    | some t =>
      rw [show textO (some t) = textT t from rfl]
      simp only [textE]
      by_cases w : 0 ≤ k ∧ k < (textT t).length
      · rw [if_pos w, if_neg (by omega)]
      · rw [if_neg w, if_pos (by omega)]
  have fin : ∀ σ2, tX laCF laCA σ σ2 → lastC σ2 (some r) → rowLs σ2 20 8000 (textO (treeE r)) → Ex (wp (d + 4)) m_Last_sign Q 16 [some (vr 2 0), some (vi k)] [] σ2 := by
    intro σ2 x2 h2 y2
    obtain ⟨p1, p2, p3, p4, p5⟩ := h2.1
    refine x_aload_n i_Last_sign_16 rfl ?_
    refine x_getR (c2 := 6) i_Last_sign_17 rfl rfl (by assumption) ?_
    refine x_iload_n i_Last_sign_20 rfl ?_
    refine x_cv1 i_Last_sign_21 rfl rfl rfl ?_
    refine c_at y2 ?_
    rw [e]
    refine x_iret i_Last_sign_24 rfl ?_
    exact kk σ2 x2 h2
  refine x_in (ls := [some _, some _]) rfl rfl ?_
  refine x_aload_n i_Last_sign_0 rfl ?_
  refine x_getI i_Last_sign_1 rfl rfl ?_
  refine x_if_ne i_Last_sign_4 (fun c0 => ?_) (fun c0 => ?_)
  · rcases b11 with w | ⟨w, b12⟩
    · exact absurd w c0
    · exact fin σ (tX.rf _ _ _) h b12
  · refine x_aload_n i_Last_sign_7 rfl ?_
    refine x_cv0 i_Last_sign_8 rfl rfl rfl ?_
    refine c_L_spell h (fun σ1 x1 y1 y2 => ?_)
    refine x_aload_n i_Last_sign_11 rfl ?_
    refine x_iconst i_Last_sign_12 ?_
    refine x_putZ i_Last_sign_13 rfl rfl (by omega) ?_
    have fi : ∀ f, f ≠ 601 → FI σ1 f 0 = FI σ f 0 := fun f hf => x1.1 _ _ (fun q => hf q.1)
    have k1 : ∀ {r cap n : Nat} {f : Nat → Int}, r < 19 → rowF σ r r cap n f → rowF σ1 r r cap n f := fun w h => x1.row h (fun q => by have := q.2.1; omega) (fun q => by have := q.1; omega)
    have k2 : ∀ {r c cap n : Nat} {f : Nat → Int}, rowF σ1 r c cap n f → rowF (sFI σ1 212 0 1) r c cap n f := fun h => ⟨h.1, by rw [FI_sFI, if_neg (by omega)]; exact h.2.1, h.2.2⟩
    obtain ⟨n1, f1, a2⟩ := a2
    obtain ⟨n2, f2, a3⟩ := a3
    obtain ⟨n3, f3, a4⟩ := a4
    obtain ⟨L, y2⟩ := y2
    have fj : ∀ f, f ≠ 601 → f ≠ 212 → FI (sFI σ1 212 0 1) f 0 = FI σ f 0 := fun f w1 w2 => by rw [FI_sFI, if_neg (fun q => w2 q.1), fi f w1]
    exact fin _ ((spX_la x1).tr (tX_sFI (Or.inl ⟨by decide, by decide, rfl⟩))) ⟨lsR.fr ⟨p1, p2, p3, p4, p5⟩ x1.2.1, ⟨n1, f1, k2 (k1 (by decide) a2)⟩, ⟨n2, f2, k2 (k1 (by decide) a3)⟩, ⟨n3, f3, k2 (k1 (by decide) a4)⟩, ⟨L, k2 y2⟩, ⟨_, k2 y1⟩, by rw [fj _ (by decide) (by decide)]; exact b0, by rw [fj _ (by decide) (by decide)]; exact b1, by rw [fj _ (by decide) (by decide)]; exact b2, by rw [fj _ (by decide) (by decide)]; exact b3, by rw [fj _ (by decide) (by decide)]; exact b4, by rw [fj _ (by decide) (by decide)]; exact b5, by rw [fj _ (by decide) (by decide)]; exact b6, b7, k2 (k1 (by decide) b8), k2 (k1 (by decide) b9), k2 (k1 (by decide) b10), Or.inr ⟨by simp [FI_sFI], k2 y1⟩⟩ (k2 y1)
end


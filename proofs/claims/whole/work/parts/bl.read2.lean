/-! THE CLASS's Reader: read, up to what MAY be -/
def rlsPost (C : Nat → Nat) (t : TP) (R : PR (Nat → Option (PT 9))) (σ0 σ σ' : AS) : Prop := newX σ0 σ' ∧ (match R with
  | .inl p => RdF σ' C t p 0 ∧ nC σ' ≤ nC σ + 4 * (t.1 + 1) + 37
  | .inr x => RdS σ' C t x.2 0 ∧ RdG σ' C x.1 x.2 ∧ nC σ' ≤ nC σ + 4 * x.2.1) ∧ nC σ ≤ nC σ' ∧ nS σ' + 7 * nC σ ≤ nS σ + 7 * nC σ'
section
variable {d : Nat} {Q : AQ} {σ : AS} {C : Nat → Nat} {t : TP} {st : RT}
theorem c_Rd_moreF {p : Nat} (h : RdF σ C t p 0) (kk : Q (some (vi 0)) σ) : wp (d + 4) m_Reader_more [vr 5 (C 0)] σ Q := by
  have b5 := h.2.2.2.2.1
  refine x_in (ls := [some _]) rfl rfl ?_
  refine x_aload_n i_Reader_more_0 rfl ?_
  refine x_getI i_Reader_more_1 rfl rfl ?_
  rw [b5]
  refine x_iconst i_Reader_more_4 ?_
  refine x_icmp_ne_t i_Reader_more_5 (by omega) ?_
  refine x_iconst i_Reader_more_20 ?_
  refine x_zret i_Reader_more_21 rfl (by omega) ?_
  exact kk
theorem c_Rd_moreS (h : RdS σ C t st 0) (kk : ∀ σ', rsX (C 0) σ σ' → RdS σ' C t st 0 → Q (some (vi (bI (decide (st.1 < t.1))))) σ') : wp (d + 4) m_Reader_more [vr 5 (C 0)] σ Q := by
  have b5 := h.2.2.2.2.1
  have ht := h.1.2.2.2.2.2.2.2.1
  have hin := chT_in ht st.1
  refine x_in (ls := [some _]) rfl rfl ?_
  refine x_aload_n i_Reader_more_0 rfl ?_
  refine x_getI i_Reader_more_1 rfl rfl ?_
  rw [b5]
  refine x_iconst i_Reader_more_4 ?_
  refine x_icmp_ne_f i_Reader_more_5 rfl ?_
  refine x_aload_n i_Reader_more_8 rfl ?_
  refine x_cv0 i_Reader_more_9 rfl rfl rfl ?_
  refine c_Rd_aheadS h (fun σ1 x1 h1 f1 => ?_)
  refine x_iconst i_Reader_more_12 ?_
  by_cases w : st.1 < t.1
  · have hb := ht.2 st.1 w
    have e : chT t st.1 = t.2 st.1 := if_pos w
    have := kk σ1 x1 h1
    rw [decide_eq_true w] at this
    refine x_icmp_eq_f i_Reader_more_13 (by omega) ?_
    refine x_iconst i_Reader_more_16 ?_
    refine x_goto i_Reader_more_17 ?_
    refine x_zret i_Reader_more_21 rfl (by omega) ?_
    exact this
  · have e : chT t st.1 = -1 := if_neg w
    have := kk σ1 x1 h1
    rw [decide_eq_false w] at this
    refine x_icmp_eq_t i_Reader_more_13 (by omega) ?_
    refine x_iconst i_Reader_more_20 ?_
    refine x_zret i_Reader_more_21 rfl (by omega) ?_
    exact this
theorem Rd_rulesLoop {σ0 : AS} (hC : newC C σ0) : ∀ (f i : Nat) (R : Nat → Option (PT 9)) (st : RT) (σ1 : AS), i + f = 8 → newX σ0 σ1 → RdS σ1 C t st 0 → RdG σ1 C R st → nC σ1 ≤ nC σ + 4 * st.1 → nC σ ≤ nC σ1 → nS σ1 + 7 * nC σ ≤ nS σ + 7 * nC σ1 → (∀ σ', rlsPost C t (rulLP t f R st) σ0 σ σ' → Ex (wp (d + 81)) m_Reader_read Q 29 [some (vr 5 (C 0)), none] [] σ') → Ex (wp (d + 81)) m_Reader_read Q 6 [some (vr 5 (C 0)), some (vi (i : Nat))] [] σ1 := by
  have exitF : ∀ (i p : Nat) (σ1 : AS), RdF σ1 C t p 0 → Ex (wp (d + 81)) m_Reader_read Q 29 [some (vr 5 (C 0)), none] [] σ1 → Ex (wp (d + 81)) m_Reader_read Q 6 [some (vr 5 (C 0)), some (vi (i : Nat))] [] σ1 := by
    intro i p σ1 h kk
    refine x_iload_n i_Reader_read_6 rfl ?_
    refine x_bipush i_Reader_read_7 ?_
    refine x_icmp_ge i_Reader_read_9 (fun g1 => ?_) (fun g1 => ?_)
    · refine Ex.weak (ls := [_, none]) ⟨Or.inr rfl, Or.inl rfl, trivial⟩ ?_
      exact kk
    · refine x_aload_n i_Reader_read_12 rfl ?_
      refine x_cv0 i_Reader_read_13 rfl rfl rfl ?_
      refine c_Rd_moreF h ?_
      refine x_if_eq_t i_Reader_read_16 rfl ?_
      refine Ex.weak (ls := [_, none]) ⟨Or.inr rfl, Or.inl rfl, trivial⟩ ?_
      exact kk
  intro f
  induction f with
  | zero =>
    intro i R st σ1 hi hX h hG hn hn2 hs kk
    refine x_iload_n i_Reader_read_6 rfl ?_
    refine x_bipush i_Reader_read_7 ?_
    refine x_icmp_ge_t i_Reader_read_9 (by omega) ?_
    refine Ex.weak (ls := [_, none]) ⟨Or.inr rfl, Or.inl rfl, trivial⟩ ?_
    exact kk σ1 ⟨hX, ⟨h, hG, hn⟩, hn2, hs⟩
  | succ f ih =>
    intro i R st σ1 hi hX h hG hn hn2 hs kk
    simp only [rulLP] at kk
    have hle := h.2.1.1
    have ht := h.1.2.2.2.2.2.2.2.1
    refine x_iload_n i_Reader_read_6 rfl ?_
    refine x_bipush i_Reader_read_7 ?_
    refine x_icmp_ge_f i_Reader_read_9 (by omega) ?_
    refine x_aload_n i_Reader_read_12 rfl ?_
    refine x_cv0 i_Reader_read_13 rfl rfl rfl ?_
    refine c_Rd_moreS h (fun σ2 x2 h2 => ?_)
    have hX2 := hX.rs hC x2
    have hG2 := hG.rd h.1 x2.rd
    have n2 : nC σ2 = nC σ1 := x2.2.2.2.2.2.2.1
    have s2 : nS σ2 = nS σ1 := x2.2.2.2.2.2.2.2
    by_cases w : st.1 < t.1
    · rw [if_pos w] at kk
      rw [decide_eq_true w]
      refine x_if_eq_f i_Reader_read_16 (by decide) ?_
      refine x_aload_n i_Reader_read_19 rfl ?_
      refine x_cv0 i_Reader_read_20 rfl rfl rfl ?_
      refine c_Rd_readRule hC hX2 h2 hG2 (fun σ3 p3 => ?_)
      obtain ⟨p31, p32, p33, p34⟩ := p3
      refine x_iinc (ls' := [_, _]) i_Reader_read_23 rfl (by omega) rfl ?_
      refine x_goto i_Reader_read_26 ?_
      have nm := @rulP_names t ht R st h2.2.1
      revert p32 kk nm
      generalize rulP t R st = RR
      cases RR with
      | inl p =>
        intro kk p32 nm
        obtain ⟨a1, a2⟩ := p32
        exact exitF (i + 1) p σ3 a1 (kk σ3 ⟨p31, ⟨a1, by omega⟩, by omega, by omega⟩)
      | inr x =>
        intro kk p32 nm
        obtain ⟨a1, a2, a3⟩ := p32
        have lt := (nm rfl).1
        exact ih (i + 1) x.1 x.2 σ3 (by omega) p31 a1 a2 (by omega) (by omega) (by omega) kk
    · rw [if_neg w] at kk
      rw [decide_eq_false w]
      refine x_if_eq_t i_Reader_read_16 rfl ?_
      refine Ex.weak (ls := [_, none]) ⟨Or.inr rfl, Or.inl rfl, trivial⟩ ?_
      exact kk σ2 ⟨hX2, ⟨h2, hG2, by show nC σ2 ≤ nC σ + 4 * st.1; omega⟩, by omega, by omega⟩
end


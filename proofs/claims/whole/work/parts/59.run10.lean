/-! A RUN OF THE CLASS: item, whole -/
def partF (e : RE) (k n : Nat) (it : Item (PT n)) : Nat → ES → RR := partE e.2.1 (eZ e) (fun a => altE e.2.1 (eZ e) e.2.2 k n a) (ruledE e k) (decide (k = 0)) it
theorem repE_s {part : Nat → ES → RR} {plus : Bool} {f p : Nat} {cut : Bool} {acc : List TT} {first : Bool} {st : ES} {r : RR} (hr : part p st = r) : repE part plus (f + 1) p cut acc first st =
    if r.1 < -5 then r
    else if r.1 = -5 then
      if r.2.2.1 = true then r
      else if plus = true ∧ first = true then (-5, none, false, r.2.2.2)
      else if 2000 < sizeT (boughT acc) then (-19, none, false, r.2.2.2)
      else ((p : Int), some (boughT acc), cut, r.2.2.2)
    else if r.1 = (p : Int) then (-15, none, false, r.2.2.2)
    else repE part plus f r.1.toNat (cut || r.2.2.1) (acc ++ r.2.1.toList) false r.2.2.2 := by
  simp only [repE]
  rw [hr]
section
variable {d : Nat} {Q : AQ} {σ : AS} {e : RE} {st : ES} {N K : Nat} {tab : Nat → TT} {H : List Nat}
theorem c_R_item {k dep n : Nat} (hk : dep + k = 60) (ha : k ≠ 0 → ∀ n, AltC e (d + 3) k (dep + 1) n) {it : Item (PT n)} {a : Nat} {p : Nat} (h : RS σ e st N K tab H) (hi : itR σ e.1.2.1 n it a) (hp : p ≤ eZ e) (kk : PostR e Q 0 3 σ st.1.1 N K tab H (itemE (partF e k n it) it.1.2.1 p st)) : wp (d + 5) m_Run_item [vr 7 0, vr 4 a, vi (p : Nat), vi (dep : Nat)] σ Q := by
  have it4 := hi.2.2.2.1
  have ti : ∀ {σ'}, runX σ σ' → FI σ' 401 a = (it.1.2.1 : Int) := fun hx => (hi.run hx).2.1
  have hz : eZ e ≤ 240 := h.1.2.2.2.2.2.2.2.1
  have b0 := h.2.2.2.1
  obtain ⟨b01, b02, b03, b04, b05, b06⟩ := b0
  -- an answer that is given as it is
  have back : ∀ (x2 x3 x4 x5 x6 x7 : Option AV) (v : Int) (σ' : AS), Q (some (vi v)) σ' → Ex (wp (d + 4)) m_Run_item Q 130 [some (vr 7 0), some (vr 4 a), x2, x3, x4, x5, x6, x7, some (vi v)] [] σ' := by
    intro x2 x3 x4 x5 x6 x7 v σ' k1
    refine x_iload i_Run_item_130 rfl ?_
    refine x_iret i_Run_item_132 rfl ?_
    exact k1
  have loop : 42 ≤ it.1.2.1 → it.1.2.1 ≤ 43 → ∀ (f : Nat) (round : Nat) (σ1 : AS) (st1 : ES) (N1 K1 : Nat) (tab1 : Nat → TT) (T : List Nat) (p1 : Nat) (cut : Bool) (j : Nat), f + round = 1001 → RS σ1 e st1 N1 K1 tab1 (H ++ T) → runX σ σ1 → p1 ≤ eZ e → N ≤ N1 → (∀ j, j < N → tab1 j = tab j) → st.1.1 ≤ st1.1.1 → N1 + 2 * j + 2 * st.1.1 ≤ N + 2 * st1.1.1 → K1 + 3 * j + 3 * st.1.1 ≤ K + 3 * st1.1.1 → T.length ≤ j → PostR e Q 0 3 σ st.1.1 N K tab H (repE (partF e k n it) (decide (it.1.2.1 = 43)) f p1 cut (T.map tab1) (decide (round = 0)) st1) → Ex (wp (d + 4)) m_Run_item Q 18 [some (vr 7 0), some (vr 4 a), some (vi (p : Nat)), some (vi (dep : Nat)), some (vi (H.length : Nat)), some (vi (p1 : Nat)), some (vi (bI cut)), some (vi (round : Nat)), none] [] σ1 := by
    intro hm1 hm2 f
    induction f with
    | zero =>
      intro round σ1 st1 N1 K1 tab1 T p1 cut j hf h1 x1 hp1 hN ht hst b1 b2 b3 kk
      refine x_iload i_Run_item_18 rfl ?_
      refine x_sipush i_Run_item_20 ?_
      refine x_icmp_gt_t i_Run_item_23 (by omega) ?_
      refine x_bipush i_Run_item_267 ?_
      refine x_iret i_Run_item_269 rfl ?_
      exact kk σ1 N1 K1 tab1 (H ++ T) (OutR.err h1 x1 hN ht ⟨T, rfl⟩ hst (by show (-17 : Int) < -9; decide))
    | succ f ih =>
      intro round σ1 st1 N1 K1 tab1 T p1 cut j hf h1 x1 hp1 hN ht hst b1 b2 b3 kk
      have hlen := h1.2.2.2.1.2.2.2.2.2
      have hcut := bI_01 cut
      have lT : (H ++ T).length = H.length + T.length := List.length_append
      have hTl : ∀ i ∈ T, i < N1 := fun i hi => h1.2.1.lt i (List.mem_append_right _ hi)
      refine x_iload i_Run_item_18 rfl ?_
      refine x_sipush i_Run_item_20 ?_
      refine x_icmp_gt_f i_Run_item_23 (by omega) ?_
      refine x_part hk ha h1 (hi.run x1) hp1 (fun σ2 N2 K2 tab2 H2 ho => ?_)
      generalize hr : partE e.2.1 (eZ e) (fun a => altE e.2.1 (eZ e) e.2.2 k n a) (ruledE e k) (decide (k = 0)) it p1 st1 = r at ho
      rw [repE_s (part := partF e k n it) (r := r) hr] at kk
      obtain ⟨u1, u2, u3, u4, u5, u6, u7, u8, u9⟩ := ho
      have x2 : runX σ σ2 := x1.tr u2
      have hE : ∃ E, H2 = H ++ E := by
        obtain ⟨E, h⟩ := u5
        exact ⟨T ++ E, by rw [h, List.append_assoc]⟩
      have ext2 : ∀ j, j < N → tab2 j = tab j := fun j hj => by rw [u4 j (by omega), ht j hj]
      refine x_aload_n i_Run_item_102 rfl ?_
      refine x_getI i_Run_item_103 rfl rfl ?_
      rw [ti x2]
      refine x_if_eq_f i_Run_item_106 (by omega) ?_
      refine x_iload i_Run_item_109 rfl ?_
      refine x_bipush i_Run_item_111 ?_
      refine x_icmp_lt i_Run_item_113 (fun h1 => ?_) (fun h1 => ?_)
      · rw [if_pos h1] at kk
        exact back _ _ _ _ _ _ _ _ (kk σ2 N2 K2 tab2 H2 (OutR.err u1 x2 (by omega) ext2 hE (by omega) (by omega)))
      · rw [if_neg (by omega)] at kk
        obtain ⟨t1, t2, t3, t4⟩ := u7 (by omega)
        have e2 : ∀ j', Ex (wp (d + 4)) m_Run_item Q 133 [some (vr 7 0), some (vr 4 a), some (vi (p : Nat)), some (vi (dep : Nat)), some (vi (H.length : Nat)), some (vi (p1 : Nat)), some (vi (bI cut)), some (vi (round : Nat)), some (vi r.1)] [] σ2 → j' = 133 → Ex (wp (d + 4)) m_Run_item Q j' [some (vr 7 0), some (vr 4 a), some (vi (p : Nat)), some (vi (dep : Nat)), some (vi (H.length : Nat)), some (vi (p1 : Nat)), some (vi (bI cut)), some (vi (round : Nat)), some (vi r.1)] [] σ2 := fun j' h w => by rw [w]; exact h
        refine x_iload i_Run_item_116 rfl ?_
        refine x_bipush i_Run_item_118 ?_
        refine x_icmp_ne i_Run_item_120 (fun h2 => ?_) (fun h2 => ?_)
        · -- a round is done
          rw [if_neg h2] at kk
          have r0 : 0 ≤ r.1 := by omega
          obtain ⟨y1, o2, y2, y3, y4⟩ := u8 r0
          have t5 := t4 (by omega)
          have e1 : ((r.1.toNat : Nat) : Int) = r.1 := by omega
          clear u7 u8 t4
          refine x_aload_n i_Run_item_133 rfl ?_
          refine x_getI i_Run_item_134 rfl rfl ?_
          refine x_bipush i_Run_item_137 ?_
          rw [ti x2]
          refine x_icmp_ne_t i_Run_item_139 (by omega) ?_
          refine x_iload i_Run_item_165 rfl ?_
          refine x_bipush i_Run_item_167 ?_
          refine x_icmp_ne_t i_Run_item_169 (by omega) ?_
          refine x_iload i_Run_item_209 rfl ?_
          refine x_iload i_Run_item_211 rfl ?_
          refine x_icmp_ne i_Run_item_213 (fun h3 => ?_) (fun h3 => ?_)
          · rw [if_neg h3] at kk
            obtain ⟨⟨⟨v1, v2, v3, v4⟩, -⟩, tr2, -, ⟨c1, c2, c3, c4, c5, c6⟩, -⟩ := id u1
            rw [t5] at tr2 c6 u1
            rw [lT] at c6
            have next : ∀ (σ3 : AS) (T3 : List Nat) (v : Int), RS σ3 e r.2.2.2 N2 K2 tab2 (H ++ T3) → runX σ2 σ3 → T3.length ≤ j + 1 → v = bI (cut || r.2.2.1) → PostR e Q 0 3 σ st.1.1 N K tab H (repE (partF e k n it) (decide (it.1.2.1 = 43)) f r.1.toNat (cut || r.2.2.1) (T3.map tab2) false r.2.2.2) → Ex (wp (d + 4)) m_Run_item Q 261 [some (vr 7 0), some (vr 4 a), some (vi (p : Nat)), some (vi (dep : Nat)), some (vi (H.length : Nat)), some (vi r.1), some (vi v), some (vi (round : Nat)), some (vi r.1)] [] σ3 := by
              intro σ3 T3 v z1 z2 z3 z4 z5
              rw [z4]
              have := ih (round + 1) σ3 _ N2 K2 tab2 T3 r.1.toNat (cut || r.2.2.1) (j + 1) (by omega) z1 (x2.tr z2) (by omega) (by omega) ext2 (by omega) (by omega) (by omega) z3 (by rw [decide_eq_false (show ¬ (round + 1 = 0) by omega)]; exact z5)
              refine x_iinc (ls' := [_, _, _, _, _, _, _, _, _]) i_Run_item_261 rfl (by omega) rfl ?_
              refine x_goto i_Run_item_264 ?_
              refine Ex.weak (ls := [_, _, _, _, _, _, _, _, none]) ⟨Or.inr rfl, Or.inr rfl, Or.inr rfl, Or.inr rfl, Or.inr rfl, Or.inr rfl, Or.inr rfl, Or.inr rfl, Or.inl rfl, trivial⟩ ?_
              rw [e1] at this
              exact this
            have hold : ∀ v : Int, v = bI (cut || r.2.2.1) → Ex (wp (d + 4)) m_Run_item Q 240 [some (vr 7 0), some (vr 4 a), some (vi (p : Nat)), some (vi (dep : Nat)), some (vi (H.length : Nat)), some (vi r.1), some (vi (bI cut)), some (vi (round : Nat)), some (vi r.1)] [vi v] σ2 := by
              intro v hv
              refine x_istore (ls' := [_, _, _, _, _, _, _, _, _]) i_Run_item_240 rfl rfl ?_
              refine x_aload_n i_Run_item_242 rfl ?_
              refine x_getI i_Run_item_243 rfl rfl ?_
              refine x_iconst i_Run_item_246 ?_
              rw [y2]
              refine x_icmp_eq i_Run_item_247 (fun h7 => ?_) (fun h7 => ?_)
              · have : o2 = none := oI_neg.mp h7
                subst this
                refine next σ2 T v u1 (tX.rf _ _ _) (by omega) hv ?_
                rw [map_ext_lt hTl u4]
                rw [← y4] at kk
                simpa using kk
              · cases o2 with
                | none => exact absurd rfl h7
                | some i2 =>
                  have hi2 := y3 i2 rfl
                  refine x_aload_n i_Run_item_250 rfl ?_
                  refine x_getR (c2 := 9) i_Run_item_251 rfl rfl (by assumption) ?_
                  refine x_aload_n i_Run_item_254 rfl ?_
                  refine x_getI i_Run_item_255 rfl rfl ?_
                  rw [y2]
                  refine x_cv1 i_Run_item_258 rfl rfl rfl ?_
                  refine c_T_hold tr2 hi2 (by omega) (fun σ3 a1 a2 => ?_)
                  rw [List.append_assoc] at a1
                  refine next σ3 (T ++ [i2]) v (u1.tr a2 a1 (Nat.le_refl _) (fun _ _ => rfl) ⟨c1, c2, c3, c4, c5, ?_⟩) a2.run (by simp; omega) hv ?_
                  · simp only [List.length_append, List.length_singleton]
                    rw [lT] at hlen
                    omega
                  · rw [List.map_append, map_ext_lt hTl u4]
                    rw [← y4] at kk
                    exact kk
            refine x_iload i_Run_item_219 rfl ?_
            refine x_istore (ls' := [_, _, _, _, _, _, _, _, _]) i_Run_item_221 rfl rfl ?_
            refine x_iload i_Run_item_223 rfl ?_
            refine x_if_ne i_Run_item_225 (fun h8 => ?_) (fun h8 => ?_)
            · refine x_iconst i_Run_item_235 ?_
              refine x_goto i_Run_item_236 ?_
              exact hold 1 (by rw [bI_t h8]; rfl)
            · refine x_aload_n i_Run_item_228 rfl ?_
              refine x_getI i_Run_item_229 rfl rfl ?_
              rw [t3]
              refine x_if_eq i_Run_item_232 (fun h9 => ?_) (fun h9 => ?_)
              · refine x_iconst i_Run_item_239 ?_
                exact hold 0 (by rw [bI_f h8, Bool.false_or]; exact h9.symm)
              · refine x_iconst i_Run_item_235 ?_
                refine x_goto i_Run_item_236 ?_
                exact hold 1 (by rw [bI_t h9, Bool.or_true]; rfl)
          · rw [if_pos h3] at kk
            refine x_bipush i_Run_item_216 ?_
            refine x_iret i_Run_item_218 rfl ?_
            exact kk σ2 N2 K2 tab2 H2 (OutR.err u1 x2 (by omega) ext2 hE (by show st.1.1 ≤ r.2.2.2.1.1; omega) (by show (-15 : Int) < -9; decide))
        · rw [if_pos h2] at kk
          have t5 := t4 (by omega)
          clear u7 u8 t4
          refine x_aload_n i_Run_item_123 rfl ?_
          refine x_getI i_Run_item_124 rfl rfl ?_
          rw [t3]
          refine x_if_eq i_Run_item_127 (fun h3 => ?_) (fun h3 => ?_)
          · have hs := bI_f h3
            rw [if_neg (by rw [hs]; decide)] at kk
            refine x_aload_n i_Run_item_133 rfl ?_
            refine x_getI i_Run_item_134 rfl rfl ?_
            refine x_bipush i_Run_item_137 ?_
            rw [ti x2]
            refine x_icmp_ne_t i_Run_item_139 (by omega) ?_
            refine x_iload i_Run_item_165 rfl ?_
            refine x_bipush i_Run_item_167 ?_
            refine x_icmp_ne_f i_Run_item_169 (by omega) ?_
            refine x_aload_n i_Run_item_172 rfl ?_
            refine x_getI i_Run_item_173 rfl rfl ?_
            refine x_bipush i_Run_item_176 ?_
            rw [ti x2]
            have bough : ¬ (decide (it.1.2.1 = 43) = true ∧ decide (round = 0) = true) → Ex (wp (d + 4)) m_Run_item Q 191 [some (vr 7 0), some (vr 4 a), some (vi (p : Nat)), some (vi (dep : Nat)), some (vi (H.length : Nat)), some (vi (p1 : Nat)), some (vi (bI cut)), some (vi (round : Nat)), some (vi r.1)] [] σ2 := by
              intro hn
              rw [if_neg hn] at kk
              rw [← map_ext_lt hTl u4] at kk
              obtain ⟨⟨⟨v1, v2, v3, v4⟩, -⟩, tr2, -, ⟨c1, c2, c3, c4, c5, c6⟩, -⟩ := id u1
              subst t5
              rw [lT] at c6
              have fin : ∀ (v : Int) (σ3 : AS) (N3 K3 : Nat) (tab3 : Nat → TT) (H3 : List Nat), RS σ3 e r.2.2.2 N3 K3 tab3 H3 → runX σ σ3 → (∀ σ4, RS σ4 e r.2.2.2 N3 K3 tab3 H3 → runX σ σ4 → FI σ4 706 0 = v → FI σ4 712 0 = bI cut → Q (some (vi (if v = -2 then -19 else (p1 : Int)))) σ4) → Ex (wp (d + 4)) m_Run_item Q 201 [some (vr 7 0), some (vr 4 a), some (vi (p : Nat)), some (vi (dep : Nat)), some (vi (H.length : Nat)), some (vi (p1 : Nat)), some (vi (bI cut)), some (vi (round : Nat)), some (vi r.1)] [vi v, vr 7 0] σ3 := by
                intro v σ3 N3 K3 tab3 H3 z1 z2 z3
                refine x_iload i_Run_item_201 rfl ?_
                refine x_iload i_Run_item_203 rfl ?_
                refine x_cv3 i_Run_item_205 rfl rfl rfl ?_
                refine c_R_settled hcut (fun σ4 w1 w2 w3 => ?_)
                have w1 : tsX σ3 σ4 := w1
                refine x_iret i_Run_item_208 rfl ?_
                exact z3 σ4 (z1.set w1) (z2.tr w1.run) w2 w3
              refine x_aload_n i_Run_item_191 rfl ?_
              refine x_aload_n i_Run_item_192 rfl ?_
              refine x_getR (c2 := 9) i_Run_item_193 rfl rfl (by assumption) ?_
              refine x_iload i_Run_item_196 rfl ?_
              refine x_cv1 i_Run_item_198 rfl rfl rfl ?_
              refine c_T_bough tr2 (mk := H.length) (by omega) (by omega) (by omega) (fun q1 => ?_) (fun q1 q2 => ?_) (fun q1 q2 σ3 tab3 q3 q4 q5 q6 => ?_)
              · have eT : T = [] := List.eq_nil_of_length_eq_zero (by omega)
                subst eT
                rw [if_neg (by show ¬ 2000 < 1; decide)] at kk
                rw [List.append_nil] at u1
                refine fin 256 σ2 N2 K2 tab2 H u1 x2 (fun σ4 z1 z2 z3 z4 => ?_)
                rw [if_neg (by decide)]
                obtain ⟨so, nu, fk, sz, va, ki, he, -, -, -, -, -, -, -, -, -, -, g3, g4, g5⟩ := u1.2.1
                exact kk σ4 N2 K2 tab2 H ⟨z1, z2, by omega, ext2, ⟨[], by simp⟩, by show st.1.1 ≤ r.2.2.2.1.1; omega, fun _ => ⟨by show N2 + 2 + 2 * st.1.1 ≤ N + 2 * r.2.2.2.1.1; omega, by show K2 + 3 + 3 * st.1.1 ≤ K + 3 * r.2.2.2.1.1; omega, z4, fun _ => rfl⟩, fun _ => ⟨by show (p1 : Int) ≤ _; omega, some 256, z3, fun i hi => (by cases hi; omega), by simp [g5]⟩, Or.inr (Or.inr (by show 0 ≤ (p1 : Int); omega))⟩
              · rw [drop_app] at q2
                rw [if_pos q2] at kk
                refine fin (-2) σ2 N2 K2 tab2 _ u1 x2 (fun σ4 z1 z2 z3 z4 => ?_)
                exact kk σ4 N2 K2 tab2 _ (OutR.err z1 z2 (by omega) ext2 ⟨T, rfl⟩ (by show st.1.1 ≤ r.2.2.2.1.1; omega) (by show (-19 : Int) < -9; decide))
              · rw [drop_app] at q2 q4
                rw [take_app] at q3
                rw [if_neg (by omega)] at kk
                refine fin (N2 : Nat) σ3 _ _ tab3 H (u1.tr q6 q3 (by omega) q5 ⟨c1, c2, c3, by omega, by omega, by omega⟩) (x2.tr q6.run) (fun σ4 z1 z2 z3 z4 => ?_)
                rw [if_neg (by omega)]
                exact kk σ4 _ _ tab3 H ⟨z1, z2, by omega, fun j hj => by rw [q5 j (by omega), ext2 j hj], ⟨[], by simp⟩, by show st.1.1 ≤ r.2.2.2.1.1; omega, fun _ => ⟨by show N2 + 1 + 2 + 2 * st.1.1 ≤ N + 2 * r.2.2.2.1.1; omega, by show K2 + ((H ++ T).length - H.length) + 3 + 3 * st.1.1 ≤ K + 3 * r.2.2.2.1.1; omega, z4, fun _ => rfl⟩, fun _ => ⟨by show (p1 : Int) ≤ _; omega, some N2, z3, fun i hi => (by cases hi; omega), by simp [q4]⟩, Or.inr (Or.inr (by show 0 ≤ (p1 : Int); omega))⟩
            refine x_icmp_ne i_Run_item_178 (fun h6 => ?_) (fun h6 => ?_)
            · exact bough (fun w => h6 (by have := of_decide_eq_true w.1; omega))
            · refine x_iload i_Run_item_181 rfl ?_
              refine x_if_ne i_Run_item_183 (fun h7 => ?_) (fun h7 => ?_)
              · exact bough (fun w => h7 (by have := of_decide_eq_true w.2; omega))
              · rw [if_pos ⟨decide_eq_true (by omega), decide_eq_true (by omega)⟩] at kk
                refine x_bipush i_Run_item_186 ?_
                refine x_goto i_Run_item_188 ?_
                refine x_iret i_Run_item_208 rfl ?_
                exact kk σ2 N2 K2 tab2 H2 ⟨u1, x2, by omega, ext2, hE, by show st.1.1 ≤ r.2.2.2.1.1; omega, fun _ => ⟨by show N2 + 2 + 2 * st.1.1 ≤ N + 2 * r.2.2.2.1.1; omega, by show K2 + 3 + 3 * st.1.1 ≤ K + 3 * r.2.2.2.1.1; omega, by rw [t3, hs], fun w => absurd w n50⟩, fun w => absurd w n50, Or.inr (Or.inl rfl)⟩
          · rw [if_pos (bI_t h3)] at kk
            exact back _ _ _ _ _ _ _ _ (kk σ2 N2 K2 tab2 H2 ⟨u1, x2, by omega, ext2, hE, by omega, fun _ => ⟨by omega, by omega, t3, fun w => absurd w (by omega)⟩, fun w => absurd w (by omega), u9⟩)
  obtain ⟨⟨⟨v1, v2, v3, v4⟩, -⟩, tr, -⟩ := id h
  refine x_in (ls := [some _, some _, some _, some _, none, none, none, none, none]) rfl rfl ?_
  refine x_aload_n i_Run_item_0 rfl ?_
  refine x_getR (c2 := 9) i_Run_item_1 rfl rfl (by assumption) ?_
  refine x_cv0 i_Run_item_4 rfl rfl rfl ?_
  refine c_T_mark tr ?_
  refine x_istore (ls' := [_, _, _, _, _, _, _, _, _]) i_Run_item_7 rfl rfl ?_
  refine x_iload_n i_Run_item_9 rfl ?_
  refine x_istore (ls' := [_, _, _, _, _, _, _, _, _]) i_Run_item_10 rfl rfl ?_
  refine x_iconst i_Run_item_12 ?_
  refine x_istore (ls' := [_, _, _, _, _, _, _, _, _]) i_Run_item_13 rfl rfl ?_
  refine x_iconst i_Run_item_15 ?_
  refine x_istore (ls' := [_, _, _, _, _, _, _, _, _]) i_Run_item_16 rfl rfl ?_
  by_cases hm : 42 ≤ it.1.2.1 ∧ it.1.2.1 ≤ 43
  · unfold itemE at kk
    rw [if_neg (by omega), if_neg (by omega)] at kk
    exact loop hm.1 hm.2 1001 0 σ st N K tab [] p false 0 rfl (by simpa using h) (tX.rf _ _ _) hp (Nat.le_refl _) (fun _ _ => rfl) (Nat.le_refl _) (by omega) (by omega) (Nat.zero_le _) kk
  · skip
    refine x_iload i_Run_item_18 rfl ?_
    refine x_sipush i_Run_item_20 ?_
    refine x_icmp_gt_f i_Run_item_23 (by decide) ?_
    refine x_part hk ha h hi hp (fun σ2 N2 K2 tab2 H2 ho => ?_)
    unfold itemE at kk
    rw [show partE e.2.1 (eZ e) (fun a => altE e.2.1 (eZ e) e.2.2 k n a) (ruledE e k) (decide (k = 0)) it p st = partF e k n it p st from rfl] at ho ⊢
    generalize partF e k n it p st = r at ho kk
    have ho0 := ho.lim (lim := 0) (Nat.le_refl _) (by decide)
    obtain ⟨u1, u2, u3, u4, u5, u6, u7, u8, u9⟩ := ho
    refine x_aload_n i_Run_item_102 rfl ?_
    refine x_getI i_Run_item_103 rfl rfl ?_
    rw [ti u2]
    by_cases h0 : it.1.2.1 = 0
    · rw [if_pos h0] at kk
      refine x_if_eq_t i_Run_item_106 (by omega) ?_
      exact back _ _ _ _ _ _ _ _ (kk σ2 N2 K2 tab2 H2 ho0)
    · have h63 : it.1.2.1 = 63 := by clear u8 u7; omega
      rw [if_neg h0, if_pos h63] at kk
      simp only [] at kk
      refine x_if_eq_f i_Run_item_106 (by omega) ?_
      refine x_iload i_Run_item_109 rfl ?_
      refine x_bipush i_Run_item_111 ?_
      refine x_icmp_lt i_Run_item_113 (fun h1 => ?_) (fun h1 => ?_)
      · rw [if_neg (fun w => by omega)] at kk
        exact back _ _ _ _ _ _ _ _ (kk σ2 N2 K2 tab2 H2 ho0)
      · obtain ⟨t1, t2, t3, t4⟩ := u7 (by omega)
        refine x_iload i_Run_item_116 rfl ?_
        refine x_bipush i_Run_item_118 ?_
        refine x_icmp_ne i_Run_item_120 (fun h2 => ?_) (fun h2 => ?_)
        · rw [if_neg (fun w => h2 w.1)] at kk
          refine x_aload_n i_Run_item_133 rfl ?_
          refine x_getI i_Run_item_134 rfl rfl ?_
          refine x_bipush i_Run_item_137 ?_
          rw [ti u2]
          refine x_icmp_ne_f i_Run_item_139 (by omega) ?_
          refine x_iload i_Run_item_142 rfl ?_
          refine x_bipush i_Run_item_144 ?_
          refine x_icmp_ne_t i_Run_item_146 (by omega) ?_
          refine x_iload i_Run_item_162 rfl ?_
          refine x_iret i_Run_item_164 rfl ?_
          exact kk σ2 N2 K2 tab2 H2 ho0
        · have t5 := t4 (by omega)
          subst t5
          clear u7 u8 t4
          refine x_aload_n i_Run_item_123 rfl ?_
          refine x_getI i_Run_item_124 rfl rfl ?_
          rw [t3]
          refine x_if_eq i_Run_item_127 (fun h3 => ?_) (fun h3 => ?_)
          · rw [if_pos ⟨h2, bI_f h3⟩] at kk
            refine x_aload_n i_Run_item_133 rfl ?_
            refine x_getI i_Run_item_134 rfl rfl ?_
            refine x_bipush i_Run_item_137 ?_
            rw [ti u2]
            refine x_icmp_ne_f i_Run_item_139 (by omega) ?_
            refine x_iload i_Run_item_142 rfl ?_
            refine x_bipush i_Run_item_144 ?_
            refine x_icmp_ne_f i_Run_item_146 (by omega) ?_
            refine x_aload_n i_Run_item_149 rfl ?_
            refine x_sipush i_Run_item_150 ?_
            refine x_iconst i_Run_item_153 ?_
            refine x_iload i_Run_item_154 rfl ?_
            refine x_cv3 i_Run_item_156 rfl rfl rfl ?_
            refine c_R_settled (Or.inl rfl) (fun σ4 w1 w2 w3 => ?_)
            have w1 : tsX σ2 σ4 := w1
            refine x_goto i_Run_item_159 ?_
            obtain ⟨so, nu, fk, sz, va, ki, he, -, -, -, -, -, -, -, -, -, -, g3, g4, g5⟩ := u1.2.1
            rw [if_neg (by decide)]
            refine x_iret i_Run_item_164 rfl ?_
            exact kk σ4 N2 K2 tab2 _ ⟨u1.set w1, u2.tr w1.run, u3, u4, ⟨[], by simp⟩, by show st.1.1 ≤ r.2.2.2.1.1; omega, fun _ => ⟨by show N2 + 2 + 2 * st.1.1 ≤ N + 2 * r.2.2.2.1.1; omega, by show K2 + 3 + 3 * st.1.1 ≤ K + 3 * r.2.2.2.1.1; omega, w3, fun _ => rfl⟩, fun _ => ⟨by show (p : Int) ≤ _; omega, some 256, w2, fun i hi => (by cases hi; omega), by simp [g5]⟩, Or.inr (Or.inr (by show 0 ≤ (p : Int); omega))⟩
          · rw [if_neg (fun w => by rw [w.2] at h3; exact h3 rfl)] at kk
            exact back _ _ _ _ _ _ _ _ (kk σ2 N2 K2 tab2 _ ho0)
theorem altE_s (inp : Nat → Int) (size : Nat) (rules : Nat → PT 9) (k n : Nat) (alt : PT (n + 1)) (p : Nat) (st : ES) : altE inp size rules (k + 1) (n + 1) alt p st = altsE (fun s p st => seqE (fun (it : Item (PT n)) p st => itemE (partE inp size (fun a => altE inp size rules k n a) (fun r p st => let q := altE inp size rules k 9 (rules r) p (memS st (r * 241 + p) none); if q.1 < -5 then q else (q.1, q.2.1, q.2.2.1, memS q.2.2.2 (r * 241 + p) (some (q.1, q.2.1, q.2.2.1)))) (decide (k = 0)) it) it.1.2.1 p st) justI s p false [] none st) alt p st := rfl
theorem altC_all (e : RE) : ∀ (k dep n : Nat), dep + 1 + k = 61 + 1 → k ≠ 0 → AltC e (4 * k + 4) k dep n
  | 0, _, _, _, h => absurd rfl h
  | k + 1, dep, 0, _, _ => fun alt o Q σ st N K tab H p _ h _ _ => h.elim
  | k + 1, dep, n + 1, hd, _ => by
    have ih : k ≠ 0 → ∀ n, AltC e (4 * k + 4) k (dep + 1) n := fun hk n => altC_all e k (dep + 1) n (by omega) hk
    have ih : k ≠ 0 → ∀ n, AltC e (4 * k + 1 + 3) k (dep + 1) n := ih
    intro alt o Q σ st N K tab H p h hs hp kk
    obtain ⟨s1, s2⟩ := hs
    rw [altE_s] at kk
    refine c_R_alts (d := 4 * k + 7) (ss := alt) (f := fun s p st => seqE (fun (it : Item (PT n)) p st => itemE (partF e k n it) it.1.2.1 p st) justI s p false [] none st) ?_ s1 hp h s2 kk
    intro s a Q1 σ1 st1 N1 K1 tab1 H1 p1 h1 hs1 hp1 k1
    refine c_R_seq (d := 4 * k + 2) (g := fun (it : Item (PT n)) p st => itemE (partF e k n it) it.1.2.1 p st) ?_ hp1 h1 hs1 k1
    intro it a2 Q2 σ2 st2 N2 K2 tab2 H2 p2 h2 hi2 hp2 k2
    exact c_R_item (d := 4 * k + 1) (k := k) (by omega) ih h2 hi2 hp2 k2
end


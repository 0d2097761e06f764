/-! THE CLASS's Last: list -/
def lsF (f a : Nat) : Prop := f = 601 ∧ 16 ≤ a ∧ a ≤ 18
def lsA (a : Nat) : Prop := 16 ≤ a ∧ a ≤ 18
def lsR (σ : AS) : Prop := FR σ 207 0 = some 16 ∧ FR σ 208 0 = some 17 ∧ FR σ 209 0 = some 18 ∧ FR σ 210 0 = some 19 ∧ FR σ 211 0 = some 20
section
variable {d : Nat} {Q : AQ} {σ : AS} {N K : Nat} {tab : Nat → TT} {H : List Nat}
theorem c_T_sortOf (q : FR σ 900 0 = some 6) {so : Nat → Int} {cap : Nat} (r : rowF σ 6 6 cap N so) {i : Nat} (hi : i < N) (kk : Q (some (vi (so i))) σ) : wp (d + 3) m_Trees_sortOf [vr 9 0, vi (i : Nat)] σ Q := by
  refine x_in (ls := [some _, some _]) rfl rfl ?_
  refine x_aload_n i_Trees_sortOf_0 rfl ?_
  refine x_getR (c2 := 6) i_Trees_sortOf_1 rfl rfl (by assumption) ?_
  refine x_iload_n i_Trees_sortOf_4 rfl ?_
  refine x_cv1 i_Trees_sortOf_5 rfl rfl rfl ?_
  refine c_at_in r rfl hi ?_
  refine x_iret i_Trees_sortOf_8 rfl ?_
  exact kk
theorem c_T_numberOf (q : FR σ 901 0 = some 7) {so : Nat → Int} {cap : Nat} (r : rowF σ 7 7 cap N so) {i : Nat} (hi : i < N) (kk : Q (some (vi (so i))) σ) : wp (d + 3) m_Trees_numberOf [vr 9 0, vi (i : Nat)] σ Q := by
  refine x_in (ls := [some _, some _]) rfl rfl ?_
  refine x_aload_n i_Trees_numberOf_0 rfl ?_
  refine x_getR (c2 := 6) i_Trees_numberOf_1 rfl rfl (by assumption) ?_
  refine x_iload_n i_Trees_numberOf_4 rfl ?_
  refine x_cv1 i_Trees_numberOf_5 rfl rfl rfl ?_
  refine c_at_in r rfl hi ?_
  refine x_iret i_Trees_numberOf_8 rfl ?_
  exact kk
theorem c_T_kidsOf (q : FR σ 900 0 = some 6) (q7 : FR σ 901 0 = some 7) {so nu : Nat → Int} {cap cap2 : Nat} (r : rowF σ 6 6 cap N so) (r7 : rowF σ 7 7 cap2 N nu) {i c n m l : Nat} (hi : i < N) (h1 : so i = (c : Int)) (h2 : nu i = ((if c = 1 then m else n : Nat) : Int)) (h3 : (c = 0 ∧ l = 0) ∨ (c = 1 ∧ l = m) ∨ (c = 2 ∧ l = 2)) (kk : Q (some (vi (l : Nat))) σ) : wp (d + 3) m_Trees_kidsOf [vr 9 0, vi (i : Nat)] σ Q := by
  refine x_in (ls := [some _, some _, none]) rfl rfl ?_
  refine x_aload_n i_Trees_kidsOf_0 rfl ?_
  refine x_getR (c2 := 6) i_Trees_kidsOf_1 rfl rfl (by assumption) ?_
  refine x_iload_n i_Trees_kidsOf_4 rfl ?_
  refine x_cv1 i_Trees_kidsOf_5 rfl rfl rfl ?_
  refine c_at_in r rfl hi ?_
  rw [h1]
  refine x_istore_n (ls' := [_, _, _]) i_Trees_kidsOf_8 rfl rfl ?_
  refine x_iload_n i_Trees_kidsOf_9 rfl ?_
  refine x_iconst i_Trees_kidsOf_10 ?_
  rcases h3 with ⟨rfl, rfl⟩ | ⟨rfl, rfl⟩ | ⟨rfl, rfl⟩
  · refine x_icmp_ne_t i_Trees_kidsOf_11 (by decide) ?_
    refine x_iload_n i_Trees_kidsOf_25 rfl ?_
    refine x_iconst i_Trees_kidsOf_26 ?_
    refine x_icmp_ne_t i_Trees_kidsOf_27 (by decide) ?_
    refine x_iconst i_Trees_kidsOf_34 ?_
    refine x_iret i_Trees_kidsOf_35 rfl ?_
    exact kk
  · refine x_icmp_ne_f i_Trees_kidsOf_11 rfl ?_
    refine x_aload_n i_Trees_kidsOf_14 rfl ?_
    refine x_getR (c2 := 6) i_Trees_kidsOf_15 rfl rfl (by assumption) ?_
    refine x_iload_n i_Trees_kidsOf_18 rfl ?_
    refine x_cv1 i_Trees_kidsOf_19 rfl rfl rfl ?_
    refine c_at_in r7 rfl hi ?_
    rw [h2, if_pos rfl]
    refine x_goto i_Trees_kidsOf_22 ?_
    refine x_iret i_Trees_kidsOf_35 rfl ?_
    exact kk
  · refine x_icmp_ne_t i_Trees_kidsOf_11 (by decide) ?_
    refine x_iload_n i_Trees_kidsOf_25 rfl ?_
    refine x_iconst i_Trees_kidsOf_26 ?_
    refine x_icmp_ne_f i_Trees_kidsOf_27 rfl ?_
    refine x_iconst i_Trees_kidsOf_30 ?_
    refine x_goto i_Trees_kidsOf_31 ?_
    refine x_iret i_Trees_kidsOf_35 rfl ?_
    exact kk
theorem c_T_kid (q8 : FR σ 902 0 = some 8) (q11 : FR σ 905 0 = some 11) {fk ki : Nat → Int} {cap cap2 : Nat} (r8 : rowF σ 8 8 cap N fk) (r11 : rowF σ 11 11 cap2 K ki) {i f0 j id : Nat} (hi : i < N) (h1 : fk i = (f0 : Int)) (h2 : f0 + j < K) (h3 : ki (f0 + j) = (id : Int)) (kk : Q (some (vi (id : Nat))) σ) : wp (d + 3) m_Trees_kid [vr 9 0, vi (i : Nat), vi (j : Nat)] σ Q := by
  have hK : K ≤ 100000 := Nat.le_trans r11.2.2.2.1 r11.2.2.2.2.1
  refine x_in (ls := [some _, some _, some _]) rfl rfl ?_
  refine x_aload_n i_Trees_kid_0 rfl ?_
  refine x_getR (c2 := 6) i_Trees_kid_1 rfl rfl (by assumption) ?_
  refine x_aload_n i_Trees_kid_4 rfl ?_
  refine x_getR (c2 := 6) i_Trees_kid_5 rfl rfl (by assumption) ?_
  refine x_iload_n i_Trees_kid_8 rfl ?_
  refine x_cv1 i_Trees_kid_9 rfl rfl rfl ?_
  refine c_at_in r8 rfl hi ?_
  rw [h1]
  refine x_iload_n i_Trees_kid_12 rfl ?_
  refine x_iadd i_Trees_kid_13 (by omega) ?_
  refine x_cv1 i_Trees_kid_14 rfl rfl rfl ?_
  refine c_at_in r11 (j := f0 + j) (by omega) h2 ?_
  rw [h3]
  refine x_iret i_Trees_kid_17 rfl ?_
  exact kk
theorem c_L_list (hL : lsR σ) (h : TrS σ N K tab H) {n1 n2 n3 : Nat} {g1 g2 g3 : Nat → Int} (m1 : rowF σ 16 16 2000 n1 g1) (m2 : rowF σ 17 17 2000 n2 g2) (m3 : rowF σ 18 18 2000 n3 g3) {o : Option Nat} (ho : oN N o) {l : List FL} (hl : l = match o with | none => [] | some i => flatT (tab i) 0) (kk : ∀ σ', tX lsF lsA σ σ' → rowF σ' 16 16 2000 l.length (soF l) → rowF σ' 17 17 2000 l.length (nuF l) → rowF σ' 18 18 2000 l.length (wiF l) → Q none σ') : wp (d + 4) m_Last_list [vr 2 0, vr 9 0, vi (oI o)] σ Q := by
  obtain ⟨so, nu, fk, sz, va, ki, he, ⟨q0, q1, q2, q3, q4, q5, q6⟩, r1, r2, r3, r4, r5, r6, r7, z1, z2, z3⟩ := id h
  obtain ⟨p1, p2, p3, p4, p5⟩ := id hL
  have hsz : ∀ i, i < N → 1 ≤ sizeT (tab i) := fun i hi => by
    obtain ⟨c, n, m, ids, f0, -, -, v, -⟩ := (z1 i hi).2.2.1.view
    rw [← flatT_len _ 0, v 0]
    simp
  have hlen : l.length ≤ 2000 := by
    rw [hl]
    cases o with
    | none => exact Nat.zero_le _
    | some i => show (flatT (tab i) 0).length ≤ 2000; rw [flatT_len]; exact (z1 i (ho i rfl)).2.2.2
  -- the list, from place k on
  have loop : ∀ (f k : Nat) (σ1 : AS) (s1 u1 w1 : Nat → Int) (P : List (Nat × Nat)), k + f = l.length → tX lsF lsA σ σ1 → rowF σ1 16 16 2000 l.length s1 → rowF σ1 17 17 2000 l.length u1 → rowF σ1 18 18 2000 l.length w1 → (∀ i, i < k → s1 i = soF l i ∧ u1 i = nuF l i ∧ w1 i = wiF l i) → pendL N tab u1 w1 P k → l.drop k = flaL tab P → Ex (wp (d + 3)) m_Last_list Q 36 [some (vr 2 0), some (vr 9 0), some (vi (oI o)), some (vi (l.length : Nat)), some (vi (k : Nat)), none, none, none, none, none] [] σ1 := by
    intro f
    induction f with
    | zero =>
      intro k σ1 s1 u1 w1 P hk x1 y1 y2 y3 hd hp hdr
      refine x_iload i_Last_list_36 rfl ?_
      refine x_iload_n i_Last_list_38 rfl ?_
      refine x_icmp_ge_t i_Last_list_39 (by omega) ?_
      refine x_vret i_Last_list_171 rfl ?_
      exact kk σ1 x1 (y1.eq (fun i hi => (hd i (by omega)).1)) (y2.eq (fun i hi => (hd i (by omega)).2.1)) (y3.eq (fun i hi => (hd i (by omega)).2.2))
    | succ f ih =>
      intro k σ1 s1 u1 w1 P hk x1 y1 y2 y3 hd hp hdr
      have hkl : k < l.length := by omega
      cases P with
      | nil =>
        exfalso
        have := congrArg List.length hdr
        simp [flaL] at this
        omega
      | cons x P =>
        obtain ⟨id, dp⟩ := x
        obtain ⟨a1, a2, ⟨a3, a5⟩, a4⟩ := hp
        have a5 : dp ≤ k := a5
        have hK := r6.2.2.2.1
        obtain ⟨c, n, m, ids, f0, v1, v2, v3, v4, v5, v6⟩ := (z1 id a3).2.2.1.view
        have hsid : sizeT (tab id) = 1 + sizeT (listT (ids.map tab)) := by
          have := congrArg List.length (v3 0)
          rw [flatT_len, List.length_cons, flatT_len] at this
          omega
        have hdr2 : l.drop k = (c, n, m, dp) :: (flatT (listT (ids.map tab)) (dp + 1) ++ flaL tab P) := by
          rw [hdr]
          show flatT (tab id) dp ++ flaL tab P = _
          rw [v3 dp]
          rfl
        have hent : entL l k = (c, n, m, dp) := by
          unfold entL
          rw [List.getD_eq_getElem?_getD, ← List.head?_drop, hdr2]
          rfl
        have hdr3 : l.drop (k + 1) = flatT (listT (ids.map tab)) (dp + 1) ++ flaL tab P := by
          rw [← List.tail_drop, hdr2]
          rfl
        have hlen2 : k + sizeT (tab id) ≤ l.length := by
          have := congrArg List.length hdr3
          rw [List.length_append, flatT_len, List.length_drop] at this
          omega
        have b1 : soF l k = (c : Int) := by unfold soF; rw [hent]
        have b2 : nuF l k = nu id := by unfold nuF numF; rw [hent, v2]
        have b3 : wiF l k = w1 k := by unfold wiF; rw [hent, a2]
        have e1 := x1.2.1
        have p1 : FR σ1 207 0 = some 16 := by rw [e1]; exact p1
        have p2 : FR σ1 208 0 = some 17 := by rw [e1]; exact p2
        have p3 : FR σ1 209 0 = some 18 := by rw [e1]; exact p3
        have q0 : FR σ1 900 0 = some 6 := by rw [e1]; exact q0
        have q1 : FR σ1 901 0 = some 7 := by rw [e1]; exact q1
        have q2 : FR σ1 902 0 = some 8 := by rw [e1]; exact q2
        have q5 : FR σ1 905 0 = some 11 := by rw [e1]; exact q5
        have rk : ∀ {r cap n : Nat} {f : Nat → Int} {σ2 : AS}, rowF σ r r cap n f → r < 16 → tX lsF lsA σ σ2 → rowF σ2 r r cap n f := fun h hr x => x.row h (fun q => by have := q.2.1; omega) (fun q => by have := q.1; omega)
        have lx : ∀ {r : Nat} {a b : AS}, rowX r r a b → 16 ≤ r → r ≤ 18 → tX lsF lsA a b := fun h w1 w2 => h.tx ⟨rfl, w1, w2⟩ ⟨w1, w2⟩
        have inner : ∀ (rest done : List Nat) (σ4 : AS) (s4 u4 w4 : Nat → Int) (l9 : Option AV), ids = done ++ rest → tX lsF lsA σ σ4 → rowF σ4 16 16 2000 l.length s4 → rowF σ4 17 17 2000 l.length u4 → rowF σ4 18 18 2000 l.length w4 → (∀ i, i < k + 1 → s4 i = soF l i ∧ u4 i = nuF l i ∧ w4 i = wiF l i) → pendL N tab u4 w4 (done.map (fun i => (i, dp + 1))) (k + 1) → pendL N tab u4 w4 P (k + sizeT (tab id)) → Ex (wp (d + 3)) m_Last_list Q 100 [some (vr 2 0), some (vr 9 0), some (vi (oI o)), some (vi (l.length : Nat)), some (vi (k : Nat)), some (vi (id : Nat)), some (vi ((k + 1 + sizeT (listT (done.map tab)) : Nat) : Int)), some (vi (ids.length : Nat)), some (vi (done.length : Nat)), l9] [] σ4 := by
          intro rest
          induction rest with
          | nil =>
            intro done σ4 s4 u4 w4 l9 hids x4 m1 m2 m3 hd4 pd pP
            rw [List.append_nil] at hids
            subst hids
            refine x_iload i_Last_list_100 rfl ?_
            refine x_iload i_Last_list_102 rfl ?_
            refine x_icmp_ge_t i_Last_list_104 (by omega) ?_
            refine x_iinc (ls' := [_, _, _, _, _, _, _, _, _, _]) i_Last_list_165 rfl (by omega) rfl ?_
            refine x_goto i_Last_list_168 ?_
            refine Ex.weak (ls := [_, _, _, _, _, none, none, none, none, none]) ⟨Or.inr rfl, Or.inr rfl, Or.inr rfl, Or.inr rfl, Or.inr rfl, Or.inl rfl, Or.inl rfl, Or.inl rfl, Or.inl rfl, Or.inl rfl, trivial⟩ ?_
            refine ih (k + 1) σ4 s4 u4 w4 (ids.map (fun i => (i, dp + 1)) ++ P) (by omega) x4 m1 m2 m3 hd4 (pendL_app _ _ _ pd ?_) ?_
            · rw [totL_kids, show k + 1 + sizeT (listT (ids.map tab)) = k + sizeT (tab id) by omega]
              exact pP
            · rw [hdr3, flaL_app, flaL_kids]
          | cons c0 rest ihr =>
            intro done σ4 s4 u4 w4 l9 hids x4 m1 m2 m3 hd4 pd pP
            have hlt : done.length < ids.length := by rw [hids]; simp
            obtain ⟨g1, g2, g3⟩ := v6 done.length c0 (by rw [hids]; simp)
            have hc0 : c0 < N := by omega
            have hcs := hsz c0 hc0
            have hss : sizeT (listT (done.map tab)) + sizeT (tab c0) ≤ sizeT (listT (ids.map tab)) := by
              rw [hids, List.map_append, sizeT_app, List.map_cons]
              simp only [listT, sizeT]
              omega
            generalize hnx : k + 1 + sizeT (listT (done.map tab)) = nx
            have hnx2 : nx < l.length := by omega
            have e4 := x4.2.1.trans e1.symm
            rw [← e4] at p1 p2 p3 q0 q1 q2 q5
            refine x_iload i_Last_list_100 rfl ?_
            refine x_iload i_Last_list_102 rfl ?_
            refine x_icmp_ge_f i_Last_list_104 (by omega) ?_
            refine x_aload_n i_Last_list_107 rfl ?_
            refine x_iload i_Last_list_108 rfl ?_
            refine x_iload i_Last_list_110 rfl ?_
            refine x_cv2 i_Last_list_112 rfl rfl rfl ?_
            refine c_T_kid q2 q5 (rk r3 (by decide) x4) (rk r6 (by decide) x4) a3 (v5 (by intro q; rw [q] at hlt; exact absurd hlt (Nat.not_lt_zero _))) g2 g3 ?_
            refine x_istore (ls' := [_, _, _, _, _, _, _, _, _, _]) i_Last_list_115 rfl rfl ?_
            refine x_aload_n i_Last_list_117 rfl ?_
            refine x_getR (c2 := 6) i_Last_list_118 rfl rfl (by assumption) ?_
            refine x_iload i_Last_list_121 rfl ?_
            refine x_iload i_Last_list_123 rfl ?_
            refine x_cv2 i_Last_list_125 rfl rfl rfl ?_
            refine c_put m2 (j := nx) rfl hnx2 (fun σ5 n2 x5 f5 => ?_)
            have e5 := x5.2.1
            rw [← e5] at p1 p2 p3 q0 q1 q2 q5
            have n3 := m3.keep x5 (by omega) (by omega)
            have n1 := m1.keep x5 (by omega) (by omega)
            refine x_aload_n i_Last_list_128 rfl ?_
            refine x_getR (c2 := 6) i_Last_list_129 rfl rfl (by assumption) ?_
            refine x_iload i_Last_list_132 rfl ?_
            refine x_aload_n i_Last_list_134 rfl ?_
            refine x_getR (c2 := 6) i_Last_list_135 rfl rfl (by assumption) ?_
            refine x_iload i_Last_list_138 rfl ?_
            refine x_cv1 i_Last_list_140 rfl rfl rfl ?_
            refine c_at_in n3 (j := k) rfl hkl ?_
            rw [(hd4 k (by omega)).2.2, show wiF l k = (dp : Int) by rw [b3]; exact a2]
            have hdp : (dp : Int) + 1 ≤ 100000 := by omega
            refine x_iconst i_Last_list_143 ?_
            refine x_iadd i_Last_list_144 (by omega) ?_
            refine x_cv2 i_Last_list_145 rfl rfl rfl ?_
            refine c_put n3 (j := nx) rfl hnx2 (fun σ6 o3 x6 f6 => ?_)
            have e6 := x6.2.1
            rw [← e6] at p1 p2 p3 q0 q1 q2 q5
            have o2 := n2.keep x6 (by omega) (by omega)
            have o1 := n1.keep x6 (by omega) (by omega)
            have x46 : tX lsF lsA σ σ6 := (x4.tr (lx x5 (by decide) (by decide))).tr (lx x6 (by decide) (by decide))
            refine x_iload i_Last_list_148 rfl ?_
            refine x_aload_n i_Last_list_150 rfl ?_
            refine x_iload i_Last_list_151 rfl ?_
            refine x_cv1 i_Last_list_153 rfl rfl rfl ?_
            refine c_T_sizeOf (h.keep x46 (fun r w1 w2 q => by have := q.2.1; omega) (fun r w1 w2 q => by have := q.1; omega)) hc0 ?_
            refine x_iadd i_Last_list_156 (by omega) ?_
            refine x_istore (ls' := [_, _, _, _, _, _, _, _, _, _]) i_Last_list_157 rfl rfl ?_
            refine x_iinc (ls' := [_, _, _, _, _, _, _, _, _, _]) i_Last_list_159 rfl (by omega) rfl ?_
            refine x_goto i_Last_list_162 ?_
            have := ihr (done ++ [c0]) σ6 s4 (up u4 nx (c0 : Nat)) (up w4 nx ((dp : Int) + 1)) (some (vi (c0 : Nat))) (by rw [hids]; simp) x46 o1 o2 o3 (fun i hi => by rw [up_ne (by omega), up_ne (by omega)]; exact hd4 i hi) ?_ ?_
            · rw [show k + 1 + sizeT (listT ((done ++ [c0]).map tab)) = nx + sizeT (tab c0) by rw [List.map_append, sizeT_app]; simp [listT, sizeT]; omega, show (done ++ [c0]).length = done.length + 1 by simp] at this
              exact this
            · rw [List.map_append]
              refine pendL_app _ _ _ (pd.ahead hsz _ _ (fun j w1 w2 => ?_)) ?_
              · rw [totL_kids] at w2
                exact ⟨up_ne (by omega), up_ne (by omega)⟩
              · rw [totL_kids, hnx]
                exact ⟨up_eq _ _ _, by rw [up_eq]; show (dp : Int) + 1 = ((dp + 1 : Nat) : Int); omega, ⟨hc0, by show dp + 1 ≤ nx; omega⟩, trivial⟩
            · exact pP.after _ _ (fun j hj => ⟨up_ne (by omega), up_ne (by omega)⟩)
        refine x_iload i_Last_list_36 rfl ?_
        refine x_iload_n i_Last_list_38 rfl ?_
        refine x_icmp_ge_f i_Last_list_39 (by omega) ?_
        refine x_aload_n i_Last_list_42 rfl ?_
        refine x_getR (c2 := 6) i_Last_list_43 rfl rfl (by assumption) ?_
        refine x_iload i_Last_list_46 rfl ?_
        refine x_cv1 i_Last_list_48 rfl rfl rfl ?_
        refine c_at_in y2 (j := k) rfl hkl ?_
        rw [a1]
        refine x_istore (ls' := [_, _, _, _, _, _, _, _, _, _]) i_Last_list_51 rfl rfl ?_
        refine x_aload_n i_Last_list_53 rfl ?_
        refine x_getR (c2 := 6) i_Last_list_54 rfl rfl (by assumption) ?_
        refine x_iload i_Last_list_57 rfl ?_
        refine x_aload_n i_Last_list_59 rfl ?_
        refine x_iload i_Last_list_60 rfl ?_
        refine x_cv1 i_Last_list_62 rfl rfl rfl ?_
        refine c_T_sortOf q0 (rk r1 (by decide) x1) a3 ?_
        rw [v1]
        refine x_cv2 i_Last_list_65 rfl rfl rfl ?_
        refine c_put y1 (j := k) rfl hkl (fun σ2 m1 x2 f2 => ?_)
        have e2 := x2.2.1
        rw [← e2] at p1 p2 p3 q0 q1 q2 q5
        have x12 := x1.tr (lx x2 (by decide) (by decide))
        refine x_aload_n i_Last_list_68 rfl ?_
        refine x_getR (c2 := 6) i_Last_list_69 rfl rfl (by assumption) ?_
        refine x_iload i_Last_list_72 rfl ?_
        refine x_aload_n i_Last_list_74 rfl ?_
        refine x_iload i_Last_list_75 rfl ?_
        refine x_cv1 i_Last_list_77 rfl rfl rfl ?_
        refine c_T_numberOf q1 (rk r2 (by decide) x12) a3 ?_
        refine x_cv2 i_Last_list_80 rfl rfl rfl ?_
        refine c_put (y2.keep x2 (by decide) (by decide)) (j := k) rfl hkl (fun σ3 m2 x3 f3 => ?_)
        have e3 := x3.2.1
        rw [← e3] at p1 p2 p3 q0 q1 q2 q5
        have x13 := x12.tr (lx x3 (by decide) (by decide))
        refine x_iload i_Last_list_83 rfl ?_
        refine x_iconst i_Last_list_85 ?_
        refine x_iadd i_Last_list_86 (by omega) ?_
        refine x_istore (ls' := [_, _, _, _, _, _, _, _, _, _]) i_Last_list_87 rfl rfl ?_
        refine x_aload_n i_Last_list_89 rfl ?_
        refine x_iload i_Last_list_90 rfl ?_
        refine x_cv1 i_Last_list_92 rfl rfl rfl ?_
        refine c_T_kidsOf q0 q1 (rk r1 (by decide) x13) (rk r2 (by decide) x13) a3 v1 v2 v4 ?_
        refine x_istore (ls' := [_, _, _, _, _, _, _, _, _, _]) i_Last_list_95 rfl rfl ?_
        refine x_iconst i_Last_list_97 ?_
        refine x_istore (ls' := [_, _, _, _, _, _, _, _, _, _]) i_Last_list_98 rfl rfl ?_
        have := inner ids [] σ3 (up s1 k (c : Nat)) (up u1 k (nu id)) w1 none rfl x13 (m1.keep x3 (by decide) (by decide)) m2 ((y3.keep x2 (by decide) (by decide)).keep x3 (by decide) (by decide)) (fun i hi => ?_) trivial (a4.after _ _ (fun j hj => ⟨up_ne (by omega), rfl⟩))
        · exact this
        · by_cases w : i = k
          · subst w
            exact ⟨by rw [up_eq, b1], by rw [up_eq, b2], b3.symm⟩
          · rw [up_ne w, up_ne w]
            exact hd i (by omega)
  have start : ∀ (i0 : Int), (l.length : Int) = i0 → Ex (wp (d + 3)) m_Last_list Q 5 [some (vr 2 0), some (vr 9 0), some (vi (oI o)), none, none, none, none, none, none, none] [vi i0] σ := by
    intro i0 hi0
    subst hi0
    refine x_istore_n (ls' := [_, _, _, _, _, _, _, _, _, _]) i_Last_list_5 rfl rfl ?_
    refine x_aload_n i_Last_list_6 rfl ?_
    refine x_getR (c2 := 6) i_Last_list_7 rfl rfl (by assumption) ?_
    refine x_iload_n i_Last_list_10 rfl ?_
    refine x_iconst i_Last_list_11 ?_
    refine x_cv2 i_Last_list_12 rfl rfl rfl ?_
    refine c_Row_fill m1 (j := l.length) rfl hlen (fun σ1 y1 x1 => ?_)
    have e1 := x1.2.1
    rw [← e1] at p1 p2 p3
    refine x_aload_n i_Last_list_15 rfl ?_
    refine x_getR (c2 := 6) i_Last_list_16 rfl rfl (by assumption) ?_
    refine x_iload_n i_Last_list_19 rfl ?_
    refine x_iconst i_Last_list_20 ?_
    refine x_cv2 i_Last_list_21 rfl rfl rfl ?_
    refine c_Row_fill (m3.keep x1 (by decide) (by decide)) (j := l.length) rfl hlen (fun σ2 y2 x2 => ?_)
    have e2 := x2.2.1
    rw [← e2] at p1 p2 p3
    refine x_aload_n i_Last_list_24 rfl ?_
    refine x_getR (c2 := 6) i_Last_list_25 rfl rfl (by assumption) ?_
    refine x_iload_n i_Last_list_28 rfl ?_
    refine x_iload_n i_Last_list_29 rfl ?_
    refine x_cv2 i_Last_list_30 rfl rfl rfl ?_
    refine c_Row_fill ((m2.keep x1 (by decide) (by decide)).keep x2 (by decide) (by decide)) (j := l.length) rfl hlen (fun σ3 y3 x3 => ?_)
    refine x_iconst i_Last_list_33 ?_
    refine x_istore (ls' := [_, _, _, _, _, _, _, _, _, _]) i_Last_list_34 rfl rfl ?_
    have lx : ∀ {r : Nat} {a b : AS}, rowX r r a b → 16 ≤ r → r ≤ 18 → tX lsF lsA a b := fun h w1 w2 => h.tx ⟨rfl, w1, w2⟩ ⟨w1, w2⟩
    refine loop l.length 0 σ3 _ _ _ (rootP o) (by omega) (((lx x1 (by decide) (by decide)).tr (lx x2 (by decide) (by decide))).tr (lx x3 (by decide) (by decide))) ((y1.keep x2 (by decide) (by decide)).keep x3 (by decide) (by decide)) y3 (y2.keep x3 (by decide) (by decide)) (fun i hi => absurd hi (Nat.not_lt_zero _)) ?_ ?_
    · cases o with
      | none => trivial
      | some i => exact ⟨rfl, rfl, ⟨ho i rfl, Nat.le_refl _⟩, trivial⟩
    · rw [List.drop_zero, hl]
      cases o with
      | none => rfl
      | some i => simp [flaL, rootP]
  refine x_in (ls := [some _, some _, some _, none, none, none, none, none, none, none]) rfl rfl ?_
  refine x_aload_n i_Last_list_0 rfl ?_
  refine x_iload_n i_Last_list_1 rfl ?_
  cases o with
  | none =>
    refine x_cv1 i_Last_list_2 rfl rfl rfl ?_
    refine c_T_sizeOfN ?_
    exact start 0 (by rw [hl]; rfl)
  | some i =>
    refine x_cv1 i_Last_list_2 rfl rfl rfl ?_
    refine c_T_sizeOf h (ho i rfl) ?_
    exact start _ (by rw [hl]; show ((flatT (tab i) 0).length : Int) = _; rw [flatT_len])
end


theorem St1_weak {pc x y nx : Nat} {i : Jvm.ClassFile.Instr} {ls ls' : List (Option AV)} {st : List AV} {σ : AS} {f : AF} (h : St1 pc i x y nx ls st σ f) (hw : wkL ls ls') : ∃ l', wkL f.2.1 l' ∧ St1 pc i x y nx ls' st σ (f.1, l', f.2.2) := by
  cases i with
  | iload_n k => obtain ⟨v, hv, rfl⟩ := h; exact ⟨ls', hw, v, wkL_get hw hv, rfl⟩
  | iload k => obtain ⟨v, hv, rfl⟩ := h; exact ⟨ls', hw, v, wkL_get hw hv, rfl⟩
  | aload_n k => obtain ⟨v, hv, rfl⟩ := h; exact ⟨ls', hw, v, wkL_get hw hv, rfl⟩
  | aload k => obtain ⟨v, hv, rfl⟩ := h; exact ⟨ls', hw, v, wkL_get hw hv, rfl⟩
  | istore_n k => obtain ⟨v, t, rfl, hlt, rfl⟩ := h; exact ⟨_, wkL_set hw _ _, v, t, rfl, by rw [← wkL_len hw]; exact hlt, rfl⟩
  | istore k => obtain ⟨v, t, rfl, hlt, rfl⟩ := h; exact ⟨_, wkL_set hw _ _, v, t, rfl, by rw [← wkL_len hw]; exact hlt, rfl⟩
  | astore_n k => obtain ⟨v, t, rfl, hlt, rfl⟩ := h; exact ⟨_, wkL_set hw _ _, v, t, rfl, by rw [← wkL_len hw]; exact hlt, rfl⟩
  | astore k => obtain ⟨v, t, rfl, hlt, rfl⟩ := h; exact ⟨_, wkL_set hw _ _, v, t, rfl, by rw [← wkL_len hw]; exact hlt, rfl⟩
  | iinc k n => obtain ⟨v, hv, rfl⟩ := h; exact ⟨_, wkL_set hw _ _, v, wkL_get hw hv, rfl⟩
  | iconst n => subst h; exact ⟨ls', hw, rfl⟩
  | bipush n => subst h; exact ⟨ls', hw, rfl⟩
  | sipush n => subst h; exact ⟨ls', hw, rfl⟩
  | ldc j => subst h; exact ⟨ls', hw, rfl⟩
  | aconst_null => subst h; exact ⟨ls', hw, rfl⟩
  | goto o => subst h; exact ⟨ls', hw, rfl⟩
  | new j => subst h; exact ⟨ls', hw, rfl⟩
  | ldc_w j => obtain ⟨hy, rfl⟩ := h; exact ⟨ls', hw, hy, rfl⟩
  | dup => obtain ⟨a, b, rfl, rfl⟩ := h; exact ⟨ls', hw, a, b, rfl, rfl⟩
  | dup2 => obtain ⟨a, b, c, rfl, rfl⟩ := h; exact ⟨ls', hw, a, b, c, rfl, rfl⟩
  | pop => obtain ⟨a, b, rfl, rfl⟩ := h; exact ⟨ls', hw, a, b, rfl, rfl⟩
  | iadd => obtain ⟨a, b, c, rfl, rfl⟩ := h; exact ⟨ls', hw, a, b, c, rfl, rfl⟩
  | isub => obtain ⟨a, b, c, rfl, rfl⟩ := h; exact ⟨ls', hw, a, b, c, rfl, rfl⟩
  | imul => obtain ⟨a, b, c, rfl, rfl⟩ := h; exact ⟨ls', hw, a, b, c, rfl, rfl⟩
  | iand => obtain ⟨a, b, c, rfl, rfl⟩ := h; exact ⟨ls', hw, a, b, c, rfl, rfl⟩
  | ior => obtain ⟨a, b, c, rfl, rfl⟩ := h; exact ⟨ls', hw, a, b, c, rfl, rfl⟩
  | ishl => obtain ⟨a, b, c, rfl, rfl⟩ := h; exact ⟨ls', hw, a, b, c, rfl, rfl⟩
  | ishr => obtain ⟨a, b, c, rfl, rfl⟩ := h; exact ⟨ls', hw, a, b, c, rfl, rfl⟩
  | iushr => obtain ⟨a, b, c, rfl, rfl⟩ := h; exact ⟨ls', hw, a, b, c, rfl, rfl⟩
  | getfield j => obtain ⟨a, b, rfl, rfl⟩ := h; exact ⟨ls', hw, a, b, rfl, rfl⟩
  | idiv => obtain ⟨a, b, t, rfl, h1, rfl⟩ := h; exact ⟨ls', hw, a, b, t, rfl, h1, rfl⟩
  | irem => obtain ⟨a, b, t, rfl, h1, rfl⟩ := h; exact ⟨ls', hw, a, b, t, rfl, h1, rfl⟩
  | putfield j => obtain ⟨v, a, t, rfl, h1, rfl⟩ := h; exact ⟨ls', hw, v, a, t, rfl, h1, rfl⟩
  | ifCond c o =>
    obtain ⟨a, t, rfl, ⟨h1, rfl⟩ | ⟨h1, rfl⟩⟩ := h
    · exact ⟨ls', hw, a, t, rfl, Or.inl ⟨h1, rfl⟩⟩
    · exact ⟨ls', hw, a, t, rfl, Or.inr ⟨h1, rfl⟩⟩
  | if_icmp c o =>
    obtain ⟨a, b, t, rfl, ⟨h1, rfl⟩ | ⟨h1, rfl⟩⟩ := h
    · exact ⟨ls', hw, a, b, t, rfl, Or.inl ⟨h1, rfl⟩⟩
    · exact ⟨ls', hw, a, b, t, rfl, Or.inr ⟨h1, rfl⟩⟩
  | ifnull o =>
    obtain ⟨c, r, t, rfl, ⟨h1, rfl⟩ | ⟨h1, rfl⟩⟩ := h
    · exact ⟨ls', hw, c, r, t, rfl, Or.inl ⟨h1, rfl⟩⟩
    · exact ⟨ls', hw, c, r, t, rfl, Or.inr ⟨h1, rfl⟩⟩
  | ifnonnull o =>
    obtain ⟨c, r, t, rfl, ⟨h1, rfl⟩ | ⟨h1, rfl⟩⟩ := h
    · exact ⟨ls', hw, c, r, t, rfl, Or.inl ⟨h1, rfl⟩⟩
    · exact ⟨ls', hw, c, r, t, rfl, Or.inr ⟨h1, rfl⟩⟩
  | tableswitch d lo hi os => obtain ⟨a, t, off, tg, rfl, h1, h2, rfl⟩ := h; exact ⟨ls', hw, a, t, off, tg, rfl, h1, h2, rfl⟩
  | iaload => obtain ⟨j, c, a, t, rfl, h1, h2, h3, rfl⟩ := h; exact ⟨ls', hw, j, c, a, t, rfl, h1, h2, h3, rfl⟩
  | baload => obtain ⟨j, a, t, rfl, h2, h3, rfl⟩ := h; exact ⟨ls', hw, j, a, t, rfl, h2, h3, rfl⟩
  | aaload => obtain ⟨j, c, a, t, rfl, h1, h2, h3, rfl⟩ := h; exact ⟨ls', hw, j, c, a, t, rfl, h1, h2, h3, rfl⟩
  | iastore => obtain ⟨v, j, a, t, rfl, h2, h3, rfl⟩ := h; exact ⟨ls', hw, v, j, a, t, rfl, h2, h3, rfl⟩
  | bastore => obtain ⟨v, j, a, t, rfl, h1, h2, h3, rfl⟩ := h; exact ⟨ls', hw, v, j, a, t, rfl, h1, h2, h3, rfl⟩
  | aastore => obtain ⟨v, j, c, a, t, rfl, h1, h2, h3, rfl⟩ := h; exact ⟨ls', hw, v, j, c, a, t, rfl, h1, h2, h3, rfl⟩
  | arraylength => obtain ⟨c, a, t, rfl, h1, rfl⟩ := h; exact ⟨ls', hw, c, a, t, rfl, h1, rfl⟩
  | newarray ty => obtain ⟨n, t, rfl, h1, h2, rfl⟩ := h; exact ⟨ls', hw, n, t, rfl, h1, h2, rfl⟩
  | anewarray j => obtain ⟨n, t, rfl, h1, h2, rfl⟩ := h; exact ⟨ls', hw, n, t, rfl, h1, h2, rfl⟩
  | multianewarray j d => obtain ⟨n, k, t, rfl, h0, h1, h2, h3, rfl⟩ := h; exact ⟨ls', hw, n, k, t, rfl, h0, h1, h2, h3, rfl⟩
  | invokevirtual j =>
    rcases h with ⟨h1, k, t, rfl, h2, rfl⟩ | ⟨h1, n, k, t, rfl, h2, h3, h4, rfl⟩
    · exact ⟨ls', hw, Or.inl ⟨h1, k, t, rfl, h2, rfl⟩⟩
    · exact ⟨ls', hw, Or.inr ⟨h1, n, k, t, rfl, h2, h3, h4, rfl⟩⟩
  | invokespecial j => obtain ⟨h1, c, a, t, rfl, h2, rfl⟩ := h; exact ⟨ls', hw, h1, c, a, t, rfl, h2, rfl⟩
  | _ => exact h.elim
theorem Ex.weak {d m : Nat} {Q : AQ} {pc : Nat} {ls ls' : List (Option AV)} {st : List AV} {σ : AS} (hw : wkL ls ls') (h : Ex (wp d) m Q pc ls st σ) : Ex (wp d) m Q pc ls' st σ := by
  refine h (fun pc ls st σ => ∀ ls', wkL ls ls' → Ex (wp d) m Q pc ls' st σ) ?_ ls' hw
  intro pc ls st σ h ls' hw
  obtain ⟨i, len, x, y, nx, hi, h⟩ := h
  refine Ex.step ⟨i, len, x, y, nx, hi, ?_⟩
  rcases h with ⟨f, h1, h2⟩ | ⟨as, t, h1, h2⟩ | ⟨r, h1, h2⟩
  · obtain ⟨l', g1, g2⟩ := St1_weak h1 hw
    exact Or.inl ⟨_, g2, h2 l' g1⟩
  · exact Or.inr (Or.inl ⟨as, t, h1, wp.mono (fun r u h3 => h3 ls' hw) h2⟩)
  · exact Or.inr (Or.inr ⟨r, h1, h2⟩)

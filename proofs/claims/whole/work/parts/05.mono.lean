/-! memory only grows -/
set_option maxHeartbeats 4000000 in
theorem sm_ex_mono {cal : Nat → List Value → sm_M → sm_R} {sc : Option (Nat × (Nat → Int32))} {mi : sm_MI} {k : Nat → sm_L → List Value → sm_M → sm_R} {M' : sm_M} {r : Option Value} (hc : ∀ y as M M1 v, cal y as M = some (M1, v) → M.length ≤ M1.length ∧ sm_sl M ≤ sm_sl M1) (hk : ∀ pc L st M, k pc L st M = some (M', r) → M.length ≤ M'.length ∧ sm_sl M ≤ sm_sl M') {pc : Nat} {L : sm_L} {st : List Value} {M : sm_M} {i : Instr} (h : sm_ex cal sc mi k pc L st M i = some (M', r)) : M.length ≤ M'.length ∧ sm_sl M ≤ sm_sl M' := by
  have hk3 : ∀ (e e0 : va_E) (a pc : Nat) (L : sm_L) (st : List Value), sm_get M a = some e0 → sm_sz e = sm_sz e0 → k pc L st (sm_set M a e) = some (M', r) → M.length ≤ M'.length ∧ sm_sl M ≤ sm_sl M' := by
    intro e e0 a pc L st hg hz h
    have h2 := hk _ _ _ _ h
    rw [sm_set_len, sm_set_sl hg hz] at h2
    exact h2
  have hk4 : ∀ (e : va_E) (pc : Nat) (L : sm_L) (st : List Value), k pc L st (M ++ [e]) = some (M', r) → M.length ≤ M'.length ∧ sm_sl M ≤ sm_sl M' := by
    intro e pc L st h
    have h2 := hk _ _ _ _ h
    rw [sm_sl_app, List.length_append] at h2
    exact ⟨by have := h2.1; simp at this; omega, by omega⟩
  have hk5 : ∀ (y : Nat) (as r0 : List Value) (pc : Nat) (L : sm_L), sm_inv k pc L r0 (cal y as M) = some (M', r) → M.length ≤ M'.length ∧ sm_sl M ≤ sm_sl M' := by
    intro y as r0 pc L h
    obtain ⟨M1, v, h1, h⟩ := sm_inv_some h
    have h2 := hk _ _ _ _ h
    have h3 := hc _ _ _ _ _ h1
    exact ⟨Nat.le_trans h3.1 h2.1, Nat.le_trans h3.2 h2.2⟩
  cases i with
  | iconst n =>
    exact hk _ _ _ _ h
  | bipush n =>
    exact hk _ _ _ _ h
  | sipush n =>
    exact hk _ _ _ _ h
  | lconst n =>
    exact hk _ _ _ _ h
  | iload_n j =>
    replace h := sm_li1_some h
    obtain ⟨x, hx, h⟩ := h
    exact hk _ _ _ _ h
  | iload j =>
    replace h := sm_li1_some h
    obtain ⟨x, hx, h⟩ := h
    exact hk _ _ _ _ h
  | lload_n j =>
    replace h := sm_ll1_some h
    obtain ⟨x, hx, h⟩ := h
    exact hk _ _ _ _ h
  | lload j =>
    replace h := sm_ll1_some h
    obtain ⟨x, hx, h⟩ := h
    exact hk _ _ _ _ h
  | aload_n j =>
    replace h := sm_lr1_some h
    obtain ⟨x, hx, h⟩ := h
    exact hk _ _ _ _ h
  | aload j =>
    replace h := sm_lr1_some h
    obtain ⟨x, hx, h⟩ := h
    exact hk _ _ _ _ h
  | istore_n j =>
    replace h := sm_i1_some h
    obtain ⟨x, t, rfl, h⟩ := h
    replace h := sm_st1_some h
    obtain ⟨hj, h⟩ := h
    exact hk _ _ _ _ h
  | istore j =>
    replace h := sm_i1_some h
    obtain ⟨x, t, rfl, h⟩ := h
    replace h := sm_st1_some h
    obtain ⟨hj, h⟩ := h
    exact hk _ _ _ _ h
  | lstore_n j =>
    replace h := sm_l1_some h
    obtain ⟨x, t, rfl, h⟩ := h
    replace h := sm_st2_some h
    obtain ⟨hj, h⟩ := h
    exact hk _ _ _ _ h
  | lstore j =>
    replace h := sm_l1_some h
    obtain ⟨x, t, rfl, h⟩ := h
    replace h := sm_st2_some h
    obtain ⟨hj, h⟩ := h
    exact hk _ _ _ _ h
  | astore_n j =>
    replace h := sm_r1_some h
    obtain ⟨x, t, rfl, h⟩ := h
    replace h := sm_st1_some h
    obtain ⟨hj, h⟩ := h
    exact hk _ _ _ _ h
  | astore j =>
    replace h := sm_r1_some h
    obtain ⟨x, t, rfl, h⟩ := h
    replace h := sm_st1_some h
    obtain ⟨hj, h⟩ := h
    exact hk _ _ _ _ h
  | iinc j n =>
    replace h := sm_li1_some h
    obtain ⟨x, hx, h⟩ := h
    replace h := sm_st1_some h
    obtain ⟨hj, h⟩ := h
    exact hk _ _ _ _ h
  | iadd =>
    replace h := sm_i2_some h
    obtain ⟨x, y, t, rfl, h⟩ := h
    exact hk _ _ _ _ h
  | isub =>
    replace h := sm_i2_some h
    obtain ⟨x, y, t, rfl, h⟩ := h
    exact hk _ _ _ _ h
  | imul =>
    replace h := sm_i2_some h
    obtain ⟨x, y, t, rfl, h⟩ := h
    exact hk _ _ _ _ h
  | iand =>
    replace h := sm_i2_some h
    obtain ⟨x, y, t, rfl, h⟩ := h
    exact hk _ _ _ _ h
  | ior =>
    replace h := sm_i2_some h
    obtain ⟨x, y, t, rfl, h⟩ := h
    exact hk _ _ _ _ h
  | ixor =>
    replace h := sm_i2_some h
    obtain ⟨x, y, t, rfl, h⟩ := h
    exact hk _ _ _ _ h
  | ishl =>
    replace h := sm_i2_some h
    obtain ⟨x, y, t, rfl, h⟩ := h
    exact hk _ _ _ _ h
  | ishr =>
    replace h := sm_i2_some h
    obtain ⟨x, y, t, rfl, h⟩ := h
    exact hk _ _ _ _ h
  | iushr =>
    replace h := sm_i2_some h
    obtain ⟨x, y, t, rfl, h⟩ := h
    exact hk _ _ _ _ h
  | ladd =>
    replace h := sm_l2_some h
    obtain ⟨x, y, t, rfl, h⟩ := h
    exact hk _ _ _ _ h
  | lsub =>
    replace h := sm_l2_some h
    obtain ⟨x, y, t, rfl, h⟩ := h
    exact hk _ _ _ _ h
  | land =>
    replace h := sm_l2_some h
    obtain ⟨x, y, t, rfl, h⟩ := h
    exact hk _ _ _ _ h
  | lor =>
    replace h := sm_l2_some h
    obtain ⟨x, y, t, rfl, h⟩ := h
    exact hk _ _ _ _ h
  | lxor =>
    replace h := sm_l2_some h
    obtain ⟨x, y, t, rfl, h⟩ := h
    exact hk _ _ _ _ h
  | lcmp =>
    replace h := sm_l2_some h
    obtain ⟨x, y, t, rfl, h⟩ := h
    exact hk _ _ _ _ h
  | lshl =>
    replace h := sm_li_some h
    obtain ⟨x, y, t, rfl, h⟩ := h
    exact hk _ _ _ _ h
  | lshr =>
    replace h := sm_li_some h
    obtain ⟨x, y, t, rfl, h⟩ := h
    exact hk _ _ _ _ h
  | lushr =>
    replace h := sm_li_some h
    obtain ⟨x, y, t, rfl, h⟩ := h
    exact hk _ _ _ _ h
  | ineg =>
    replace h := sm_i1_some h
    obtain ⟨x, t, rfl, h⟩ := h
    exact hk _ _ _ _ h
  | i2l =>
    replace h := sm_i1_some h
    obtain ⟨x, t, rfl, h⟩ := h
    exact hk _ _ _ _ h
  | l2i =>
    replace h := sm_l1_some h
    obtain ⟨x, t, rfl, h⟩ := h
    exact hk _ _ _ _ h
  | goto off =>
    replace h := sm_tg_some h
    obtain ⟨t, ht, h⟩ := h
    exact hk _ _ _ _ h
  | ldc x =>
    simp only [sm_ex] at h
    split at h
    · exact hk _ _ _ _ h
    · exact hk _ _ _ _ h
    · cases h
  | ldc_w x =>
    simp only [sm_ex] at h
    split at h
    · exact hk _ _ _ _ h
    · cases h
  | ldc2_w x =>
    simp only [sm_ex] at h
    split at h
    · exact hk _ _ _ _ h
    · cases h
  | idiv =>
    replace h := sm_i2_some h
    obtain ⟨x, y, t, rfl, h⟩ := h
    split at h
    · cases h
    · exact hk _ _ _ _ h
  | irem =>
    replace h := sm_i2_some h
    obtain ⟨x, y, t, rfl, h⟩ := h
    split at h
    · cases h
    · exact hk _ _ _ _ h
  | dup =>
    simp only [sm_ex] at h
    split at h
    · exact hk _ _ _ _ h
    · exact hk _ _ _ _ h
    · cases h
  | dup2 =>
    simp only [sm_ex] at h
    split at h
    · exact hk _ _ _ _ h
    · exact hk _ _ _ _ h
    · cases h
  | ifCond c off =>
    replace h := sm_tg_some h
    obtain ⟨t, ht, h⟩ := h
    replace h := sm_i1_some h
    obtain ⟨x, r0, rfl, h⟩ := h
    cases c <;> (dsimp only at h; split at h <;> exact hk _ _ _ _ h)
  | if_icmp c off =>
    replace h := sm_tg_some h
    obtain ⟨t, ht, h⟩ := h
    replace h := sm_i2_some h
    obtain ⟨x, y, r0, rfl, h⟩ := h
    cases c <;> (dsimp only at h; split at h <;> exact hk _ _ _ _ h)
  | tableswitch dflt lo hi offs =>
    replace h := sm_i1_some h
    obtain ⟨x, r0, rfl, h⟩ := h
    split at h
    · replace h := sm_tg_some h
      obtain ⟨t, ht, h⟩ := h
      exact hk _ _ _ _ h
    · split at h
      · replace h := sm_tg_some h
        obtain ⟨t, ht, h⟩ := h
        exact hk _ _ _ _ h
      · cases h
  | lookupswitch dflt ps =>
    simp only [sm_ex] at h
    split at h
    · replace h := sm_i1_some h
      obtain ⟨x, r0, rfl, h⟩ := h
      replace h := sm_tg_some h
      obtain ⟨t, ht, h⟩ := h
      exact hk _ _ _ _ h
    · cases h
  | getfield x =>
    simp only [sm_ex] at h
    split at h
    · replace h := sm_r1_some h
      obtain ⟨o, r0, rfl, h⟩ := h
      replace h := sm_obj_some h
      obtain ⟨cj, fs, hg, h⟩ := h
      split at h
      · split at h
        · exact hk _ _ _ _ h
        · cases h
      · cases h
    · cases h
  | putfield x =>
    simp only [sm_ex] at h
    split at h
    · split at h
      · replace h := sm_obj_some h
        obtain ⟨cj, fs, hg, h⟩ := h
        split at h
        · exact hk3 _ _ _ _ _ _ hg (by simp [sm_sz, sm_vs_set]) h
        · cases h
      · cases h
    · cases h
  | iaload =>
    simp only [sm_ex] at h
    split at h
    · split at h
      · split at h
        · replace h := sm_ix_some h
          obtain ⟨hi, h⟩ := h
          exact hk _ _ _ _ h
        · cases h
      · replace h := sm_ia_some h
        obtain ⟨n, g, hg, h⟩ := h
        replace h := sm_ix_some h
        obtain ⟨hi, h⟩ := h
        exact hk _ _ _ _ h
    · cases h
  | laload =>
    simp only [sm_ex] at h
    split at h
    · replace h := sm_la_some h
      obtain ⟨n, g, hg, h⟩ := h
      replace h := sm_ix_some h
      obtain ⟨hi, h⟩ := h
      exact hk _ _ _ _ h
    · cases h
  | iastore =>
    simp only [sm_ex] at h
    split at h
    · replace h := sm_ia_some h
      obtain ⟨n, g, hg, h⟩ := h
      replace h := sm_ix_some h
      obtain ⟨hi, h⟩ := h
      refine hk3 _ _ _ _ _ _ hg ?_ h
      rfl
    · cases h
  | lastore =>
    simp only [sm_ex] at h
    split at h
    · replace h := sm_la_some h
      obtain ⟨n, g, hg, h⟩ := h
      replace h := sm_ix_some h
      obtain ⟨hi, h⟩ := h
      refine hk3 _ _ _ _ _ _ hg ?_ h
      rfl
    · cases h
  | arraylength =>
    replace h := sm_r1_some h
    obtain ⟨a, r0, rfl, h⟩ := h
    split at h
    · split at h
      · exact hk _ _ _ _ h
      · cases h
    · replace h := sm_len_some h
      obtain ⟨n, hg, h⟩ := h
      exact hk _ _ _ _ h
  | newarray t =>
    replace h := sm_i1_some h
    obtain ⟨x, r0, rfl, h⟩ := h
    split at h
    · cases h
    · split at h
      · split at h
        · exact hk4 _ _ _ _ h
        · exact hk4 _ _ _ _ h
        · cases h
      · cases h
  | new x =>
    simp only [sm_ex] at h
    split at h
    · split at h
      · exact hk4 _ _ _ _ h
      · cases h
    · cases h
  | invokestatic x =>
    simp only [sm_ex] at h
    split at h
    · split at h
      · split at h
        · exact hk5 _ _ _ _ _ h
        · cases h
      · cases h
    · replace h := sm_i2_some h
      obtain ⟨x, y, r0, rfl, h⟩ := h
      split at h
      · exact hk _ _ _ _ h
      · cases h
    · replace h := sm_i2_some h
      obtain ⟨x, y, r0, rfl, h⟩ := h
      split at h
      · exact hk _ _ _ _ h
      · cases h
    · replace h := sm_i1_some h
      obtain ⟨x, r0, rfl, h⟩ := h
      split at h
      · exact hk _ _ _ _ h
      · cases h
    · cases h
  | invokevirtual x =>
    simp only [sm_ex] at h
    split at h
    · split at h
      · split at h
        · replace h := sm_obj_some h
          obtain ⟨cj, fs, hg, h⟩ := h
          split at h
          · exact hk5 _ _ _ _ _ h
          · cases h
        · cases h
      · cases h
    · split at h
      · split at h
        · exact hk5 _ _ _ _ _ h
        · cases h
      · cases h
    · cases h
  | invokespecial x =>
    simp only [sm_ex] at h
    split at h
    · split at h
      · split at h
        · exact hk5 _ _ _ _ _ h
        · cases h
      · cases h
    · replace h := sm_r1_some h
      obtain ⟨a, r0, rfl, h⟩ := h
      split at h
      · exact hk _ _ _ _ h
      · cases h
    · cases h
  | ireturn =>
    replace h := sm_i1_some h
    obtain ⟨x, r0, rfl, h⟩ := h
    split at h
    · replace h := sm_ret_some h
      obtain ⟨-, h⟩ := h
      cases h
      exact ⟨Nat.le_refl _, Nat.le_refl _⟩
    · cases h
  | lreturn =>
    replace h := sm_l1_some h
    obtain ⟨x, r0, rfl, h⟩ := h
    split at h
    · replace h := sm_ret_some h
      obtain ⟨-, h⟩ := h
      cases h
      exact ⟨Nat.le_refl _, Nat.le_refl _⟩
    · cases h
  | return_ =>
    simp only [sm_ex] at h
    split at h
    · replace h := sm_ret_some h
      obtain ⟨-, h⟩ := h
      cases h
      exact ⟨Nat.le_refl _, Nat.le_refl _⟩
    · cases h
  | _ => exact absurd (show (none : sm_R) = some (M', r) from h) (by simp)
theorem sm_run_mono {cal : Nat → List Value → sm_M → sm_R} {sc : Option (Nat × (Nat → Int32))} {mi : sm_MI} {M' : sm_M} {r : Option Value} (hc : ∀ y as M M1 v, cal y as M = some (M1, v) → M.length ≤ M1.length ∧ sm_sl M ≤ sm_sl M1) : ∀ (n pc : Nat) (L : sm_L) (st : List Value) (M : sm_M), sm_run cal sc mi n pc L st M = some (M', r) → M.length ≤ M'.length ∧ sm_sl M ≤ sm_sl M' := by
  intro n
  induction n with
  | zero => intro pc L st M h; cases h
  | succ n ih =>
    intro pc L st M h
    simp only [sm_run] at h
    split at h
    · cases h
    · exact sm_ex_mono hc ih h

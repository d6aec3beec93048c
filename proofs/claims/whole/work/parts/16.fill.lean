/-! memories: what is read behind a write; Arrays.fill -/
theorem sm_get_set : ∀ {M : sm_M} {a : Nat} {e0 : va_E} (e : va_E), sm_get M a = some e0 → sm_get (sm_set M a e) a = some e := by
  intro M
  induction M with
  | nil => intro a e0 e h; cases h
  | cons c t ih =>
    intro a e0 e h
    cases a with
    | zero => rfl
    | succ a => exact ih (a := a) e h
theorem sm_set_set : ∀ (M : sm_M) (a : Nat) (e e2 : va_E), sm_set (sm_set M a e) a e2 = sm_set M a e2 := by
  intro M
  induction M with
  | nil => intro a e e2; rfl
  | cons c t ih =>
    intro a e e2
    cases a with
    | zero => rfl
    | succ a => show _ :: sm_set (sm_set t a e) a e2 = _ :: sm_set t a e2; rw [ih]
theorem sm_set_self : ∀ {M : sm_M} {a : Nat} {e : va_E}, sm_get M a = some e → sm_set M a e = M := by
  intro M
  induction M with
  | nil => intro a e h; cases h
  | cons c t ih =>
    intro a e h
    cases a with
    | zero => cases h; rfl
    | succ a => show _ :: sm_set t a e = _ :: t; rw [ih (a := a) h]
set_option maxHeartbeats 4000000 in
set_option maxRecDepth 20000 in
theorem cFillI_loop (sc : sm_S) (M : sm_M) (a n : Nat) (g : Nat → Int32) (v : Int32) (hg : sm_get M a = some (.inl (0, n, .inl g))) (hn : n < 2 ^ 31) : ∀ (k i : Nat), i + k = n → zW 0 sc miJ7_fill_53178 5 [some (.ref a), some (.int v), some (.int (nI i)), some (.int (nI n))] [] (sm_set M a (.inl (0, n, .inl (fun j => if j < i then v else g j)))) (fun M' r => M' = sm_set M a (.inl (0, n, .inl (fun j => if j < n then v else g j))) ∧ r = none) := by
  intro k
  induction k with
  | zero =>
    intro i hi
    have e : i = n := by omega
    subst e
    refine zw_nx rfl (fun _ _ => rfl) ?_
    refine zw_nx rfl (fun _ _ => rfl) ?_
    first | refine zw_br rfl (fun _ _ => rfl) (fun _ => ?_) (fun h9 => absurd (nI_le (Nat.le_refl i) hn) h9) | refine zw_nx rfl (fun _ _ => rfl) ?_
    exact zw_ret rfl (fun _ _ => rfl) (⟨rfl, rfl⟩)
  | succ k ih =>
    intro i hi
    refine zw_nx rfl (fun _ _ => rfl) ?_
    refine zw_nx rfl (fun _ _ => rfl) ?_
    first | refine zw_br rfl (fun _ _ => rfl) (fun h9 => absurd h9 (nI_ge (by omega) hn)) (fun _ => ?_) | refine zw_nx rfl (fun _ _ => rfl) ?_
    refine zw_nx rfl (fun _ _ => rfl) ?_
    refine zw_nx rfl (fun _ _ => rfl) ?_
    refine zw_nx rfl (fun _ _ => rfl) ?_
    have hg2 := sm_get_set (.inl (0, n, .inl (fun j => if j < i then v else g j))) hg
    refine zw_ix (x := nI i) (n := n) (pc' := 14) (L' := [some (.ref a), some (.int v), some (.int (nI i)), some (.int (nI n))]) (st' := []) (M1 := sm_set (sm_set M a (.inl (0, n, .inl (fun j => if j < i then v else g j)))) a (.inl (0, n, .inl (upd (fun j => if j < i then v else g j) (nI i).toNatClampNeg v)))) rfl (fun cal k => ?_) (vp_in_nI (by omega) hn) ?_
    · show sm_ia _ a _ = _
      unfold sm_ia
      rw [hg2]
      rfl
    · rw [nI_clamp (by omega), sm_set_set]
      have e : upd (fun j => if j < i then v else g j) i v = fun j => if j < i + 1 then v else g j := by
        funext j
        unfold upd
        by_cases h : j = i
        · rw [if_pos h, if_pos (by omega)]
        · rw [if_neg h]
          dsimp only
          by_cases h2 : j < i
          · rw [if_pos h2, if_pos (by omega)]
          · rw [if_neg h2, if_neg (by omega)]
      rw [e]
      refine zw_nx rfl (fun _ _ => rfl) ?_
      refine zw_nx rfl (fun _ _ => rfl) ?_
      have h := ih (i + 1) (by omega)
      rw [nI_succ] at h
      exact h
set_option maxHeartbeats 4000000 in
set_option maxRecDepth 20000 in
theorem cFillI (sc : sm_S) (M : sm_M) (a n : Nat) (g : Nat → Int32) (v : Int32) (hg : sm_get M a = some (.inl (0, n, .inl g))) (ha : Nat.beq a sm_SC = false) (hn : n < 2 ^ 31) : zC 1 sc 255 [.ref a, .int v] M (fun M' r => M' = sm_set M a (.inl (0, n, .inl (fun j => if j < n then v else g j))) ∧ r = none) := by
  refine zc_of hkJ7_fill_53178 rfl ?_
  refine zw_nx rfl (fun _ _ => rfl) ?_
  refine zw_nx rfl (fun _ _ => rfl) ?_
  refine zw_nx rfl (fun _ _ => rfl) ?_
  refine zw_nx (pc' := 4) (L' := [some (.ref a), some (.int v), some (.int 0), none]) (st' := [.int (nI n)]) (M1 := M) rfl (fun cal k => ?_) ?_
  · show (match Nat.beq a sm_SC with | true => _ | false => sm_len M a _) = _
    rw [ha]
    show sm_len M a _ = _
    unfold sm_len
    rw [hg]
    rfl
  · refine zw_nx rfl (fun _ _ => rfl) ?_
    have h := cFillI_loop sc M a n g v hg hn n 0 (by omega)
    have e : (fun j => if j < 0 then v else g j) = g := by funext j; simp
    rw [e, sm_set_self hg] at h
    exact h
set_option maxHeartbeats 4000000 in
set_option maxRecDepth 20000 in
theorem cFillL_loop (sc : sm_S) (M : sm_M) (a n : Nat) (g : Nat → Int64) (v : Int64) (hg : sm_get M a = some (.inl (1, n, .inr (.inl g)))) (hn : n < 2 ^ 31) : ∀ (k i : Nat), i + k = n → zW 0 sc miJ7_fill_d0a16 6 [some (.ref a), some (.long v), none, some (.int (nI i)), some (.int (nI n))] [] (sm_set M a (.inl (1, n, .inr (.inl (fun j => if j < i then v else g j))))) (fun M' r => M' = sm_set M a (.inl (1, n, .inr (.inl (fun j => if j < n then v else g j)))) ∧ r = none) := by
  intro k
  induction k with
  | zero =>
    intro i hi
    have e : i = n := by omega
    subst e
    refine zw_nx rfl (fun _ _ => rfl) ?_
    refine zw_nx rfl (fun _ _ => rfl) ?_
    first | refine zw_br rfl (fun _ _ => rfl) (fun _ => ?_) (fun h9 => absurd (nI_le (Nat.le_refl i) hn) h9) | refine zw_nx rfl (fun _ _ => rfl) ?_
    exact zw_ret rfl (fun _ _ => rfl) (⟨rfl, rfl⟩)
  | succ k ih =>
    intro i hi
    refine zw_nx rfl (fun _ _ => rfl) ?_
    refine zw_nx rfl (fun _ _ => rfl) ?_
    first | refine zw_br rfl (fun _ _ => rfl) (fun h9 => absurd h9 (nI_ge (by omega) hn)) (fun _ => ?_) | refine zw_nx rfl (fun _ _ => rfl) ?_
    refine zw_nx rfl (fun _ _ => rfl) ?_
    refine zw_nx rfl (fun _ _ => rfl) ?_
    refine zw_nx rfl (fun _ _ => rfl) ?_
    have hg2 := sm_get_set (.inl (1, n, .inr (.inl (fun j => if j < i then v else g j)))) hg
    refine zw_ix (x := nI i) (n := n) (pc' := 16) (L' := [some (.ref a), some (.long v), none, some (.int (nI i)), some (.int (nI n))]) (st' := []) (M1 := sm_set (sm_set M a (.inl (1, n, .inr (.inl (fun j => if j < i then v else g j))))) a (.inl (1, n, .inr (.inl (vp_updL (fun j => if j < i then v else g j) (nI i).toNatClampNeg v))))) rfl (fun cal k => ?_) (vp_in_nI (by omega) hn) ?_
    · show sm_la _ a _ = _
      unfold sm_la
      rw [hg2]
      rfl
    · rw [nI_clamp (by omega), sm_set_set]
      have e : vp_updL (fun j => if j < i then v else g j) i v = fun j => if j < i + 1 then v else g j := by
        funext j
        unfold vp_updL
        by_cases h : j = i
        · rw [if_pos h, if_pos (by omega)]
        · rw [if_neg h]
          dsimp only
          by_cases h2 : j < i
          · rw [if_pos h2, if_pos (by omega)]
          · rw [if_neg h2, if_neg (by omega)]
      rw [e]
      refine zw_nx rfl (fun _ _ => rfl) ?_
      refine zw_nx rfl (fun _ _ => rfl) ?_
      have h := ih (i + 1) (by omega)
      rw [nI_succ] at h
      exact h
set_option maxHeartbeats 4000000 in
set_option maxRecDepth 20000 in
theorem cFillL (sc : sm_S) (M : sm_M) (a n : Nat) (g : Nat → Int64) (v : Int64) (hg : sm_get M a = some (.inl (1, n, .inr (.inl g)))) (ha : Nat.beq a sm_SC = false) (hn : n < 2 ^ 31) : zC 1 sc 254 [.ref a, .long v] M (fun M' r => M' = sm_set M a (.inl (1, n, .inr (.inl (fun j => if j < n then v else g j)))) ∧ r = none) := by
  refine zc_of hkJ7_fill_d0a16 rfl ?_
  refine zw_nx rfl (fun _ _ => rfl) ?_
  refine zw_nx rfl (fun _ _ => rfl) ?_
  refine zw_nx rfl (fun _ _ => rfl) ?_
  refine zw_nx (pc' := 4) (L' := [some (.ref a), some (.long v), none, some (.int 0), none]) (st' := [.int (nI n)]) (M1 := M) rfl (fun cal k => ?_) ?_
  · show (match Nat.beq a sm_SC with | true => _ | false => sm_len M a _) = _
    rw [ha]
    show sm_len M a _ = _
    unfold sm_len
    rw [hg]
    rfl
  · refine zw_nx rfl (fun _ _ => rfl) ?_
    have h := cFillL_loop sc M a n g v hg hn n 0 (by omega)
    have e : (fun j => if j < 0 then v else g j) = g := by funext j; simp
    rw [e, sm_set_self hg] at h
    exact h

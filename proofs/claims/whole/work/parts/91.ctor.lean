/-! the class: what is made with it -/
def fgI : Nat → Int32 := fgV (fun _ => 0) 48
def fgT : Nat → Int32 := fun j => if j < 208 then -1 else 0
/-- the first w bits -/
def fb (w : Nat) : Int64 := bitL w - 1
set_option maxHeartbeats 4000000 in
set_option maxRecDepth 20000 in
theorem iForget_loop (sc : sm_S) {c0 c2 c3 c4 c6 : va_E} : ∀ (k i : Nat), i + k = 48 → zW 1 sc miX3_forget 18 [some (.ref 1), some (.int (nI i))] [] [c0, .inr (3, [.ref 2, .ref 3, .ref 4, .ref 5, .ref 6, .int 0, .int 0, .int 0, .int 0, .int 0]), c2, c3, c4, .inl (0, 208, .inl (fgV (fun _ => 0) i)), c6] (fun M r => M = [c0, .inr (3, [.ref 2, .ref 3, .ref 4, .ref 5, .ref 6, .int 0, .int 0, .int 0, .int 0, .int 0]), c2, c3, c4, .inl (0, 208, .inl fgI), c6] ∧ r = none) := by
  intro k
  induction k with
  | zero =>
    intro i hi
    have e : i = 48 := by omega
    subst e
    refine zw_nx rfl (fun _ _ => rfl) ?_
    refine zw_nx rfl (fun _ _ => rfl) ?_
    refine zw_nx rfl (fun _ _ => rfl) ?_
    exact zw_ret rfl (fun _ _ => rfl) (⟨rfl, rfl⟩)
  | succ k ih =>
    intro i hi
    refine zw_nx rfl (fun _ _ => rfl) ?_
    refine zw_nx rfl (fun _ _ => rfl) ?_
    first | refine zw_br rfl (fun _ _ => rfl) (fun h9 => absurd h9 (nI_ge (a := i) (b := 48) (by omega) (by decide))) (fun _ => ?_) | refine zw_nx rfl (fun _ _ => rfl) ?_
    refine zw_nx rfl (fun _ _ => rfl) ?_
    refine zw_nx rfl (fun _ _ => rfl) ?_
    refine zw_nx rfl (fun _ _ => rfl) ?_
    refine zw_nx rfl (fun _ _ => rfl) ?_
    refine zw_nx rfl (fun _ _ => rfl) ?_
    refine zw_nx rfl (fun _ _ => rfl) ?_
    have e0 : (0 : Int32) + nI i = nI i := by rw [show (0 : Int32) = nI 0 from nI_0.symm, nI_add, Nat.zero_add]
    refine zw_ix rfl (fun _ _ => rfl) (show vp_in ((0 : Int32) + nI i) 208 by rw [e0]; exact vp_in_nI (by omega) (by decide)) ?_
    refine zw_nx rfl (fun _ _ => rfl) ?_
    refine zw_nx rfl (fun _ _ => rfl) ?_
    have h := ih (i + 1) (by omega)
    rw [nI_succ] at h
    have e : upd (fgV (fun _ => 0) i) ((0 : Int32) + nI i).toNatClampNeg (-1) = fgV (fun _ => 0) (i + 1) := by
      rw [e0, nI_clamp (by omega)]
      funext j
      unfold upd fgV
      by_cases h1 : j = i
      · rw [if_pos h1, if_pos (by omega)]
      · rw [if_neg h1]
        by_cases h2 : j < i
        · rw [if_pos h2, if_pos (show j < i + 1 by omega)]
        · rw [if_neg h2, if_neg (show ¬ j < i + 1 by omega)]
    rw [← e] at h
    exact h
set_option maxHeartbeats 4000000 in
set_option maxRecDepth 20000 in
theorem iForget (sc : sm_S) {c0 c2 c3 c4 : va_E} : zC 2 sc 39 [.ref 1] [c0, .inr (3, [.ref 2, .ref 3, .ref 4, .ref 5, .ref 6, .int 0, .int 0, .int 0, .int 0, .int 0]), c2, c3, c4, .inl (0, 208, .inl (fun _ => 0)), .inl (0, 208, .inl (fun _ => 0))] (fun M r => M = [c0, .inr (3, [.ref 2, .ref 3, .ref 4, .ref 5, .ref 6, .int 0, .int 0, .int 0, .int 0, .int 0]), c2, c3, c4, .inl (0, 208, .inl fgI), .inl (0, 208, .inl fgT)] ∧ r = none) := by
  refine zc_of hkX3_forget rfl ?_
  refine zw_nx rfl (fun _ _ => rfl) ?_
  refine zw_nx rfl (fun _ _ => rfl) ?_
  refine zw_nx rfl (fun _ _ => rfl) ?_
  refine zw_call rfl (fun _ _ => rfl) (cFillI sc _ 5 208 (fun _ => 0) 0 rfl rfl (by decide)) (by decide) ?_
  rintro M1 v ⟨rfl, rfl⟩
  refine zw_nx rfl (fun _ _ => rfl) ?_
  refine zw_nx rfl (fun _ _ => rfl) ?_
  refine zw_nx rfl (fun _ _ => rfl) ?_
  refine zw_call rfl (fun _ _ => rfl) (cFillI sc _ 6 208 (fun _ => 0) (-1) rfl rfl (by decide)) (by decide) ?_
  rintro M1 v ⟨rfl, rfl⟩
  refine zw_nx rfl (fun _ _ => rfl) ?_
  refine zw_nx rfl (fun _ _ => rfl) ?_
  have h := iForget_loop sc (c0 := c0) (c2 := c2) (c3 := c3) (c4 := c4) (c6 := .inl (0, 208, .inl fgT)) 48 0 (by omega)
  have e : fgV (fun _ => 0) 0 = fun j => if j < 208 then 0 else 0 := by
    funext j
    unfold fgV
    rw [if_neg (by omega)]
  rw [e] at h
  exact h
set_option maxHeartbeats 400000 in
theorem iX3 (sc : sm_S) (w h : Nat) {c0 : va_E} : zC 3 sc 31 [.ref 1] [c0, .inr (3, [.null, .null, .null, .null, .null, .int 0, .int 0, .int 0, .int 0, .int 0])] (fun M r => r = none ∧ M = [c0, .inr (3, [.ref 2, .ref 3, .ref 4, .ref 5, .ref 6, .int 0, .int 0, .int 0, .int 0, .int (1)]), .inl (0, 2000, .inl (fun _ => 0)), .inl (0, 2000, .inl (fun _ => 0)), .inl (0, 2000, .inl (fun _ => 0)), .inl (0, 208, .inl fgI), .inl (0, 208, .inl fgT)]) := by
  refine zc_of hkX3_init rfl ?_
  refine zw_nx rfl (fun _ _ => rfl) ?_
  refine zw_nx rfl (fun _ _ => rfl) ?_
  refine zw_nx rfl (fun _ _ => rfl) ?_
  refine zw_nx rfl (fun _ _ => rfl) ?_
  refine zw_nx rfl (fun _ _ => rfl) ?_
  refine zw_nx rfl (fun _ _ => rfl) ?_
  show zW _ sc miX3_init _ _ _ [c0, .inr (3, [.ref 2, .null, .null, .null, .null, .int 0, .int 0, .int 0, .int 0, .int 0]), .inl (0, 2000, .inl (fun _ => 0))] _
  refine zw_nx rfl (fun _ _ => rfl) ?_
  refine zw_nx rfl (fun _ _ => rfl) ?_
  refine zw_nx rfl (fun _ _ => rfl) ?_
  refine zw_nx rfl (fun _ _ => rfl) ?_
  show zW _ sc miX3_init _ _ _ [c0, .inr (3, [.ref 2, .ref 3, .null, .null, .null, .int 0, .int 0, .int 0, .int 0, .int 0]), .inl (0, 2000, .inl (fun _ => 0)), .inl (0, 2000, .inl (fun _ => 0))] _
  refine zw_nx rfl (fun _ _ => rfl) ?_
  refine zw_nx rfl (fun _ _ => rfl) ?_
  refine zw_nx rfl (fun _ _ => rfl) ?_
  refine zw_nx rfl (fun _ _ => rfl) ?_
  show zW _ sc miX3_init _ _ _ [c0, .inr (3, [.ref 2, .ref 3, .ref 4, .null, .null, .int 0, .int 0, .int 0, .int 0, .int 0]), .inl (0, 2000, .inl (fun _ => 0)), .inl (0, 2000, .inl (fun _ => 0)), .inl (0, 2000, .inl (fun _ => 0))] _
  refine zw_nx rfl (fun _ _ => rfl) ?_
  refine zw_nx rfl (fun _ _ => rfl) ?_
  refine zw_nx rfl (fun _ _ => rfl) ?_
  refine zw_nx rfl (fun _ _ => rfl) ?_
  show zW _ sc miX3_init _ _ _ [c0, .inr (3, [.ref 2, .ref 3, .ref 4, .ref 5, .null, .int 0, .int 0, .int 0, .int 0, .int 0]), .inl (0, 2000, .inl (fun _ => 0)), .inl (0, 2000, .inl (fun _ => 0)), .inl (0, 2000, .inl (fun _ => 0)), .inl (0, 208, .inl (fun _ => 0))] _
  refine zw_nx rfl (fun _ _ => rfl) ?_
  refine zw_nx rfl (fun _ _ => rfl) ?_
  refine zw_nx rfl (fun _ _ => rfl) ?_
  refine zw_nx rfl (fun _ _ => rfl) ?_
  show zW _ sc miX3_init _ _ _ [c0, .inr (3, [.ref 2, .ref 3, .ref 4, .ref 5, .ref 6, .int 0, .int 0, .int 0, .int 0, .int 0]), .inl (0, 2000, .inl (fun _ => 0)), .inl (0, 2000, .inl (fun _ => 0)), .inl (0, 2000, .inl (fun _ => 0)), .inl (0, 208, .inl (fun _ => 0)), .inl (0, 208, .inl (fun _ => 0))] _
  repeat (refine zw_go rfl rfl (fun _ _ => rfl) ?_)
  refine zw_call rfl (fun _ _ => rfl) (iForget sc) (by decide) ?_
  rintro M1 v ⟨rfl, rfl⟩
  repeat (refine zw_go rfl rfl (fun _ _ => rfl) ?_)
  exact zw_ret rfl (fun _ _ => rfl) (⟨rfl, rfl⟩)
set_option maxHeartbeats 400000 in
theorem iX0 (sc : sm_S) (w h : Nat) {c0 c1 c2 c3 c4 c5 c6 : va_E} : zC 2 sc 0 [.ref 7, .ref 1, .int (nI w), .int (nI h)] [c0, c1, c2, c3, c4, c5, c6, .inr (0, [.null, .int 0, .int 0, .long 0, .null, .null, .null, .null, .null, .null, .int 0, .int 0])] (fun M r => r = none ∧ M = [c0, c1, c2, c3, c4, c5, c6, .inr (0, [.ref 1, .int (nI w), .int (nI h), .long (fb w), .ref 8, .ref 9, .ref 10, .ref 11, .ref 12, .ref 13, .int 0, .int 0]), .inl (0, 48, .inl (fun _ => 0)), .inl (1, 48, .inr (.inl (fun _ => 0))), .inl (1, 48, .inr (.inl (fun _ => 0))), .inl (1, 16, .inr (.inl (fun _ => 0))), .inl (1, 16, .inr (.inl (fun _ => 0))), .inl (1, 16, .inr (.inl (fun _ => 0)))]) := by
  refine zc_of hkX0_init rfl ?_
  refine zw_nx rfl (fun _ _ => rfl) ?_
  refine zw_nx rfl (fun _ _ => rfl) ?_
  refine zw_nx rfl (fun _ _ => rfl) ?_
  refine zw_nx rfl (fun _ _ => rfl) ?_
  refine zw_nx rfl (fun _ _ => rfl) ?_
  refine zw_nx rfl (fun _ _ => rfl) ?_
  show zW _ sc miX0_init _ _ _ [c0, c1, c2, c3, c4, c5, c6, .inr (0, [.null, .int 0, .int 0, .long 0, .ref 8, .null, .null, .null, .null, .null, .int 0, .int 0]), .inl (0, 48, .inl (fun _ => 0))] _
  refine zw_nx rfl (fun _ _ => rfl) ?_
  refine zw_nx rfl (fun _ _ => rfl) ?_
  refine zw_nx rfl (fun _ _ => rfl) ?_
  refine zw_nx rfl (fun _ _ => rfl) ?_
  show zW _ sc miX0_init _ _ _ [c0, c1, c2, c3, c4, c5, c6, .inr (0, [.null, .int 0, .int 0, .long 0, .ref 8, .ref 9, .null, .null, .null, .null, .int 0, .int 0]), .inl (0, 48, .inl (fun _ => 0)), .inl (1, 48, .inr (.inl (fun _ => 0)))] _
  refine zw_nx rfl (fun _ _ => rfl) ?_
  refine zw_nx rfl (fun _ _ => rfl) ?_
  refine zw_nx rfl (fun _ _ => rfl) ?_
  refine zw_nx rfl (fun _ _ => rfl) ?_
  show zW _ sc miX0_init _ _ _ [c0, c1, c2, c3, c4, c5, c6, .inr (0, [.null, .int 0, .int 0, .long 0, .ref 8, .ref 9, .ref 10, .null, .null, .null, .int 0, .int 0]), .inl (0, 48, .inl (fun _ => 0)), .inl (1, 48, .inr (.inl (fun _ => 0))), .inl (1, 48, .inr (.inl (fun _ => 0)))] _
  refine zw_nx rfl (fun _ _ => rfl) ?_
  refine zw_nx rfl (fun _ _ => rfl) ?_
  refine zw_nx rfl (fun _ _ => rfl) ?_
  refine zw_nx rfl (fun _ _ => rfl) ?_
  show zW _ sc miX0_init _ _ _ [c0, c1, c2, c3, c4, c5, c6, .inr (0, [.null, .int 0, .int 0, .long 0, .ref 8, .ref 9, .ref 10, .ref 11, .null, .null, .int 0, .int 0]), .inl (0, 48, .inl (fun _ => 0)), .inl (1, 48, .inr (.inl (fun _ => 0))), .inl (1, 48, .inr (.inl (fun _ => 0))), .inl (1, 16, .inr (.inl (fun _ => 0)))] _
  refine zw_nx rfl (fun _ _ => rfl) ?_
  refine zw_nx rfl (fun _ _ => rfl) ?_
  refine zw_nx rfl (fun _ _ => rfl) ?_
  refine zw_nx rfl (fun _ _ => rfl) ?_
  show zW _ sc miX0_init _ _ _ [c0, c1, c2, c3, c4, c5, c6, .inr (0, [.null, .int 0, .int 0, .long 0, .ref 8, .ref 9, .ref 10, .ref 11, .ref 12, .null, .int 0, .int 0]), .inl (0, 48, .inl (fun _ => 0)), .inl (1, 48, .inr (.inl (fun _ => 0))), .inl (1, 48, .inr (.inl (fun _ => 0))), .inl (1, 16, .inr (.inl (fun _ => 0))), .inl (1, 16, .inr (.inl (fun _ => 0)))] _
  refine zw_nx rfl (fun _ _ => rfl) ?_
  refine zw_nx rfl (fun _ _ => rfl) ?_
  refine zw_nx rfl (fun _ _ => rfl) ?_
  refine zw_nx rfl (fun _ _ => rfl) ?_
  show zW _ sc miX0_init _ _ _ [c0, c1, c2, c3, c4, c5, c6, .inr (0, [.null, .int 0, .int 0, .long 0, .ref 8, .ref 9, .ref 10, .ref 11, .ref 12, .ref 13, .int 0, .int 0]), .inl (0, 48, .inl (fun _ => 0)), .inl (1, 48, .inr (.inl (fun _ => 0))), .inl (1, 48, .inr (.inl (fun _ => 0))), .inl (1, 16, .inr (.inl (fun _ => 0))), .inl (1, 16, .inr (.inl (fun _ => 0))), .inl (1, 16, .inr (.inl (fun _ => 0)))] _
  repeat (refine zw_go rfl rfl (fun _ _ => rfl) ?_)
  refine zw_call rfl (fun _ _ => rfl) (cFirstBits sc _ (nI w)) (by decide) ?_
  rintro M1 v ⟨rfl, rfl⟩
  repeat (refine zw_go rfl rfl (fun _ _ => rfl) ?_)
  exact zw_ret rfl (fun _ _ => rfl) (⟨rfl, rfl⟩)
set_option maxHeartbeats 400000 in
theorem iX9 (sc : sm_S) (w h : Nat) {c0 c1 c2 c3 c4 c5 c6 c7 c8 c9 c10 c11 c12 c13 : va_E} : zC 1 sc 102 [.ref 14] [c0, c1, c2, c3, c4, c5, c6, c7, c8, c9, c10, c11, c12, c13, .inr (9, [.null, .int 0, .int 0, .int 0, .int 0, .int 0])] (fun M r => r = none ∧ M = [c0, c1, c2, c3, c4, c5, c6, c7, c8, c9, c10, c11, c12, c13, .inr (9, [.ref 15, .int 0, .int 0, .int 0, .int 0, .int 0]), .inl (0, 300, .inl (fun _ => 0))]) := by
  refine zc_of hkX9_init rfl ?_
  refine zw_nx rfl (fun _ _ => rfl) ?_
  refine zw_nx rfl (fun _ _ => rfl) ?_
  refine zw_nx rfl (fun _ _ => rfl) ?_
  refine zw_nx rfl (fun _ _ => rfl) ?_
  refine zw_nx rfl (fun _ _ => rfl) ?_
  refine zw_nx rfl (fun _ _ => rfl) ?_
  show zW _ sc miX9_init _ _ _ [c0, c1, c2, c3, c4, c5, c6, c7, c8, c9, c10, c11, c12, c13, .inr (9, [.ref 15, .int 0, .int 0, .int 0, .int 0, .int 0]), .inl (0, 300, .inl (fun _ => 0))] _
  repeat (refine zw_go rfl rfl (fun _ _ => rfl) ?_)
  exact zw_ret rfl (fun _ _ => rfl) (⟨rfl, rfl⟩)
set_option maxHeartbeats 400000 in
theorem iX6 (sc : sm_S) (w h : Nat) {c0 c1 c2 c3 c4 c5 c6 c7 c8 c9 c10 c11 c12 c13 c14 c15 : va_E} : zC 1 sc 56 [.ref 16, .ref 14, .ref 1, .int (nI w), .int (nI h)] [c0, c1, c2, c3, c4, c5, c6, c7, c8, c9, c10, c11, c12, c13, c14, c15, .inr (6, [.null, .null, .int 0, .int 0, .null, .null, .null, .null, .null, .null, .int 0, .int 0, .int 0, .int 0, .int 0, .int 0, .int 0, .int 0, .int 0, .int 0])] (fun M r => r = none ∧ M = [c0, c1, c2, c3, c4, c5, c6, c7, c8, c9, c10, c11, c12, c13, c14, c15, .inr (6, [.ref 14, .ref 1, .int (nI w), .int (nI h), .ref 17, .ref 18, .ref 19, .ref 20, .ref 21, .ref 22, .int 0, .int 0, .int 0, .int 0, .int 0, .int 0, .int 0, .int 0, .int (-1), .int (-1)]), .inl (0, 1800, .inl (fun _ => 0)), .inl (0, 9, .inl (fun _ => 0)), .inl (0, 9, .inl (fun _ => 0)), .inl (0, 9, .inl (fun _ => 0)), .inl (0, 1600, .inl (fun _ => 0)), .inl (0, 8, .inl (fun _ => 0))]) := by
  refine zc_of hkX6_init rfl ?_
  refine zw_nx rfl (fun _ _ => rfl) ?_
  refine zw_nx rfl (fun _ _ => rfl) ?_
  refine zw_nx rfl (fun _ _ => rfl) ?_
  refine zw_nx rfl (fun _ _ => rfl) ?_
  refine zw_nx rfl (fun _ _ => rfl) ?_
  refine zw_nx rfl (fun _ _ => rfl) ?_
  show zW _ sc miX6_init _ _ _ [c0, c1, c2, c3, c4, c5, c6, c7, c8, c9, c10, c11, c12, c13, c14, c15, .inr (6, [.null, .null, .int 0, .int 0, .ref 17, .null, .null, .null, .null, .null, .int 0, .int 0, .int 0, .int 0, .int 0, .int 0, .int 0, .int 0, .int 0, .int 0]), .inl (0, 1800, .inl (fun _ => 0))] _
  refine zw_nx rfl (fun _ _ => rfl) ?_
  refine zw_nx rfl (fun _ _ => rfl) ?_
  refine zw_nx rfl (fun _ _ => rfl) ?_
  refine zw_nx rfl (fun _ _ => rfl) ?_
  show zW _ sc miX6_init _ _ _ [c0, c1, c2, c3, c4, c5, c6, c7, c8, c9, c10, c11, c12, c13, c14, c15, .inr (6, [.null, .null, .int 0, .int 0, .ref 17, .ref 18, .null, .null, .null, .null, .int 0, .int 0, .int 0, .int 0, .int 0, .int 0, .int 0, .int 0, .int 0, .int 0]), .inl (0, 1800, .inl (fun _ => 0)), .inl (0, 9, .inl (fun _ => 0))] _
  refine zw_nx rfl (fun _ _ => rfl) ?_
  refine zw_nx rfl (fun _ _ => rfl) ?_
  refine zw_nx rfl (fun _ _ => rfl) ?_
  refine zw_nx rfl (fun _ _ => rfl) ?_
  show zW _ sc miX6_init _ _ _ [c0, c1, c2, c3, c4, c5, c6, c7, c8, c9, c10, c11, c12, c13, c14, c15, .inr (6, [.null, .null, .int 0, .int 0, .ref 17, .ref 18, .ref 19, .null, .null, .null, .int 0, .int 0, .int 0, .int 0, .int 0, .int 0, .int 0, .int 0, .int 0, .int 0]), .inl (0, 1800, .inl (fun _ => 0)), .inl (0, 9, .inl (fun _ => 0)), .inl (0, 9, .inl (fun _ => 0))] _
  refine zw_nx rfl (fun _ _ => rfl) ?_
  refine zw_nx rfl (fun _ _ => rfl) ?_
  refine zw_nx rfl (fun _ _ => rfl) ?_
  refine zw_nx rfl (fun _ _ => rfl) ?_
  show zW _ sc miX6_init _ _ _ [c0, c1, c2, c3, c4, c5, c6, c7, c8, c9, c10, c11, c12, c13, c14, c15, .inr (6, [.null, .null, .int 0, .int 0, .ref 17, .ref 18, .ref 19, .ref 20, .null, .null, .int 0, .int 0, .int 0, .int 0, .int 0, .int 0, .int 0, .int 0, .int 0, .int 0]), .inl (0, 1800, .inl (fun _ => 0)), .inl (0, 9, .inl (fun _ => 0)), .inl (0, 9, .inl (fun _ => 0)), .inl (0, 9, .inl (fun _ => 0))] _
  refine zw_nx rfl (fun _ _ => rfl) ?_
  refine zw_nx rfl (fun _ _ => rfl) ?_
  refine zw_nx rfl (fun _ _ => rfl) ?_
  refine zw_nx rfl (fun _ _ => rfl) ?_
  show zW _ sc miX6_init _ _ _ [c0, c1, c2, c3, c4, c5, c6, c7, c8, c9, c10, c11, c12, c13, c14, c15, .inr (6, [.null, .null, .int 0, .int 0, .ref 17, .ref 18, .ref 19, .ref 20, .ref 21, .null, .int 0, .int 0, .int 0, .int 0, .int 0, .int 0, .int 0, .int 0, .int 0, .int 0]), .inl (0, 1800, .inl (fun _ => 0)), .inl (0, 9, .inl (fun _ => 0)), .inl (0, 9, .inl (fun _ => 0)), .inl (0, 9, .inl (fun _ => 0)), .inl (0, 1600, .inl (fun _ => 0))] _
  refine zw_nx rfl (fun _ _ => rfl) ?_
  refine zw_nx rfl (fun _ _ => rfl) ?_
  refine zw_nx rfl (fun _ _ => rfl) ?_
  refine zw_nx rfl (fun _ _ => rfl) ?_
  show zW _ sc miX6_init _ _ _ [c0, c1, c2, c3, c4, c5, c6, c7, c8, c9, c10, c11, c12, c13, c14, c15, .inr (6, [.null, .null, .int 0, .int 0, .ref 17, .ref 18, .ref 19, .ref 20, .ref 21, .ref 22, .int 0, .int 0, .int 0, .int 0, .int 0, .int 0, .int 0, .int 0, .int 0, .int 0]), .inl (0, 1800, .inl (fun _ => 0)), .inl (0, 9, .inl (fun _ => 0)), .inl (0, 9, .inl (fun _ => 0)), .inl (0, 9, .inl (fun _ => 0)), .inl (0, 1600, .inl (fun _ => 0)), .inl (0, 8, .inl (fun _ => 0))] _
  repeat (refine zw_go rfl rfl (fun _ _ => rfl) ?_)
  exact zw_ret rfl (fun _ _ => rfl) (⟨rfl, rfl⟩)
set_option maxHeartbeats 400000 in
theorem iX7 (sc : sm_S) (w h : Nat) {c0 c1 c2 c3 c4 c5 c6 c7 c8 c9 c10 c11 c12 c13 c14 c15 c16 c17 c18 c19 c20 c21 c22 : va_E} : zC 1 sc 90 [.ref 23, .ref 7] [c0, c1, c2, c3, c4, c5, c6, c7, c8, c9, c10, c11, c12, c13, c14, c15, c16, c17, c18, c19, c20, c21, c22, .inr (7, [.null, .null])] (fun M r => r = none ∧ M = [c0, c1, c2, c3, c4, c5, c6, c7, c8, c9, c10, c11, c12, c13, c14, c15, c16, c17, c18, c19, c20, c21, c22, .inr (7, [.ref 7, .ref 24]), .inl (0, 49, .inl (fun _ => 0))]) := by
  refine zc_of hkX7_init rfl ?_
  refine zw_nx rfl (fun _ _ => rfl) ?_
  refine zw_nx rfl (fun _ _ => rfl) ?_
  refine zw_nx rfl (fun _ _ => rfl) ?_
  refine zw_nx rfl (fun _ _ => rfl) ?_
  refine zw_nx rfl (fun _ _ => rfl) ?_
  refine zw_nx rfl (fun _ _ => rfl) ?_
  show zW _ sc miX7_init _ _ _ [c0, c1, c2, c3, c4, c5, c6, c7, c8, c9, c10, c11, c12, c13, c14, c15, c16, c17, c18, c19, c20, c21, c22, .inr (7, [.null, .ref 24]), .inl (0, 49, .inl (fun _ => 0))] _
  repeat (refine zw_go rfl rfl (fun _ _ => rfl) ?_)
  exact zw_ret rfl (fun _ _ => rfl) (⟨rfl, rfl⟩)
set_option maxHeartbeats 400000 in
theorem iX5 (sc : sm_S) (w h : Nat) {c0 c1 c2 c3 c4 c5 c6 c7 c8 c9 c10 c11 c12 c13 c14 c15 c16 c17 c18 c19 c20 c21 c22 c23 c24 : va_E} : zC 1 sc 50 [.ref 25, .ref 7, .ref 1] [c0, c1, c2, c3, c4, c5, c6, c7, c8, c9, c10, c11, c12, c13, c14, c15, c16, c17, c18, c19, c20, c21, c22, c23, c24, .inr (5, [.null, .null, .null, .int 0])] (fun M r => r = none ∧ M = [c0, c1, c2, c3, c4, c5, c6, c7, c8, c9, c10, c11, c12, c13, c14, c15, c16, c17, c18, c19, c20, c21, c22, c23, c24, .inr (5, [.ref 7, .ref 1, .ref 26, .int 0]), .inl (1, 192, .inr (.inl (fun _ => 0)))]) := by
  refine zc_of hkX5_init rfl ?_
  refine zw_nx rfl (fun _ _ => rfl) ?_
  refine zw_nx rfl (fun _ _ => rfl) ?_
  refine zw_nx rfl (fun _ _ => rfl) ?_
  refine zw_nx rfl (fun _ _ => rfl) ?_
  refine zw_nx rfl (fun _ _ => rfl) ?_
  refine zw_nx rfl (fun _ _ => rfl) ?_
  show zW _ sc miX5_init _ _ _ [c0, c1, c2, c3, c4, c5, c6, c7, c8, c9, c10, c11, c12, c13, c14, c15, c16, c17, c18, c19, c20, c21, c22, c23, c24, .inr (5, [.null, .null, .ref 26, .int 0]), .inl (1, 192, .inr (.inl (fun _ => 0)))] _
  repeat (refine zw_go rfl rfl (fun _ _ => rfl) ?_)
  exact zw_ret rfl (fun _ _ => rfl) (⟨rfl, rfl⟩)
set_option maxHeartbeats 400000 in
theorem iX2 (sc : sm_S) (w h : Nat) {c0 c1 c2 c3 c4 c5 c6 c7 c8 c9 c10 c11 c12 c13 c14 c15 c16 c17 c18 c19 c20 c21 c22 c23 c24 c25 c26 : va_E} : zC 1 sc 21 [.ref 27, .ref 7] [c0, c1, c2, c3, c4, c5, c6, c7, c8, c9, c10, c11, c12, c13, c14, c15, c16, c17, c18, c19, c20, c21, c22, c23, c24, c25, c26, .inr (2, [.null, .null, .null, .null, .null, .null, .int 0, .int 0, .int 0, .int 0, .int 0, .long 0, .long 0, .int 0])] (fun M r => r = none ∧ M = [c0, c1, c2, c3, c4, c5, c6, c7, c8, c9, c10, c11, c12, c13, c14, c15, c16, c17, c18, c19, c20, c21, c22, c23, c24, c25, c26, .inr (2, [.ref 7, .ref 28, .ref 29, .ref 30, .ref 31, .ref 32, .int 0, .int 0, .int 0, .int 0, .int 0, .long 0, .long 0, .int 0]), .inl (1, 96, .inr (.inl (fun _ => 0))), .inl (1, 96, .inr (.inl (fun _ => 0))), .inl (1, 96, .inr (.inl (fun _ => 0))), .inl (1, 96, .inr (.inl (fun _ => 0))), .inl (0, 96, .inl (fun _ => 0))]) := by
  refine zc_of hkX2_init rfl ?_
  refine zw_nx rfl (fun _ _ => rfl) ?_
  refine zw_nx rfl (fun _ _ => rfl) ?_
  refine zw_nx rfl (fun _ _ => rfl) ?_
  refine zw_nx rfl (fun _ _ => rfl) ?_
  refine zw_nx rfl (fun _ _ => rfl) ?_
  refine zw_nx rfl (fun _ _ => rfl) ?_
  show zW _ sc miX2_init _ _ _ [c0, c1, c2, c3, c4, c5, c6, c7, c8, c9, c10, c11, c12, c13, c14, c15, c16, c17, c18, c19, c20, c21, c22, c23, c24, c25, c26, .inr (2, [.null, .ref 28, .null, .null, .null, .null, .int 0, .int 0, .int 0, .int 0, .int 0, .long 0, .long 0, .int 0]), .inl (1, 96, .inr (.inl (fun _ => 0)))] _
  refine zw_nx rfl (fun _ _ => rfl) ?_
  refine zw_nx rfl (fun _ _ => rfl) ?_
  refine zw_nx rfl (fun _ _ => rfl) ?_
  refine zw_nx rfl (fun _ _ => rfl) ?_
  show zW _ sc miX2_init _ _ _ [c0, c1, c2, c3, c4, c5, c6, c7, c8, c9, c10, c11, c12, c13, c14, c15, c16, c17, c18, c19, c20, c21, c22, c23, c24, c25, c26, .inr (2, [.null, .ref 28, .ref 29, .null, .null, .null, .int 0, .int 0, .int 0, .int 0, .int 0, .long 0, .long 0, .int 0]), .inl (1, 96, .inr (.inl (fun _ => 0))), .inl (1, 96, .inr (.inl (fun _ => 0)))] _
  refine zw_nx rfl (fun _ _ => rfl) ?_
  refine zw_nx rfl (fun _ _ => rfl) ?_
  refine zw_nx rfl (fun _ _ => rfl) ?_
  refine zw_nx rfl (fun _ _ => rfl) ?_
  show zW _ sc miX2_init _ _ _ [c0, c1, c2, c3, c4, c5, c6, c7, c8, c9, c10, c11, c12, c13, c14, c15, c16, c17, c18, c19, c20, c21, c22, c23, c24, c25, c26, .inr (2, [.null, .ref 28, .ref 29, .ref 30, .null, .null, .int 0, .int 0, .int 0, .int 0, .int 0, .long 0, .long 0, .int 0]), .inl (1, 96, .inr (.inl (fun _ => 0))), .inl (1, 96, .inr (.inl (fun _ => 0))), .inl (1, 96, .inr (.inl (fun _ => 0)))] _
  refine zw_nx rfl (fun _ _ => rfl) ?_
  refine zw_nx rfl (fun _ _ => rfl) ?_
  refine zw_nx rfl (fun _ _ => rfl) ?_
  refine zw_nx rfl (fun _ _ => rfl) ?_
  show zW _ sc miX2_init _ _ _ [c0, c1, c2, c3, c4, c5, c6, c7, c8, c9, c10, c11, c12, c13, c14, c15, c16, c17, c18, c19, c20, c21, c22, c23, c24, c25, c26, .inr (2, [.null, .ref 28, .ref 29, .ref 30, .ref 31, .null, .int 0, .int 0, .int 0, .int 0, .int 0, .long 0, .long 0, .int 0]), .inl (1, 96, .inr (.inl (fun _ => 0))), .inl (1, 96, .inr (.inl (fun _ => 0))), .inl (1, 96, .inr (.inl (fun _ => 0))), .inl (1, 96, .inr (.inl (fun _ => 0)))] _
  refine zw_nx rfl (fun _ _ => rfl) ?_
  refine zw_nx rfl (fun _ _ => rfl) ?_
  refine zw_nx rfl (fun _ _ => rfl) ?_
  refine zw_nx rfl (fun _ _ => rfl) ?_
  show zW _ sc miX2_init _ _ _ [c0, c1, c2, c3, c4, c5, c6, c7, c8, c9, c10, c11, c12, c13, c14, c15, c16, c17, c18, c19, c20, c21, c22, c23, c24, c25, c26, .inr (2, [.null, .ref 28, .ref 29, .ref 30, .ref 31, .ref 32, .int 0, .int 0, .int 0, .int 0, .int 0, .long 0, .long 0, .int 0]), .inl (1, 96, .inr (.inl (fun _ => 0))), .inl (1, 96, .inr (.inl (fun _ => 0))), .inl (1, 96, .inr (.inl (fun _ => 0))), .inl (1, 96, .inr (.inl (fun _ => 0))), .inl (0, 96, .inl (fun _ => 0))] _
  repeat (refine zw_go rfl rfl (fun _ _ => rfl) ?_)
  exact zw_ret rfl (fun _ _ => rfl) (⟨rfl, rfl⟩)
set_option maxHeartbeats 400000 in
theorem iX1 (sc : sm_S) (w h : Nat) {c0 c1 c2 c3 c4 c5 c6 c7 c8 c9 c10 c11 c12 c13 c14 c15 c16 c17 c18 c19 c20 c21 c22 c23 c24 c25 c26 c27 c28 c29 c30 c31 c32 : va_E} : zC 1 sc 7 [.ref 33, .ref 7] [c0, c1, c2, c3, c4, c5, c6, c7, c8, c9, c10, c11, c12, c13, c14, c15, c16, c17, c18, c19, c20, c21, c22, c23, c24, c25, c26, c27, c28, c29, c30, c31, c32, .inr (1, [.null, .null, .int 0, .null, .int 0, .null, .null, .null, .int 0, .null, .null, .int 0, .int 0])] (fun M r => r = none ∧ M = [c0, c1, c2, c3, c4, c5, c6, c7, c8, c9, c10, c11, c12, c13, c14, c15, c16, c17, c18, c19, c20, c21, c22, c23, c24, c25, c26, c27, c28, c29, c30, c31, c32, .inr (1, [.ref 7, .ref 34, .int 0, .ref 35, .int 0, .ref 36, .ref 37, .ref 38, .int 0, .ref 39, .ref 40, .int 0, .int 0]), .inl (0, 5, .inl (fun _ => 0)), .inl (0, 31, .inl (fun _ => 0)), .inl (1, 31, .inr (.inl (fun _ => 0))), .inl (1, 32, .inr (.inl (fun _ => 0))), .inl (1, 55, .inr (.inl (fun _ => 0))), .inl (0, 16, .inl (fun _ => 0)), .inl (0, 5, .inl (fun _ => 0))]) := by
  refine zc_of hkX1_init rfl ?_
  refine zw_nx rfl (fun _ _ => rfl) ?_
  refine zw_nx rfl (fun _ _ => rfl) ?_
  refine zw_nx rfl (fun _ _ => rfl) ?_
  refine zw_nx rfl (fun _ _ => rfl) ?_
  refine zw_nx rfl (fun _ _ => rfl) ?_
  refine zw_nx rfl (fun _ _ => rfl) ?_
  show zW _ sc miX1_init _ _ _ [c0, c1, c2, c3, c4, c5, c6, c7, c8, c9, c10, c11, c12, c13, c14, c15, c16, c17, c18, c19, c20, c21, c22, c23, c24, c25, c26, c27, c28, c29, c30, c31, c32, .inr (1, [.null, .ref 34, .int 0, .null, .int 0, .null, .null, .null, .int 0, .null, .null, .int 0, .int 0]), .inl (0, 5, .inl (fun _ => 0))] _
  refine zw_nx rfl (fun _ _ => rfl) ?_
  refine zw_nx rfl (fun _ _ => rfl) ?_
  refine zw_nx rfl (fun _ _ => rfl) ?_
  refine zw_nx rfl (fun _ _ => rfl) ?_
  show zW _ sc miX1_init _ _ _ [c0, c1, c2, c3, c4, c5, c6, c7, c8, c9, c10, c11, c12, c13, c14, c15, c16, c17, c18, c19, c20, c21, c22, c23, c24, c25, c26, c27, c28, c29, c30, c31, c32, .inr (1, [.null, .ref 34, .int 0, .ref 35, .int 0, .null, .null, .null, .int 0, .null, .null, .int 0, .int 0]), .inl (0, 5, .inl (fun _ => 0)), .inl (0, 31, .inl (fun _ => 0))] _
  refine zw_nx rfl (fun _ _ => rfl) ?_
  refine zw_nx rfl (fun _ _ => rfl) ?_
  refine zw_nx rfl (fun _ _ => rfl) ?_
  refine zw_nx rfl (fun _ _ => rfl) ?_
  show zW _ sc miX1_init _ _ _ [c0, c1, c2, c3, c4, c5, c6, c7, c8, c9, c10, c11, c12, c13, c14, c15, c16, c17, c18, c19, c20, c21, c22, c23, c24, c25, c26, c27, c28, c29, c30, c31, c32, .inr (1, [.null, .ref 34, .int 0, .ref 35, .int 0, .ref 36, .null, .null, .int 0, .null, .null, .int 0, .int 0]), .inl (0, 5, .inl (fun _ => 0)), .inl (0, 31, .inl (fun _ => 0)), .inl (1, 31, .inr (.inl (fun _ => 0)))] _
  refine zw_nx rfl (fun _ _ => rfl) ?_
  refine zw_nx rfl (fun _ _ => rfl) ?_
  refine zw_nx rfl (fun _ _ => rfl) ?_
  refine zw_nx rfl (fun _ _ => rfl) ?_
  show zW _ sc miX1_init _ _ _ [c0, c1, c2, c3, c4, c5, c6, c7, c8, c9, c10, c11, c12, c13, c14, c15, c16, c17, c18, c19, c20, c21, c22, c23, c24, c25, c26, c27, c28, c29, c30, c31, c32, .inr (1, [.null, .ref 34, .int 0, .ref 35, .int 0, .ref 36, .ref 37, .null, .int 0, .null, .null, .int 0, .int 0]), .inl (0, 5, .inl (fun _ => 0)), .inl (0, 31, .inl (fun _ => 0)), .inl (1, 31, .inr (.inl (fun _ => 0))), .inl (1, 32, .inr (.inl (fun _ => 0)))] _
  refine zw_nx rfl (fun _ _ => rfl) ?_
  refine zw_nx rfl (fun _ _ => rfl) ?_
  refine zw_nx rfl (fun _ _ => rfl) ?_
  refine zw_nx rfl (fun _ _ => rfl) ?_
  show zW _ sc miX1_init _ _ _ [c0, c1, c2, c3, c4, c5, c6, c7, c8, c9, c10, c11, c12, c13, c14, c15, c16, c17, c18, c19, c20, c21, c22, c23, c24, c25, c26, c27, c28, c29, c30, c31, c32, .inr (1, [.null, .ref 34, .int 0, .ref 35, .int 0, .ref 36, .ref 37, .ref 38, .int 0, .null, .null, .int 0, .int 0]), .inl (0, 5, .inl (fun _ => 0)), .inl (0, 31, .inl (fun _ => 0)), .inl (1, 31, .inr (.inl (fun _ => 0))), .inl (1, 32, .inr (.inl (fun _ => 0))), .inl (1, 55, .inr (.inl (fun _ => 0)))] _
  refine zw_nx rfl (fun _ _ => rfl) ?_
  refine zw_nx rfl (fun _ _ => rfl) ?_
  refine zw_nx rfl (fun _ _ => rfl) ?_
  refine zw_nx rfl (fun _ _ => rfl) ?_
  show zW _ sc miX1_init _ _ _ [c0, c1, c2, c3, c4, c5, c6, c7, c8, c9, c10, c11, c12, c13, c14, c15, c16, c17, c18, c19, c20, c21, c22, c23, c24, c25, c26, c27, c28, c29, c30, c31, c32, .inr (1, [.null, .ref 34, .int 0, .ref 35, .int 0, .ref 36, .ref 37, .ref 38, .int 0, .ref 39, .null, .int 0, .int 0]), .inl (0, 5, .inl (fun _ => 0)), .inl (0, 31, .inl (fun _ => 0)), .inl (1, 31, .inr (.inl (fun _ => 0))), .inl (1, 32, .inr (.inl (fun _ => 0))), .inl (1, 55, .inr (.inl (fun _ => 0))), .inl (0, 16, .inl (fun _ => 0))] _
  refine zw_nx rfl (fun _ _ => rfl) ?_
  refine zw_nx rfl (fun _ _ => rfl) ?_
  refine zw_nx rfl (fun _ _ => rfl) ?_
  refine zw_nx rfl (fun _ _ => rfl) ?_
  show zW _ sc miX1_init _ _ _ [c0, c1, c2, c3, c4, c5, c6, c7, c8, c9, c10, c11, c12, c13, c14, c15, c16, c17, c18, c19, c20, c21, c22, c23, c24, c25, c26, c27, c28, c29, c30, c31, c32, .inr (1, [.null, .ref 34, .int 0, .ref 35, .int 0, .ref 36, .ref 37, .ref 38, .int 0, .ref 39, .ref 40, .int 0, .int 0]), .inl (0, 5, .inl (fun _ => 0)), .inl (0, 31, .inl (fun _ => 0)), .inl (1, 31, .inr (.inl (fun _ => 0))), .inl (1, 32, .inr (.inl (fun _ => 0))), .inl (1, 55, .inr (.inl (fun _ => 0))), .inl (0, 16, .inl (fun _ => 0)), .inl (0, 5, .inl (fun _ => 0))] _
  repeat (refine zw_go rfl rfl (fun _ _ => rfl) ?_)
  exact zw_ret rfl (fun _ _ => rfl) (⟨rfl, rfl⟩)
set_option maxHeartbeats 400000 in
theorem iX8 (sc : sm_S) (w h : Nat) {c0 c1 c2 c3 c4 c5 c6 c7 c8 c9 c10 c11 c12 c13 c14 c15 c16 c17 c18 c19 c20 c21 c22 c23 c24 c25 c26 c27 c28 c29 c30 c31 c32 c33 c34 c35 c36 c37 c38 c39 c40 : va_E} : zC 1 sc 96 [.ref 41, .ref 7] [c0, c1, c2, c3, c4, c5, c6, c7, c8, c9, c10, c11, c12, c13, c14, c15, c16, c17, c18, c19, c20, c21, c22, c23, c24, c25, c26, c27, c28, c29, c30, c31, c32, c33, c34, c35, c36, c37, c38, c39, c40, .inr (8, [.null, .null, .null, .int 0])] (fun M r => r = none ∧ M = [c0, c1, c2, c3, c4, c5, c6, c7, c8, c9, c10, c11, c12, c13, c14, c15, c16, c17, c18, c19, c20, c21, c22, c23, c24, c25, c26, c27, c28, c29, c30, c31, c32, c33, c34, c35, c36, c37, c38, c39, c40, .inr (8, [.ref 7, .ref 42, .ref 43, .int 0]), .inl (1, 48, .inr (.inl (fun _ => 0))), .inl (1, 48, .inr (.inl (fun _ => 0)))]) := by
  refine zc_of hkX8_init rfl ?_
  refine zw_nx rfl (fun _ _ => rfl) ?_
  refine zw_nx rfl (fun _ _ => rfl) ?_
  refine zw_nx rfl (fun _ _ => rfl) ?_
  refine zw_nx rfl (fun _ _ => rfl) ?_
  refine zw_nx rfl (fun _ _ => rfl) ?_
  refine zw_nx rfl (fun _ _ => rfl) ?_
  show zW _ sc miX8_init _ _ _ [c0, c1, c2, c3, c4, c5, c6, c7, c8, c9, c10, c11, c12, c13, c14, c15, c16, c17, c18, c19, c20, c21, c22, c23, c24, c25, c26, c27, c28, c29, c30, c31, c32, c33, c34, c35, c36, c37, c38, c39, c40, .inr (8, [.null, .ref 42, .null, .int 0]), .inl (1, 48, .inr (.inl (fun _ => 0)))] _
  refine zw_nx rfl (fun _ _ => rfl) ?_
  refine zw_nx rfl (fun _ _ => rfl) ?_
  refine zw_nx rfl (fun _ _ => rfl) ?_
  refine zw_nx rfl (fun _ _ => rfl) ?_
  show zW _ sc miX8_init _ _ _ [c0, c1, c2, c3, c4, c5, c6, c7, c8, c9, c10, c11, c12, c13, c14, c15, c16, c17, c18, c19, c20, c21, c22, c23, c24, c25, c26, c27, c28, c29, c30, c31, c32, c33, c34, c35, c36, c37, c38, c39, c40, .inr (8, [.null, .ref 42, .ref 43, .int 0]), .inl (1, 48, .inr (.inl (fun _ => 0))), .inl (1, 48, .inr (.inl (fun _ => 0)))] _
  repeat (refine zw_go rfl rfl (fun _ _ => rfl) ?_)
  exact zw_ret rfl (fun _ _ => rfl) (⟨rfl, rfl⟩)
set_option maxHeartbeats 400000 in
theorem iX4 (sc : sm_S) (w h : Nat) {c0 c1 c2 c3 c4 c5 c6 c7 c8 c9 c10 c11 c12 c13 c14 c15 c16 c17 c18 c19 c20 c21 c22 c23 c24 c25 c26 c27 c28 c29 c30 c31 c32 c33 c34 c35 c36 c37 c38 c39 c40 c41 c42 c43 : va_E} : zC 1 sc 41 [.ref 44, .ref 7, .ref 1, .ref 41] [c0, c1, c2, c3, c4, c5, c6, c7, c8, c9, c10, c11, c12, c13, c14, c15, c16, c17, c18, c19, c20, c21, c22, c23, c24, c25, c26, c27, c28, c29, c30, c31, c32, c33, c34, c35, c36, c37, c38, c39, c40, c41, c42, c43, .inr (4, [.null, .null, .null, .null, .long 0, .long 0, .long 0, .long 0, .int 0, .int 0, .int 0, .int 0, .null, .int 0, .int 0])] (fun M r => r = none ∧ M = [c0, c1, c2, c3, c4, c5, c6, c7, c8, c9, c10, c11, c12, c13, c14, c15, c16, c17, c18, c19, c20, c21, c22, c23, c24, c25, c26, c27, c28, c29, c30, c31, c32, c33, c34, c35, c36, c37, c38, c39, c40, c41, c42, c43, .inr (4, [.ref 7, .ref 1, .ref 41, .ref 45, .long 0, .long 0, .long 0, .long 0, .int 0, .int 0, .int 0, .int 0, .ref 46, .int 0, .int 0]), .inl (1, 16, .inr (.inl (fun _ => 0))), .inl (0, 48, .inl (fun _ => 0))]) := by
  refine zc_of hkX4_init rfl ?_
  refine zw_nx rfl (fun _ _ => rfl) ?_
  refine zw_nx rfl (fun _ _ => rfl) ?_
  refine zw_nx rfl (fun _ _ => rfl) ?_
  refine zw_nx rfl (fun _ _ => rfl) ?_
  refine zw_nx rfl (fun _ _ => rfl) ?_
  refine zw_nx rfl (fun _ _ => rfl) ?_
  show zW _ sc miX4_init _ _ _ [c0, c1, c2, c3, c4, c5, c6, c7, c8, c9, c10, c11, c12, c13, c14, c15, c16, c17, c18, c19, c20, c21, c22, c23, c24, c25, c26, c27, c28, c29, c30, c31, c32, c33, c34, c35, c36, c37, c38, c39, c40, c41, c42, c43, .inr (4, [.null, .null, .null, .ref 45, .long 0, .long 0, .long 0, .long 0, .int 0, .int 0, .int 0, .int 0, .null, .int 0, .int 0]), .inl (1, 16, .inr (.inl (fun _ => 0)))] _
  refine zw_nx rfl (fun _ _ => rfl) ?_
  refine zw_nx rfl (fun _ _ => rfl) ?_
  refine zw_nx rfl (fun _ _ => rfl) ?_
  refine zw_nx rfl (fun _ _ => rfl) ?_
  show zW _ sc miX4_init _ _ _ [c0, c1, c2, c3, c4, c5, c6, c7, c8, c9, c10, c11, c12, c13, c14, c15, c16, c17, c18, c19, c20, c21, c22, c23, c24, c25, c26, c27, c28, c29, c30, c31, c32, c33, c34, c35, c36, c37, c38, c39, c40, c41, c42, c43, .inr (4, [.null, .null, .null, .ref 45, .long 0, .long 0, .long 0, .long 0, .int 0, .int 0, .int 0, .int 0, .ref 46, .int 0, .int 0]), .inl (1, 16, .inr (.inl (fun _ => 0))), .inl (0, 48, .inl (fun _ => 0))] _
  repeat (refine zw_go rfl rfl (fun _ _ => rfl) ?_)
  exact zw_ret rfl (fun _ _ => rfl) (⟨rfl, rfl⟩)

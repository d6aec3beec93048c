/-! Ledger: what was told, and how it stands at THE LOOK -/
set_option maxHeartbeats 4000000 in
set_option maxRecDepth 20000 in
theorem cDrop (sc : sm_S) (I : Nat → Int32) (J : Nat → Int64) (A : Nat → Nat → Int32) (B : Nat → Nat → Int64) (tl : sm_M) : zC 1 sc 35 [.ref 1] (xm I J A B tl) (fun M r => M = xm (upd I 3 (I 2)) J A B tl ∧ r = none) := by
  refine zc_of hkX3_dropStaged rfl ?_
  repeat (refine zw_nx rfl (fun _ _ => rfl) ?_)
  exact zw_ret rfl (fun _ _ => rfl) (⟨rfl, rfl⟩)
set_option maxHeartbeats 4000000 in
set_option maxRecDepth 20000 in
/-- valueOf, timeOf -/
theorem cValueOf (sc : sm_S) (I : Nat → Int32) (J : Nat → Int64) (A : Nat → Nat → Int32) (B : Nat → Nat → Int64) (tl : sm_M) (s : Nat) (hs : s < 208) : zC 1 sc 32 [.ref 1, .int (nI s)] (xm I J A B tl) (zR (xm I J A B tl) (.int (A 3 s))) := by
  refine zc_of hkX3_valueOf rfl ?_
  refine zw_nx rfl (fun _ _ => rfl) ?_
  first | refine zw_br rfl (fun _ _ => rfl) (fun h9 => absurd h9 (nI_pos (by omega))) (fun _ => ?_) | refine zw_nx rfl (fun _ _ => rfl) ?_
  refine zw_nx rfl (fun _ _ => rfl) ?_
  refine zw_nx rfl (fun _ _ => rfl) ?_
  first | refine zw_br rfl (fun _ _ => rfl) (fun h9 => absurd h9 (nI_ge (a := s) (b := 208) hs (by decide))) (fun _ => ?_) | refine zw_nx rfl (fun _ _ => rfl) ?_
  refine zw_nx rfl (fun _ _ => rfl) ?_
  refine zw_nx rfl (fun _ _ => rfl) ?_
  refine zw_nx rfl (fun _ _ => rfl) ?_
  refine zw_ix rfl (fun _ _ => rfl) (vp_in_nI hs (by decide)) ?_
  refine zw_nx rfl (fun _ _ => rfl) ?_
  exact zw_ret rfl (fun _ _ => rfl) (⟨rfl, by rw [nI_clamp (by omega)]⟩)
set_option maxHeartbeats 4000000 in
set_option maxRecDepth 20000 in
theorem cTimeOf (sc : sm_S) (I : Nat → Int32) (J : Nat → Int64) (A : Nat → Nat → Int32) (B : Nat → Nat → Int64) (tl : sm_M) (s : Nat) (hs : s < 208) : zC 1 sc 33 [.ref 1, .int (nI s)] (xm I J A B tl) (zR (xm I J A B tl) (.int (A 4 s))) := by
  refine zc_of hkX3_timeOf rfl ?_
  refine zw_nx rfl (fun _ _ => rfl) ?_
  first | refine zw_br rfl (fun _ _ => rfl) (fun h9 => absurd h9 (nI_pos (by omega))) (fun _ => ?_) | refine zw_nx rfl (fun _ _ => rfl) ?_
  refine zw_nx rfl (fun _ _ => rfl) ?_
  refine zw_nx rfl (fun _ _ => rfl) ?_
  first | refine zw_br rfl (fun _ _ => rfl) (fun h9 => absurd h9 (nI_ge (a := s) (b := 208) hs (by decide))) (fun _ => ?_) | refine zw_nx rfl (fun _ _ => rfl) ?_
  refine zw_nx rfl (fun _ _ => rfl) ?_
  refine zw_nx rfl (fun _ _ => rfl) ?_
  refine zw_nx rfl (fun _ _ => rfl) ?_
  refine zw_ix rfl (fun _ _ => rfl) (vp_in_nI hs (by decide)) ?_
  refine zw_nx rfl (fun _ _ => rfl) ?_
  exact zw_ret rfl (fun _ _ => rfl) (⟨rfl, by rw [nI_clamp (by omega)]⟩)
/-- the arrays behind one more staged entry -/
def stA (A : Nat → Nat → Int32) (k : Nat) (s v t : Int32) : Nat → Nat → Int32 := va_up (va_up (va_up A 0 (upd (A 0) k s)) 1 (upd (A 1) k v)) 2 (upd (A 2) k t)
set_option maxHeartbeats 4000000 in
set_option maxRecDepth 20000 in
theorem cStage (sc : sm_S) (I : Nat → Int32) (J : Nat → Int64) (A : Nat → Nat → Int32) (B : Nat → Nat → Int64) (tl : sm_M) (s v : Int32) (k : Nat) (hk : I 3 = nI k) (hkb : k < 2 ^ 30) : zC 1 sc 36 [.ref 1, .int s, .int v] (xm I J A B tl) (fun M r => M = xm (upd I 3 (nI (k + 1))) J (if k < 2000 then stA A k s v (I 4 + 1) else A) B tl ∧ r = none) := by
  refine zc_of hkX3_stage rfl ?_
  refine zw_nx rfl (fun _ _ => rfl) ?_
  refine zw_nx rfl (fun _ _ => rfl) ?_
  refine zw_nx rfl (fun _ _ => rfl) ?_
  have e1 : I 3 + 1 = nI (k + 1) := by rw [hk, nI_1]
  have ec : (I 3).toNatClampNeg = k := by rw [hk, nI_clamp (by omega)]
  refine zw_br rfl (fun _ _ => rfl) (fun hc => ?_) (fun hc => ?_)
  · have hk2 : ¬ k < 2000 := fun h => by
      rw [hk] at hc
      exact nI_ge (a := k) (b := 2000) h (by decide) hc
    repeat (refine zw_nx rfl (fun _ _ => rfl) ?_)
    exact zw_ret rfl (fun _ _ => rfl) (⟨by rw [if_neg hk2, ← e1]; rfl, rfl⟩)
  · have hk2 : k < 2000 := by
      rcases Nat.lt_or_ge k 2000 with h | h
      · exact h
      · exact absurd (by rw [hk]; exact nI_le (a := 2000) h (by omega)) hc
    have hin : vp_in (I 3) 2000 := by rw [hk]; exact vp_in_nI hk2 (by decide)
    refine zw_nx rfl (fun _ _ => rfl) ?_
    refine zw_nx rfl (fun _ _ => rfl) ?_
    refine zw_nx rfl (fun _ _ => rfl) ?_
    refine zw_nx rfl (fun _ _ => rfl) ?_
    refine zw_nx rfl (fun _ _ => rfl) ?_
    refine zw_ix rfl (fun _ _ => rfl) (hin) ?_
    refine zw_nx rfl (fun _ _ => rfl) ?_
    refine zw_nx rfl (fun _ _ => rfl) ?_
    refine zw_nx rfl (fun _ _ => rfl) ?_
    refine zw_nx rfl (fun _ _ => rfl) ?_
    refine zw_nx rfl (fun _ _ => rfl) ?_
    refine zw_ix rfl (fun _ _ => rfl) (hin) ?_
    refine zw_nx rfl (fun _ _ => rfl) ?_
    refine zw_nx rfl (fun _ _ => rfl) ?_
    refine zw_nx rfl (fun _ _ => rfl) ?_
    refine zw_nx rfl (fun _ _ => rfl) ?_
    refine zw_nx rfl (fun _ _ => rfl) ?_
    refine zw_nx rfl (fun _ _ => rfl) ?_
    refine zw_nx rfl (fun _ _ => rfl) ?_
    refine zw_nx rfl (fun _ _ => rfl) ?_
    refine zw_ix rfl (fun _ _ => rfl) (hin) ?_
    repeat (refine zw_nx rfl (fun _ _ => rfl) ?_)
    exact zw_ret rfl (fun _ _ => rfl) (⟨by rw [if_pos hk2, ← e1, ← ec]; rfl, rfl⟩)

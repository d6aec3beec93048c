/-! small methods: JDK's, and those that touch nothing -/
/-- the memory stays, the answer is v -/
abbrev zR (M : sm_M) (v : Value) : sm_M → Option Value → Prop := fun M' r => M' = M ∧ r = some v
/-- the bits of a word -/
def lb (x : Int64) (i : Nat) : Bool := x.toBitVec.getLsbD i
def ib (x : Int32) (i : Nat) : Bool := x.toBitVec.getLsbD i
set_option maxHeartbeats 4000000 in
set_option maxRecDepth 20000 in
theorem cHas (sc : sm_S) (M : sm_M) (s : Int64) (m : Int32) : zC 1 sc 150 [.long s, .int m] M (zR M (.int (if lg_cmp ((s.toUInt64 >>> (m.toInt64.toUInt64 &&& Int64.toUInt64 63)).toInt64 &&& 1) 0 = 0 then 0 else 1))) := by
  refine zc_of hkX10_has rfl ?_
  refine zw_nx rfl (fun _ _ => rfl) ?_
  refine zw_nx rfl (fun _ _ => rfl) ?_
  refine zw_nx rfl (fun _ _ => rfl) ?_
  refine zw_nx rfl (fun _ _ => rfl) ?_
  refine zw_nx rfl (fun _ _ => rfl) ?_
  refine zw_nx rfl (fun _ _ => rfl) ?_
  refine zw_nx rfl (fun _ _ => rfl) ?_
  refine zw_br rfl (fun _ _ => rfl) (fun (hc : lg_cmp ((s.toUInt64 >>> (m.toInt64.toUInt64 &&& Int64.toUInt64 63)).toInt64 &&& 1) 0 = 0) => ?_) (fun (hc : ¬ (lg_cmp ((s.toUInt64 >>> (m.toInt64.toUInt64 &&& Int64.toUInt64 63)).toInt64 &&& 1) 0 = 0)) => ?_)
  · refine zw_nx rfl (fun _ _ => rfl) ?_
    exact zw_ret rfl (fun _ _ => rfl) (⟨rfl, by rw [if_pos hc]; rfl⟩)
  · refine zw_nx rfl (fun _ _ => rfl) ?_
    refine zw_nx rfl (fun _ _ => rfl) ?_
    exact zw_ret rfl (fun _ _ => rfl) (⟨rfl, by rw [if_neg hc]; rfl⟩)
set_option maxHeartbeats 4000000 in
set_option maxRecDepth 20000 in
theorem cFirstBits (sc : sm_S) (M : sm_M) (n : Int32) : zC 1 sc 151 [.int n] M (zR M (.long ((1 <<< (n.toInt64 &&& 63)) - 1))) := by
  refine zc_of hkX10_firstBits rfl ?_
  repeat (refine zw_nx rfl (fun _ _ => rfl) ?_)
  exact zw_ret rfl (fun _ _ => rfl) (⟨rfl, rfl⟩)
set_option maxHeartbeats 4000000 in
set_option maxRecDepth 20000 in
theorem cMoved (sc : sm_S) (M : sm_M) (x : Int64) (n b : Int32) : zC 2 sc 152 [.long x, .int n, .int b] M (zR M (.long (((x <<< (b.toInt64 &&& 63)) ||| (x.toUInt64 >>> ((n - b).toInt64.toUInt64 &&& Int64.toUInt64 63)).toInt64) &&& ((1 <<< (n.toInt64 &&& 63)) - 1)))) := by
  refine zc_of hkX10_moved rfl ?_
  repeat (refine zw_nx rfl (fun _ _ => rfl) ?_)
  refine zw_call rfl (fun _ _ => rfl) (cFirstBits sc M n) (by decide) ?_
  rintro M1 v ⟨rfl, rfl⟩
  refine zw_nx rfl (fun _ _ => rfl) ?_
  exact zw_ret rfl (fun _ _ => rfl) (⟨rfl, rfl⟩)

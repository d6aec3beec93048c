/-! numbers of trailing zeros -/
theorem ib_xor (x y : Int32) (i : Nat) : ib (x ^^^ y) i = (ib x i ^^ ib y i) := by unfold ib; rw [Int32.toBitVec_xor, BitVec.getLsbD_xor]
theorem ib_m1 {i : Nat} (h : i < 32) : ib (-1) i = true := by
  show (BitVec.allOnes 32).getLsbD i = true
  rw [BitVec.getLsbD_allOnes]
  exact decide_eq_true h
theorem ib_lows : ∀ z, z < 32 → ∀ i, i < 32 → ib (nI (2 ^ z - 1)) i = decide (i < z) := by decide +kernel
theorem ntz_low {x : Int32} {z : Nat} (hz : z < 32) (h1 : ib x z = true) (h2 : ∀ i, i < z → ib x i = false) : (x ^^^ (-1)) &&& (x - 1) = nI (2 ^ z - 1) := by
  refine ib_ext (fun i hi => ?_)
  rw [ib_and, ib_xor, ib_m1 hi, ib_sub1 h1 h2, ib_lows z hz i hi]
  by_cases h4 : i < z
  · rw [h2 i h4]; simp [h4]
  · rw [if_neg h4]
    by_cases h5 : i = z
    · simp [h5]
    · simp [h5, h4]
set_option maxHeartbeats 4000000 in
set_option maxRecDepth 20000 in
theorem ntz_run (sc : sm_S) (M : sm_M) : ∀ z, z < 32 → zW 0 sc miJ6_numberOfTrailingZeros_0f7a4 8 [some (.int (nI (2 ^ z - 1))), none] [] M (zR M (.int (nI z))) := by
  intro z hz
  match z, hz with
  | 0, _ =>
    repeat (refine zw_nx rfl (fun _ _ => rfl) ?_)
    exact zw_ret rfl (fun _ _ => rfl) (⟨rfl, rfl⟩)
  | 1, _ =>
    repeat (refine zw_nx rfl (fun _ _ => rfl) ?_)
    exact zw_ret rfl (fun _ _ => rfl) (⟨rfl, rfl⟩)
  | 2, _ =>
    repeat (refine zw_nx rfl (fun _ _ => rfl) ?_)
    exact zw_ret rfl (fun _ _ => rfl) (⟨rfl, rfl⟩)
  | 3, _ =>
    repeat (refine zw_nx rfl (fun _ _ => rfl) ?_)
    exact zw_ret rfl (fun _ _ => rfl) (⟨rfl, rfl⟩)
  | 4, _ =>
    repeat (refine zw_nx rfl (fun _ _ => rfl) ?_)
    exact zw_ret rfl (fun _ _ => rfl) (⟨rfl, rfl⟩)
  | 5, _ =>
    repeat (refine zw_nx rfl (fun _ _ => rfl) ?_)
    exact zw_ret rfl (fun _ _ => rfl) (⟨rfl, rfl⟩)
  | 6, _ =>
    repeat (refine zw_nx rfl (fun _ _ => rfl) ?_)
    exact zw_ret rfl (fun _ _ => rfl) (⟨rfl, rfl⟩)
  | 7, _ =>
    repeat (refine zw_nx rfl (fun _ _ => rfl) ?_)
    exact zw_ret rfl (fun _ _ => rfl) (⟨rfl, rfl⟩)
  | 8, _ =>
    repeat (refine zw_nx rfl (fun _ _ => rfl) ?_)
    exact zw_ret rfl (fun _ _ => rfl) (⟨rfl, rfl⟩)
  | 9, _ =>
    repeat (refine zw_nx rfl (fun _ _ => rfl) ?_)
    exact zw_ret rfl (fun _ _ => rfl) (⟨rfl, rfl⟩)
  | 10, _ =>
    repeat (refine zw_nx rfl (fun _ _ => rfl) ?_)
    exact zw_ret rfl (fun _ _ => rfl) (⟨rfl, rfl⟩)
  | 11, _ =>
    repeat (refine zw_nx rfl (fun _ _ => rfl) ?_)
    exact zw_ret rfl (fun _ _ => rfl) (⟨rfl, rfl⟩)
  | 12, _ =>
    repeat (refine zw_nx rfl (fun _ _ => rfl) ?_)
    exact zw_ret rfl (fun _ _ => rfl) (⟨rfl, rfl⟩)
  | 13, _ =>
    repeat (refine zw_nx rfl (fun _ _ => rfl) ?_)
    exact zw_ret rfl (fun _ _ => rfl) (⟨rfl, rfl⟩)
  | 14, _ =>
    repeat (refine zw_nx rfl (fun _ _ => rfl) ?_)
    exact zw_ret rfl (fun _ _ => rfl) (⟨rfl, rfl⟩)
  | 15, _ =>
    repeat (refine zw_nx rfl (fun _ _ => rfl) ?_)
    exact zw_ret rfl (fun _ _ => rfl) (⟨rfl, rfl⟩)
  | 16, _ =>
    repeat (refine zw_nx rfl (fun _ _ => rfl) ?_)
    exact zw_ret rfl (fun _ _ => rfl) (⟨rfl, rfl⟩)
  | 17, _ =>
    repeat (refine zw_nx rfl (fun _ _ => rfl) ?_)
    exact zw_ret rfl (fun _ _ => rfl) (⟨rfl, rfl⟩)
  | 18, _ =>
    repeat (refine zw_nx rfl (fun _ _ => rfl) ?_)
    exact zw_ret rfl (fun _ _ => rfl) (⟨rfl, rfl⟩)
  | 19, _ =>
    repeat (refine zw_nx rfl (fun _ _ => rfl) ?_)
    exact zw_ret rfl (fun _ _ => rfl) (⟨rfl, rfl⟩)
  | 20, _ =>
    repeat (refine zw_nx rfl (fun _ _ => rfl) ?_)
    exact zw_ret rfl (fun _ _ => rfl) (⟨rfl, rfl⟩)
  | 21, _ =>
    repeat (refine zw_nx rfl (fun _ _ => rfl) ?_)
    exact zw_ret rfl (fun _ _ => rfl) (⟨rfl, rfl⟩)
  | 22, _ =>
    repeat (refine zw_nx rfl (fun _ _ => rfl) ?_)
    exact zw_ret rfl (fun _ _ => rfl) (⟨rfl, rfl⟩)
  | 23, _ =>
    repeat (refine zw_nx rfl (fun _ _ => rfl) ?_)
    exact zw_ret rfl (fun _ _ => rfl) (⟨rfl, rfl⟩)
  | 24, _ =>
    repeat (refine zw_nx rfl (fun _ _ => rfl) ?_)
    exact zw_ret rfl (fun _ _ => rfl) (⟨rfl, rfl⟩)
  | 25, _ =>
    repeat (refine zw_nx rfl (fun _ _ => rfl) ?_)
    exact zw_ret rfl (fun _ _ => rfl) (⟨rfl, rfl⟩)
  | 26, _ =>
    repeat (refine zw_nx rfl (fun _ _ => rfl) ?_)
    exact zw_ret rfl (fun _ _ => rfl) (⟨rfl, rfl⟩)
  | 27, _ =>
    repeat (refine zw_nx rfl (fun _ _ => rfl) ?_)
    exact zw_ret rfl (fun _ _ => rfl) (⟨rfl, rfl⟩)
  | 28, _ =>
    repeat (refine zw_nx rfl (fun _ _ => rfl) ?_)
    exact zw_ret rfl (fun _ _ => rfl) (⟨rfl, rfl⟩)
  | 29, _ =>
    repeat (refine zw_nx rfl (fun _ _ => rfl) ?_)
    exact zw_ret rfl (fun _ _ => rfl) (⟨rfl, rfl⟩)
  | 30, _ =>
    repeat (refine zw_nx rfl (fun _ _ => rfl) ?_)
    exact zw_ret rfl (fun _ _ => rfl) (⟨rfl, rfl⟩)
  | 31, _ =>
    repeat (refine zw_nx rfl (fun _ _ => rfl) ?_)
    exact zw_ret rfl (fun _ _ => rfl) (⟨rfl, rfl⟩)
  | n + 32, h => exact absurd h (by omega)
set_option maxHeartbeats 4000000 in
set_option maxRecDepth 20000 in
theorem cNtzI (sc : sm_S) (M : sm_M) (x : Int32) {z : Nat} (hz : z < 32) (h1 : ib x z = true) (h2 : ∀ i, i < z → ib x i = false) : zC 1 sc 250 [.int x] M (zR M (.int (nI z))) := by
  refine zc_of hkJ6_numberOfTrailingZeros_0f7a4 rfl ?_
  refine zw_nx rfl (fun _ _ => rfl) ?_
  refine zw_nx rfl (fun _ _ => rfl) ?_
  refine zw_nx rfl (fun _ _ => rfl) ?_
  refine zw_nx rfl (fun _ _ => rfl) ?_
  refine zw_nx rfl (fun _ _ => rfl) ?_
  refine zw_nx rfl (fun _ _ => rfl) ?_
  refine zw_nx rfl (fun _ _ => rfl) ?_
  refine zw_nx rfl (fun _ _ => rfl) ?_
  rw [show (x ^^^ Int32.ofInt (-1)) &&& (x - Int32.ofInt 1) = nI (2 ^ z - 1) from ntz_low hz h1 h2]
  exact ntz_run sc M z hz
theorem ib_l2i (x : Int64) {i : Nat} (hi : i < 32) : ib x.toInt32 i = lb x i := by
  unfold lb ib
  show (x.toBitVec.signExtend 32).getLsbD i = _
  rw [BitVec.getLsbD_signExtend]
  simp [hi, show i < 64 by omega]
set_option maxHeartbeats 4000000 in
set_option maxRecDepth 20000 in
theorem cNtzL (sc : sm_S) (M : sm_M) (x : Int64) {z : Nat} (hz : z < 64) (h1 : lb x z = true) (h2 : ∀ i, i < z → lb x i = false) : zC 2 sc 252 [.long x] M (zR M (.int (nI z))) := by
  refine zc_of hkJ13_numberOfTrailingZeros_95d88 rfl ?_
  repeat (refine zw_go rfl rfl (fun _ _ => rfl) ?_)
  by_cases h : z < 32
  · have hn : ¬ x.toInt32 = 0 := fun e => by
      have := ib_l2i x h
      rw [e, ib_0, h1] at this
      exact absurd this (by simp)
    first | refine zw_br rfl (fun _ _ => rfl) (fun h9 => absurd h9 (hn)) (fun _ => ?_) | refine zw_nx rfl (fun _ _ => rfl) ?_
    repeat (refine zw_go rfl rfl (fun _ _ => rfl) ?_)
    refine zw_call rfl (fun _ _ => rfl) (cNtzI sc M x.toInt32 h (by rw [ib_l2i x h]; exact h1) (fun i hi => by rw [ib_l2i x (by omega)]; exact h2 i hi)) (by decide) ?_
    rintro M1 r1 ⟨rfl, rfl⟩
    exact zw_ret rfl (fun _ _ => rfl) (⟨rfl, rfl⟩)
  · have hn : x.toInt32 = 0 := ib_ext (fun i hi => by rw [ib_l2i x hi, ib_0]; exact h2 i (by omega))
    first | refine zw_br rfl (fun _ _ => rfl) (fun _ => ?_) (fun h9 => absurd (hn) h9) | refine zw_nx rfl (fun _ _ => rfl) ?_
    repeat (refine zw_go rfl rfl (fun _ _ => rfl) ?_)
    have hb : ∀ i, i < 32 → ib (us x 32).toInt32 i = lb x (32 + i) := fun i hi => by
      rw [ib_l2i _ hi]
      exact lb_ushr x (k := 32) (by omega) i
    refine zw_call rfl (fun _ _ => rfl) (cNtzI sc M (us x 32).toInt32 (z := z - 32) (by omega) (by rw [hb _ (by omega), show 32 + (z - 32) = z by omega]; exact h1) (fun i hi => by rw [hb i (by omega)]; exact h2 _ (by omega))) (by decide) ?_
    rintro M1 r1 ⟨rfl, rfl⟩
    repeat (refine zw_go rfl rfl (fun _ _ => rfl) ?_)
    refine zw_ret rfl (fun _ _ => rfl) ?_
    refine ⟨rfl, ?_⟩
    rw [show (Int8.ofInt 32).toInt32 + nI (z - 32) = nI (32 + (z - 32)) from nI_add 32 _, show 32 + (z - 32) = z by omega]

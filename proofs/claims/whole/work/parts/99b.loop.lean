/-! THE LAW: its loop -/
theorem and31 (x : Int32) : ∃ c, c < 32 ∧ x &&& 31 = nI c := by
  refine ⟨(x &&& 31).toBitVec.toNat, ?_, ?_⟩
  · show (x.toBitVec &&& 31#32).toNat < 32
    rw [BitVec.toNat_and]
    have : x.toBitVec.toNat &&& (31#32).toNat ≤ (31#32).toNat := Nat.and_le_right
    have e : (31#32).toNat = 31 := rfl
    omega
  · apply Int32.toBitVec_inj.mp
    show (x &&& 31).toBitVec = BitVec.ofNat 32 (x &&& 31).toBitVec.toNat
    rw [BitVec.ofNat_toNat, BitVec.setWidth_eq]
theorem len_6 {len i : Nat} (hl : len < 100000) (hi : i < 200000) : nI len - Int32.ofInt 6 < nI i ↔ ¬ i + 6 ≤ len := by
  rw [Int32.lt_iff_toInt_lt, show nI len - Int32.ofInt 6 = nI len - nI 6 from rfl, pk_sub_toInt (by omega) (by omega), nI_toInt (by omega)]
  omega
theorem in_6 {len i c : Nat} (hl : len < 100000) (hi : i + 6 ≤ len) (hc : c < 6) : vp_in (nI i + Int32.ofNat c) len := by
  rw [show nI i + Int32.ofNat c = nI (i + c) from nI_add i c]
  exact vp_in_nI (by omega) (by omega)
theorem gm_x {E w h : Nat} {M : sm_M} (hG : GM E w h M) : XM M := by
  obtain ⟨n, t, k, nb, b, S, I, J, A, B, P, Q, C, rfl, _⟩ := hG
  exact xM
set_option maxHeartbeats 4000000 in
set_option maxRecDepth 20000 in
theorem law_loop {w h : Nat} (g : Nat → Int32) (len : Nat) (hl : len < 100000) : ∀ (z i E : Nat) (M : sm_M), len ≤ i + 6 * z + 5 → i ≤ len + 6 → E + z < 100000 → GM E w h M → zW 12 (some (len, g)) miL_law 38 [some (.ref 1000), some (.ref 0), some (.ref 47), some (.int (nI i))] [] M (fun M r => r = some (.int 1) ∧ XM M) := by
  intro z
  induction z with
  | zero =>
    intro i E M h1 h2 h3 hG
    have hlt : nI len - Int32.ofInt 6 < nI i := (len_6 hl (by omega)).mpr (by omega)
    refine zw_nx rfl (fun _ _ => rfl) ?_
    repeat (refine zw_go rfl rfl (fun _ _ => rfl) ?_)
    first | refine zw_br rfl (fun _ _ => rfl) (fun _ => ?_) (fun h9 => absurd (hlt) h9) | refine zw_nx rfl (fun _ _ => rfl) ?_
    repeat (refine zw_go rfl rfl (fun _ _ => rfl) ?_)
    exact zw_ret rfl (fun _ _ => rfl) (⟨rfl, gm_x hG⟩)
  | succ z ih =>
    intro i E M h1 h2 h3 hG
    by_cases hi : i + 6 ≤ len
    · have fin : ∀ M, GM (E + 1) w h M → zW 12 (some (len, g)) miL_law 1309 [some (.ref 1000), some (.ref 0), some (.ref 47), some (.int (nI i))] [] M (fun M r => r = some (.int 1) ∧ XM M) := fun M hM => by
        have hn := ih (i + 6) (E + 1) M (by omega) (by omega) (by omega) hM
        rw [show nI (i + 6) = nI i + Int32.ofInt 6 from (nI_add i 6).symm] at hn
        repeat (refine zw_go rfl rfl (fun _ _ => rfl) ?_)
        exact zw_kp hn
      obtain ⟨n, t, k, nb, b, S, I, J, A, B, P, Q, C, rfl, hG⟩ := hG
      have hin : ∀ c, c < 6 → vp_in (nI i + Int32.ofNat c) len := fun c hc => in_6 hl hi hc
      have hE : E < 100000 := by omega
      refine zw_nx rfl (fun _ _ => rfl) ?_
      repeat (refine zw_go rfl rfl (fun _ _ => rfl) ?_)
      first | refine zw_br rfl (fun _ _ => rfl) (fun h9 => absurd h9 ((fun q => (len_6 hl (by omega)).mp q hi))) (fun _ => ?_) | refine zw_nx rfl (fun _ _ => rfl) ?_
      repeat (refine zw_go rfl rfl (fun _ _ => rfl) ?_)
      refine zw_ix rfl (fun _ _ => rfl) (show vp_in (nI i) len from vp_in_nI (by omega) (by omega)) ?_
      repeat (refine zw_go rfl rfl (fun _ _ => rfl) ?_)
      obtain ⟨c, hc, e⟩ := and31 (g (nI i).toNatClampNeg)
      show zW _ _ _ _ _ [.int (g (nI i).toNatClampNeg &&& 31)] _ _
      rw [e]
      rcases (show c = 0 ∨ c = 1 ∨ c = 2 ∨ c = 3 ∨ c = 4 ∨ c = 5 ∨ c = 6 ∨ c = 7 ∨ c = 8 ∨ c = 9 ∨ c = 10 ∨ c = 11 ∨ c = 12 ∨ c = 13 ∨ c = 14 ∨ c = 15 ∨ c = 16 ∨ c = 17 ∨ c = 18 ∨ c = 19 ∨ c = 20 ∨ c = 21 ∨ c = 22 ∨ c = 23 ∨ c = 24 ∨ c = 25 ∨ c = 26 ∨ c = 27 ∨ c = 28 ∨ c = 29 ∨ c = 30 ∨ c = 31 by omega) with rfl | rfl | rfl | rfl | rfl | rfl | rfl | rfl | rfl | rfl | rfl | rfl | rfl | rfl | rfl | rfl | rfl | rfl | rfl | rfl | rfl | rfl | rfl | rfl | rfl | rfl | rfl | rfl | rfl | rfl | rfl | rfl
      · refine zw_nx rfl (fun _ _ => rfl) ?_
        exact lw0 hE hG hin fin
      · refine zw_nx rfl (fun _ _ => rfl) ?_
        exact lw1 hE hG hin fin
      · refine zw_nx rfl (fun _ _ => rfl) ?_
        exact lw2 hE hG hin fin
      · refine zw_nx rfl (fun _ _ => rfl) ?_
        exact lw3 hE hG hin fin
      · refine zw_nx rfl (fun _ _ => rfl) ?_
        exact lw4 hE hG hin fin
      · refine zw_nx rfl (fun _ _ => rfl) ?_
        exact lw5 hE hG hin fin
      · refine zw_nx rfl (fun _ _ => rfl) ?_
        exact lw6 hE hG hin fin
      · refine zw_nx rfl (fun _ _ => rfl) ?_
        exact lw7 hE hG hin fin
      · refine zw_nx rfl (fun _ _ => rfl) ?_
        exact lw8 hE hG hin fin
      · refine zw_nx rfl (fun _ _ => rfl) ?_
        exact lw9 hE hG hin fin
      · refine zw_nx rfl (fun _ _ => rfl) ?_
        exact lw10 hE hG hin fin
      · refine zw_nx rfl (fun _ _ => rfl) ?_
        exact lw11 hE hG hin fin
      · refine zw_nx rfl (fun _ _ => rfl) ?_
        exact lw12 hE hG hin fin
      · refine zw_nx rfl (fun _ _ => rfl) ?_
        exact lw13 hE hG hin fin
      · refine zw_nx rfl (fun _ _ => rfl) ?_
        exact lw14 hE hG hin fin
      · refine zw_nx rfl (fun _ _ => rfl) ?_
        exact lw15 hE hG hin fin
      · refine zw_nx rfl (fun _ _ => rfl) ?_
        exact lw16 hE hG hin fin
      · refine zw_nx rfl (fun _ _ => rfl) ?_
        exact lw17 hE hG hin fin
      · refine zw_nx rfl (fun _ _ => rfl) ?_
        exact lw18 hE hG hin fin
      · refine zw_nx rfl (fun _ _ => rfl) ?_
        exact lw19 hE hG hin fin
      · refine zw_nx rfl (fun _ _ => rfl) ?_
        exact lw20 hE hG hin fin
      · refine zw_nx rfl (fun _ _ => rfl) ?_
        exact lw21 hE hG hin fin
      · refine zw_nx rfl (fun _ _ => rfl) ?_
        exact lw22 hE hG hin fin
      · refine zw_nx rfl (fun _ _ => rfl) ?_
        exact lw23 hE hG hin fin
      · refine zw_nx rfl (fun _ _ => rfl) ?_
        exact lw24 hE hG hin fin
      · refine zw_nx rfl (fun _ _ => rfl) ?_
        exact lw25 hE hG hin fin
      · refine zw_nx rfl (fun _ _ => rfl) ?_
        exact lw26 hE hG hin fin
      · refine zw_nx rfl (fun _ _ => rfl) ?_
        exact lw27 hE hG hin fin
      · refine zw_nx rfl (fun _ _ => rfl) ?_
        exact lw28 hE hG hin fin
      · refine zw_nx rfl (fun _ _ => rfl) ?_
        exact lw29 hE hG hin fin
      · refine zw_nx rfl (fun _ _ => rfl) ?_
        exact fin _ ⟨n, t, k, nb, b, S, I, J, A, B, P, Q, C, rfl, gi_mono hG⟩
      · refine zw_nx rfl (fun _ _ => rfl) ?_
        exact fin _ ⟨n, t, k, nb, b, S, I, J, A, B, P, Q, C, rfl, gi_mono hG⟩
    · have hlt : nI len - Int32.ofInt 6 < nI i := (len_6 hl (by omega)).mpr hi
      refine zw_nx rfl (fun _ _ => rfl) ?_
      repeat (refine zw_go rfl rfl (fun _ _ => rfl) ?_)
      first | refine zw_br rfl (fun _ _ => rfl) (fun _ => ?_) (fun h9 => absurd (hlt) h9) | refine zw_nx rfl (fun _ _ => rfl) ?_
      repeat (refine zw_go rfl rfl (fun _ _ => rfl) ?_)
      exact zw_ret rfl (fun _ _ => rfl) (⟨rfl, gm_x hG⟩)

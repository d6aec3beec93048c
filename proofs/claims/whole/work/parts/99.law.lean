/-! THE LAW: its cases -/
section
variable {E w h n t k nb : Nat} {b : Nat → Nat} {S : Nat → Nat → Bool} {I : Nat → Int32} {J : Nat → Int64} {A : Nat → Nat → Int32} {B : Nat → Nat → Int64} {P : Nat → Int32} {Q : Nat → Nat → Int32} {C : Nat → Nat → Int64} {g : Nat → Int32} {len i : Nat} {Post : sm_M → Option Value → Prop}
set_option maxHeartbeats 4000000 in
set_option maxRecDepth 20000 in
theorem lw0 (hE : E < 100000) (hG : GI E w h n t k nb b S I J A B P Q C) (hin : ∀ c, c < 6 → vp_in (nI i + Int32.ofNat c) len) (fin : ∀ M, GM (E + 1) w h M → zW 12 (some (len, g)) miL_law 1309 [some (.ref 1000), some (.ref 0), some (.ref 47), some (.int (nI i))] [] M Post) : zW 12 (some (len, g)) miL_law 188 [some (.ref 1000), some (.ref 0), some (.ref 47), some (.int (nI i))] [] (xm I J A B (mt P Q C)) Post := by
  repeat (refine zw_go rfl rfl (fun _ _ => rfl) ?_)
  refine zw_ix rfl (fun _ _ => rfl) (hin 1 (by decide)) ?_
  repeat (refine zw_go rfl rfl (fun _ _ => rfl) ?_)
  refine zw_ix rfl (fun _ _ => rfl) (hin 2 (by decide)) ?_
  repeat (refine zw_go rfl rfl (fun _ _ => rfl) ?_)
  refine zw_call rfl (fun _ _ => rfl) (sThread (some (len, g)) hE hG _ _) (by decide) ?_
  rintro M1 r1 ⟨v, rfl, hk, ⟨I1, J1, A1, B1, P1, Q1, C1, rfl⟩, h2⟩
  obtain ⟨q, rfl⟩ := vk_is hk (by decide)
  repeat (refine zw_go rfl rfl (fun _ _ => rfl) ?_)
  refine zw_ix rfl (fun _ _ => rfl) (hin 1 (by decide)) ?_
  repeat (refine zw_go rfl rfl (fun _ _ => rfl) ?_)
  refine zw_ix rfl (fun _ _ => rfl) (hin 2 (by decide)) ?_
  repeat (refine zw_go rfl rfl (fun _ _ => rfl) ?_)
  refine zw_call rfl (fun _ _ => rfl) (h2) (by decide) ?_
  rintro M2 r2 ⟨rfl, hG2⟩
  first | refine zw_br rfl (fun _ _ => rfl) (fun _ => ?_) (fun h9 => absurd ((rfl : q = q)) h9) | refine zw_nx rfl (fun _ _ => rfl) ?_
  exact fin M2 hG2
set_option maxHeartbeats 4000000 in
set_option maxRecDepth 20000 in
theorem lw11 (hE : E < 100000) (hG : GI E w h n t k nb b S I J A B P Q C) (hin : ∀ c, c < 6 → vp_in (nI i + Int32.ofNat c) len) (fin : ∀ M, GM (E + 1) w h M → zW 12 (some (len, g)) miL_law 1309 [some (.ref 1000), some (.ref 0), some (.ref 47), some (.int (nI i))] [] M Post) : zW 12 (some (len, g)) miL_law 537 [some (.ref 1000), some (.ref 0), some (.ref 47), some (.int (nI i))] [] (xm I J A B (mt P Q C)) Post := by
  repeat (refine zw_go rfl rfl (fun _ _ => rfl) ?_)
  refine zw_ix rfl (fun _ _ => rfl) (hin 1 (by decide)) ?_
  repeat (refine zw_go rfl rfl (fun _ _ => rfl) ?_)
  refine zw_call rfl (fun _ _ => rfl) (sRow (some (len, g)) hG _) (by decide) ?_
  rintro M1 r1 ⟨v, rfl, hk, ⟨I1, J1, A1, B1, P1, Q1, C1, rfl⟩, h2⟩
  obtain ⟨q, rfl⟩ := vk_il hk
  repeat (refine zw_go rfl rfl (fun _ _ => rfl) ?_)
  refine zw_ix rfl (fun _ _ => rfl) (hin 1 (by decide)) ?_
  repeat (refine zw_go rfl rfl (fun _ _ => rfl) ?_)
  refine zw_call rfl (fun _ _ => rfl) (h2) (by decide) ?_
  rintro M2 r2 ⟨rfl, hG2⟩
  refine zw_nx rfl (fun _ _ => rfl) ?_
  first | refine zw_br rfl (fun _ _ => rfl) (fun _ => ?_) (fun h9 => absurd (lg_cmp_0.mpr (rfl : q = q)) h9) | refine zw_nx rfl (fun _ _ => rfl) ?_
  exact fin M2 hG2
set_option maxHeartbeats 4000000 in
set_option maxRecDepth 20000 in
theorem lw13 (hE : E < 100000) (hG : GI E w h n t k nb b S I J A B P Q C) (hin : ∀ c, c < 6 → vp_in (nI i + Int32.ofNat c) len) (fin : ∀ M, GM (E + 1) w h M → zW 12 (some (len, g)) miL_law 1309 [some (.ref 1000), some (.ref 0), some (.ref 47), some (.int (nI i))] [] M Post) : zW 12 (some (len, g)) miL_law 604 [some (.ref 1000), some (.ref 0), some (.ref 47), some (.int (nI i))] [] (xm I J A B (mt P Q C)) Post := by
  by_cases b1 : (g (nI i + Int32.ofNat 1).toNatClampNeg) = 0
  · by_cases b2 : (g (nI i + Int32.ofNat 2).toNatClampNeg) = 0
    · repeat (refine zw_go rfl rfl (fun _ _ => rfl) ?_)
      refine zw_ix rfl (fun _ _ => rfl) (hin 1 (by decide)) ?_
      first | refine zw_br rfl (fun _ _ => rfl) (fun _ => ?_) (fun h9 => absurd (b1) h9) | refine zw_nx rfl (fun _ _ => rfl) ?_
      repeat (refine zw_go rfl rfl (fun _ _ => rfl) ?_)
      refine zw_ix rfl (fun _ _ => rfl) (hin 2 (by decide)) ?_
      first | refine zw_br rfl (fun _ _ => rfl) (fun _ => ?_) (fun h9 => absurd (b2) h9) | refine zw_nx rfl (fun _ _ => rfl) ?_
      repeat (refine zw_go rfl rfl (fun _ _ => rfl) ?_)
      refine zw_call rfl (fun _ _ => rfl) (sLongest (some (len, g)) hG false false) (by decide) ?_
      rintro M1 r1 ⟨v, rfl, hk, ⟨I1, J1, A1, B1, P1, Q1, C1, rfl⟩, h2⟩
      obtain ⟨q, rfl⟩ := vk_is hk (by decide)
      repeat (refine zw_go rfl rfl (fun _ _ => rfl) ?_)
      refine zw_ix rfl (fun _ _ => rfl) (hin 1 (by decide)) ?_
      first | refine zw_br rfl (fun _ _ => rfl) (fun _ => ?_) (fun h9 => absurd (b1) h9) | refine zw_nx rfl (fun _ _ => rfl) ?_
      repeat (refine zw_go rfl rfl (fun _ _ => rfl) ?_)
      refine zw_ix rfl (fun _ _ => rfl) (hin 2 (by decide)) ?_
      first | refine zw_br rfl (fun _ _ => rfl) (fun _ => ?_) (fun h9 => absurd (b2) h9) | refine zw_nx rfl (fun _ _ => rfl) ?_
      repeat (refine zw_go rfl rfl (fun _ _ => rfl) ?_)
      refine zw_call rfl (fun _ _ => rfl) (h2) (by decide) ?_
      rintro M2 r2 ⟨rfl, hG2⟩
      first | refine zw_br rfl (fun _ _ => rfl) (fun _ => ?_) (fun h9 => absurd ((rfl : q = q)) h9) | refine zw_nx rfl (fun _ _ => rfl) ?_
      exact fin M2 hG2
    · repeat (refine zw_go rfl rfl (fun _ _ => rfl) ?_)
      refine zw_ix rfl (fun _ _ => rfl) (hin 1 (by decide)) ?_
      first | refine zw_br rfl (fun _ _ => rfl) (fun _ => ?_) (fun h9 => absurd (b1) h9) | refine zw_nx rfl (fun _ _ => rfl) ?_
      repeat (refine zw_go rfl rfl (fun _ _ => rfl) ?_)
      refine zw_ix rfl (fun _ _ => rfl) (hin 2 (by decide)) ?_
      first | refine zw_br rfl (fun _ _ => rfl) (fun h9 => absurd h9 (b2)) (fun _ => ?_) | refine zw_nx rfl (fun _ _ => rfl) ?_
      repeat (refine zw_go rfl rfl (fun _ _ => rfl) ?_)
      refine zw_call rfl (fun _ _ => rfl) (sLongest (some (len, g)) hG false true) (by decide) ?_
      rintro M1 r1 ⟨v, rfl, hk, ⟨I1, J1, A1, B1, P1, Q1, C1, rfl⟩, h2⟩
      obtain ⟨q, rfl⟩ := vk_is hk (by decide)
      repeat (refine zw_go rfl rfl (fun _ _ => rfl) ?_)
      refine zw_ix rfl (fun _ _ => rfl) (hin 1 (by decide)) ?_
      first | refine zw_br rfl (fun _ _ => rfl) (fun _ => ?_) (fun h9 => absurd (b1) h9) | refine zw_nx rfl (fun _ _ => rfl) ?_
      repeat (refine zw_go rfl rfl (fun _ _ => rfl) ?_)
      refine zw_ix rfl (fun _ _ => rfl) (hin 2 (by decide)) ?_
      first | refine zw_br rfl (fun _ _ => rfl) (fun h9 => absurd h9 (b2)) (fun _ => ?_) | refine zw_nx rfl (fun _ _ => rfl) ?_
      repeat (refine zw_go rfl rfl (fun _ _ => rfl) ?_)
      refine zw_call rfl (fun _ _ => rfl) (h2) (by decide) ?_
      rintro M2 r2 ⟨rfl, hG2⟩
      first | refine zw_br rfl (fun _ _ => rfl) (fun _ => ?_) (fun h9 => absurd ((rfl : q = q)) h9) | refine zw_nx rfl (fun _ _ => rfl) ?_
      exact fin M2 hG2
  · by_cases b2 : (g (nI i + Int32.ofNat 2).toNatClampNeg) = 0
    · repeat (refine zw_go rfl rfl (fun _ _ => rfl) ?_)
      refine zw_ix rfl (fun _ _ => rfl) (hin 1 (by decide)) ?_
      first | refine zw_br rfl (fun _ _ => rfl) (fun h9 => absurd h9 (b1)) (fun _ => ?_) | refine zw_nx rfl (fun _ _ => rfl) ?_
      repeat (refine zw_go rfl rfl (fun _ _ => rfl) ?_)
      refine zw_ix rfl (fun _ _ => rfl) (hin 2 (by decide)) ?_
      first | refine zw_br rfl (fun _ _ => rfl) (fun _ => ?_) (fun h9 => absurd (b2) h9) | refine zw_nx rfl (fun _ _ => rfl) ?_
      repeat (refine zw_go rfl rfl (fun _ _ => rfl) ?_)
      refine zw_call rfl (fun _ _ => rfl) (sLongest (some (len, g)) hG true false) (by decide) ?_
      rintro M1 r1 ⟨v, rfl, hk, ⟨I1, J1, A1, B1, P1, Q1, C1, rfl⟩, h2⟩
      obtain ⟨q, rfl⟩ := vk_is hk (by decide)
      repeat (refine zw_go rfl rfl (fun _ _ => rfl) ?_)
      refine zw_ix rfl (fun _ _ => rfl) (hin 1 (by decide)) ?_
      first | refine zw_br rfl (fun _ _ => rfl) (fun h9 => absurd h9 (b1)) (fun _ => ?_) | refine zw_nx rfl (fun _ _ => rfl) ?_
      repeat (refine zw_go rfl rfl (fun _ _ => rfl) ?_)
      refine zw_ix rfl (fun _ _ => rfl) (hin 2 (by decide)) ?_
      first | refine zw_br rfl (fun _ _ => rfl) (fun _ => ?_) (fun h9 => absurd (b2) h9) | refine zw_nx rfl (fun _ _ => rfl) ?_
      repeat (refine zw_go rfl rfl (fun _ _ => rfl) ?_)
      refine zw_call rfl (fun _ _ => rfl) (h2) (by decide) ?_
      rintro M2 r2 ⟨rfl, hG2⟩
      first | refine zw_br rfl (fun _ _ => rfl) (fun _ => ?_) (fun h9 => absurd ((rfl : q = q)) h9) | refine zw_nx rfl (fun _ _ => rfl) ?_
      exact fin M2 hG2
    · repeat (refine zw_go rfl rfl (fun _ _ => rfl) ?_)
      refine zw_ix rfl (fun _ _ => rfl) (hin 1 (by decide)) ?_
      first | refine zw_br rfl (fun _ _ => rfl) (fun h9 => absurd h9 (b1)) (fun _ => ?_) | refine zw_nx rfl (fun _ _ => rfl) ?_
      repeat (refine zw_go rfl rfl (fun _ _ => rfl) ?_)
      refine zw_ix rfl (fun _ _ => rfl) (hin 2 (by decide)) ?_
      first | refine zw_br rfl (fun _ _ => rfl) (fun h9 => absurd h9 (b2)) (fun _ => ?_) | refine zw_nx rfl (fun _ _ => rfl) ?_
      repeat (refine zw_go rfl rfl (fun _ _ => rfl) ?_)
      refine zw_call rfl (fun _ _ => rfl) (sLongest (some (len, g)) hG true true) (by decide) ?_
      rintro M1 r1 ⟨v, rfl, hk, ⟨I1, J1, A1, B1, P1, Q1, C1, rfl⟩, h2⟩
      obtain ⟨q, rfl⟩ := vk_is hk (by decide)
      repeat (refine zw_go rfl rfl (fun _ _ => rfl) ?_)
      refine zw_ix rfl (fun _ _ => rfl) (hin 1 (by decide)) ?_
      first | refine zw_br rfl (fun _ _ => rfl) (fun h9 => absurd h9 (b1)) (fun _ => ?_) | refine zw_nx rfl (fun _ _ => rfl) ?_
      repeat (refine zw_go rfl rfl (fun _ _ => rfl) ?_)
      refine zw_ix rfl (fun _ _ => rfl) (hin 2 (by decide)) ?_
      first | refine zw_br rfl (fun _ _ => rfl) (fun h9 => absurd h9 (b2)) (fun _ => ?_) | refine zw_nx rfl (fun _ _ => rfl) ?_
      repeat (refine zw_go rfl rfl (fun _ _ => rfl) ?_)
      refine zw_call rfl (fun _ _ => rfl) (h2) (by decide) ?_
      rintro M2 r2 ⟨rfl, hG2⟩
      first | refine zw_br rfl (fun _ _ => rfl) (fun _ => ?_) (fun h9 => absurd ((rfl : q = q)) h9) | refine zw_nx rfl (fun _ _ => rfl) ?_
      exact fin M2 hG2
end

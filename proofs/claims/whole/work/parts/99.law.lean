/-! THE LAW: its cases -/
section
variable {E w h n t k nb : Nat} {b : Nat → Nat} {S : Nat → Nat → Bool} {I : Nat → Int32} {J : Nat → Int64} {A : Nat → Nat → Int32} {B : Nat → Nat → Int64} {P : Nat → Int32} {Q : Nat → Nat → Int32} {C : Nat → Nat → Int64} {g : Nat → Int32} {len i : Nat} {Post : sm_M → Option Value → Prop}
set_option maxHeartbeats 4000000 in
set_option maxRecDepth 20000 in
theorem lw0 (hE : E < 100000) (hG : GI E w h n t k nb b S I J A B P Q C) (hin : ∀ c, c < 6 → vp_in (nI i + Int32.ofNat c) len) (fin : ∀ M, GM (E + 1) w h M → zW 12 (some (len, g)) miL_law 1309 [some (.ref 1000), some (.ref 0), some (.ref 47), some (.int (nI i))] [] M Post) : zW 12 (some (len, g)) miL_law 188 [some (.ref 1000), some (.ref 0), some (.ref 47), some (.int (nI i))] [] (xm I J A B (mt P Q C)) Post := by
  repeat (refine zw_go rfl rfl (fun _ _ => rfl) ?_)
  refine zw_ix rfl (fun _ _ => rfl) (hin 1 (by decide)) ?_
  repeat (refine zw_go rfl rfl (fun _ _ => rfl) ?_)
  refine zw_ix rfl (fun _ _ => rfl) (hin 2 (by decide)) ?_
  repeat (refine zw_go rfl rfl (fun _ _ => rfl) ?_)
  refine zw_call rfl (fun _ _ => rfl) (sThread (some (len, g)) hE hG _ _) (by decide) ?_
  rintro M1 r1 ⟨v, rfl, hk, ⟨I1, J1, A1, B1, P1, Q1, C1, rfl⟩, h2⟩
  obtain ⟨q, rfl⟩ := vk_is hk (by decide)
  repeat (refine zw_go rfl rfl (fun _ _ => rfl) ?_)
  refine zw_ix rfl (fun _ _ => rfl) (hin 1 (by decide)) ?_
  repeat (refine zw_go rfl rfl (fun _ _ => rfl) ?_)
  refine zw_ix rfl (fun _ _ => rfl) (hin 2 (by decide)) ?_
  repeat (refine zw_go rfl rfl (fun _ _ => rfl) ?_)
  refine zw_call rfl (fun _ _ => rfl) (h2) (by decide) ?_
  rintro M2 r2 ⟨rfl, hG2⟩
  first | refine zw_br rfl (fun _ _ => rfl) (fun _ => ?_) (fun h9 => absurd ((rfl : q = q)) h9) | refine zw_nx rfl (fun _ _ => rfl) ?_
  exact fin M2 hG2
set_option maxHeartbeats 4000000 in
set_option maxRecDepth 20000 in
theorem lw1 (hE : E < 100000) (hG : GI E w h n t k nb b S I J A B P Q C) (hin : ∀ c, c < 6 → vp_in (nI i + Int32.ofNat c) len) (fin : ∀ M, GM (E + 1) w h M → zW 12 (some (len, g)) miL_law 1309 [some (.ref 1000), some (.ref 0), some (.ref 47), some (.int (nI i))] [] M Post) : zW 12 (some (len, g)) miL_law 221 [some (.ref 1000), some (.ref 0), some (.ref 47), some (.int (nI i))] [] (xm I J A B (mt P Q C)) Post := by
  repeat (refine zw_go rfl rfl (fun _ _ => rfl) ?_)
  refine zw_ix rfl (fun _ _ => rfl) (hin 1 (by decide)) ?_
  repeat (refine zw_go rfl rfl (fun _ _ => rfl) ?_)
  refine zw_ix rfl (fun _ _ => rfl) (hin 2 (by decide)) ?_
  repeat (refine zw_go rfl rfl (fun _ _ => rfl) ?_)
  refine zw_call rfl (fun _ _ => rfl) (sTie (some (len, g)) hE hG _ _) (by decide) ?_
  rintro M1 r1 ⟨v, rfl, hk, ⟨I1, J1, A1, B1, P1, Q1, C1, rfl⟩, h2⟩
  obtain ⟨q, rfl⟩ := vk_is hk (by decide)
  repeat (refine zw_go rfl rfl (fun _ _ => rfl) ?_)
  refine zw_ix rfl (fun _ _ => rfl) (hin 1 (by decide)) ?_
  repeat (refine zw_go rfl rfl (fun _ _ => rfl) ?_)
  refine zw_ix rfl (fun _ _ => rfl) (hin 2 (by decide)) ?_
  repeat (refine zw_go rfl rfl (fun _ _ => rfl) ?_)
  refine zw_call rfl (fun _ _ => rfl) (h2) (by decide) ?_
  rintro M2 r2 ⟨rfl, hG2⟩
  first | refine zw_br rfl (fun _ _ => rfl) (fun _ => ?_) (fun h9 => absurd ((rfl : q = q)) h9) | refine zw_nx rfl (fun _ _ => rfl) ?_
  exact fin M2 hG2
set_option maxHeartbeats 4000000 in
set_option maxRecDepth 20000 in
theorem lw2 (hE : E < 100000) (hG : GI E w h n t k nb b S I J A B P Q C) (hin : ∀ c, c < 6 → vp_in (nI i + Int32.ofNat c) len) (fin : ∀ M, GM (E + 1) w h M → zW 12 (some (len, g)) miL_law 1309 [some (.ref 1000), some (.ref 0), some (.ref 47), some (.int (nI i))] [] M Post) : zW 12 (some (len, g)) miL_law 254 [some (.ref 1000), some (.ref 0), some (.ref 47), some (.int (nI i))] [] (xm I J A B (mt P Q C)) Post := by
  repeat (refine zw_go rfl rfl (fun _ _ => rfl) ?_)
  refine zw_ix rfl (fun _ _ => rfl) (hin 1 (by decide)) ?_
  repeat (refine zw_go rfl rfl (fun _ _ => rfl) ?_)
  refine zw_ix rfl (fun _ _ => rfl) (hin 2 (by decide)) ?_
  repeat (refine zw_go rfl rfl (fun _ _ => rfl) ?_)
  refine zw_call rfl (fun _ _ => rfl) (sTread (some (len, g)) hE hG _ _) (by decide) ?_
  rintro M1 r1 ⟨v, rfl, hk, ⟨I1, J1, A1, B1, P1, Q1, C1, rfl⟩, h2⟩
  obtain ⟨q, rfl⟩ := vk_is hk (by decide)
  repeat (refine zw_go rfl rfl (fun _ _ => rfl) ?_)
  refine zw_ix rfl (fun _ _ => rfl) (hin 1 (by decide)) ?_
  repeat (refine zw_go rfl rfl (fun _ _ => rfl) ?_)
  refine zw_ix rfl (fun _ _ => rfl) (hin 2 (by decide)) ?_
  repeat (refine zw_go rfl rfl (fun _ _ => rfl) ?_)
  refine zw_call rfl (fun _ _ => rfl) (h2) (by decide) ?_
  rintro M2 r2 ⟨rfl, hG2⟩
  first | refine zw_br rfl (fun _ _ => rfl) (fun _ => ?_) (fun h9 => absurd ((rfl : q = q)) h9) | refine zw_nx rfl (fun _ _ => rfl) ?_
  exact fin M2 hG2
set_option maxHeartbeats 4000000 in
set_option maxRecDepth 20000 in
theorem lw3 (hE : E < 100000) (hG : GI E w h n t k nb b S I J A B P Q C) (hin : ∀ c, c < 6 → vp_in (nI i + Int32.ofNat c) len) (fin : ∀ M, GM (E + 1) w h M → zW 12 (some (len, g)) miL_law 1309 [some (.ref 1000), some (.ref 0), some (.ref 47), some (.int (nI i))] [] M Post) : zW 12 (some (len, g)) miL_law 287 [some (.ref 1000), some (.ref 0), some (.ref 47), some (.int (nI i))] [] (xm I J A B (mt P Q C)) Post := by
  by_cases b1 : (g (nI i + Int32.ofNat 1).toNatClampNeg) = 0
  · repeat (refine zw_go rfl rfl (fun _ _ => rfl) ?_)
    refine zw_ix rfl (fun _ _ => rfl) (hin 1 (by decide)) ?_
    first | refine zw_br rfl (fun _ _ => rfl) (fun _ => ?_) (fun h9 => absurd (b1) h9) | refine zw_nx rfl (fun _ _ => rfl) ?_
    repeat (refine zw_go rfl rfl (fun _ _ => rfl) ?_)
    refine zw_ix rfl (fun _ _ => rfl) (hin 2 (by decide)) ?_
    repeat (refine zw_go rfl rfl (fun _ _ => rfl) ?_)
    refine zw_ix rfl (fun _ _ => rfl) (hin 3 (by decide)) ?_
    repeat (refine zw_go rfl rfl (fun _ _ => rfl) ?_)
    refine zw_call rfl (fun _ _ => rfl) (sColour (some (len, g)) hE hG false _ _) (by decide) ?_
    rintro M1 r1 ⟨v, rfl, hk, ⟨I1, J1, A1, B1, P1, Q1, C1, rfl⟩, h2⟩
    obtain ⟨q, rfl⟩ := vk_is hk (by decide)
    repeat (refine zw_go rfl rfl (fun _ _ => rfl) ?_)
    refine zw_ix rfl (fun _ _ => rfl) (hin 1 (by decide)) ?_
    first | refine zw_br rfl (fun _ _ => rfl) (fun _ => ?_) (fun h9 => absurd (b1) h9) | refine zw_nx rfl (fun _ _ => rfl) ?_
    repeat (refine zw_go rfl rfl (fun _ _ => rfl) ?_)
    refine zw_ix rfl (fun _ _ => rfl) (hin 2 (by decide)) ?_
    repeat (refine zw_go rfl rfl (fun _ _ => rfl) ?_)
    refine zw_ix rfl (fun _ _ => rfl) (hin 3 (by decide)) ?_
    repeat (refine zw_go rfl rfl (fun _ _ => rfl) ?_)
    refine zw_call rfl (fun _ _ => rfl) (h2) (by decide) ?_
    rintro M2 r2 ⟨rfl, hG2⟩
    first | refine zw_br rfl (fun _ _ => rfl) (fun _ => ?_) (fun h9 => absurd ((rfl : q = q)) h9) | refine zw_nx rfl (fun _ _ => rfl) ?_
    exact fin M2 hG2
  · repeat (refine zw_go rfl rfl (fun _ _ => rfl) ?_)
    refine zw_ix rfl (fun _ _ => rfl) (hin 1 (by decide)) ?_
    first | refine zw_br rfl (fun _ _ => rfl) (fun h9 => absurd h9 (b1)) (fun _ => ?_) | refine zw_nx rfl (fun _ _ => rfl) ?_
    repeat (refine zw_go rfl rfl (fun _ _ => rfl) ?_)
    refine zw_ix rfl (fun _ _ => rfl) (hin 2 (by decide)) ?_
    repeat (refine zw_go rfl rfl (fun _ _ => rfl) ?_)
    refine zw_ix rfl (fun _ _ => rfl) (hin 3 (by decide)) ?_
    repeat (refine zw_go rfl rfl (fun _ _ => rfl) ?_)
    refine zw_call rfl (fun _ _ => rfl) (sColour (some (len, g)) hE hG true _ _) (by decide) ?_
    rintro M1 r1 ⟨v, rfl, hk, ⟨I1, J1, A1, B1, P1, Q1, C1, rfl⟩, h2⟩
    obtain ⟨q, rfl⟩ := vk_is hk (by decide)
    repeat (refine zw_go rfl rfl (fun _ _ => rfl) ?_)
    refine zw_ix rfl (fun _ _ => rfl) (hin 1 (by decide)) ?_
    first | refine zw_br rfl (fun _ _ => rfl) (fun h9 => absurd h9 (b1)) (fun _ => ?_) | refine zw_nx rfl (fun _ _ => rfl) ?_
    repeat (refine zw_go rfl rfl (fun _ _ => rfl) ?_)
    refine zw_ix rfl (fun _ _ => rfl) (hin 2 (by decide)) ?_
    repeat (refine zw_go rfl rfl (fun _ _ => rfl) ?_)
    refine zw_ix rfl (fun _ _ => rfl) (hin 3 (by decide)) ?_
    repeat (refine zw_go rfl rfl (fun _ _ => rfl) ?_)
    refine zw_call rfl (fun _ _ => rfl) (h2) (by decide) ?_
    rintro M2 r2 ⟨rfl, hG2⟩
    first | refine zw_br rfl (fun _ _ => rfl) (fun _ => ?_) (fun h9 => absurd ((rfl : q = q)) h9) | refine zw_nx rfl (fun _ _ => rfl) ?_
    exact fin M2 hG2
set_option maxHeartbeats 4000000 in
set_option maxRecDepth 20000 in
theorem lw4 (hE : E < 100000) (hG : GI E w h n t k nb b S I J A B P Q C) (hin : ∀ c, c < 6 → vp_in (nI i + Int32.ofNat c) len) (fin : ∀ M, GM (E + 1) w h M → zW 12 (some (len, g)) miL_law 1309 [some (.ref 1000), some (.ref 0), some (.ref 47), some (.int (nI i))] [] M Post) : zW 12 (some (len, g)) miL_law 346 [some (.ref 1000), some (.ref 0), some (.ref 47), some (.int (nI i))] [] (xm I J A B (mt P Q C)) Post := by
  repeat (refine zw_go rfl rfl (fun _ _ => rfl) ?_)
  refine zw_ix rfl (fun _ _ => rfl) (hin 1 (by decide)) ?_
  repeat (refine zw_go rfl rfl (fun _ _ => rfl) ?_)
  refine zw_ix rfl (fun _ _ => rfl) (hin 2 (by decide)) ?_
  repeat (refine zw_go rfl rfl (fun _ _ => rfl) ?_)
  refine zw_ix rfl (fun _ _ => rfl) (hin 3 (by decide)) ?_
  repeat (refine zw_go rfl rfl (fun _ _ => rfl) ?_)
  refine zw_ix rfl (fun _ _ => rfl) (hin 4 (by decide)) ?_
  repeat (refine zw_go rfl rfl (fun _ _ => rfl) ?_)
  refine zw_ix rfl (fun _ _ => rfl) (hin 5 (by decide)) ?_
  repeat (refine zw_go rfl rfl (fun _ _ => rfl) ?_)
  refine zw_call rfl (fun _ _ => rfl) (sFeed (some (len, g)) hG _ _ _ _ _) (by decide) ?_
  rintro M1 r1 ⟨v, rfl, hk, ⟨I1, J1, A1, B1, P1, Q1, C1, rfl⟩, h2⟩
  obtain ⟨q, rfl⟩ := vk_is hk (by decide)
  repeat (refine zw_go rfl rfl (fun _ _ => rfl) ?_)
  refine zw_ix rfl (fun _ _ => rfl) (hin 1 (by decide)) ?_
  repeat (refine zw_go rfl rfl (fun _ _ => rfl) ?_)
  refine zw_ix rfl (fun _ _ => rfl) (hin 2 (by decide)) ?_
  repeat (refine zw_go rfl rfl (fun _ _ => rfl) ?_)
  refine zw_ix rfl (fun _ _ => rfl) (hin 3 (by decide)) ?_
  repeat (refine zw_go rfl rfl (fun _ _ => rfl) ?_)
  refine zw_ix rfl (fun _ _ => rfl) (hin 4 (by decide)) ?_
  repeat (refine zw_go rfl rfl (fun _ _ => rfl) ?_)
  refine zw_ix rfl (fun _ _ => rfl) (hin 5 (by decide)) ?_
  repeat (refine zw_go rfl rfl (fun _ _ => rfl) ?_)
  refine zw_call rfl (fun _ _ => rfl) (h2) (by decide) ?_
  rintro M2 r2 ⟨rfl, hG2⟩
  first | refine zw_br rfl (fun _ _ => rfl) (fun _ => ?_) (fun h9 => absurd ((rfl : q = q)) h9) | refine zw_nx rfl (fun _ _ => rfl) ?_
  exact fin M2 hG2
set_option maxHeartbeats 4000000 in
set_option maxRecDepth 20000 in
theorem lw5 (hE : E < 100000) (hG : GI E w h n t k nb b S I J A B P Q C) (hin : ∀ c, c < 6 → vp_in (nI i + Int32.ofNat c) len) (fin : ∀ M, GM (E + 1) w h M → zW 12 (some (len, g)) miL_law 1309 [some (.ref 1000), some (.ref 0), some (.ref 47), some (.int (nI i))] [] M Post) : zW 12 (some (len, g)) miL_law 409 [some (.ref 1000), some (.ref 0), some (.ref 47), some (.int (nI i))] [] (xm I J A B (mt P Q C)) Post := by
  repeat (refine zw_go rfl rfl (fun _ _ => rfl) ?_)
  refine zw_ix rfl (fun _ _ => rfl) (hin 1 (by decide)) ?_
  repeat (refine zw_go rfl rfl (fun _ _ => rfl) ?_)
  refine zw_call rfl (fun _ _ => rfl) (sEnd (some (len, g)) hG _) (by decide) ?_
  rintro M1 r1 ⟨v, rfl, hk, ⟨I1, J1, A1, B1, P1, Q1, C1, rfl⟩, h2⟩
  obtain ⟨q, rfl⟩ := vk_is hk (by decide)
  repeat (refine zw_go rfl rfl (fun _ _ => rfl) ?_)
  refine zw_ix rfl (fun _ _ => rfl) (hin 1 (by decide)) ?_
  repeat (refine zw_go rfl rfl (fun _ _ => rfl) ?_)
  refine zw_call rfl (fun _ _ => rfl) (h2) (by decide) ?_
  rintro M2 r2 ⟨rfl, hG2⟩
  first | refine zw_br rfl (fun _ _ => rfl) (fun _ => ?_) (fun h9 => absurd ((rfl : q = q)) h9) | refine zw_nx rfl (fun _ _ => rfl) ?_
  exact fin M2 hG2
set_option maxHeartbeats 4000000 in
set_option maxRecDepth 20000 in
theorem lw6 (hE : E < 100000) (hG : GI E w h n t k nb b S I J A B P Q C) (hin : ∀ c, c < 6 → vp_in (nI i + Int32.ofNat c) len) (fin : ∀ M, GM (E + 1) w h M → zW 12 (some (len, g)) miL_law 1309 [some (.ref 1000), some (.ref 0), some (.ref 47), some (.int (nI i))] [] M Post) : zW 12 (some (len, g)) miL_law 432 [some (.ref 1000), some (.ref 0), some (.ref 47), some (.int (nI i))] [] (xm I J A B (mt P Q C)) Post := by
  repeat (refine zw_go rfl rfl (fun _ _ => rfl) ?_)
  refine zw_call rfl (fun _ _ => rfl) (sText (some (len, g)) hE hG) (by decide) ?_
  rintro M1 r1 ⟨v, rfl, hk, ⟨I1, J1, A1, B1, P1, Q1, C1, rfl⟩, h2⟩
  obtain ⟨q, rfl⟩ := vk_is hk (by decide)
  repeat (refine zw_go rfl rfl (fun _ _ => rfl) ?_)
  refine zw_call rfl (fun _ _ => rfl) (h2) (by decide) ?_
  rintro M2 r2 ⟨rfl, hG2⟩
  first | refine zw_br rfl (fun _ _ => rfl) (fun _ => ?_) (fun h9 => absurd ((rfl : q = q)) h9) | refine zw_nx rfl (fun _ _ => rfl) ?_
  exact fin M2 hG2
set_option maxHeartbeats 4000000 in
set_option maxRecDepth 20000 in
theorem lw7 (hE : E < 100000) (hG : GI E w h n t k nb b S I J A B P Q C) (hin : ∀ c, c < 6 → vp_in (nI i + Int32.ofNat c) len) (fin : ∀ M, GM (E + 1) w h M → zW 12 (some (len, g)) miL_law 1309 [some (.ref 1000), some (.ref 0), some (.ref 47), some (.int (nI i))] [] M Post) : zW 12 (some (len, g)) miL_law 445 [some (.ref 1000), some (.ref 0), some (.ref 47), some (.int (nI i))] [] (xm I J A B (mt P Q C)) Post := by
  repeat (refine zw_go rfl rfl (fun _ _ => rfl) ?_)
  refine zw_ix rfl (fun _ _ => rfl) (hin 1 (by decide)) ?_
  repeat (refine zw_go rfl rfl (fun _ _ => rfl) ?_)
  refine zw_call rfl (fun _ _ => rfl) (sFault (some (len, g)) hG _) (by decide) ?_
  rintro M1 r1 ⟨v, rfl, hk, ⟨I1, J1, A1, B1, P1, Q1, C1, rfl⟩, h2⟩
  obtain ⟨q, rfl⟩ := vk_is hk (by decide)
  repeat (refine zw_go rfl rfl (fun _ _ => rfl) ?_)
  refine zw_ix rfl (fun _ _ => rfl) (hin 1 (by decide)) ?_
  repeat (refine zw_go rfl rfl (fun _ _ => rfl) ?_)
  refine zw_call rfl (fun _ _ => rfl) (h2) (by decide) ?_
  rintro M2 r2 ⟨rfl, hG2⟩
  first | refine zw_br rfl (fun _ _ => rfl) (fun _ => ?_) (fun h9 => absurd ((rfl : q = q)) h9) | refine zw_nx rfl (fun _ _ => rfl) ?_
  exact fin M2 hG2
set_option maxHeartbeats 4000000 in
set_option maxRecDepth 20000 in
theorem lw8 (hE : E < 100000) (hG : GI E w h n t k nb b S I J A B P Q C) (hin : ∀ c, c < 6 → vp_in (nI i + Int32.ofNat c) len) (fin : ∀ M, GM (E + 1) w h M → zW 12 (some (len, g)) miL_law 1309 [some (.ref 1000), some (.ref 0), some (.ref 47), some (.int (nI i))] [] M Post) : zW 12 (some (len, g)) miL_law 468 [some (.ref 1000), some (.ref 0), some (.ref 47), some (.int (nI i))] [] (xm I J A B (mt P Q C)) Post := by
  repeat (refine zw_go rfl rfl (fun _ _ => rfl) ?_)
  refine zw_ix rfl (fun _ _ => rfl) (hin 1 (by decide)) ?_
  repeat (refine zw_go rfl rfl (fun _ _ => rfl) ?_)
  refine zw_call rfl (fun _ _ => rfl) (sLook (some (len, g)) hE hG _) (by decide) ?_
  rintro M1 r1 ⟨v, rfl, hk, ⟨I1, J1, A1, B1, P1, Q1, C1, rfl⟩, h2⟩
  obtain ⟨q, rfl⟩ := vk_is hk (by decide)
  repeat (refine zw_go rfl rfl (fun _ _ => rfl) ?_)
  refine zw_ix rfl (fun _ _ => rfl) (hin 1 (by decide)) ?_
  repeat (refine zw_go rfl rfl (fun _ _ => rfl) ?_)
  refine zw_call rfl (fun _ _ => rfl) (h2) (by decide) ?_
  rintro M2 r2 ⟨rfl, hG2⟩
  first | refine zw_br rfl (fun _ _ => rfl) (fun _ => ?_) (fun h9 => absurd ((rfl : q = q)) h9) | refine zw_nx rfl (fun _ _ => rfl) ?_
  exact fin M2 hG2
set_option maxHeartbeats 4000000 in
set_option maxRecDepth 20000 in
theorem lw9 (hE : E < 100000) (hG : GI E w h n t k nb b S I J A B P Q C) (hin : ∀ c, c < 6 → vp_in (nI i + Int32.ofNat c) len) (fin : ∀ M, GM (E + 1) w h M → zW 12 (some (len, g)) miL_law 1309 [some (.ref 1000), some (.ref 0), some (.ref 47), some (.int (nI i))] [] M Post) : zW 12 (some (len, g)) miL_law 491 [some (.ref 1000), some (.ref 0), some (.ref 47), some (.int (nI i))] [] (xm I J A B (mt P Q C)) Post := by
  repeat (refine zw_go rfl rfl (fun _ _ => rfl) ?_)
  refine zw_ix rfl (fun _ _ => rfl) (hin 1 (by decide)) ?_
  repeat (refine zw_go rfl rfl (fun _ _ => rfl) ?_)
  refine zw_call rfl (fun _ _ => rfl) (sShaft (some (len, g)) hG _) (by decide) ?_
  rintro M1 r1 ⟨v, rfl, hk, ⟨I1, J1, A1, B1, P1, Q1, C1, rfl⟩, h2⟩
  obtain ⟨q, rfl⟩ := vk_is hk (by decide)
  repeat (refine zw_go rfl rfl (fun _ _ => rfl) ?_)
  refine zw_ix rfl (fun _ _ => rfl) (hin 1 (by decide)) ?_
  repeat (refine zw_go rfl rfl (fun _ _ => rfl) ?_)
  refine zw_call rfl (fun _ _ => rfl) (h2) (by decide) ?_
  rintro M2 r2 ⟨rfl, hG2⟩
  first | refine zw_br rfl (fun _ _ => rfl) (fun _ => ?_) (fun h9 => absurd ((rfl : q = q)) h9) | refine zw_nx rfl (fun _ _ => rfl) ?_
  exact fin M2 hG2
set_option maxHeartbeats 4000000 in
set_option maxRecDepth 20000 in
theorem lw10 (hE : E < 100000) (hG : GI E w h n t k nb b S I J A B P Q C) (hin : ∀ c, c < 6 → vp_in (nI i + Int32.ofNat c) len) (fin : ∀ M, GM (E + 1) w h M → zW 12 (some (len, g)) miL_law 1309 [some (.ref 1000), some (.ref 0), some (.ref 47), some (.int (nI i))] [] M Post) : zW 12 (some (len, g)) miL_law 514 [some (.ref 1000), some (.ref 0), some (.ref 47), some (.int (nI i))] [] (xm I J A B (mt P Q C)) Post := by
  repeat (refine zw_go rfl rfl (fun _ _ => rfl) ?_)
  refine zw_ix rfl (fun _ _ => rfl) (hin 1 (by decide)) ?_
  repeat (refine zw_go rfl rfl (fun _ _ => rfl) ?_)
  refine zw_call rfl (fun _ _ => rfl) (sLift (some (len, g)) hG _) (by decide) ?_
  rintro M1 r1 ⟨v, rfl, hk, ⟨I1, J1, A1, B1, P1, Q1, C1, rfl⟩, h2⟩
  obtain ⟨q, rfl⟩ := vk_is hk (by decide)
  repeat (refine zw_go rfl rfl (fun _ _ => rfl) ?_)
  refine zw_ix rfl (fun _ _ => rfl) (hin 1 (by decide)) ?_
  repeat (refine zw_go rfl rfl (fun _ _ => rfl) ?_)
  refine zw_call rfl (fun _ _ => rfl) (h2) (by decide) ?_
  rintro M2 r2 ⟨rfl, hG2⟩
  first | refine zw_br rfl (fun _ _ => rfl) (fun _ => ?_) (fun h9 => absurd ((rfl : q = q)) h9) | refine zw_nx rfl (fun _ _ => rfl) ?_
  exact fin M2 hG2
set_option maxHeartbeats 4000000 in
set_option maxRecDepth 20000 in
theorem lw11 (hE : E < 100000) (hG : GI E w h n t k nb b S I J A B P Q C) (hin : ∀ c, c < 6 → vp_in (nI i + Int32.ofNat c) len) (fin : ∀ M, GM (E + 1) w h M → zW 12 (some (len, g)) miL_law 1309 [some (.ref 1000), some (.ref 0), some (.ref 47), some (.int (nI i))] [] M Post) : zW 12 (some (len, g)) miL_law 537 [some (.ref 1000), some (.ref 0), some (.ref 47), some (.int (nI i))] [] (xm I J A B (mt P Q C)) Post := by
  repeat (refine zw_go rfl rfl (fun _ _ => rfl) ?_)
  refine zw_ix rfl (fun _ _ => rfl) (hin 1 (by decide)) ?_
  repeat (refine zw_go rfl rfl (fun _ _ => rfl) ?_)
  refine zw_call rfl (fun _ _ => rfl) (sRow (some (len, g)) hG _) (by decide) ?_
  rintro M1 r1 ⟨v, rfl, hk, ⟨I1, J1, A1, B1, P1, Q1, C1, rfl⟩, h2⟩
  obtain ⟨q, rfl⟩ := vk_il hk
  repeat (refine zw_go rfl rfl (fun _ _ => rfl) ?_)
  refine zw_ix rfl (fun _ _ => rfl) (hin 1 (by decide)) ?_
  repeat (refine zw_go rfl rfl (fun _ _ => rfl) ?_)
  refine zw_call rfl (fun _ _ => rfl) (h2) (by decide) ?_
  rintro M2 r2 ⟨rfl, hG2⟩
  refine zw_nx rfl (fun _ _ => rfl) ?_
  first | refine zw_br rfl (fun _ _ => rfl) (fun _ => ?_) (fun h9 => absurd (lg_cmp_0.mpr (rfl : q = q)) h9) | refine zw_nx rfl (fun _ _ => rfl) ?_
  exact fin M2 hG2
set_option maxHeartbeats 4000000 in
set_option maxRecDepth 20000 in
theorem lw12 (hE : E < 100000) (hG : GI E w h n t k nb b S I J A B P Q C) (hin : ∀ c, c < 6 → vp_in (nI i + Int32.ofNat c) len) (fin : ∀ M, GM (E + 1) w h M → zW 12 (some (len, g)) miL_law 1309 [some (.ref 1000), some (.ref 0), some (.ref 47), some (.int (nI i))] [] M Post) : zW 12 (some (len, g)) miL_law 561 [some (.ref 1000), some (.ref 0), some (.ref 47), some (.int (nI i))] [] (xm I J A B (mt P Q C)) Post := by
  repeat (refine zw_go rfl rfl (fun _ _ => rfl) ?_)
  refine zw_ix rfl (fun _ _ => rfl) (hin 1 (by decide)) ?_
  repeat (refine zw_go rfl rfl (fun _ _ => rfl) ?_)
  refine zw_ix rfl (fun _ _ => rfl) (hin 2 (by decide)) ?_
  repeat (refine zw_go rfl rfl (fun _ _ => rfl) ?_)
  refine zw_ix rfl (fun _ _ => rfl) (hin 3 (by decide)) ?_
  repeat (refine zw_go rfl rfl (fun _ _ => rfl) ?_)
  refine zw_call rfl (fun _ _ => rfl) (sLead (some (len, g)) hG _ _ _) (by decide) ?_
  rintro M1 r1 ⟨v, rfl, hk, ⟨I1, J1, A1, B1, P1, Q1, C1, rfl⟩, h2⟩
  obtain ⟨q, rfl⟩ := vk_is hk (by decide)
  repeat (refine zw_go rfl rfl (fun _ _ => rfl) ?_)
  refine zw_ix rfl (fun _ _ => rfl) (hin 1 (by decide)) ?_
  repeat (refine zw_go rfl rfl (fun _ _ => rfl) ?_)
  refine zw_ix rfl (fun _ _ => rfl) (hin 2 (by decide)) ?_
  repeat (refine zw_go rfl rfl (fun _ _ => rfl) ?_)
  refine zw_ix rfl (fun _ _ => rfl) (hin 3 (by decide)) ?_
  repeat (refine zw_go rfl rfl (fun _ _ => rfl) ?_)
  refine zw_call rfl (fun _ _ => rfl) (h2) (by decide) ?_
  rintro M2 r2 ⟨rfl, hG2⟩
  first | refine zw_br rfl (fun _ _ => rfl) (fun _ => ?_) (fun h9 => absurd ((rfl : q = q)) h9) | refine zw_nx rfl (fun _ _ => rfl) ?_
  exact fin M2 hG2
set_option maxHeartbeats 4000000 in
set_option maxRecDepth 20000 in
theorem lw13 (hE : E < 100000) (hG : GI E w h n t k nb b S I J A B P Q C) (hin : ∀ c, c < 6 → vp_in (nI i + Int32.ofNat c) len) (fin : ∀ M, GM (E + 1) w h M → zW 12 (some (len, g)) miL_law 1309 [some (.ref 1000), some (.ref 0), some (.ref 47), some (.int (nI i))] [] M Post) : zW 12 (some (len, g)) miL_law 604 [some (.ref 1000), some (.ref 0), some (.ref 47), some (.int (nI i))] [] (xm I J A B (mt P Q C)) Post := by
  by_cases b1 : (g (nI i + Int32.ofNat 1).toNatClampNeg) = 0
  · by_cases b2 : (g (nI i + Int32.ofNat 2).toNatClampNeg) = 0
    · repeat (refine zw_go rfl rfl (fun _ _ => rfl) ?_)
      refine zw_ix rfl (fun _ _ => rfl) (hin 1 (by decide)) ?_
      first | refine zw_br rfl (fun _ _ => rfl) (fun _ => ?_) (fun h9 => absurd (b1) h9) | refine zw_nx rfl (fun _ _ => rfl) ?_
      repeat (refine zw_go rfl rfl (fun _ _ => rfl) ?_)
      refine zw_ix rfl (fun _ _ => rfl) (hin 2 (by decide)) ?_
      first | refine zw_br rfl (fun _ _ => rfl) (fun _ => ?_) (fun h9 => absurd (b2) h9) | refine zw_nx rfl (fun _ _ => rfl) ?_
      repeat (refine zw_go rfl rfl (fun _ _ => rfl) ?_)
      refine zw_call rfl (fun _ _ => rfl) (sLongest (some (len, g)) hG false false) (by decide) ?_
      rintro M1 r1 ⟨v, rfl, hk, ⟨I1, J1, A1, B1, P1, Q1, C1, rfl⟩, h2⟩
      obtain ⟨q, rfl⟩ := vk_is hk (by decide)
      repeat (refine zw_go rfl rfl (fun _ _ => rfl) ?_)
      refine zw_ix rfl (fun _ _ => rfl) (hin 1 (by decide)) ?_
      first | refine zw_br rfl (fun _ _ => rfl) (fun _ => ?_) (fun h9 => absurd (b1) h9) | refine zw_nx rfl (fun _ _ => rfl) ?_
      repeat (refine zw_go rfl rfl (fun _ _ => rfl) ?_)
      refine zw_ix rfl (fun _ _ => rfl) (hin 2 (by decide)) ?_
      first | refine zw_br rfl (fun _ _ => rfl) (fun _ => ?_) (fun h9 => absurd (b2) h9) | refine zw_nx rfl (fun _ _ => rfl) ?_
      repeat (refine zw_go rfl rfl (fun _ _ => rfl) ?_)
      refine zw_call rfl (fun _ _ => rfl) (h2) (by decide) ?_
      rintro M2 r2 ⟨rfl, hG2⟩
      first | refine zw_br rfl (fun _ _ => rfl) (fun _ => ?_) (fun h9 => absurd ((rfl : q = q)) h9) | refine zw_nx rfl (fun _ _ => rfl) ?_
      exact fin M2 hG2
    · repeat (refine zw_go rfl rfl (fun _ _ => rfl) ?_)
      refine zw_ix rfl (fun _ _ => rfl) (hin 1 (by decide)) ?_
      first | refine zw_br rfl (fun _ _ => rfl) (fun _ => ?_) (fun h9 => absurd (b1) h9) | refine zw_nx rfl (fun _ _ => rfl) ?_
      repeat (refine zw_go rfl rfl (fun _ _ => rfl) ?_)
      refine zw_ix rfl (fun _ _ => rfl) (hin 2 (by decide)) ?_
      first | refine zw_br rfl (fun _ _ => rfl) (fun h9 => absurd h9 (b2)) (fun _ => ?_) | refine zw_nx rfl (fun _ _ => rfl) ?_
      repeat (refine zw_go rfl rfl (fun _ _ => rfl) ?_)
      refine zw_call rfl (fun _ _ => rfl) (sLongest (some (len, g)) hG false true) (by decide) ?_
      rintro M1 r1 ⟨v, rfl, hk, ⟨I1, J1, A1, B1, P1, Q1, C1, rfl⟩, h2⟩
      obtain ⟨q, rfl⟩ := vk_is hk (by decide)
      repeat (refine zw_go rfl rfl (fun _ _ => rfl) ?_)
      refine zw_ix rfl (fun _ _ => rfl) (hin 1 (by decide)) ?_
      first | refine zw_br rfl (fun _ _ => rfl) (fun _ => ?_) (fun h9 => absurd (b1) h9) | refine zw_nx rfl (fun _ _ => rfl) ?_
      repeat (refine zw_go rfl rfl (fun _ _ => rfl) ?_)
      refine zw_ix rfl (fun _ _ => rfl) (hin 2 (by decide)) ?_
      first | refine zw_br rfl (fun _ _ => rfl) (fun h9 => absurd h9 (b2)) (fun _ => ?_) | refine zw_nx rfl (fun _ _ => rfl) ?_
      repeat (refine zw_go rfl rfl (fun _ _ => rfl) ?_)
      refine zw_call rfl (fun _ _ => rfl) (h2) (by decide) ?_
      rintro M2 r2 ⟨rfl, hG2⟩
      first | refine zw_br rfl (fun _ _ => rfl) (fun _ => ?_) (fun h9 => absurd ((rfl : q = q)) h9) | refine zw_nx rfl (fun _ _ => rfl) ?_
      exact fin M2 hG2
  · by_cases b2 : (g (nI i + Int32.ofNat 2).toNatClampNeg) = 0
    · repeat (refine zw_go rfl rfl (fun _ _ => rfl) ?_)
      refine zw_ix rfl (fun _ _ => rfl) (hin 1 (by decide)) ?_
      first | refine zw_br rfl (fun _ _ => rfl) (fun h9 => absurd h9 (b1)) (fun _ => ?_) | refine zw_nx rfl (fun _ _ => rfl) ?_
      repeat (refine zw_go rfl rfl (fun _ _ => rfl) ?_)
      refine zw_ix rfl (fun _ _ => rfl) (hin 2 (by decide)) ?_
      first | refine zw_br rfl (fun _ _ => rfl) (fun _ => ?_) (fun h9 => absurd (b2) h9) | refine zw_nx rfl (fun _ _ => rfl) ?_
      repeat (refine zw_go rfl rfl (fun _ _ => rfl) ?_)
      refine zw_call rfl (fun _ _ => rfl) (sLongest (some (len, g)) hG true false) (by decide) ?_
      rintro M1 r1 ⟨v, rfl, hk, ⟨I1, J1, A1, B1, P1, Q1, C1, rfl⟩, h2⟩
      obtain ⟨q, rfl⟩ := vk_is hk (by decide)
      repeat (refine zw_go rfl rfl (fun _ _ => rfl) ?_)
      refine zw_ix rfl (fun _ _ => rfl) (hin 1 (by decide)) ?_
      first | refine zw_br rfl (fun _ _ => rfl) (fun h9 => absurd h9 (b1)) (fun _ => ?_) | refine zw_nx rfl (fun _ _ => rfl) ?_
      repeat (refine zw_go rfl rfl (fun _ _ => rfl) ?_)
      refine zw_ix rfl (fun _ _ => rfl) (hin 2 (by decide)) ?_
      first | refine zw_br rfl (fun _ _ => rfl) (fun _ => ?_) (fun h9 => absurd (b2) h9) | refine zw_nx rfl (fun _ _ => rfl) ?_
      repeat (refine zw_go rfl rfl (fun _ _ => rfl) ?_)
      refine zw_call rfl (fun _ _ => rfl) (h2) (by decide) ?_
      rintro M2 r2 ⟨rfl, hG2⟩
      first | refine zw_br rfl (fun _ _ => rfl) (fun _ => ?_) (fun h9 => absurd ((rfl : q = q)) h9) | refine zw_nx rfl (fun _ _ => rfl) ?_
      exact fin M2 hG2
    · repeat (refine zw_go rfl rfl (fun _ _ => rfl) ?_)
      refine zw_ix rfl (fun _ _ => rfl) (hin 1 (by decide)) ?_
      first | refine zw_br rfl (fun _ _ => rfl) (fun h9 => absurd h9 (b1)) (fun _ => ?_) | refine zw_nx rfl (fun _ _ => rfl) ?_
      repeat (refine zw_go rfl rfl (fun _ _ => rfl) ?_)
      refine zw_ix rfl (fun _ _ => rfl) (hin 2 (by decide)) ?_
      first | refine zw_br rfl (fun _ _ => rfl) (fun h9 => absurd h9 (b2)) (fun _ => ?_) | refine zw_nx rfl (fun _ _ => rfl) ?_
      repeat (refine zw_go rfl rfl (fun _ _ => rfl) ?_)
      refine zw_call rfl (fun _ _ => rfl) (sLongest (some (len, g)) hG true true) (by decide) ?_
      rintro M1 r1 ⟨v, rfl, hk, ⟨I1, J1, A1, B1, P1, Q1, C1, rfl⟩, h2⟩
      obtain ⟨q, rfl⟩ := vk_is hk (by decide)
      repeat (refine zw_go rfl rfl (fun _ _ => rfl) ?_)
      refine zw_ix rfl (fun _ _ => rfl) (hin 1 (by decide)) ?_
      first | refine zw_br rfl (fun _ _ => rfl) (fun h9 => absurd h9 (b1)) (fun _ => ?_) | refine zw_nx rfl (fun _ _ => rfl) ?_
      repeat (refine zw_go rfl rfl (fun _ _ => rfl) ?_)
      refine zw_ix rfl (fun _ _ => rfl) (hin 2 (by decide)) ?_
      first | refine zw_br rfl (fun _ _ => rfl) (fun h9 => absurd h9 (b2)) (fun _ => ?_) | refine zw_nx rfl (fun _ _ => rfl) ?_
      repeat (refine zw_go rfl rfl (fun _ _ => rfl) ?_)
      refine zw_call rfl (fun _ _ => rfl) (h2) (by decide) ?_
      rintro M2 r2 ⟨rfl, hG2⟩
      first | refine zw_br rfl (fun _ _ => rfl) (fun _ => ?_) (fun h9 => absurd ((rfl : q = q)) h9) | refine zw_nx rfl (fun _ _ => rfl) ?_
      exact fin M2 hG2
set_option maxHeartbeats 4000000 in
set_option maxRecDepth 20000 in
theorem lw14 (hE : E < 100000) (hG : GI E w h n t k nb b S I J A B P Q C) (hin : ∀ c, c < 6 → vp_in (nI i + Int32.ofNat c) len) (fin : ∀ M, GM (E + 1) w h M → zW 12 (some (len, g)) miL_law 1309 [some (.ref 1000), some (.ref 0), some (.ref 47), some (.int (nI i))] [] M Post) : zW 12 (some (len, g)) miL_law 669 [some (.ref 1000), some (.ref 0), some (.ref 47), some (.int (nI i))] [] (xm I J A B (mt P Q C)) Post := by
  by_cases b1 : (g (nI i + Int32.ofNat 1).toNatClampNeg) = 0
  · by_cases b2 : (g (nI i + Int32.ofNat 2).toNatClampNeg) = 0
    · repeat (refine zw_go rfl rfl (fun _ _ => rfl) ?_)
      refine zw_ix rfl (fun _ _ => rfl) (hin 1 (by decide)) ?_
      first | refine zw_br rfl (fun _ _ => rfl) (fun _ => ?_) (fun h9 => absurd (b1) h9) | refine zw_nx rfl (fun _ _ => rfl) ?_
      repeat (refine zw_go rfl rfl (fun _ _ => rfl) ?_)
      refine zw_ix rfl (fun _ _ => rfl) (hin 2 (by decide)) ?_
      first | refine zw_br rfl (fun _ _ => rfl) (fun _ => ?_) (fun h9 => absurd (b2) h9) | refine zw_nx rfl (fun _ _ => rfl) ?_
      repeat (refine zw_go rfl rfl (fun _ _ => rfl) ?_)
      refine zw_ix rfl (fun _ _ => rfl) (hin 3 (by decide)) ?_
      repeat (refine zw_go rfl rfl (fun _ _ => rfl) ?_)
      refine zw_call rfl (fun _ _ => rfl) (sFloats (some (len, g)) hG false false _) (by decide) ?_
      rintro M1 r1 ⟨v, rfl, hk, ⟨I1, J1, A1, B1, P1, Q1, C1, rfl⟩, h2⟩
      obtain ⟨q, rfl⟩ := vk_is hk (by decide)
      repeat (refine zw_go rfl rfl (fun _ _ => rfl) ?_)
      refine zw_ix rfl (fun _ _ => rfl) (hin 1 (by decide)) ?_
      first | refine zw_br rfl (fun _ _ => rfl) (fun _ => ?_) (fun h9 => absurd (b1) h9) | refine zw_nx rfl (fun _ _ => rfl) ?_
      repeat (refine zw_go rfl rfl (fun _ _ => rfl) ?_)
      refine zw_ix rfl (fun _ _ => rfl) (hin 2 (by decide)) ?_
      first | refine zw_br rfl (fun _ _ => rfl) (fun _ => ?_) (fun h9 => absurd (b2) h9) | refine zw_nx rfl (fun _ _ => rfl) ?_
      repeat (refine zw_go rfl rfl (fun _ _ => rfl) ?_)
      refine zw_ix rfl (fun _ _ => rfl) (hin 3 (by decide)) ?_
      repeat (refine zw_go rfl rfl (fun _ _ => rfl) ?_)
      refine zw_call rfl (fun _ _ => rfl) (h2) (by decide) ?_
      rintro M2 r2 ⟨rfl, hG2⟩
      first | refine zw_br rfl (fun _ _ => rfl) (fun _ => ?_) (fun h9 => absurd ((rfl : q = q)) h9) | refine zw_nx rfl (fun _ _ => rfl) ?_
      exact fin M2 hG2
    · repeat (refine zw_go rfl rfl (fun _ _ => rfl) ?_)
      refine zw_ix rfl (fun _ _ => rfl) (hin 1 (by decide)) ?_
      first | refine zw_br rfl (fun _ _ => rfl) (fun _ => ?_) (fun h9 => absurd (b1) h9) | refine zw_nx rfl (fun _ _ => rfl) ?_
      repeat (refine zw_go rfl rfl (fun _ _ => rfl) ?_)
      refine zw_ix rfl (fun _ _ => rfl) (hin 2 (by decide)) ?_
      first | refine zw_br rfl (fun _ _ => rfl) (fun h9 => absurd h9 (b2)) (fun _ => ?_) | refine zw_nx rfl (fun _ _ => rfl) ?_
      repeat (refine zw_go rfl rfl (fun _ _ => rfl) ?_)
      refine zw_ix rfl (fun _ _ => rfl) (hin 3 (by decide)) ?_
      repeat (refine zw_go rfl rfl (fun _ _ => rfl) ?_)
      refine zw_call rfl (fun _ _ => rfl) (sFloats (some (len, g)) hG false true _) (by decide) ?_
      rintro M1 r1 ⟨v, rfl, hk, ⟨I1, J1, A1, B1, P1, Q1, C1, rfl⟩, h2⟩
      obtain ⟨q, rfl⟩ := vk_is hk (by decide)
      repeat (refine zw_go rfl rfl (fun _ _ => rfl) ?_)
      refine zw_ix rfl (fun _ _ => rfl) (hin 1 (by decide)) ?_
      first | refine zw_br rfl (fun _ _ => rfl) (fun _ => ?_) (fun h9 => absurd (b1) h9) | refine zw_nx rfl (fun _ _ => rfl) ?_
      repeat (refine zw_go rfl rfl (fun _ _ => rfl) ?_)
      refine zw_ix rfl (fun _ _ => rfl) (hin 2 (by decide)) ?_
      first | refine zw_br rfl (fun _ _ => rfl) (fun h9 => absurd h9 (b2)) (fun _ => ?_) | refine zw_nx rfl (fun _ _ => rfl) ?_
      repeat (refine zw_go rfl rfl (fun _ _ => rfl) ?_)
      refine zw_ix rfl (fun _ _ => rfl) (hin 3 (by decide)) ?_
      repeat (refine zw_go rfl rfl (fun _ _ => rfl) ?_)
      refine zw_call rfl (fun _ _ => rfl) (h2) (by decide) ?_
      rintro M2 r2 ⟨rfl, hG2⟩
      first | refine zw_br rfl (fun _ _ => rfl) (fun _ => ?_) (fun h9 => absurd ((rfl : q = q)) h9) | refine zw_nx rfl (fun _ _ => rfl) ?_
      exact fin M2 hG2
  · by_cases b2 : (g (nI i + Int32.ofNat 2).toNatClampNeg) = 0
    · repeat (refine zw_go rfl rfl (fun _ _ => rfl) ?_)
      refine zw_ix rfl (fun _ _ => rfl) (hin 1 (by decide)) ?_
      first | refine zw_br rfl (fun _ _ => rfl) (fun h9 => absurd h9 (b1)) (fun _ => ?_) | refine zw_nx rfl (fun _ _ => rfl) ?_
      repeat (refine zw_go rfl rfl (fun _ _ => rfl) ?_)
      refine zw_ix rfl (fun _ _ => rfl) (hin 2 (by decide)) ?_
      first | refine zw_br rfl (fun _ _ => rfl) (fun _ => ?_) (fun h9 => absurd (b2) h9) | refine zw_nx rfl (fun _ _ => rfl) ?_
      repeat (refine zw_go rfl rfl (fun _ _ => rfl) ?_)
      refine zw_ix rfl (fun _ _ => rfl) (hin 3 (by decide)) ?_
      repeat (refine zw_go rfl rfl (fun _ _ => rfl) ?_)
      refine zw_call rfl (fun _ _ => rfl) (sFloats (some (len, g)) hG true false _) (by decide) ?_
      rintro M1 r1 ⟨v, rfl, hk, ⟨I1, J1, A1, B1, P1, Q1, C1, rfl⟩, h2⟩
      obtain ⟨q, rfl⟩ := vk_is hk (by decide)
      repeat (refine zw_go rfl rfl (fun _ _ => rfl) ?_)
      refine zw_ix rfl (fun _ _ => rfl) (hin 1 (by decide)) ?_
      first | refine zw_br rfl (fun _ _ => rfl) (fun h9 => absurd h9 (b1)) (fun _ => ?_) | refine zw_nx rfl (fun _ _ => rfl) ?_
      repeat (refine zw_go rfl rfl (fun _ _ => rfl) ?_)
      refine zw_ix rfl (fun _ _ => rfl) (hin 2 (by decide)) ?_
      first | refine zw_br rfl (fun _ _ => rfl) (fun _ => ?_) (fun h9 => absurd (b2) h9) | refine zw_nx rfl (fun _ _ => rfl) ?_
      repeat (refine zw_go rfl rfl (fun _ _ => rfl) ?_)
      refine zw_ix rfl (fun _ _ => rfl) (hin 3 (by decide)) ?_
      repeat (refine zw_go rfl rfl (fun _ _ => rfl) ?_)
      refine zw_call rfl (fun _ _ => rfl) (h2) (by decide) ?_
      rintro M2 r2 ⟨rfl, hG2⟩
      first | refine zw_br rfl (fun _ _ => rfl) (fun _ => ?_) (fun h9 => absurd ((rfl : q = q)) h9) | refine zw_nx rfl (fun _ _ => rfl) ?_
      exact fin M2 hG2
    · repeat (refine zw_go rfl rfl (fun _ _ => rfl) ?_)
      refine zw_ix rfl (fun _ _ => rfl) (hin 1 (by decide)) ?_
      first | refine zw_br rfl (fun _ _ => rfl) (fun h9 => absurd h9 (b1)) (fun _ => ?_) | refine zw_nx rfl (fun _ _ => rfl) ?_
      repeat (refine zw_go rfl rfl (fun _ _ => rfl) ?_)
      refine zw_ix rfl (fun _ _ => rfl) (hin 2 (by decide)) ?_
      first | refine zw_br rfl (fun _ _ => rfl) (fun h9 => absurd h9 (b2)) (fun _ => ?_) | refine zw_nx rfl (fun _ _ => rfl) ?_
      repeat (refine zw_go rfl rfl (fun _ _ => rfl) ?_)
      refine zw_ix rfl (fun _ _ => rfl) (hin 3 (by decide)) ?_
      repeat (refine zw_go rfl rfl (fun _ _ => rfl) ?_)
      refine zw_call rfl (fun _ _ => rfl) (sFloats (some (len, g)) hG true true _) (by decide) ?_
      rintro M1 r1 ⟨v, rfl, hk, ⟨I1, J1, A1, B1, P1, Q1, C1, rfl⟩, h2⟩
      obtain ⟨q, rfl⟩ := vk_is hk (by decide)
      repeat (refine zw_go rfl rfl (fun _ _ => rfl) ?_)
      refine zw_ix rfl (fun _ _ => rfl) (hin 1 (by decide)) ?_
      first | refine zw_br rfl (fun _ _ => rfl) (fun h9 => absurd h9 (b1)) (fun _ => ?_) | refine zw_nx rfl (fun _ _ => rfl) ?_
      repeat (refine zw_go rfl rfl (fun _ _ => rfl) ?_)
      refine zw_ix rfl (fun _ _ => rfl) (hin 2 (by decide)) ?_
      first | refine zw_br rfl (fun _ _ => rfl) (fun h9 => absurd h9 (b2)) (fun _ => ?_) | refine zw_nx rfl (fun _ _ => rfl) ?_
      repeat (refine zw_go rfl rfl (fun _ _ => rfl) ?_)
      refine zw_ix rfl (fun _ _ => rfl) (hin 3 (by decide)) ?_
      repeat (refine zw_go rfl rfl (fun _ _ => rfl) ?_)
      refine zw_call rfl (fun _ _ => rfl) (h2) (by decide) ?_
      rintro M2 r2 ⟨rfl, hG2⟩
      first | refine zw_br rfl (fun _ _ => rfl) (fun _ => ?_) (fun h9 => absurd ((rfl : q = q)) h9) | refine zw_nx rfl (fun _ _ => rfl) ?_
      exact fin M2 hG2
set_option maxHeartbeats 4000000 in
set_option maxRecDepth 20000 in
theorem lw15 (hE : E < 100000) (hG : GI E w h n t k nb b S I J A B P Q C) (hin : ∀ c, c < 6 → vp_in (nI i + Int32.ofNat c) len) (fin : ∀ M, GM (E + 1) w h M → zW 12 (some (len, g)) miL_law 1309 [some (.ref 1000), some (.ref 0), some (.ref 47), some (.int (nI i))] [] M Post) : zW 12 (some (len, g)) miL_law 744 [some (.ref 1000), some (.ref 0), some (.ref 47), some (.int (nI i))] [] (xm I J A B (mt P Q C)) Post := by
  repeat (refine zw_go rfl rfl (fun _ _ => rfl) ?_)
  refine zw_ix rfl (fun _ _ => rfl) (hin 1 (by decide)) ?_
  repeat (refine zw_go rfl rfl (fun _ _ => rfl) ?_)
  refine zw_ix rfl (fun _ _ => rfl) (hin 2 (by decide)) ?_
  repeat (refine zw_go rfl rfl (fun _ _ => rfl) ?_)
  refine zw_ix rfl (fun _ _ => rfl) (hin 3 (by decide)) ?_
  repeat (refine zw_go rfl rfl (fun _ _ => rfl) ?_)
  refine zw_ix rfl (fun _ _ => rfl) (hin 4 (by decide)) ?_
  repeat (refine zw_go rfl rfl (fun _ _ => rfl) ?_)
  refine zw_call rfl (fun _ _ => rfl) (sLayers (some (len, g)) hG _ _ _ _) (by decide) ?_
  rintro M1 r1 ⟨v, rfl, hk, ⟨I1, J1, A1, B1, P1, Q1, C1, rfl⟩, h2⟩
  obtain ⟨q, rfl⟩ := vk_is hk (by decide)
  repeat (refine zw_go rfl rfl (fun _ _ => rfl) ?_)
  refine zw_ix rfl (fun _ _ => rfl) (hin 1 (by decide)) ?_
  repeat (refine zw_go rfl rfl (fun _ _ => rfl) ?_)
  refine zw_ix rfl (fun _ _ => rfl) (hin 2 (by decide)) ?_
  repeat (refine zw_go rfl rfl (fun _ _ => rfl) ?_)
  refine zw_ix rfl (fun _ _ => rfl) (hin 3 (by decide)) ?_
  repeat (refine zw_go rfl rfl (fun _ _ => rfl) ?_)
  refine zw_ix rfl (fun _ _ => rfl) (hin 4 (by decide)) ?_
  repeat (refine zw_go rfl rfl (fun _ _ => rfl) ?_)
  refine zw_call rfl (fun _ _ => rfl) (h2) (by decide) ?_
  rintro M2 r2 ⟨rfl, hG2⟩
  first | refine zw_br rfl (fun _ _ => rfl) (fun _ => ?_) (fun h9 => absurd ((rfl : q = q)) h9) | refine zw_nx rfl (fun _ _ => rfl) ?_
  exact fin M2 hG2
set_option maxHeartbeats 4000000 in
set_option maxRecDepth 20000 in
theorem lw16 (hE : E < 100000) (hG : GI E w h n t k nb b S I J A B P Q C) (hin : ∀ c, c < 6 → vp_in (nI i + Int32.ofNat c) len) (fin : ∀ M, GM (E + 1) w h M → zW 12 (some (len, g)) miL_law 1309 [some (.ref 1000), some (.ref 0), some (.ref 47), some (.int (nI i))] [] M Post) : zW 12 (some (len, g)) miL_law 797 [some (.ref 1000), some (.ref 0), some (.ref 47), some (.int (nI i))] [] (xm I J A B (mt P Q C)) Post := by
  repeat (refine zw_go rfl rfl (fun _ _ => rfl) ?_)
  refine zw_ix rfl (fun _ _ => rfl) (hin 1 (by decide)) ?_
  repeat (refine zw_go rfl rfl (fun _ _ => rfl) ?_)
  refine zw_ix rfl (fun _ _ => rfl) (hin 2 (by decide)) ?_
  repeat (refine zw_go rfl rfl (fun _ _ => rfl) ?_)
  refine zw_ix rfl (fun _ _ => rfl) (hin 3 (by decide)) ?_
  repeat (refine zw_go rfl rfl (fun _ _ => rfl) ?_)
  refine zw_ix rfl (fun _ _ => rfl) (hin 4 (by decide)) ?_
  repeat (refine zw_go rfl rfl (fun _ _ => rfl) ?_)
  refine zw_ix rfl (fun _ _ => rfl) (hin 5 (by decide)) ?_
  repeat (refine zw_go rfl rfl (fun _ _ => rfl) ?_)
  refine zw_call rfl (fun _ _ => rfl) (sLayer (some (len, g)) hG _ _ _ _ _) (by decide) ?_
  rintro M1 r1 ⟨v, rfl, hk, ⟨I1, J1, A1, B1, P1, Q1, C1, rfl⟩, h2⟩
  obtain ⟨q, rfl⟩ := vk_is hk (by decide)
  repeat (refine zw_go rfl rfl (fun _ _ => rfl) ?_)
  refine zw_ix rfl (fun _ _ => rfl) (hin 1 (by decide)) ?_
  repeat (refine zw_go rfl rfl (fun _ _ => rfl) ?_)
  refine zw_ix rfl (fun _ _ => rfl) (hin 2 (by decide)) ?_
  repeat (refine zw_go rfl rfl (fun _ _ => rfl) ?_)
  refine zw_ix rfl (fun _ _ => rfl) (hin 3 (by decide)) ?_
  repeat (refine zw_go rfl rfl (fun _ _ => rfl) ?_)
  refine zw_ix rfl (fun _ _ => rfl) (hin 4 (by decide)) ?_
  repeat (refine zw_go rfl rfl (fun _ _ => rfl) ?_)
  refine zw_ix rfl (fun _ _ => rfl) (hin 5 (by decide)) ?_
  repeat (refine zw_go rfl rfl (fun _ _ => rfl) ?_)
  refine zw_call rfl (fun _ _ => rfl) (h2) (by decide) ?_
  rintro M2 r2 ⟨rfl, hG2⟩
  first | refine zw_br rfl (fun _ _ => rfl) (fun _ => ?_) (fun h9 => absurd ((rfl : q = q)) h9) | refine zw_nx rfl (fun _ _ => rfl) ?_
  exact fin M2 hG2
set_option maxHeartbeats 4000000 in
set_option maxRecDepth 20000 in
theorem lw17 (hE : E < 100000) (hG : GI E w h n t k nb b S I J A B P Q C) (hin : ∀ c, c < 6 → vp_in (nI i + Int32.ofNat c) len) (fin : ∀ M, GM (E + 1) w h M → zW 12 (some (len, g)) miL_law 1309 [some (.ref 1000), some (.ref 0), some (.ref 47), some (.int (nI i))] [] M Post) : zW 12 (some (len, g)) miL_law 860 [some (.ref 1000), some (.ref 0), some (.ref 47), some (.int (nI i))] [] (xm I J A B (mt P Q C)) Post := by
  repeat (refine zw_go rfl rfl (fun _ _ => rfl) ?_)
  refine zw_ix rfl (fun _ _ => rfl) (hin 1 (by decide)) ?_
  repeat (refine zw_go rfl rfl (fun _ _ => rfl) ?_)
  refine zw_ix rfl (fun _ _ => rfl) (hin 2 (by decide)) ?_
  repeat (refine zw_go rfl rfl (fun _ _ => rfl) ?_)
  refine zw_call rfl (fun _ _ => rfl) (sSeenColour (some (len, g)) hG _ _) (by decide) ?_
  rintro M1 r1 ⟨v, rfl, hk, ⟨I1, J1, A1, B1, P1, Q1, C1, rfl⟩, h2⟩
  obtain ⟨q, rfl⟩ := vk_is hk (by decide)
  repeat (refine zw_go rfl rfl (fun _ _ => rfl) ?_)
  refine zw_ix rfl (fun _ _ => rfl) (hin 1 (by decide)) ?_
  repeat (refine zw_go rfl rfl (fun _ _ => rfl) ?_)
  refine zw_ix rfl (fun _ _ => rfl) (hin 2 (by decide)) ?_
  repeat (refine zw_go rfl rfl (fun _ _ => rfl) ?_)
  refine zw_call rfl (fun _ _ => rfl) (h2) (by decide) ?_
  rintro M2 r2 ⟨rfl, hG2⟩
  first | refine zw_br rfl (fun _ _ => rfl) (fun _ => ?_) (fun h9 => absurd ((rfl : q = q)) h9) | refine zw_nx rfl (fun _ _ => rfl) ?_
  exact fin M2 hG2
set_option maxHeartbeats 4000000 in
set_option maxRecDepth 20000 in
theorem lw18 (hE : E < 100000) (hG : GI E w h n t k nb b S I J A B P Q C) (hin : ∀ c, c < 6 → vp_in (nI i + Int32.ofNat c) len) (fin : ∀ M, GM (E + 1) w h M → zW 12 (some (len, g)) miL_law 1309 [some (.ref 1000), some (.ref 0), some (.ref 47), some (.int (nI i))] [] M Post) : zW 12 (some (len, g)) miL_law 893 [some (.ref 1000), some (.ref 0), some (.ref 47), some (.int (nI i))] [] (xm I J A B (mt P Q C)) Post := by
  repeat (refine zw_go rfl rfl (fun _ _ => rfl) ?_)
  refine zw_ix rfl (fun _ _ => rfl) (hin 1 (by decide)) ?_
  repeat (refine zw_go rfl rfl (fun _ _ => rfl) ?_)
  refine zw_call rfl (fun _ _ => rfl) (sColoured (some (len, g)) hG _) (by decide) ?_
  rintro M1 r1 ⟨v, rfl, hk, ⟨I1, J1, A1, B1, P1, Q1, C1, rfl⟩, h2⟩
  obtain ⟨q, rfl⟩ := vk_is hk (by decide)
  repeat (refine zw_go rfl rfl (fun _ _ => rfl) ?_)
  refine zw_ix rfl (fun _ _ => rfl) (hin 1 (by decide)) ?_
  repeat (refine zw_go rfl rfl (fun _ _ => rfl) ?_)
  refine zw_call rfl (fun _ _ => rfl) (h2) (by decide) ?_
  rintro M2 r2 ⟨rfl, hG2⟩
  first | refine zw_br rfl (fun _ _ => rfl) (fun _ => ?_) (fun h9 => absurd ((rfl : q = q)) h9) | refine zw_nx rfl (fun _ _ => rfl) ?_
  exact fin M2 hG2
set_option maxHeartbeats 4000000 in
set_option maxRecDepth 20000 in
theorem lw19 (hE : E < 100000) (hG : GI E w h n t k nb b S I J A B P Q C) (hin : ∀ c, c < 6 → vp_in (nI i + Int32.ofNat c) len) (fin : ∀ M, GM (E + 1) w h M → zW 12 (some (len, g)) miL_law 1309 [some (.ref 1000), some (.ref 0), some (.ref 47), some (.int (nI i))] [] M Post) : zW 12 (some (len, g)) miL_law 916 [some (.ref 1000), some (.ref 0), some (.ref 47), some (.int (nI i))] [] (xm I J A B (mt P Q C)) Post := by
  by_cases b1 : (g (nI i + Int32.ofNat 1).toNatClampNeg) = 0
  · by_cases b2 : (g (nI i + Int32.ofNat 2).toNatClampNeg) = 0
    · repeat (refine zw_go rfl rfl (fun _ _ => rfl) ?_)
      refine zw_ix rfl (fun _ _ => rfl) (hin 1 (by decide)) ?_
      first | refine zw_br rfl (fun _ _ => rfl) (fun _ => ?_) (fun h9 => absurd (b1) h9) | refine zw_nx rfl (fun _ _ => rfl) ?_
      repeat (refine zw_go rfl rfl (fun _ _ => rfl) ?_)
      refine zw_ix rfl (fun _ _ => rfl) (hin 2 (by decide)) ?_
      first | refine zw_br rfl (fun _ _ => rfl) (fun _ => ?_) (fun h9 => absurd (b2) h9) | refine zw_nx rfl (fun _ _ => rfl) ?_
      repeat (refine zw_go rfl rfl (fun _ _ => rfl) ?_)
      refine zw_call rfl (fun _ _ => rfl) (sPeriod (some (len, g)) hG false false) (by decide) ?_
      rintro M1 r1 ⟨v, rfl, hk, ⟨I1, J1, A1, B1, P1, Q1, C1, rfl⟩, h2⟩
      obtain ⟨q, rfl⟩ := vk_is hk (by decide)
      repeat (refine zw_go rfl rfl (fun _ _ => rfl) ?_)
      refine zw_ix rfl (fun _ _ => rfl) (hin 1 (by decide)) ?_
      first | refine zw_br rfl (fun _ _ => rfl) (fun _ => ?_) (fun h9 => absurd (b1) h9) | refine zw_nx rfl (fun _ _ => rfl) ?_
      repeat (refine zw_go rfl rfl (fun _ _ => rfl) ?_)
      refine zw_ix rfl (fun _ _ => rfl) (hin 2 (by decide)) ?_
      first | refine zw_br rfl (fun _ _ => rfl) (fun _ => ?_) (fun h9 => absurd (b2) h9) | refine zw_nx rfl (fun _ _ => rfl) ?_
      repeat (refine zw_go rfl rfl (fun _ _ => rfl) ?_)
      refine zw_call rfl (fun _ _ => rfl) (h2) (by decide) ?_
      rintro M2 r2 ⟨rfl, hG2⟩
      first | refine zw_br rfl (fun _ _ => rfl) (fun _ => ?_) (fun h9 => absurd ((rfl : q = q)) h9) | refine zw_nx rfl (fun _ _ => rfl) ?_
      exact fin M2 hG2
    · repeat (refine zw_go rfl rfl (fun _ _ => rfl) ?_)
      refine zw_ix rfl (fun _ _ => rfl) (hin 1 (by decide)) ?_
      first | refine zw_br rfl (fun _ _ => rfl) (fun _ => ?_) (fun h9 => absurd (b1) h9) | refine zw_nx rfl (fun _ _ => rfl) ?_
      repeat (refine zw_go rfl rfl (fun _ _ => rfl) ?_)
      refine zw_ix rfl (fun _ _ => rfl) (hin 2 (by decide)) ?_
      first | refine zw_br rfl (fun _ _ => rfl) (fun h9 => absurd h9 (b2)) (fun _ => ?_) | refine zw_nx rfl (fun _ _ => rfl) ?_
      repeat (refine zw_go rfl rfl (fun _ _ => rfl) ?_)
      refine zw_call rfl (fun _ _ => rfl) (sPeriod (some (len, g)) hG false true) (by decide) ?_
      rintro M1 r1 ⟨v, rfl, hk, ⟨I1, J1, A1, B1, P1, Q1, C1, rfl⟩, h2⟩
      obtain ⟨q, rfl⟩ := vk_is hk (by decide)
      repeat (refine zw_go rfl rfl (fun _ _ => rfl) ?_)
      refine zw_ix rfl (fun _ _ => rfl) (hin 1 (by decide)) ?_
      first | refine zw_br rfl (fun _ _ => rfl) (fun _ => ?_) (fun h9 => absurd (b1) h9) | refine zw_nx rfl (fun _ _ => rfl) ?_
      repeat (refine zw_go rfl rfl (fun _ _ => rfl) ?_)
      refine zw_ix rfl (fun _ _ => rfl) (hin 2 (by decide)) ?_
      first | refine zw_br rfl (fun _ _ => rfl) (fun h9 => absurd h9 (b2)) (fun _ => ?_) | refine zw_nx rfl (fun _ _ => rfl) ?_
      repeat (refine zw_go rfl rfl (fun _ _ => rfl) ?_)
      refine zw_call rfl (fun _ _ => rfl) (h2) (by decide) ?_
      rintro M2 r2 ⟨rfl, hG2⟩
      first | refine zw_br rfl (fun _ _ => rfl) (fun _ => ?_) (fun h9 => absurd ((rfl : q = q)) h9) | refine zw_nx rfl (fun _ _ => rfl) ?_
      exact fin M2 hG2
  · by_cases b2 : (g (nI i + Int32.ofNat 2).toNatClampNeg) = 0
    · repeat (refine zw_go rfl rfl (fun _ _ => rfl) ?_)
      refine zw_ix rfl (fun _ _ => rfl) (hin 1 (by decide)) ?_
      first | refine zw_br rfl (fun _ _ => rfl) (fun h9 => absurd h9 (b1)) (fun _ => ?_) | refine zw_nx rfl (fun _ _ => rfl) ?_
      repeat (refine zw_go rfl rfl (fun _ _ => rfl) ?_)
      refine zw_ix rfl (fun _ _ => rfl) (hin 2 (by decide)) ?_
      first | refine zw_br rfl (fun _ _ => rfl) (fun _ => ?_) (fun h9 => absurd (b2) h9) | refine zw_nx rfl (fun _ _ => rfl) ?_
      repeat (refine zw_go rfl rfl (fun _ _ => rfl) ?_)
      refine zw_call rfl (fun _ _ => rfl) (sPeriod (some (len, g)) hG true false) (by decide) ?_
      rintro M1 r1 ⟨v, rfl, hk, ⟨I1, J1, A1, B1, P1, Q1, C1, rfl⟩, h2⟩
      obtain ⟨q, rfl⟩ := vk_is hk (by decide)
      repeat (refine zw_go rfl rfl (fun _ _ => rfl) ?_)
      refine zw_ix rfl (fun _ _ => rfl) (hin 1 (by decide)) ?_
      first | refine zw_br rfl (fun _ _ => rfl) (fun h9 => absurd h9 (b1)) (fun _ => ?_) | refine zw_nx rfl (fun _ _ => rfl) ?_
      repeat (refine zw_go rfl rfl (fun _ _ => rfl) ?_)
      refine zw_ix rfl (fun _ _ => rfl) (hin 2 (by decide)) ?_
      first | refine zw_br rfl (fun _ _ => rfl) (fun _ => ?_) (fun h9 => absurd (b2) h9) | refine zw_nx rfl (fun _ _ => rfl) ?_
      repeat (refine zw_go rfl rfl (fun _ _ => rfl) ?_)
      refine zw_call rfl (fun _ _ => rfl) (h2) (by decide) ?_
      rintro M2 r2 ⟨rfl, hG2⟩
      first | refine zw_br rfl (fun _ _ => rfl) (fun _ => ?_) (fun h9 => absurd ((rfl : q = q)) h9) | refine zw_nx rfl (fun _ _ => rfl) ?_
      exact fin M2 hG2
    · repeat (refine zw_go rfl rfl (fun _ _ => rfl) ?_)
      refine zw_ix rfl (fun _ _ => rfl) (hin 1 (by decide)) ?_
      first | refine zw_br rfl (fun _ _ => rfl) (fun h9 => absurd h9 (b1)) (fun _ => ?_) | refine zw_nx rfl (fun _ _ => rfl) ?_
      repeat (refine zw_go rfl rfl (fun _ _ => rfl) ?_)
      refine zw_ix rfl (fun _ _ => rfl) (hin 2 (by decide)) ?_
      first | refine zw_br rfl (fun _ _ => rfl) (fun h9 => absurd h9 (b2)) (fun _ => ?_) | refine zw_nx rfl (fun _ _ => rfl) ?_
      repeat (refine zw_go rfl rfl (fun _ _ => rfl) ?_)
      refine zw_call rfl (fun _ _ => rfl) (sPeriod (some (len, g)) hG true true) (by decide) ?_
      rintro M1 r1 ⟨v, rfl, hk, ⟨I1, J1, A1, B1, P1, Q1, C1, rfl⟩, h2⟩
      obtain ⟨q, rfl⟩ := vk_is hk (by decide)
      repeat (refine zw_go rfl rfl (fun _ _ => rfl) ?_)
      refine zw_ix rfl (fun _ _ => rfl) (hin 1 (by decide)) ?_
      first | refine zw_br rfl (fun _ _ => rfl) (fun h9 => absurd h9 (b1)) (fun _ => ?_) | refine zw_nx rfl (fun _ _ => rfl) ?_
      repeat (refine zw_go rfl rfl (fun _ _ => rfl) ?_)
      refine zw_ix rfl (fun _ _ => rfl) (hin 2 (by decide)) ?_
      first | refine zw_br rfl (fun _ _ => rfl) (fun h9 => absurd h9 (b2)) (fun _ => ?_) | refine zw_nx rfl (fun _ _ => rfl) ?_
      repeat (refine zw_go rfl rfl (fun _ _ => rfl) ?_)
      refine zw_call rfl (fun _ _ => rfl) (h2) (by decide) ?_
      rintro M2 r2 ⟨rfl, hG2⟩
      first | refine zw_br rfl (fun _ _ => rfl) (fun _ => ?_) (fun h9 => absurd ((rfl : q = q)) h9) | refine zw_nx rfl (fun _ _ => rfl) ?_
      exact fin M2 hG2
set_option maxHeartbeats 4000000 in
set_option maxRecDepth 20000 in
theorem lw20 (hE : E < 100000) (hG : GI E w h n t k nb b S I J A B P Q C) (hin : ∀ c, c < 6 → vp_in (nI i + Int32.ofNat c) len) (fin : ∀ M, GM (E + 1) w h M → zW 12 (some (len, g)) miL_law 1309 [some (.ref 1000), some (.ref 0), some (.ref 47), some (.int (nI i))] [] M Post) : zW 12 (some (len, g)) miL_law 981 [some (.ref 1000), some (.ref 0), some (.ref 47), some (.int (nI i))] [] (xm I J A B (mt P Q C)) Post := by
  by_cases b1 : (g (nI i + Int32.ofNat 1).toNatClampNeg) = 0
  · repeat (refine zw_go rfl rfl (fun _ _ => rfl) ?_)
    refine zw_ix rfl (fun _ _ => rfl) (hin 1 (by decide)) ?_
    first | refine zw_br rfl (fun _ _ => rfl) (fun _ => ?_) (fun h9 => absurd (b1) h9) | refine zw_nx rfl (fun _ _ => rfl) ?_
    repeat (refine zw_go rfl rfl (fun _ _ => rfl) ?_)
    refine zw_call rfl (fun _ _ => rfl) (sFewest (some (len, g)) hG false) (by decide) ?_
    rintro M1 r1 ⟨v, rfl, hk, ⟨I1, J1, A1, B1, P1, Q1, C1, rfl⟩, h2⟩
    obtain ⟨q, rfl⟩ := vk_is hk (by decide)
    repeat (refine zw_go rfl rfl (fun _ _ => rfl) ?_)
    refine zw_ix rfl (fun _ _ => rfl) (hin 1 (by decide)) ?_
    first | refine zw_br rfl (fun _ _ => rfl) (fun _ => ?_) (fun h9 => absurd (b1) h9) | refine zw_nx rfl (fun _ _ => rfl) ?_
    repeat (refine zw_go rfl rfl (fun _ _ => rfl) ?_)
    refine zw_call rfl (fun _ _ => rfl) (h2) (by decide) ?_
    rintro M2 r2 ⟨rfl, hG2⟩
    first | refine zw_br rfl (fun _ _ => rfl) (fun _ => ?_) (fun h9 => absurd ((rfl : q = q)) h9) | refine zw_nx rfl (fun _ _ => rfl) ?_
    exact fin M2 hG2
  · repeat (refine zw_go rfl rfl (fun _ _ => rfl) ?_)
    refine zw_ix rfl (fun _ _ => rfl) (hin 1 (by decide)) ?_
    first | refine zw_br rfl (fun _ _ => rfl) (fun h9 => absurd h9 (b1)) (fun _ => ?_) | refine zw_nx rfl (fun _ _ => rfl) ?_
    repeat (refine zw_go rfl rfl (fun _ _ => rfl) ?_)
    refine zw_call rfl (fun _ _ => rfl) (sFewest (some (len, g)) hG true) (by decide) ?_
    rintro M1 r1 ⟨v, rfl, hk, ⟨I1, J1, A1, B1, P1, Q1, C1, rfl⟩, h2⟩
    obtain ⟨q, rfl⟩ := vk_is hk (by decide)
    repeat (refine zw_go rfl rfl (fun _ _ => rfl) ?_)
    refine zw_ix rfl (fun _ _ => rfl) (hin 1 (by decide)) ?_
    first | refine zw_br rfl (fun _ _ => rfl) (fun h9 => absurd h9 (b1)) (fun _ => ?_) | refine zw_nx rfl (fun _ _ => rfl) ?_
    repeat (refine zw_go rfl rfl (fun _ _ => rfl) ?_)
    refine zw_call rfl (fun _ _ => rfl) (h2) (by decide) ?_
    rintro M2 r2 ⟨rfl, hG2⟩
    first | refine zw_br rfl (fun _ _ => rfl) (fun _ => ?_) (fun h9 => absurd ((rfl : q = q)) h9) | refine zw_nx rfl (fun _ _ => rfl) ?_
    exact fin M2 hG2
set_option maxHeartbeats 4000000 in
set_option maxRecDepth 20000 in
theorem lw21 (hE : E < 100000) (hG : GI E w h n t k nb b S I J A B P Q C) (hin : ∀ c, c < 6 → vp_in (nI i + Int32.ofNat c) len) (fin : ∀ M, GM (E + 1) w h M → zW 12 (some (len, g)) miL_law 1309 [some (.ref 1000), some (.ref 0), some (.ref 47), some (.int (nI i))] [] M Post) : zW 12 (some (len, g)) miL_law 1020 [some (.ref 1000), some (.ref 0), some (.ref 47), some (.int (nI i))] [] (xm I J A B (mt P Q C)) Post := by
  by_cases b1 : (g (nI i + Int32.ofNat 1).toNatClampNeg) = 0
  · repeat (refine zw_go rfl rfl (fun _ _ => rfl) ?_)
    refine zw_ix rfl (fun _ _ => rfl) (hin 1 (by decide)) ?_
    first | refine zw_br rfl (fun _ _ => rfl) (fun _ => ?_) (fun h9 => absurd (b1) h9) | refine zw_nx rfl (fun _ _ => rfl) ?_
    repeat (refine zw_go rfl rfl (fun _ _ => rfl) ?_)
    refine zw_call rfl (fun _ _ => rfl) (sPegs (some (len, g)) hG false) (by decide) ?_
    rintro M1 r1 ⟨v, rfl, hk, ⟨I1, J1, A1, B1, P1, Q1, C1, rfl⟩, h2⟩
    obtain ⟨q, rfl⟩ := vk_is hk (by decide)
    repeat (refine zw_go rfl rfl (fun _ _ => rfl) ?_)
    refine zw_ix rfl (fun _ _ => rfl) (hin 1 (by decide)) ?_
    first | refine zw_br rfl (fun _ _ => rfl) (fun _ => ?_) (fun h9 => absurd (b1) h9) | refine zw_nx rfl (fun _ _ => rfl) ?_
    repeat (refine zw_go rfl rfl (fun _ _ => rfl) ?_)
    refine zw_call rfl (fun _ _ => rfl) (h2) (by decide) ?_
    rintro M2 r2 ⟨rfl, hG2⟩
    first | refine zw_br rfl (fun _ _ => rfl) (fun _ => ?_) (fun h9 => absurd ((rfl : q = q)) h9) | refine zw_nx rfl (fun _ _ => rfl) ?_
    exact fin M2 hG2
  · repeat (refine zw_go rfl rfl (fun _ _ => rfl) ?_)
    refine zw_ix rfl (fun _ _ => rfl) (hin 1 (by decide)) ?_
    first | refine zw_br rfl (fun _ _ => rfl) (fun h9 => absurd h9 (b1)) (fun _ => ?_) | refine zw_nx rfl (fun _ _ => rfl) ?_
    repeat (refine zw_go rfl rfl (fun _ _ => rfl) ?_)
    refine zw_call rfl (fun _ _ => rfl) (sPegs (some (len, g)) hG true) (by decide) ?_
    rintro M1 r1 ⟨v, rfl, hk, ⟨I1, J1, A1, B1, P1, Q1, C1, rfl⟩, h2⟩
    obtain ⟨q, rfl⟩ := vk_is hk (by decide)
    repeat (refine zw_go rfl rfl (fun _ _ => rfl) ?_)
    refine zw_ix rfl (fun _ _ => rfl) (hin 1 (by decide)) ?_
    first | refine zw_br rfl (fun _ _ => rfl) (fun h9 => absurd h9 (b1)) (fun _ => ?_) | refine zw_nx rfl (fun _ _ => rfl) ?_
    repeat (refine zw_go rfl rfl (fun _ _ => rfl) ?_)
    refine zw_call rfl (fun _ _ => rfl) (h2) (by decide) ?_
    rintro M2 r2 ⟨rfl, hG2⟩
    first | refine zw_br rfl (fun _ _ => rfl) (fun _ => ?_) (fun h9 => absurd ((rfl : q = q)) h9) | refine zw_nx rfl (fun _ _ => rfl) ?_
    exact fin M2 hG2
set_option maxHeartbeats 4000000 in
set_option maxRecDepth 20000 in
theorem lw22 (hE : E < 100000) (hG : GI E w h n t k nb b S I J A B P Q C) (hin : ∀ c, c < 6 → vp_in (nI i + Int32.ofNat c) len) (fin : ∀ M, GM (E + 1) w h M → zW 12 (some (len, g)) miL_law 1309 [some (.ref 1000), some (.ref 0), some (.ref 47), some (.int (nI i))] [] M Post) : zW 12 (some (len, g)) miL_law 1059 [some (.ref 1000), some (.ref 0), some (.ref 47), some (.int (nI i))] [] (xm I J A B (mt P Q C)) Post := by
  repeat (refine zw_go rfl rfl (fun _ _ => rfl) ?_)
  refine zw_ix rfl (fun _ _ => rfl) (hin 1 (by decide)) ?_
  repeat (refine zw_go rfl rfl (fun _ _ => rfl) ?_)
  refine zw_call rfl (fun _ _ => rfl) (sCover (some (len, g)) hG _) (by decide) ?_
  rintro M1 r1 ⟨v, rfl, hk, ⟨I1, J1, A1, B1, P1, Q1, C1, rfl⟩, h2⟩
  obtain ⟨q, rfl⟩ := vk_is hk (by decide)
  repeat (refine zw_go rfl rfl (fun _ _ => rfl) ?_)
  refine zw_ix rfl (fun _ _ => rfl) (hin 1 (by decide)) ?_
  repeat (refine zw_go rfl rfl (fun _ _ => rfl) ?_)
  refine zw_call rfl (fun _ _ => rfl) (h2) (by decide) ?_
  rintro M2 r2 ⟨rfl, hG2⟩
  first | refine zw_br rfl (fun _ _ => rfl) (fun _ => ?_) (fun h9 => absurd ((rfl : q = q)) h9) | refine zw_nx rfl (fun _ _ => rfl) ?_
  exact fin M2 hG2
set_option maxHeartbeats 4000000 in
set_option maxRecDepth 20000 in
theorem lw23 (hE : E < 100000) (hG : GI E w h n t k nb b S I J A B P Q C) (hin : ∀ c, c < 6 → vp_in (nI i + Int32.ofNat c) len) (fin : ∀ M, GM (E + 1) w h M → zW 12 (some (len, g)) miL_law 1309 [some (.ref 1000), some (.ref 0), some (.ref 47), some (.int (nI i))] [] M Post) : zW 12 (some (len, g)) miL_law 1082 [some (.ref 1000), some (.ref 0), some (.ref 47), some (.int (nI i))] [] (xm I J A B (mt P Q C)) Post := by
  repeat (refine zw_go rfl rfl (fun _ _ => rfl) ?_)
  refine zw_ix rfl (fun _ _ => rfl) (hin 1 (by decide)) ?_
  repeat (refine zw_go rfl rfl (fun _ _ => rfl) ?_)
  refine zw_ix rfl (fun _ _ => rfl) (hin 2 (by decide)) ?_
  repeat (refine zw_go rfl rfl (fun _ _ => rfl) ?_)
  refine zw_ix rfl (fun _ _ => rfl) (hin 3 (by decide)) ?_
  repeat (refine zw_go rfl rfl (fun _ _ => rfl) ?_)
  refine zw_call rfl (fun _ _ => rfl) (sSeen (some (len, g)) hE hG _ _) (by decide) ?_
  rintro M1 r1 ⟨v, rfl, hk, ⟨I1, J1, A1, B1, P1, Q1, C1, rfl⟩, h2⟩
  obtain ⟨q, rfl⟩ := vk_is hk (by decide)
  repeat (refine zw_go rfl rfl (fun _ _ => rfl) ?_)
  refine zw_ix rfl (fun _ _ => rfl) (hin 1 (by decide)) ?_
  repeat (refine zw_go rfl rfl (fun _ _ => rfl) ?_)
  refine zw_ix rfl (fun _ _ => rfl) (hin 2 (by decide)) ?_
  repeat (refine zw_go rfl rfl (fun _ _ => rfl) ?_)
  refine zw_ix rfl (fun _ _ => rfl) (hin 3 (by decide)) ?_
  repeat (refine zw_go rfl rfl (fun _ _ => rfl) ?_)
  refine zw_call rfl (fun _ _ => rfl) (h2) (by decide) ?_
  rintro M2 r2 ⟨rfl, hG2⟩
  first | refine zw_br rfl (fun _ _ => rfl) (fun _ => ?_) (fun h9 => absurd ((rfl : q = q)) h9) | refine zw_nx rfl (fun _ _ => rfl) ?_
  exact fin M2 hG2
set_option maxHeartbeats 4000000 in
set_option maxRecDepth 20000 in
theorem lw24 (hE : E < 100000) (hG : GI E w h n t k nb b S I J A B P Q C) (hin : ∀ c, c < 6 → vp_in (nI i + Int32.ofNat c) len) (fin : ∀ M, GM (E + 1) w h M → zW 12 (some (len, g)) miL_law 1309 [some (.ref 1000), some (.ref 0), some (.ref 47), some (.int (nI i))] [] M Post) : zW 12 (some (len, g)) miL_law 1145 [some (.ref 1000), some (.ref 0), some (.ref 47), some (.int (nI i))] [] (xm I J A B (mt P Q C)) Post := by
  repeat (refine zw_go rfl rfl (fun _ _ => rfl) ?_)
  refine zw_ix rfl (fun _ _ => rfl) (hin 1 (by decide)) ?_
  repeat (refine zw_go rfl rfl (fun _ _ => rfl) ?_)
  refine zw_call rfl (fun _ _ => rfl) (sWrong (some (len, g)) hG _) (by decide) ?_
  rintro M1 r1 ⟨v, rfl, hk, ⟨I1, J1, A1, B1, P1, Q1, C1, rfl⟩, h2⟩
  obtain ⟨q, rfl⟩ := vk_is hk (by decide)
  repeat (refine zw_go rfl rfl (fun _ _ => rfl) ?_)
  refine zw_ix rfl (fun _ _ => rfl) (hin 1 (by decide)) ?_
  repeat (refine zw_go rfl rfl (fun _ _ => rfl) ?_)
  refine zw_call rfl (fun _ _ => rfl) (h2) (by decide) ?_
  rintro M2 r2 ⟨rfl, hG2⟩
  first | refine zw_br rfl (fun _ _ => rfl) (fun _ => ?_) (fun h9 => absurd ((rfl : q = q)) h9) | refine zw_nx rfl (fun _ _ => rfl) ?_
  exact fin M2 hG2
set_option maxHeartbeats 4000000 in
set_option maxRecDepth 20000 in
theorem lw25 (hE : E < 100000) (hG : GI E w h n t k nb b S I J A B P Q C) (hin : ∀ c, c < 6 → vp_in (nI i + Int32.ofNat c) len) (fin : ∀ M, GM (E + 1) w h M → zW 12 (some (len, g)) miL_law 1309 [some (.ref 1000), some (.ref 0), some (.ref 47), some (.int (nI i))] [] M Post) : zW 12 (some (len, g)) miL_law 1168 [some (.ref 1000), some (.ref 0), some (.ref 47), some (.int (nI i))] [] (xm I J A B (mt P Q C)) Post := by
  repeat (refine zw_go rfl rfl (fun _ _ => rfl) ?_)
  refine zw_ix rfl (fun _ _ => rfl) (hin 1 (by decide)) ?_
  repeat (refine zw_go rfl rfl (fun _ _ => rfl) ?_)
  refine zw_ix rfl (fun _ _ => rfl) (hin 2 (by decide)) ?_
  repeat (refine zw_go rfl rfl (fun _ _ => rfl) ?_)
  refine zw_call rfl (fun _ _ => rfl) (sNearest (some (len, g)) hG _ _) (by decide) ?_
  rintro M1 r1 ⟨v, rfl, hk, ⟨I1, J1, A1, B1, P1, Q1, C1, rfl⟩, h2⟩
  obtain ⟨q, rfl⟩ := vk_is hk (by decide)
  repeat (refine zw_go rfl rfl (fun _ _ => rfl) ?_)
  refine zw_ix rfl (fun _ _ => rfl) (hin 1 (by decide)) ?_
  repeat (refine zw_go rfl rfl (fun _ _ => rfl) ?_)
  refine zw_ix rfl (fun _ _ => rfl) (hin 2 (by decide)) ?_
  repeat (refine zw_go rfl rfl (fun _ _ => rfl) ?_)
  refine zw_call rfl (fun _ _ => rfl) (h2) (by decide) ?_
  rintro M2 r2 ⟨rfl, hG2⟩
  first | refine zw_br rfl (fun _ _ => rfl) (fun _ => ?_) (fun h9 => absurd ((rfl : q = q)) h9) | refine zw_nx rfl (fun _ _ => rfl) ?_
  exact fin M2 hG2
set_option maxHeartbeats 4000000 in
set_option maxRecDepth 20000 in
theorem lw26 (hE : E < 100000) (hG : GI E w h n t k nb b S I J A B P Q C) (hin : ∀ c, c < 6 → vp_in (nI i + Int32.ofNat c) len) (fin : ∀ M, GM (E + 1) w h M → zW 12 (some (len, g)) miL_law 1309 [some (.ref 1000), some (.ref 0), some (.ref 47), some (.int (nI i))] [] M Post) : zW 12 (some (len, g)) miL_law 1201 [some (.ref 1000), some (.ref 0), some (.ref 47), some (.int (nI i))] [] (xm I J A B (mt P Q C)) Post := by
  repeat (refine zw_go rfl rfl (fun _ _ => rfl) ?_)
  refine zw_ix rfl (fun _ _ => rfl) (hin 1 (by decide)) ?_
  repeat (refine zw_go rfl rfl (fun _ _ => rfl) ?_)
  refine zw_call rfl (fun _ _ => rfl) (sMended (some (len, g)) hG _) (by decide) ?_
  rintro M1 r1 ⟨v, rfl, hk, ⟨I1, J1, A1, B1, P1, Q1, C1, rfl⟩, h2⟩
  obtain ⟨q, rfl⟩ := vk_is hk (by decide)
  repeat (refine zw_go rfl rfl (fun _ _ => rfl) ?_)
  refine zw_ix rfl (fun _ _ => rfl) (hin 1 (by decide)) ?_
  repeat (refine zw_go rfl rfl (fun _ _ => rfl) ?_)
  refine zw_call rfl (fun _ _ => rfl) (h2) (by decide) ?_
  rintro M2 r2 ⟨rfl, hG2⟩
  first | refine zw_br rfl (fun _ _ => rfl) (fun _ => ?_) (fun h9 => absurd ((rfl : q = q)) h9) | refine zw_nx rfl (fun _ _ => rfl) ?_
  exact fin M2 hG2
set_option maxHeartbeats 4000000 in
set_option maxRecDepth 20000 in
theorem lw27 (hE : E < 100000) (hG : GI E w h n t k nb b S I J A B P Q C) (hin : ∀ c, c < 6 → vp_in (nI i + Int32.ofNat c) len) (fin : ∀ M, GM (E + 1) w h M → zW 12 (some (len, g)) miL_law 1309 [some (.ref 1000), some (.ref 0), some (.ref 47), some (.int (nI i))] [] M Post) : zW 12 (some (len, g)) miL_law 1224 [some (.ref 1000), some (.ref 0), some (.ref 47), some (.int (nI i))] [] (xm I J A B (mt P Q C)) Post := by
  repeat (refine zw_go rfl rfl (fun _ _ => rfl) ?_)
  refine zw_ix rfl (fun _ _ => rfl) (hin 1 (by decide)) ?_
  repeat (refine zw_go rfl rfl (fun _ _ => rfl) ?_)
  refine zw_call rfl (fun _ _ => rfl) (sMendedShaft (some (len, g)) hG _) (by decide) ?_
  rintro M1 r1 ⟨v, rfl, hk, ⟨I1, J1, A1, B1, P1, Q1, C1, rfl⟩, h2⟩
  obtain ⟨q, rfl⟩ := vk_is hk (by decide)
  repeat (refine zw_go rfl rfl (fun _ _ => rfl) ?_)
  refine zw_ix rfl (fun _ _ => rfl) (hin 1 (by decide)) ?_
  repeat (refine zw_go rfl rfl (fun _ _ => rfl) ?_)
  refine zw_call rfl (fun _ _ => rfl) (h2) (by decide) ?_
  rintro M2 r2 ⟨rfl, hG2⟩
  first | refine zw_br rfl (fun _ _ => rfl) (fun _ => ?_) (fun h9 => absurd ((rfl : q = q)) h9) | refine zw_nx rfl (fun _ _ => rfl) ?_
  exact fin M2 hG2
set_option maxHeartbeats 4000000 in
set_option maxRecDepth 20000 in
theorem lw28 (hE : E < 100000) (hG : GI E w h n t k nb b S I J A B P Q C) (hin : ∀ c, c < 6 → vp_in (nI i + Int32.ofNat c) len) (fin : ∀ M, GM (E + 1) w h M → zW 12 (some (len, g)) miL_law 1309 [some (.ref 1000), some (.ref 0), some (.ref 47), some (.int (nI i))] [] M Post) : zW 12 (some (len, g)) miL_law 1247 [some (.ref 1000), some (.ref 0), some (.ref 47), some (.int (nI i))] [] (xm I J A B (mt P Q C)) Post := by
  by_cases b1 : (g (nI i + Int32.ofNat 1).toNatClampNeg) = 0
  · repeat (refine zw_go rfl rfl (fun _ _ => rfl) ?_)
    refine zw_ix rfl (fun _ _ => rfl) (hin 1 (by decide)) ?_
    first | refine zw_br rfl (fun _ _ => rfl) (fun _ => ?_) (fun h9 => absurd (b1) h9) | refine zw_nx rfl (fun _ _ => rfl) ?_
    repeat (refine zw_go rfl rfl (fun _ _ => rfl) ?_)
    refine zw_call rfl (fun _ _ => rfl) (sShifted (some (len, g)) hG false) (by decide) ?_
    rintro M1 r1 ⟨v, rfl, hk, ⟨I1, J1, A1, B1, P1, Q1, C1, rfl⟩, h2⟩
    obtain ⟨q, rfl⟩ := vk_is hk (by decide)
    repeat (refine zw_go rfl rfl (fun _ _ => rfl) ?_)
    refine zw_ix rfl (fun _ _ => rfl) (hin 1 (by decide)) ?_
    first | refine zw_br rfl (fun _ _ => rfl) (fun _ => ?_) (fun h9 => absurd (b1) h9) | refine zw_nx rfl (fun _ _ => rfl) ?_
    repeat (refine zw_go rfl rfl (fun _ _ => rfl) ?_)
    refine zw_call rfl (fun _ _ => rfl) (h2) (by decide) ?_
    rintro M2 r2 ⟨rfl, hG2⟩
    first | refine zw_br rfl (fun _ _ => rfl) (fun _ => ?_) (fun h9 => absurd ((rfl : q = q)) h9) | refine zw_nx rfl (fun _ _ => rfl) ?_
    exact fin M2 hG2
  · repeat (refine zw_go rfl rfl (fun _ _ => rfl) ?_)
    refine zw_ix rfl (fun _ _ => rfl) (hin 1 (by decide)) ?_
    first | refine zw_br rfl (fun _ _ => rfl) (fun h9 => absurd h9 (b1)) (fun _ => ?_) | refine zw_nx rfl (fun _ _ => rfl) ?_
    repeat (refine zw_go rfl rfl (fun _ _ => rfl) ?_)
    refine zw_call rfl (fun _ _ => rfl) (sShifted (some (len, g)) hG true) (by decide) ?_
    rintro M1 r1 ⟨v, rfl, hk, ⟨I1, J1, A1, B1, P1, Q1, C1, rfl⟩, h2⟩
    obtain ⟨q, rfl⟩ := vk_is hk (by decide)
    repeat (refine zw_go rfl rfl (fun _ _ => rfl) ?_)
    refine zw_ix rfl (fun _ _ => rfl) (hin 1 (by decide)) ?_
    first | refine zw_br rfl (fun _ _ => rfl) (fun h9 => absurd h9 (b1)) (fun _ => ?_) | refine zw_nx rfl (fun _ _ => rfl) ?_
    repeat (refine zw_go rfl rfl (fun _ _ => rfl) ?_)
    refine zw_call rfl (fun _ _ => rfl) (h2) (by decide) ?_
    rintro M2 r2 ⟨rfl, hG2⟩
    first | refine zw_br rfl (fun _ _ => rfl) (fun _ => ?_) (fun h9 => absurd ((rfl : q = q)) h9) | refine zw_nx rfl (fun _ _ => rfl) ?_
    exact fin M2 hG2
set_option maxHeartbeats 4000000 in
set_option maxRecDepth 20000 in
theorem lw29 (hE : E < 100000) (hG : GI E w h n t k nb b S I J A B P Q C) (hin : ∀ c, c < 6 → vp_in (nI i + Int32.ofNat c) len) (fin : ∀ M, GM (E + 1) w h M → zW 12 (some (len, g)) miL_law 1309 [some (.ref 1000), some (.ref 0), some (.ref 47), some (.int (nI i))] [] M Post) : zW 12 (some (len, g)) miL_law 1286 [some (.ref 1000), some (.ref 0), some (.ref 47), some (.int (nI i))] [] (xm I J A B (mt P Q C)) Post := by
  repeat (refine zw_go rfl rfl (fun _ _ => rfl) ?_)
  refine zw_ix rfl (fun _ _ => rfl) (hin 1 (by decide)) ?_
  repeat (refine zw_go rfl rfl (fun _ _ => rfl) ?_)
  refine zw_call rfl (fun _ _ => rfl) (sAbout (some (len, g)) hG _) (by decide) ?_
  rintro M1 r1 ⟨v, rfl, hk, ⟨I1, J1, A1, B1, P1, Q1, C1, rfl⟩, h2⟩
  obtain ⟨q, rfl⟩ := vk_is hk (by decide)
  repeat (refine zw_go rfl rfl (fun _ _ => rfl) ?_)
  refine zw_ix rfl (fun _ _ => rfl) (hin 1 (by decide)) ?_
  repeat (refine zw_go rfl rfl (fun _ _ => rfl) ?_)
  refine zw_call rfl (fun _ _ => rfl) (h2) (by decide) ?_
  rintro M2 r2 ⟨rfl, hG2⟩
  first | refine zw_br rfl (fun _ _ => rfl) (fun _ => ?_) (fun h9 => absurd ((rfl : q = q)) h9) | refine zw_nx rfl (fun _ _ => rfl) ?_
  exact fin M2 hG2
end

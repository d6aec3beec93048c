/-! the class: findLeast, find, cover -/
theorem tie_bit {L : Nat → Int32} {m : Nat} {K : Nat → Int32} {k t : Nat} (hK : Enm K k (tieS L m (2 ^ m))) (ht : t < k) : ∃ z, K t = anF L z m := by
  obtain ⟨_, z, _, _, h⟩ := (hK.2 (K t)).mp ⟨t, ht, rfl⟩
  exact ⟨z, h.symm⟩
theorem sub_iff {x y : Int32} (hx : ∀ s, 16 ≤ s → s < 32 → ib x s = false) : x &&& (y ^^^ (-1)) = 0 ↔ ∀ t, t < 16 → ib x t = true → ib y t = true := by
  constructor
  · intro h t ht h1
    have h2 : ib (x &&& (y ^^^ (-1))) t = false := by rw [h, ib_0]
    rw [ib_and, ib_xor, ib_m1 (by omega), h1] at h2
    simpa using h2
  · intro h
    refine ib_ext (fun t ht => ?_)
    rw [ib_and, ib_xor, ib_m1 ht, ib_0]
    cases h1 : ib x t
    · rfl
    · rcases Nat.lt_or_ge t 16 with h2 | h2
      · rw [h t h2 h1]; rfl
      · rw [hx t h2 ht] at h1; cases h1
theorem cov_gift {L : Nat → Int32} {m : Nat} {K : Nat → Int32} {k n : Nat} {c : Nat → Nat} (hL : LOk L m) (hK : Enm K k (tieS L m (2 ^ m))) (hc : ∀ j, j < n → c j < k) : (∀ g, g < (glF L m (16 * m)).length → gvB (gmF K L k (glF L m (16 * m))) c n g = true) ↔ Cov L m K n c := by
  have h16 : ∀ t, t < k → ∀ s, 16 ≤ s → s < 32 → ib (K t) s = false := fun t ht s h1 h2 => by
    obtain ⟨z, hz⟩ := tie_bit hK ht
    cases h3 : ib (K t) s
    · rfl
    · rw [hz, ib_anF h2] at h3; omega
  constructor
  · intro h i hi s hs hb
    obtain ⟨r, r1, r2, r3⟩ := rep_ex (L := L) (m := m) s
    have hpt := (pt_eq hL.1).mp r3
    have hmem : (i, r) ∈ glF L m (16 * m) := gl_mem.mpr ⟨16 * i + r, by omega, by
      unfold glP
      rw [show (16 * i + r) / 16 = i by omega, show (16 * i + r) % 16 = r by omega, hpt i hi, hb, r2]; rfl, by
      rw [show (16 * i + r) / 16 = i by omega, show (16 * i + r) % 16 = r by omega]⟩
    obtain ⟨g, g1, g2⟩ := List.getElem_of_mem hmem
    obtain ⟨j, j1, j2⟩ := anyB_iff.mp (h g g1)
    have h3 : gbB K L (c j) (i, r) = true := by
      unfold gmF at j2
      rw [List.getElem?_eq_getElem g1, g2, Bool.and_eq_true] at j2
      exact j2.2
    unfold gbB at h3
    rw [Bool.and_eq_true, decide_eq_true_eq, sub_iff (h16 (c j) (hc j j1))] at h3
    obtain ⟨z, hz⟩ := tie_bit hK (hc j j1)
    refine ⟨j, j1, ?_, h3.2⟩
    have h4 : ib (K (c j)) r = true := h3.1
    rw [hz, ib_anF (by omega)] at h4 ⊢
    exact ⟨hs, fun i' h5 h6 => by rw [← hpt i' h5]; exact h4.2 i' h5 h6⟩
  · intro h g hg
    obtain ⟨y, y1, y2, y3⟩ := gl_mem.mp (List.getElem_mem hg)
    unfold glP at y2
    rw [Bool.and_eq_true] at y2
    obtain ⟨j, j1, j2, j3⟩ := h (y / 16) (by omega) (y % 16) (by omega) y2.1
    refine anyB_iff.mpr ⟨j, j1, ?_⟩
    unfold gmF
    rw [List.getElem?_eq_getElem hg, y3, Bool.and_eq_true, decide_eq_true_eq]
    refine ⟨hc j j1, ?_⟩
    unfold gbB
    rw [Bool.and_eq_true, decide_eq_true_eq, sub_iff (h16 (c j) (hc j j1))]
    exact ⟨j2, j3⟩
/-- what is kept of the latest COVER -/
def CvC (I : Nat → Int32) (A : Nat → Nat → Int32) (V : Nat → Int32) (w h : Nat) : Prop := (5 < (gat (uL V w) h).length ∧ I 38 = -1) ∨ ((gat (uL V w) h).length ≤ 5 ∧ ∃ K k n c, CvL (li (gat (uL V w) h)) (gat (uL V w) h).length K k n c ∧ I 38 = nI n ∧ ∀ j, j < n → A 18 j = K (c j))
theorem cvc_cong {I I' : Nat → Int32} {A A' : Nat → Nat → Int32} {V : Nat → Int32} {w h : Nat} (hc : CvC I A V w h) (hI : I' 38 = I 38) (hA : A' 18 = A 18) : CvC I' A' V w h := by
  unfold CvC
  rw [hI, hA]
  exact hc
section
variable (sc : sm_S) (I : Nat → Int32) (J : Nat → Int64) (A : Nat → Nat → Int32) (B : Nat → Nat → Int64) (tl : sm_M) (f : Nat → va_E) (w h n : Nat) (V : Nat → Int32)
set_option maxHeartbeats 4000000 in
set_option maxRecDepth 20000 in
theorem xFindLeast (L K : Nat → Int32) (m k : Nat) (hL : LOk L m) (hk : k ≤ 31) (hE : Enm K k (tieS L m (2 ^ m))) (h35 : I 35 = nI m) (h36 : I 36 = nI k) (h37 : I 37 = nI (glF L m (16 * m)).length) (hK : ∀ t, t < k → A 16 t = K t) (hB : GfOk (gmF K L k (glF L m (16 * m))) B) : zC 10 sc 18 [.ref 33] (xm I J A B tl) (fun M r => r = none ∧ ∃ n c g, M = xm (upd I 38 (nI n)) J (va_up A 18 g) B tl ∧ CvL L m K k n c ∧ ∀ j, j < n → g j = K (c j)) := by
  have hgm : GmOk (gmF K L k (glF L m (16 * m))) k (glF L m (16 * m)).length := ⟨hk, gl_55 hL.1, fun t g hg => gm_hi hg, fun t g ht => by
    unfold gmF
    rw [decide_eq_false (by omega), Bool.false_and]⟩
  obtain ⟨n0, n1, n2⟩ := cov_ex hL hE
  have hm5 := hL.1
  have fin : ∀ (q z : Nat) (c : Nat → Nat) (g : Nat → Int32), q ≤ m + 1 → CvL L m K k z c → (∀ j, j < z → g j = K (c j)) → zW 9 sc miX1_findLeast 4 [some (.ref 33), some (.int 1), some (.int (nI q))] [] (xm (upd I 38 (nI z)) J (va_up A 18 g) B tl) (fun M r => r = none ∧ ∃ n c g, M = xm (upd I 38 (nI n)) J (va_up A 18 g) B tl ∧ CvL L m K k n c ∧ ∀ j, j < n → g j = K (c j)) := by
    intro q z c g hq hcv hg
    by_cases hqm : m < q
    · refine zw_nx rfl (fun _ _ => rfl) ?_
      repeat (refine zw_go rfl rfl (fun _ _ => rfl) ?_)
      rw [show upd I 38 (nI z) 35 = nI m from h35]
      first | refine zw_br rfl (fun _ _ => rfl) (fun _ => ?_) (fun h9 => absurd (nI_lt (a := m) (b := q) hqm (by omega)) h9) | refine zw_nx rfl (fun _ _ => rfl) ?_
      exact zw_ret rfl (fun _ _ => rfl) (⟨rfl, z, c, g, rfl, hcv, hg⟩)
    · refine zw_nx rfl (fun _ _ => rfl) ?_
      repeat (refine zw_go rfl rfl (fun _ _ => rfl) ?_)
      rw [show upd I 38 (nI z) 35 = nI m from h35]
      first | refine zw_br rfl (fun _ _ => rfl) (fun h9 => absurd h9 (nI_nlt (a := m) (b := q) (by omega) (by omega))) (fun _ => ?_) | refine zw_nx rfl (fun _ _ => rfl) ?_
      repeat (refine zw_go rfl rfl (fun _ _ => rfl) ?_)
      exact zw_ret rfl (fun _ _ => rfl) (⟨rfl, z, c, g, rfl, hcv, hg⟩)
  have key : ∀ (z q : Nat) (x : Int32) (g : Nat → Int32), q + z = m + 1 → (∀ y, y < q → ¬ ∃ d, Vs k y d ∧ Cov L m K y d) → zW 9 sc miX1_findLeast 4 [some (.ref 33), some (.int 0), some (.int (nI q))] [] (xm (upd I 38 x) J (va_up A 18 g) B tl) (fun M r => r = none ∧ ∃ n c g, M = xm (upd I 38 (nI n)) J (va_up A 18 g) B tl ∧ CvL L m K k n c ∧ ∀ j, j < n → g j = K (c j)) := by
    intro z
    induction z with
    | zero =>
      intro q x g hq hno
      exact absurd n2 (hno n0 (by omega))
    | succ z ih =>
      intro q x g hq hno
      have hcall := xChoose sc (upd I 38 (nI q)) J B tl q (gmF K L k (glF L m (16 * m))) K k (glF L m (16 * m)).length hgm hB h36 h37 rfl (by omega) q 0 0 (fun _ => 0) (va_up A 18 g) (by omega) (Nat.zero_le _) ⟨fun j hj => by omega, fun i j _ hj => by omega⟩ (fun j hj => by omega) hK
      rw [show mk (gvB (gmF K L k (glF L m (16 * m))) (fun _ => 0) 0) 55 = 0 from mk_false 55] at hcall
      refine zw_nx rfl (fun _ _ => rfl) ?_
      repeat (refine zw_go rfl rfl (fun _ _ => rfl) ?_)
      rw [show upd I 38 x 35 = nI m from h35]
      first | refine zw_br rfl (fun _ _ => rfl) (fun h9 => absurd h9 (nI_nlt (a := m) (b := q) (by omega) (by omega))) (fun _ => ?_) | refine zw_nx rfl (fun _ _ => rfl) ?_
      repeat (refine zw_go rfl rfl (fun _ _ => rfl) ?_)
      refine zw_call rfl (fun _ _ => rfl) (zc_up hcall (show q + 4 ≤ 9 by omega)) (by decide) ?_
      rintro M1 r1 ⟨g', rfl, hg', hres⟩
      rw [va_up_up]
      rcases hres with ⟨rfl, hn⟩ | ⟨rfl, d, hd, hP, hgd, hmin⟩
      · have hne := ih (q + 1) (nI q) g' (by omega) (fun y hy hex => by
          by_cases h1 : y = q
          · subst h1
            obtain ⟨d, d1, d2⟩ := hex
            exact hn d ⟨d1, fun j hj => by omega, fun j _ _ => Nat.zero_le _⟩ ((cov_gift hL hE d1.1).mpr d2)
          · exact hno y (by omega) hex)
        rw [nI_succ] at hne
        repeat (refine zw_go rfl rfl (fun _ _ => rfl) ?_)
        exact zw_kp hne
      · have hfi := fin (q + 1) q d g' (by omega) ⟨hE, hno, hd.1, (cov_gift hL hE hd.1.1).mp hP, fun e e1 e2 => hmin e ⟨e1, fun j hj => by omega, fun j _ _ => Nat.zero_le _⟩ ((cov_gift hL hE e1.1).mpr e2)⟩ (fun j hj => hgd j (Nat.zero_le _) hj)
        rw [nI_succ] at hfi
        repeat (refine zw_go rfl rfl (fun _ _ => rfl) ?_)
        exact zw_kp hfi
  refine zc_of hkX1_findLeast rfl ?_
  repeat (refine zw_go rfl rfl (fun _ _ => rfl) ?_)
  have st := key (m + 1) 0 (I 38) (A 18) (by omega) (fun y hy => by omega)
  rw [va_up_id, show upd I 38 (I 38) = I from by funext t; unfold upd; split <;> simp_all] at st
  exact zw_kp st
/-- what find leaves -/
def CvP (tl : sm_M) (I : Nat → Int32) (J : Nat → Int64) (A : Nat → Nat → Int32) (B : Nat → Nat → Int64) (V : Nat → Int32) (w h : Nat) (M : sm_M) : Prop := ∃ I' A' B', M = xm I' J A' B' tl ∧ CvC I' A' V w h ∧ I' 39 = I 10 ∧ (∀ z, z < 35 ∨ 39 < z → I' z = I z) ∧ (∀ a, a < 15 ∨ 18 < a → A' a = A a) ∧ (∀ b, b < 10 ∨ 12 < b → B' b = B b)
set_option maxHeartbeats 4000000 in
set_option maxRecDepth 20000 in
theorem xCvFind (hh : h ≤ 48) (h8 : I 8 = nI h) (hV : VOk V) (hF : ∀ p, p < h → A 5 p &&& I 9 = uL V w p) (hc : I 39 = I 10 → CvC I A V w h) : zC 11 sc 8 [.ref 33] (xm I J A B tl) (fun M r => r = none ∧ CvP tl I J A B V w h M) := by
  refine zc_of hkX1_find rfl ?_
  repeat (refine zw_go rfl rfl (fun _ _ => rfl) ?_)
  refine zw_br rfl (fun _ _ => rfl) (fun (h1 : I 39 = I 10) => ?_) (fun (h1 : ¬ (I 39 = I 10)) => ?_)
  · exact zw_ret rfl (fun _ _ => rfl) (⟨rfl, I, A, B, rfl, hc h1, h1, fun _ _ => rfl, fun _ _ => rfl, fun _ _ => rfl⟩)
  · repeat (refine zw_go rfl rfl (fun _ _ => rfl) ?_)
    refine zw_call rfl (fun _ _ => rfl) (xCollectLifts sc (upd (upd I 39 (I 10)) 38 (-1)) J A B tl h (uL V w) hh h8 hF) (by decide) ?_
    rintro M1 r1 ⟨x, g, rfl, ⟨rfl, hl⟩ | ⟨rfl, hl, rfl, hg⟩⟩
    · repeat (refine zw_go rfl rfl (fun _ _ => rfl) ?_)
      refine zw_ret rfl (fun _ _ => rfl) ?_
      refine ⟨rfl, _, _, _, rfl, Or.inl ⟨hl, rfl⟩, rfl, fun z hz => ?_, fun a ha => ?_, fun _ _ => rfl⟩
      · unfold upd; rw [if_neg (by omega), if_neg (by omega), if_neg (by omega)]
      · unfold va_up; rw [if_neg (by omega)]
    · have hok := gat_ok hV hl
      repeat (refine zw_go rfl rfl (fun _ _ => rfl) ?_)
      refine zw_call rfl (fun _ _ => rfl) (xCollectTies sc (upd (upd (upd I 39 (I 10)) 38 (-1)) 35 (nI (gat (uL V w) h).length)) J (va_up A 15 g) B tl (li (gat (uL V w) h)) (gat (uL V w) h).length hl rfl hg) (by decide) ?_
      rintro M1 r1 ⟨rfl, K, k, rfl, hk, hE⟩
      repeat (refine zw_go rfl rfl (fun _ _ => rfl) ?_)
      refine zw_call rfl (fun _ _ => rfl) (xMarkGifts sc (upd (upd (upd (upd I 39 (I 10)) 38 (-1)) 35 (nI (gat (uL V w) h).length)) 36 (nI k)) J (va_up (va_up A 15 g) 16 K) B tl K (li (gat (uL V w) h)) (gat (uL V w) h).length k hl hk rfl rfl hg (fun _ _ => rfl)) (by decide) ?_
      rintro M1 r1 ⟨rfl, I', A', B', rfl, e37, hG, hI, hA, hB⟩
      repeat (refine zw_go rfl rfl (fun _ _ => rfl) ?_)
      refine zw_call rfl (fun _ _ => rfl) (xFindLeast sc I' J A' B' tl (li (gat (uL V w) h)) K (gat (uL V w) h).length k hok hk hE (by rw [hI 35 (by decide)]; rfl) (by rw [hI 36 (by decide)]; rfl) e37 (fun t ht => by rw [hA 16 (by decide)]; rfl) hG) (by decide) ?_
      rintro M1 r1 ⟨rfl, n, c, g2, rfl, hcv, hg2⟩
      refine zw_ret rfl (fun _ _ => rfl) ?_
      refine ⟨rfl, _, _, _, rfl, Or.inr ⟨hl, K, k, n, c, hcv, rfl, hg2⟩, ?_, fun z hz => ?_, fun a ha => ?_, fun b hb => hB b (by omega) (by omega) (by omega)⟩
      · show I' 39 = _
        rw [hI 39 (by decide)]; rfl
      · unfold upd
        rw [if_neg (by omega), hI z (by omega)]
        unfold upd
        rw [if_neg (by omega), if_neg (by omega), if_neg (by omega), if_neg (by omega)]
      · unfold va_up
        rw [if_neg (by omega), hA a (by omega)]
        unfold va_up
        rw [if_neg (by omega), if_neg (by omega)]
/-- what a call of cover leaves -/
def CvQ (tl : sm_M) (w h : Nat) (I : Nat → Int32) (J : Nat → Int64) (A : Nat → Nat → Int32) (B : Nat → Nat → Int64) (M : sm_M) : Prop := ∃ I' A' B', M = xm I' J A' B' tl ∧ WH w h I' J A' B' ∧ (I' 39 = I' 6 → CvC I' A' (A 3) w h) ∧ (∀ z, z ≠ 9 → z ≠ 10 → z < 35 ∨ 39 < z → I' z = I z) ∧ (I' 39 = I 39 ∨ I' 39 = I 6) ∧ (∀ k, k ≠ 5 → k < 15 ∨ 18 < k → A' k = A k) ∧ (∀ k, 4 < k → k < 10 ∨ 12 < k → B' k = B k) ∧ (I' 10 = I 10 ∨ I' 10 = I 6)
set_option maxHeartbeats 4000000 in
set_option maxRecDepth 20000 in
theorem xTieAt (j : Nat) (hj : j < 5) : zC 1 sc 9 [.ref 33, .int (nI j)] (xm I J A B tl) (zR (xm I J A B tl) (.int (A 18 j))) := by
  refine zc_of hkX1_tieAt rfl ?_
  refine zw_nx rfl (fun _ _ => rfl) ?_
  first | refine zw_br rfl (fun _ _ => rfl) (fun h9 => absurd h9 (nI_neg (show j < 2 ^ 31 by omega))) (fun _ => ?_) | refine zw_nx rfl (fun _ _ => rfl) ?_
  repeat (refine zw_go rfl rfl (fun _ _ => rfl) ?_)
  refine zw_br rfl (fun _ _ => rfl) (fun h9 => absurd h9 (nI_ge (a := j) (b := 5) (by omega) (by omega))) (fun _ => ?_)
  repeat (refine zw_go rfl rfl (fun _ _ => rfl) ?_)
  refine zw_ix rfl (fun _ _ => rfl) (show vp_in (nI (j)) _ from vp_in_nI (by omega) (by omega)) ?_
  rw [show (nI (j)).toNatClampNeg = j from nI_clamp (by omega)]
  repeat (refine zw_go rfl rfl (fun _ _ => rfl) ?_)
  exact zw_ret rfl (fun _ _ => rfl) (⟨rfl, rfl⟩)
set_option maxHeartbeats 4000000 in
set_option maxRecDepth 20000 in
theorem xCover (x : Int32) (hW : WH w h I J A B) (hc : I 39 = I 6 → CvC I A (A 3) w h) : zC 12 sc 138 [.ref 0, .int x] (xm I J A B tl) (fun M r => ∃ q, r = some (.int q) ∧ CovAns (A 3) w h x q ∧ CvQ tl w h I J A B M) := by
  refine zc_of hkX10_cover rfl ?_
  repeat (refine zw_go rfl rfl (fun _ _ => rfl) ?_)
  refine zw_call rfl (fun _ _ => rfl) (xWv sc I J A B tl w h hW) (by decide) ?_
  rintro M1 r1 ⟨rfl, I', A', B', rfl, hW2, hC, hK⟩
  have hWW := hW2
  obtain ⟨h0, h1, h7, h8, hw1, hw, hh1, hh, hJ, hV, hC', hR⟩ := hW2
  rw [hK.2.2.1 3 (by decide)] at hV
  have i6 : I' 6 = I 6 := hK.1 6 (by decide) (by decide)
  repeat (refine zw_go rfl rfl (fun _ _ => rfl) ?_)
  refine zw_call rfl (fun _ _ => rfl) (xCvFind sc I' J A' B' tl w h (A 3) hh h8 hV (fun p hp => by rw [hC.1 p hp, hC.2.2.2.2.2.2]; rfl) (fun e => cvc_cong (hc (by rw [← hK.1 39 (by decide) (by decide), e, hK.2.1, i6])) (hK.1 38 (by decide) (by decide)) (hK.2.2.1 18 (by decide)))) (by decide) ?_
  rintro M1 r1 ⟨rfl, I2, A2, B2, rfl, hcv, e39, iK, aK, bK⟩
  have hQ : CvQ tl w h I J A B (xm I2 J A2 B2 tl) := by
    refine ⟨I2, A2, B2, rfl, wh_cong hWW (fun z hz => iK z (by omega)) rfl (fun a ha => aK a (by omega)) (fun b hb => bK b (by omega)), fun _ => hcv, fun z h9 h10 hz => ?_, Or.inr ?_, fun a h5 ha => ?_, fun b h4 hb => ?_, Or.inr ?_⟩
    · rw [iK z hz, hK.1 z h9 h10]
    · rw [e39, hK.2.1, i6]
    · rw [aK a ha, hK.2.2.1 a h5]
    · rw [bK b hb, hK.2.2.2 b h4]
    · rw [iK 10 (by omega), hK.2.1, i6]
  rcases hcv with ⟨hl, e38⟩ | ⟨hl, K, k, n, c, hcv, e38, hg⟩
  · repeat (refine zw_go rfl rfl (fun _ _ => rfl) ?_)
    refine zw_br rfl (fun _ _ => rfl) (fun (hx : x = -1) => ?_) (fun (hx : ¬ (x = -1)) => ?_)
    · repeat (refine zw_go rfl rfl (fun _ _ => rfl) ?_)
      exact zw_ret rfl (fun _ _ => rfl) (⟨_, rfl, Or.inl ⟨hl, e38⟩, hQ⟩)
    · refine zw_nx rfl (fun _ _ => rfl) ?_
      refine zw_br rfl (fun _ _ => rfl) (fun (hx0 : x < 0) => ?_) (fun (hx0 : ¬ (x < 0)) => ?_)
      · repeat (refine zw_go rfl rfl (fun _ _ => rfl) ?_)
        exact zw_ret rfl (fun _ _ => rfl) (⟨_, rfl, Or.inl ⟨hl, rfl⟩, hQ⟩)
      · repeat (refine zw_go rfl rfl (fun _ _ => rfl) ?_)
        rw [e38]
        first | refine zw_br rfl (fun _ _ => rfl) (fun _ => ?_) (fun h9 => absurd (show (-1 : Int32) ≤ x from Int32.le_trans (by decide) (Int32.not_lt.mp hx0)) h9) | refine zw_nx rfl (fun _ _ => rfl) ?_
        repeat (refine zw_go rfl rfl (fun _ _ => rfl) ?_)
        exact zw_ret rfl (fun _ _ => rfl) (⟨_, rfl, Or.inl ⟨hl, rfl⟩, hQ⟩)
  · have hn := cvl_n (gat_ok hV hl) hcv
    repeat (refine zw_go rfl rfl (fun _ _ => rfl) ?_)
    refine zw_br rfl (fun _ _ => rfl) (fun (hx : x = -1) => ?_) (fun (hx : ¬ (x = -1)) => ?_)
    · repeat (refine zw_go rfl rfl (fun _ _ => rfl) ?_)
      exact zw_ret rfl (fun _ _ => rfl) (⟨_, rfl, Or.inr ⟨hl, K, k, n, c, hcv, by rw [if_pos hx]; exact e38⟩, hQ⟩)
    · refine zw_nx rfl (fun _ _ => rfl) ?_
      refine zw_br rfl (fun _ _ => rfl) (fun (hx0 : x < 0) => ?_) (fun (hx0 : ¬ (x < 0)) => ?_)
      · repeat (refine zw_go rfl rfl (fun _ _ => rfl) ?_)
        exact zw_ret rfl (fun _ _ => rfl) (⟨_, rfl, Or.inr ⟨hl, K, k, n, c, hcv, by rw [if_neg hx, if_neg (fun z => Int32.not_lt.mpr z.1 hx0)]; rfl⟩, hQ⟩)
      · repeat (refine zw_go rfl rfl (fun _ _ => rfl) ?_)
        rw [e38]
        refine zw_br rfl (fun _ _ => rfl) (fun (hxn : nI n ≤ x) => ?_) (fun (hxn : ¬ (nI n ≤ x)) => ?_)
        · repeat (refine zw_go rfl rfl (fun _ _ => rfl) ?_)
          exact zw_ret rfl (fun _ _ => rfl) (⟨_, rfl, Or.inr ⟨hl, K, k, n, c, hcv, by rw [if_neg hx, if_neg (fun z => Int32.not_lt.mpr hxn z.2)]; rfl⟩, hQ⟩)
        · have hin : 0 ≤ x ∧ x < nI n := ⟨Int32.not_lt.mp hx0, Int32.not_le.mp hxn⟩
          obtain ⟨j, hj, rfl⟩ := inR_of hin (by omega)
          repeat (refine zw_go rfl rfl (fun _ _ => rfl) ?_)
          refine zw_call rfl (fun _ _ => rfl) (xTieAt sc I2 J A2 B2 tl j (by omega)) (by decide) ?_
          rintro M1 r1 ⟨rfl, rfl⟩
          repeat (refine zw_go rfl rfl (fun _ _ => rfl) ?_)
          exact zw_ret rfl (fun _ _ => rfl) (⟨_, rfl, Or.inr ⟨hl, K, k, n, c, hcv, by rw [if_neg hx, if_pos hin, nI_clamp (by omega), hg j hj]⟩, hQ⟩)
end

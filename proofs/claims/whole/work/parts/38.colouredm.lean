/-! the reference: coloured, isAlike, period -/
/-- alike by n along ENDS or PICKS -/
def alk (V : Nat → Int32) (c ends : Bool) (w h n : Nat) : Prop := ∀ e p, e < w → p < h → (if ends then e + n < w else p + n < h) → PF V c e p = PF V c (if ends then e + n else e) (if ends then p else p + n)
/-- the least period -/
def Per (P : Nat → Prop) (most m : Nat) : Prop := 1 ≤ m ∧ m ≤ most ∧ (m < most → P m) ∧ ∀ i, 1 ≤ i → i < m → ¬ P i
theorem per_uniq {P : Nat → Prop} {most a b : Nat} (ha : Per P most a) (hb : Per P most b) : a = b := by
  obtain ⟨a1, a2, a3, a4⟩ := ha
  obtain ⟨b1, b2, b3, b4⟩ := hb
  rcases Nat.lt_or_ge a b with h | h
  · exact absurd (a3 (by omega)) (b4 a a1 h)
  · rcases Nat.lt_or_ge b a with h2 | h2
    · exact absurd (b3 (by omega)) (a4 b b1 h2)
    · omega
section
variable (sc : sm_S) (I : Nat → Int32) (J : Nat → Int64) (A : Nat → Nat → Int32) (B : Nat → Nat → Int64) (tl : sm_M) (f : Nat → va_E) (w h n : Nat) (V : Nat → Int32)
set_option maxHeartbeats 4000000 in
set_option maxRecDepth 20000 in
theorem mColoured (c : Int32) (hM : MH I A w h n V) : zC 6 sc 223 [.ref 47, .int c] (mm f I A B) (fun M r => r = some (.int (if 0 ≤ c ∧ c < 10 then nI (nCol V c w h) else -1)) ∧ MR f I A B M) := by
  have hM' := hM
  obtain ⟨h0, h1, hw1, hw, hh1, hh, h4, hn, hv, hV⟩ := hM
  refine zc_of hkX11_coloured rfl ?_
  repeat (refine zw_go rfl rfl (fun _ _ => rfl) ?_)
  refine zw_call rfl (fun _ _ => rfl) (mIsIn sc (mm f I A B) c 0 9) (by decide) ?_
  rintro M1 r1 ⟨rfl, rfl⟩
  have e9 : (0 ≤ c ∧ c ≤ 9) ↔ (0 ≤ c ∧ c < 10) := by
    have := le_pred (x := c) (w := 10) (by omega) (by omega)
    rw [show nI 10 - 1 = 9 from by decide, show nI 10 = 10 from rfl] at this
    rw [this]
  repeat (refine zw_go rfl rfl (fun _ _ => rfl) ?_)
  refine zw_br rfl (fun _ _ => rfl) (fun (hc : bI (0 ≤ c ∧ c ≤ 9) = 0) => ?_) (fun (hc : ¬ (bI (0 ≤ c ∧ c ≤ 9) = 0)) => ?_)
  · repeat (refine zw_go rfl rfl (fun _ _ => rfl) ?_)
    refine zw_ret rfl (fun _ _ => rfl) ?_
    exact ⟨by rw [if_neg (fun z => bI_0.mp hc (e9.mpr z))]; rfl, I, A, B, rfl, mk_rfl⟩
  · rw [if_pos (e9.mp (bI_of hc))]
    repeat (refine zw_go rfl rfl (fun _ _ => rfl) ?_)
    refine zw_call rfl (fun _ _ => rfl) (mPaint sc I A B f w h n V true hM') (by decide) ?_
    rintro M1 r1 ⟨rfl, A', B', rfl, hK, hP⟩
    repeat (refine zw_go rfl rfl (fun _ _ => rfl) ?_)
    have key : ∀ (k x : Nat), x + k = w → zW 5 sc miX11_coloured 21 [some (.ref 47), some (.int c), some (.int (nI (sumN (fun e => cnt (fun p => decide (vCol V e p = c)) h) x))), some (.int (nI x)), none] [] (mm f I A' B') (fun M r => r = some (.int (nI (nCol V c w h))) ∧ MR f I A B M) := by
      intro k
      induction k with
      | zero =>
        intro x hx
        have e1 : x = w := by omega
        subst e1
        refine zw_nx rfl (fun _ _ => rfl) ?_
        repeat (refine zw_go rfl rfl (fun _ _ => rfl) ?_)
        first | refine zw_br rfl (fun _ _ => rfl) (fun _ => ?_) (fun h9 => absurd (show I 0 ≤ nI x by rw [h0]; exact Int32.le_refl _) h9) | refine zw_nx rfl (fun _ _ => rfl) ?_
        repeat (refine zw_go rfl rfl (fun _ _ => rfl) ?_)
        refine zw_ret rfl (fun _ _ => rfl) ?_
        refine ⟨?_, I, A', B', rfl, hK⟩
        have e2 : sumN (fun e => cnt (fun p => decide (vCol V e p = c)) h) x = nCol V c x h := by
          unfold nCol
          rw [sumN_cong (fun e _ => cnt_sum), sumN_swap]
          exact sumN_cong (fun p _ => cnt_sum.symm)
        rw [e2]
      | succ k ih =>
        intro x hx
        have hn1 := ih (x + 1) (by omega)
        rw [nI_succ, sumN] at hn1
        have inner : ∀ (k y : Nat), y + k = h → zW 5 sc miX11_coloured 32 [some (.ref 47), some (.int c), some (.int (nI (sumN (fun e => cnt (fun p => decide (vCol V e p = c)) h) x + cnt (fun p => decide (vCol V x p = c)) y))), some (.int (nI x)), some (.int (nI y))] [] (mm f I A' B') (fun M r => r = some (.int (nI (nCol V c w h))) ∧ MR f I A B M) := by
          intro k
          induction k with
          | zero =>
            intro y hy
            have e1 : y = h := by omega
            subst e1
            refine zw_nx rfl (fun _ _ => rfl) ?_
            repeat (refine zw_go rfl rfl (fun _ _ => rfl) ?_)
            first | refine zw_br rfl (fun _ _ => rfl) (fun _ => ?_) (fun h9 => absurd (show I 1 ≤ nI y by rw [h1]; exact Int32.le_refl _) h9) | refine zw_nx rfl (fun _ _ => rfl) ?_
            repeat (refine zw_go rfl rfl (fun _ _ => rfl) ?_)
            exact zw_kp hn1
          | succ k ih2 =>
            intro y hy
            have hn2 := ih2 (y + 1) (by omega)
            rw [nI_succ, cnt] at hn2
            refine zw_nx rfl (fun _ _ => rfl) ?_
            repeat (refine zw_go rfl rfl (fun _ _ => rfl) ?_)
            first | refine zw_br rfl (fun _ _ => rfl) (fun h9 => absurd h9 (show ¬ I 1 ≤ nI y by rw [h1]; exact nI_ge (by omega) (by omega))) (fun _ => ?_) | refine zw_nx rfl (fun _ _ => rfl) ?_
            repeat (refine zw_go rfl rfl (fun _ _ => rfl) ?_)
            rw [show (Int8.ofInt 48).toInt32 * nI y + nI x = nI (48 * y + x) from by rw [show (Int8.ofInt 48).toInt32 = nI 48 from rfl, nI_mul, nI_add]]
            refine zw_ix rfl (fun _ _ => rfl) (show vp_in (nI (48 * y + x)) 2304 from vp_in_nI (by omega) (by decide)) ?_
            rw [show (nI (48 * y + x)).toNatClampNeg = 48 * y + x from nI_clamp (by omega), show A' 21 (48 * y + x) = vCol V x y from hP x y (by omega) (by omega)]
            repeat (refine zw_go rfl rfl (fun _ _ => rfl) ?_)
            refine zw_br rfl (fun _ _ => rfl) (fun (hc2 : vCol V x y = c) => ?_) (fun (hc2 : ¬ (vCol V x y = c)) => ?_)
            · rw [if_pos (decide_eq_true hc2), ← Nat.add_assoc, ← nI_1] at hn2
              repeat (refine zw_go rfl rfl (fun _ _ => rfl) ?_)
              exact zw_kp hn2
            · rw [if_neg (by simpa using hc2), Nat.add_zero] at hn2
              repeat (refine zw_go rfl rfl (fun _ _ => rfl) ?_)
              rw [show ∀ q : Int32, q + Int32.ofInt 0 = q from fun q => Int32.add_zero q]
              exact zw_kp hn2
        refine zw_nx rfl (fun _ _ => rfl) ?_
        repeat (refine zw_go rfl rfl (fun _ _ => rfl) ?_)
        first | refine zw_br rfl (fun _ _ => rfl) (fun h9 => absurd h9 (show ¬ I 0 ≤ nI x by rw [h0]; exact nI_ge (by omega) (by omega))) (fun _ => ?_) | refine zw_nx rfl (fun _ _ => rfl) ?_
        repeat (refine zw_go rfl rfl (fun _ _ => rfl) ?_)
        exact zw_kp (inner h 0 (by omega))
    exact zw_kp (key w 0 (by omega))
set_option maxHeartbeats 4000000 in
set_option maxRecDepth 20000 in
theorem mAlike (c ends : Bool) (m : Nat) (h0 : I 0 = nI w) (h1 : I 1 = nI h) (hw : w ≤ 48) (hh : h ≤ 48) (hm : if ends then m < w else m < h) (hP : ∀ e p, e < w → p < h → A 21 (48 * p + e) = PF V c e p) : zC 1 sc 224 [.ref 47, .int (bb ends), .int (nI m)] (mm f I A B) (fun M r => M = mm f I A B ∧ ((alk V c ends w h m ∧ r = some (.int 1)) ∨ (¬ alk V c ends w h m ∧ r = some (.int 0)))) := by
  refine zc_of hkX11_isAlike rfl ?_
  repeat (refine zw_go rfl rfl (fun _ _ => rfl) ?_)
  have key : ∀ (k x : Nat), x + k = (if ends then w - m else w) → (∀ e p, e < x → e < w → p < h → (if ends then e + m < w else p + m < h) → PF V c e p = PF V c (if ends then e + m else e) (if ends then p else p + m)) → zW 0 sc miX11_isAlike 2 [some (.ref 47), some (.int (bb ends)), some (.int (nI m)), some (.int (nI x)), none] [] (mm f I A B) (fun M r => M = mm f I A B ∧ ((alk V c ends w h m ∧ r = some (.int 1)) ∨ (¬ alk V c ends w h m ∧ r = some (.int 0)))) := by
    intro k
    induction k with
    | zero =>
      intro x hx hl
      have hal : alk V c ends w h m := by
        intro e p he hp hc
        refine hl e p ?_ he hp hc
        cases ends <;> simp at hx hc <;> omega
      cases ends
      · simp at hx
        subst hx
        refine zw_nx rfl (fun _ _ => rfl) ?_
        repeat (refine zw_go rfl rfl (fun _ _ => rfl) ?_)
        first | refine zw_br rfl (fun _ _ => rfl) (fun _ => ?_) (fun h9 => absurd (show I 0 - Int32.ofInt 0 ≤ nI x by rw [h0]; exact Int32.le_of_eq (Int32.sub_zero _)) h9) | refine zw_nx rfl (fun _ _ => rfl) ?_
        repeat (refine zw_go rfl rfl (fun _ _ => rfl) ?_)
        refine zw_ret rfl (fun _ _ => rfl) ?_
        exact ⟨rfl, Or.inl ⟨hal, rfl⟩⟩
      · simp at hx hm
        subst hx
        refine zw_nx rfl (fun _ _ => rfl) ?_
        repeat (refine zw_go rfl rfl (fun _ _ => rfl) ?_)
        first | refine zw_br rfl (fun _ _ => rfl) (fun _ => ?_) (fun h9 => absurd (show I 0 - nI m ≤ nI (w - m) by rw [h0, nI_sub (by omega)]; exact Int32.le_refl _) h9) | refine zw_nx rfl (fun _ _ => rfl) ?_
        repeat (refine zw_go rfl rfl (fun _ _ => rfl) ?_)
        refine zw_ret rfl (fun _ _ => rfl) ?_
        exact ⟨rfl, Or.inl ⟨hal, rfl⟩⟩
    | succ k ih =>
      intro x hx hl
      have hn1 := ih (x + 1) (by omega)
      have hxw : x < w := by cases ends <;> simp at hx <;> omega
      rw [nI_succ] at hn1
      have inner : ∀ (k y : Nat), y + k = (if ends then h else h - m) → (∀ p, p < y → PF V c x p = PF V c (if ends then x + m else x) (if ends then p else p + m)) → zW 0 sc miX11_isAlike 23 [some (.ref 47), some (.int (bb ends)), some (.int (nI m)), some (.int (nI x)), some (.int (nI y))] [] (mm f I A B) (fun M r => M = mm f I A B ∧ ((alk V c ends w h m ∧ r = some (.int 1)) ∨ (¬ alk V c ends w h m ∧ r = some (.int 0)))) := by
        intro k
        induction k with
        | zero =>
          intro y hy hl2
          have hn3 := hn1 (fun e p he hew hp hc => by
            by_cases h5 : e = x
            · subst h5
              refine hl2 p ?_
              cases ends <;> simp at hy hc <;> omega
            · exact hl e p (by omega) hew hp hc)
          cases ends
          · simp at hy hm
            subst hy
            refine zw_nx rfl (fun _ _ => rfl) ?_
            repeat (refine zw_go rfl rfl (fun _ _ => rfl) ?_)
            first | refine zw_br rfl (fun _ _ => rfl) (fun _ => ?_) (fun h9 => absurd (show I 1 - nI m ≤ nI (h - m) by rw [h1, nI_sub (by omega)]; exact Int32.le_refl _) h9) | refine zw_nx rfl (fun _ _ => rfl) ?_
            repeat (refine zw_go rfl rfl (fun _ _ => rfl) ?_)
            exact zw_kp hn3
          · simp at hy
            subst hy
            refine zw_nx rfl (fun _ _ => rfl) ?_
            repeat (refine zw_go rfl rfl (fun _ _ => rfl) ?_)
            first | refine zw_br rfl (fun _ _ => rfl) (fun _ => ?_) (fun h9 => absurd (show I 1 - Int32.ofInt 0 ≤ nI y by rw [h1]; exact Int32.le_of_eq (Int32.sub_zero _)) h9) | refine zw_nx rfl (fun _ _ => rfl) ?_
            repeat (refine zw_go rfl rfl (fun _ _ => rfl) ?_)
            exact zw_kp hn3
        | succ k ih2 =>
          intro y hy hl2
          have hyh : y < h := by cases ends <;> simp at hy <;> omega
          have hn2 := ih2 (y + 1) (by omega)
          rw [nI_succ] at hn2
          cases ends
          · simp at hy hm hx
            refine zw_nx rfl (fun _ _ => rfl) ?_
            repeat (refine zw_go rfl rfl (fun _ _ => rfl) ?_)
            first | refine zw_br rfl (fun _ _ => rfl) (fun h9 => absurd h9 (show ¬ I 1 - nI m ≤ nI y by rw [h1, nI_sub (by omega)]; exact nI_ge (by omega) (by omega))) (fun _ => ?_) | refine zw_nx rfl (fun _ _ => rfl) ?_
            repeat (refine zw_go rfl rfl (fun _ _ => rfl) ?_)
            rw [show (Int8.ofInt 48).toInt32 * nI y + nI x = nI (48 * y + x) from by rw [show (Int8.ofInt 48).toInt32 = nI 48 from rfl, nI_mul, nI_add]]
            refine zw_ix rfl (fun _ _ => rfl) (show vp_in (nI (48 * y + x)) 2304 from vp_in_nI (by omega) (by decide)) ?_
            rw [show (nI (48 * y + x)).toNatClampNeg = 48 * y + x from nI_clamp (by omega), show A 21 (48 * y + x) = PF V c x y from hP x y (by omega) (by omega)]
            repeat (refine zw_go rfl rfl (fun _ _ => rfl) ?_)
            rw [show (Int8.ofInt 48).toInt32 * (nI y + nI m) + nI x = nI (48 * (y + m) + x) from by rw [show (Int8.ofInt 48).toInt32 = nI 48 from rfl, nI_add, nI_mul, nI_add]]
            refine zw_ix rfl (fun _ _ => rfl) (show vp_in (nI (48 * (y + m) + x)) 2304 from vp_in_nI (by omega) (by decide)) ?_
            rw [show (nI (48 * (y + m) + x)).toNatClampNeg = 48 * (y + m) + x from nI_clamp (by omega), show A 21 (48 * (y + m) + x) = PF V c x (y + m) from hP x (y + m) (by omega) (by omega)]
            repeat (refine zw_go rfl rfl (fun _ _ => rfl) ?_)
            refine zw_br rfl (fun _ _ => rfl) (fun (hc2 : PF V c x y = PF V c x (y + m)) => ?_) (fun (hc2 : ¬ (PF V c x y = PF V c x (y + m))) => ?_)
            · repeat (refine zw_go rfl rfl (fun _ _ => rfl) ?_)
              exact zw_kp (hn2 (fun p hp => by
                by_cases h5 : p = y
                · subst h5; exact hc2
                · exact hl2 p (by omega)))
            · repeat (refine zw_go rfl rfl (fun _ _ => rfl) ?_)
              refine zw_ret rfl (fun _ _ => rfl) ?_
              exact ⟨rfl, Or.inr ⟨fun z => hc2 (z x y hxw hyh (show y + m < h by omega)), rfl⟩⟩
          · simp at hy hm hx
            refine zw_nx rfl (fun _ _ => rfl) ?_
            repeat (refine zw_go rfl rfl (fun _ _ => rfl) ?_)
            first | refine zw_br rfl (fun _ _ => rfl) (fun h9 => absurd h9 (show ¬ I 1 - Int32.ofInt 0 ≤ nI y by rw [h1, show nI h - Int32.ofInt 0 = nI h from Int32.sub_zero _]; exact nI_ge (by omega) (by omega))) (fun _ => ?_) | refine zw_nx rfl (fun _ _ => rfl) ?_
            repeat (refine zw_go rfl rfl (fun _ _ => rfl) ?_)
            rw [show (Int8.ofInt 48).toInt32 * nI y + nI x = nI (48 * y + x) from by rw [show (Int8.ofInt 48).toInt32 = nI 48 from rfl, nI_mul, nI_add]]
            refine zw_ix rfl (fun _ _ => rfl) (show vp_in (nI (48 * y + x)) 2304 from vp_in_nI (by omega) (by decide)) ?_
            rw [show (nI (48 * y + x)).toNatClampNeg = 48 * y + x from nI_clamp (by omega), show A 21 (48 * y + x) = PF V c x y from hP x y (by omega) (by omega)]
            repeat (refine zw_go rfl rfl (fun _ _ => rfl) ?_)
            rw [show (Int8.ofInt 48).toInt32 * nI y + (nI x + nI m) = nI (48 * y + (x + m)) from by rw [show (Int8.ofInt 48).toInt32 = nI 48 from rfl, nI_mul, nI_add, nI_add]]
            refine zw_ix rfl (fun _ _ => rfl) (show vp_in (nI (48 * y + (x + m))) 2304 from vp_in_nI (by omega) (by decide)) ?_
            rw [show (nI (48 * y + (x + m))).toNatClampNeg = 48 * y + (x + m) from nI_clamp (by omega), show A 21 (48 * y + (x + m)) = PF V c (x + m) y from hP (x + m) y (by omega) (by omega)]
            repeat (refine zw_go rfl rfl (fun _ _ => rfl) ?_)
            refine zw_br rfl (fun _ _ => rfl) (fun (hc2 : PF V c x y = PF V c (x + m) y) => ?_) (fun (hc2 : ¬ (PF V c x y = PF V c (x + m) y)) => ?_)
            · repeat (refine zw_go rfl rfl (fun _ _ => rfl) ?_)
              exact zw_kp (hn2 (fun p hp => by
                by_cases h5 : p = y
                · subst h5; exact hc2
                · exact hl2 p (by omega)))
            · repeat (refine zw_go rfl rfl (fun _ _ => rfl) ?_)
              refine zw_ret rfl (fun _ _ => rfl) ?_
              exact ⟨rfl, Or.inr ⟨fun z => hc2 (z x y hxw hyh (show x + m < w by omega)), rfl⟩⟩
      cases ends
      · simp at hx
        refine zw_nx rfl (fun _ _ => rfl) ?_
        repeat (refine zw_go rfl rfl (fun _ _ => rfl) ?_)
        first | refine zw_br rfl (fun _ _ => rfl) (fun h9 => absurd h9 (show ¬ I 0 - Int32.ofInt 0 ≤ nI x by rw [h0, show nI w - Int32.ofInt 0 = nI w from Int32.sub_zero _]; exact nI_ge (by omega) (by omega))) (fun _ => ?_) | refine zw_nx rfl (fun _ _ => rfl) ?_
        repeat (refine zw_go rfl rfl (fun _ _ => rfl) ?_)
        exact zw_kp (inner (h - m) 0 (by simp) (fun p hp => by omega))
      · simp at hx hm
        refine zw_nx rfl (fun _ _ => rfl) ?_
        repeat (refine zw_go rfl rfl (fun _ _ => rfl) ?_)
        first | refine zw_br rfl (fun _ _ => rfl) (fun h9 => absurd h9 (show ¬ I 0 - nI m ≤ nI x by rw [h0, nI_sub (by omega)]; exact nI_ge (by omega) (by omega))) (fun _ => ?_) | refine zw_nx rfl (fun _ _ => rfl) ?_
        repeat (refine zw_go rfl rfl (fun _ _ => rfl) ?_)
        exact zw_kp (inner h 0 (by simp) (fun p hp => by omega))
  cases ends
  · exact zw_kp (key w 0 (by simp) (fun e p he => by omega))
  · exact zw_kp (key (w - m) 0 (by simp) (fun e p he => by omega))
set_option maxHeartbeats 4000000 in
set_option maxRecDepth 20000 in
theorem mPeriod (c ends : Bool) (hM : MH I A w h n V) : zC 6 sc 225 [.ref 47, .int (bb ends), .int (bb c)] (mm f I A B) (fun M r => (∃ m, r = some (.int (nI m)) ∧ Per (alk V c ends w h) (if ends then w else h) m) ∧ MR f I A B M) := by
  have hM' := hM
  obtain ⟨h0, h1, hw1, hw, hh1, hh, h4, hn, hv, hV⟩ := hM
  refine zc_of hkX11_period rfl ?_
  repeat (refine zw_go rfl rfl (fun _ _ => rfl) ?_)
  refine zw_call rfl (fun _ _ => rfl) (mPaint sc I A B f w h n V c hM') (by decide) ?_
  rintro M1 r1 ⟨rfl, A', B', rfl, hK, hP⟩
  have key : ∀ (k m : Nat), 1 ≤ m → m + k = (if ends then w else h) → (∀ i, 1 ≤ i → i < m → ¬ alk V c ends w h i) → zW 5 sc miX11_period 24 [some (.ref 47), some (.int (bb ends)), none, some (.int (nI (if ends then w else h))), some (.int (nI m))] [] (mm f I A' B') (fun M r => (∃ m, r = some (.int (nI m)) ∧ Per (alk V c ends w h) (if ends then w else h) m) ∧ MR f I A B M) := by
    have hmost : (if ends then w else h) ≤ 48 := by split <;> omega
    intro k
    induction k with
    | zero =>
      intro m hm1 hm hl
      refine zw_nx rfl (fun _ _ => rfl) ?_
      repeat (refine zw_go rfl rfl (fun _ _ => rfl) ?_)
      first | refine zw_br rfl (fun _ _ => rfl) (fun _ => ?_) (fun h9 => absurd (show nI (if ends then w else h) ≤ nI m from nI_le (by omega) (by omega)) h9) | refine zw_nx rfl (fun _ _ => rfl) ?_
      repeat (refine zw_go rfl rfl (fun _ _ => rfl) ?_)
      refine zw_ret rfl (fun _ _ => rfl) ?_
      exact ⟨⟨m, rfl, hm1, by omega, fun z => by omega, hl⟩, I, A', B', rfl, hK⟩
    | succ k ih =>
      intro m hm1 hm hl
      have hn1 := ih (m + 1) (by omega) (by omega)
      rw [nI_succ] at hn1
      refine zw_nx rfl (fun _ _ => rfl) ?_
      repeat (refine zw_go rfl rfl (fun _ _ => rfl) ?_)
      first | refine zw_br rfl (fun _ _ => rfl) (fun h9 => absurd h9 (show ¬ nI (if ends then w else h) ≤ nI m from nI_ge (by omega) (by omega))) (fun _ => ?_) | refine zw_nx rfl (fun _ _ => rfl) ?_
      repeat (refine zw_go rfl rfl (fun _ _ => rfl) ?_)
      refine zw_call rfl (fun _ _ => rfl) (mAlike sc I A' B' f w h V c ends m h0 h1 hw hh (by cases ends <;> simp at hm ⊢ <;> omega) hP) (by decide) ?_
      rintro M1 r1 ⟨rfl, ⟨ha, rfl⟩ | ⟨ha, rfl⟩⟩
      · repeat (refine zw_go rfl rfl (fun _ _ => rfl) ?_)
        refine zw_ret rfl (fun _ _ => rfl) ?_
        exact ⟨⟨m, rfl, hm1, by omega, fun _ => ha, hl⟩, I, A', B', rfl, hK⟩
      · repeat (refine zw_go rfl rfl (fun _ _ => rfl) ?_)
        exact zw_kp (hn1 (fun i hi hi2 => by
          by_cases h5 : i = m
          · subst h5; exact ha
          · exact hl i hi (by omega)))
  cases ends
  · repeat (refine zw_go rfl rfl (fun _ _ => rfl) ?_)
    rw [h1]
    repeat (refine zw_go rfl rfl (fun _ _ => rfl) ?_)
    exact zw_kp (key (h - 1) 1 (by omega) (by simp; omega) (fun i h5 h6 => by omega))
  · repeat (refine zw_go rfl rfl (fun _ _ => rfl) ?_)
    rw [h0]
    repeat (refine zw_go rfl rfl (fun _ _ => rfl) ?_)
    exact zw_kp (key (w - 1) 1 (by omega) (by simp; omega) (fun i h5 h6 => by omega))
end

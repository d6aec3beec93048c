/-! the reference: paint, coloured -/
theorem nI_mul (a b : Nat) : nI a * nI b = nI (a * b) := (Int32.ofNat_mul a b).symm
def bb : Bool → Int32
  | true => 1
  | false => 0
/-- what is painted, first and at last -/
def PF0 (V : Nat → Int32) (c : Bool) (e p : Nat) : Int32 := if c then (if vUp V e p then V (112 + e) else -1) else (if vUp V e p then 1 else 0)
def PF (V : Nat → Int32) (c : Bool) (e p : Nat) : Int32 := if c then vCol V e p else (if vUp V e p then 1 else 0)
theorem nI_neg {q : Nat} (h : q < 2 ^ 31) : ¬ nI q < 0 := nI_pos h
section
variable (sc : sm_S) (I : Nat → Int32) (J : Nat → Int64) (A : Nat → Nat → Int32) (B : Nat → Nat → Int64) (tl : sm_M) (f : Nat → va_E) (w h n : Nat) (V : Nat → Int32)
set_option maxHeartbeats 4000000 in
set_option maxRecDepth 20000 in
theorem mPaint_in (c : Bool) (Post : sm_M → Option Value → Prop) (hM : MH I A w h n V) (hB : ∀ p, p < h → B 0 p = mk (fun e => vUp V e p) w) (x : Nat) (hx : x < w) (hK : ∀ g, (∀ e p, e < x + 1 → p < h → g (48 * p + e) = PF0 V c e p) → zW 4 sc miX11_paint 101 [some (.ref 47), some (.int (bb c)), some (.int (nI x)), some (.int (V (112 + x))), some (.int (nI h)), none] [] (mm f I (va_up A 21 g) B) Post) : ∀ (k y : Nat), y + k = h → ∀ g, (∀ e p, e < x → p < h → g (48 * p + e) = PF0 V c e p) → (∀ p, p < y → g (48 * p + x) = PF0 V c x p) → zW 4 sc miX11_paint 24 [some (.ref 47), some (.int (bb c)), some (.int (nI x)), some (.int (V (112 + x))), some (.int (nI y)), none] [] (mm f I (va_up A 21 g) B) Post := by
  obtain ⟨h0, h1, hw1, hw, hh1, hh, h4, hn, hv, hV⟩ := hM
  intro k
  induction k with
  | zero =>
    intro y hy g hg1 hg2
    have e1 : y = h := by omega
    subst e1
    refine zw_nx rfl (fun _ _ => rfl) ?_
    repeat (refine zw_go rfl rfl (fun _ _ => rfl) ?_)
    first | refine zw_br rfl (fun _ _ => rfl) (fun _ => ?_) (fun h9 => absurd (show I 1 ≤ nI y by rw [h1]; exact Int32.le_refl _) h9) | refine zw_nx rfl (fun _ _ => rfl) ?_
    refine hK g (fun e p he hp => ?_)
    by_cases h5 : e = x
    · subst h5; exact hg2 p hp
    · exact hg1 e p (by omega) hp
  | succ k ih =>
    intro y hy g hg1 hg2
    have hn := ih (y + 1) (by omega) (upd g (48 * y + x) (PF0 V c x y)) (fun e p he hp => by rw [pk_un (by omega)]; exact hg1 e p he hp) (fun p hp => by
      by_cases h5 : p = y
      · subst h5; exact pk_us
      · rw [pk_un (by omega)]; exact hg2 p (by omega))
    rw [nI_succ] at hn
    have hb : lb (B 0 y) x = vUp V x y := by rw [hB y (by omega), lb_mk_in (by omega) hx]
    refine zw_nx rfl (fun _ _ => rfl) ?_
    repeat (refine zw_go rfl rfl (fun _ _ => rfl) ?_)
    first | refine zw_br rfl (fun _ _ => rfl) (fun h9 => absurd h9 (show ¬ I 1 ≤ nI y by rw [h1]; exact nI_ge (by omega) (by omega))) (fun _ => ?_) | refine zw_nx rfl (fun _ _ => rfl) ?_
    repeat (refine zw_go rfl rfl (fun _ _ => rfl) ?_)
    refine zw_ix rfl (fun _ _ => rfl) (show vp_in (nI (y)) _ from vp_in_nI (by omega) (by omega)) ?_
    rw [show (nI (y)).toNatClampNeg = y from nI_clamp (by omega)]
    repeat (refine zw_go rfl rfl (fun _ _ => rfl) ?_)
    unfold PF0 at hn
    refine zw_br rfl (fun _ _ => rfl) (fun (hc : lg_cmp ((B 0 y >>> ((nI x).toInt64 &&& 63)) &&& 1) 1 = 0) => ?_) (fun (hc : ¬ (lg_cmp ((B 0 y >>> ((nI x).toInt64 &&& 63)) &&& 1) 1 = 0)) => ?_)
    · have hu : vUp V x y = true := by rw [← hb]; exact (lcb1 _ (by omega)).mp hc
      rw [hu] at hn
      cases c
      · repeat (refine zw_go rfl rfl (fun _ _ => rfl) ?_)
        rw [show (Int8.ofInt 48).toInt32 * nI y + nI x = nI (48 * y + x) from by rw [show (Int8.ofInt 48).toInt32 = nI 48 from rfl, nI_mul, nI_add]]
        refine zw_ix rfl (fun _ _ => rfl) (show vp_in (nI (48 * y + x)) 2304 from vp_in_nI (by omega) (by decide)) ?_
        rw [show (nI (48 * y + x)).toNatClampNeg = 48 * y + x from nI_clamp (by omega)]
        repeat (refine zw_go rfl rfl (fun _ _ => rfl) ?_)
        exact zw_kp hn
      · repeat (refine zw_go rfl rfl (fun _ _ => rfl) ?_)
        rw [show (Int8.ofInt 48).toInt32 * nI y + nI x = nI (48 * y + x) from by rw [show (Int8.ofInt 48).toInt32 = nI 48 from rfl, nI_mul, nI_add]]
        refine zw_ix rfl (fun _ _ => rfl) (show vp_in (nI (48 * y + x)) 2304 from vp_in_nI (by omega) (by decide)) ?_
        rw [show (nI (48 * y + x)).toNatClampNeg = 48 * y + x from nI_clamp (by omega)]
        repeat (refine zw_go rfl rfl (fun _ _ => rfl) ?_)
        exact zw_kp hn
    · have hu : vUp V x y = false := by
        cases h6 : vUp V x y
        · rfl
        · exact absurd ((lcb1 _ (by omega)).mpr (hb.trans h6)) hc
      rw [hu] at hn
      cases c
      · repeat (refine zw_go rfl rfl (fun _ _ => rfl) ?_)
        rw [show (Int8.ofInt 48).toInt32 * nI y + nI x = nI (48 * y + x) from by rw [show (Int8.ofInt 48).toInt32 = nI 48 from rfl, nI_mul, nI_add]]
        refine zw_ix rfl (fun _ _ => rfl) (show vp_in (nI (48 * y + x)) 2304 from vp_in_nI (by omega) (by decide)) ?_
        rw [show (nI (48 * y + x)).toNatClampNeg = 48 * y + x from nI_clamp (by omega)]
        repeat (refine zw_go rfl rfl (fun _ _ => rfl) ?_)
        exact zw_kp hn
      · repeat (refine zw_go rfl rfl (fun _ _ => rfl) ?_)
        rw [show (Int8.ofInt 48).toInt32 * nI y + nI x = nI (48 * y + x) from by rw [show (Int8.ofInt 48).toInt32 = nI 48 from rfl, nI_mul, nI_add]]
        refine zw_ix rfl (fun _ _ => rfl) (show vp_in (nI (48 * y + x)) 2304 from vp_in_nI (by omega) (by decide)) ?_
        rw [show (nI (48 * y + x)).toNatClampNeg = 48 * y + x from nI_clamp (by omega)]
        repeat (refine zw_go rfl rfl (fun _ _ => rfl) ?_)
        exact zw_kp hn
set_option maxHeartbeats 4000000 in
set_option maxRecDepth 20000 in
theorem mPaint_1 (c : Bool) (Post : sm_M → Option Value → Prop) (hM : MH I A w h n V) (hB : ∀ p, p < h → B 0 p = mk (fun e => vUp V e p) w) (hK : ∀ g, (∀ e p, e < w → p < h → g (48 * p + e) = PF0 V c e p) → zW 4 sc miX11_paint 107 [some (.ref 47), some (.int (bb c)), some (.int (nI w)), none, none, none] [] (mm f I (va_up A 21 g) B) Post) : ∀ (k x : Nat), x + k = w → ∀ g, (∀ e p, e < x → p < h → g (48 * p + e) = PF0 V c e p) → zW 4 sc miX11_paint 6 [some (.ref 47), some (.int (bb c)), some (.int (nI x)), none, none, none] [] (mm f I (va_up A 21 g) B) Post := by
  have hM' := hM
  obtain ⟨h0, h1, hw1, hw, hh1, hh, h4, hn, hv, hV⟩ := hM
  intro k
  induction k with
  | zero =>
    intro x hx g hg
    have e1 : x = w := by omega
    subst e1
    refine zw_nx rfl (fun _ _ => rfl) ?_
    repeat (refine zw_go rfl rfl (fun _ _ => rfl) ?_)
    first | refine zw_br rfl (fun _ _ => rfl) (fun _ => ?_) (fun h9 => absurd (show I 0 ≤ nI x by rw [h0]; exact Int32.le_refl _) h9) | refine zw_nx rfl (fun _ _ => rfl) ?_
    exact hK g hg
  | succ k ih =>
    intro x hx g hg
    refine zw_nx rfl (fun _ _ => rfl) ?_
    repeat (refine zw_go rfl rfl (fun _ _ => rfl) ?_)
    first | refine zw_br rfl (fun _ _ => rfl) (fun h9 => absurd h9 (show ¬ I 0 ≤ nI x by rw [h0]; exact nI_ge (by omega) (by omega))) (fun _ => ?_) | refine zw_nx rfl (fun _ _ => rfl) ?_
    repeat (refine zw_go rfl rfl (fun _ _ => rfl) ?_)
    refine zw_call rfl (fun _ _ => rfl) (mValueOf sc f I (va_up A 21 g) B 3 (nI x) n h4 hn) (by decide) ?_
    rintro M1 r1 ⟨rfl, rfl⟩
    rw [show mVal (va_up A 21 g) n 3 (nI x) (I 3) = V (112 + x) from (mVal_cong (A := A) (fun a ha => by unfold va_up; rw [if_neg (by omega)]) n 3 (nI x) (I 3)).trans (hv 3 x (by omega) (by simp only [ksz]; omega))]
    repeat (refine zw_go rfl rfl (fun _ _ => rfl) ?_)
    refine zw_kp (mPaint_in sc I A B f w h n V c Post hM' hB x (by omega) (fun g2 hg2 => ?_) h 0 (by omega) g hg (fun p hp => by omega))
    repeat (refine zw_go rfl rfl (fun _ _ => rfl) ?_)
    have hn2 := ih (x + 1) (by omega) g2 hg2
    rw [nI_succ] at hn2
    exact zw_kp hn2
set_option maxHeartbeats 4000000 in
set_option maxRecDepth 20000 in
theorem mPaint_2in (Post : sm_M → Option Value → Prop) (hM : MH I A w h n V) (y : Nat) (hy : y < h) (hK : ∀ g, (∀ e p, e < w → p < y + 1 → g (48 * p + e) = vCol V e p) → (∀ e p, e < w → y < p → p < h → g (48 * p + e) = PF0 V true e p) → zW 4 sc miX11_paint 174 [some (.ref 47), some (.int (bb true)), some (.int (nI y)), some (.int (V (160 + y))), some (.int (nI w)), none] [] (mm f I (va_up A 21 g) B) Post) : ∀ (k x : Nat), x + k = w → ∀ g, (∀ e p, e < w → p < y → g (48 * p + e) = vCol V e p) → (∀ e p, e < w → y < p → p < h → g (48 * p + e) = PF0 V true e p) → (∀ e, e < x → g (48 * y + e) = vCol V e y) → (∀ e, x ≤ e → e < w → g (48 * y + e) = PF0 V true e y) → zW 4 sc miX11_paint 131 [some (.ref 47), some (.int (bb true)), some (.int (nI y)), some (.int (V (160 + y))), some (.int (nI x)), none] [] (mm f I (va_up A 21 g) B) Post := by
  obtain ⟨h0, h1, hw1, hw, hh1, hh, h4, hn, hv, hV⟩ := hM
  intro k
  induction k with
  | zero =>
    intro x hx g g1 g2 g3 g4
    have e1 : x = w := by omega
    subst e1
    refine zw_nx rfl (fun _ _ => rfl) ?_
    repeat (refine zw_go rfl rfl (fun _ _ => rfl) ?_)
    first | refine zw_br rfl (fun _ _ => rfl) (fun _ => ?_) (fun h9 => absurd (show I 0 ≤ nI x by rw [h0]; exact Int32.le_refl _) h9) | refine zw_nx rfl (fun _ _ => rfl) ?_
    refine hK g (fun e p he hp => ?_) g2
    by_cases h5 : p = y
    · subst h5; exact g3 e he
    · exact g1 e p he (by omega)
  | succ k ih =>
    intro x hx g g1 g2 g3 g4
    have hx4 := g4 x (by omega) (by omega)
    refine zw_nx rfl (fun _ _ => rfl) ?_
    repeat (refine zw_go rfl rfl (fun _ _ => rfl) ?_)
    first | refine zw_br rfl (fun _ _ => rfl) (fun h9 => absurd h9 (show ¬ I 0 ≤ nI x by rw [h0]; exact nI_ge (by omega) (by omega))) (fun _ => ?_) | refine zw_nx rfl (fun _ _ => rfl) ?_
    repeat (refine zw_go rfl rfl (fun _ _ => rfl) ?_)
    rw [show (Int8.ofInt 48).toInt32 * nI y + nI x = nI (48 * y + x) from by rw [show (Int8.ofInt 48).toInt32 = nI 48 from rfl, nI_mul, nI_add]]
    refine zw_ix rfl (fun _ _ => rfl) (show vp_in (nI (48 * y + x)) 2304 from vp_in_nI (by omega) (by decide)) ?_
    rw [show (nI (48 * y + x)).toNatClampNeg = 48 * y + x from nI_clamp (by omega)]
    repeat (refine zw_go rfl rfl (fun _ _ => rfl) ?_)
    rw [show va_up A 21 g 21 (48 * y + x) = PF0 V true x y from hx4]
    cases hu : vUp V x y
    · have e5 : PF0 V true x y = -1 := by unfold PF0; rw [if_pos rfl, hu]; rfl
      have e6 : vCol V x y = V (160 + y) := by unfold vCol; rw [hu]; rfl
      rw [e5]
      repeat (refine zw_go rfl rfl (fun _ _ => rfl) ?_)
      rw [show (Int8.ofInt 48).toInt32 * nI y + nI x = nI (48 * y + x) from by rw [show (Int8.ofInt 48).toInt32 = nI 48 from rfl, nI_mul, nI_add]]
      refine zw_ix rfl (fun _ _ => rfl) (show vp_in (nI (48 * y + x)) 2304 from vp_in_nI (by omega) (by decide)) ?_
      rw [show (nI (48 * y + x)).toNatClampNeg = 48 * y + x from nI_clamp (by omega)]
      repeat (refine zw_go rfl rfl (fun _ _ => rfl) ?_)
      have hn2 := ih (x + 1) (by omega) (upd g (48 * y + x) (V (160 + y))) (fun e p he hp => by rw [pk_un (by omega)]; exact g1 e p he hp) (fun e p he hp hp2 => by rw [pk_un (by omega)]; exact g2 e p he hp hp2) (fun e he => by
        by_cases h5 : e = x
        · subst h5; rw [e6]; exact pk_us
        · rw [pk_un (by omega)]; exact g3 e (by omega)) (fun e he he2 => by rw [pk_un (by omega)]; exact g4 e (by omega) he2)
      rw [nI_succ] at hn2
      exact zw_kp hn2
    · obtain ⟨q, hq, hq2⟩ := hV.2.2 (112 + x) (by omega) (by omega)
      have e5 : PF0 V true x y = V (112 + x) := by unfold PF0; rw [if_pos rfl, hu]; rfl
      have e6 : vCol V x y = V (112 + x) := by unfold vCol; rw [hu]; rfl
      rw [e5]
      first | refine zw_br rfl (fun _ _ => rfl) (fun _ => ?_) (fun h9 => absurd (show (0 : Int32) ≤ V (112 + x) by rw [hq2]; exact nI_pos' (by omega)) h9) | refine zw_nx rfl (fun _ _ => rfl) ?_
      repeat (refine zw_go rfl rfl (fun _ _ => rfl) ?_)
      have hn2 := ih (x + 1) (by omega) g g1 g2 (fun e he => by
        by_cases h5 : e = x
        · subst h5; rw [e6, hx4, e5]
        · exact g3 e (by omega)) (fun e he he2 => g4 e (by omega) he2)
      rw [nI_succ] at hn2
      exact zw_kp hn2
set_option maxHeartbeats 4000000 in
set_option maxRecDepth 20000 in
theorem mPaint_2 (Post : sm_M → Option Value → Prop) (hM : MH I A w h n V) (hP : ∀ g, (∀ e p, e < w → p < h → g (48 * p + e) = vCol V e p) → Post (mm f I (va_up A 21 g) B) none) : ∀ (k y : Nat), y + k = h → ∀ g, (∀ e p, e < w → p < y → g (48 * p + e) = vCol V e p) → (∀ e p, e < w → y ≤ p → p < h → g (48 * p + e) = PF0 V true e p) → zW 4 sc miX11_paint 109 [some (.ref 47), some (.int (bb true)), some (.int (nI y)), none, none, none] [] (mm f I (va_up A 21 g) B) Post := by
  have hM' := hM
  obtain ⟨h0, h1, hw1, hw, hh1, hh, h4, hn, hv, hV⟩ := hM
  intro k
  induction k with
  | zero =>
    intro y hy g g1 g2
    have e1 : y = h := by omega
    subst e1
    refine zw_nx rfl (fun _ _ => rfl) ?_
    repeat (refine zw_go rfl rfl (fun _ _ => rfl) ?_)
    first | refine zw_br rfl (fun _ _ => rfl) (fun _ => ?_) (fun h9 => absurd (show I 1 ≤ nI y by rw [h1]; exact Int32.le_refl _) h9) | refine zw_nx rfl (fun _ _ => rfl) ?_
    exact zw_ret rfl (fun _ _ => rfl) (hP g g1)
  | succ k ih =>
    intro y hy g g1 g2
    refine zw_nx rfl (fun _ _ => rfl) ?_
    repeat (refine zw_go rfl rfl (fun _ _ => rfl) ?_)
    first | refine zw_br rfl (fun _ _ => rfl) (fun h9 => absurd h9 (show ¬ I 1 ≤ nI y by rw [h1]; exact nI_ge (by omega) (by omega))) (fun _ => ?_) | refine zw_nx rfl (fun _ _ => rfl) ?_
    repeat (refine zw_go rfl rfl (fun _ _ => rfl) ?_)
    refine zw_call rfl (fun _ _ => rfl) (mValueOf sc f I (va_up A 21 g) B 4 (nI y) n h4 hn) (by decide) ?_
    rintro M1 r1 ⟨rfl, rfl⟩
    rw [show mVal (va_up A 21 g) n 4 (nI y) (I 3) = V (160 + y) from (mVal_cong (A := A) (fun a ha => by unfold va_up; rw [if_neg (by omega)]) n 4 (nI y) (I 3)).trans (hv 4 y (by omega) (by simp only [ksz]; omega))]
    repeat (refine zw_go rfl rfl (fun _ _ => rfl) ?_)
    refine zw_kp (mPaint_2in sc I A B f w h n V Post hM' y (by omega) (fun g3 a1 a2 => ?_) w 0 (by omega) g g1 (fun e p he hp hp2 => g2 e p he (by omega) hp2) (fun e he => by omega) (fun e _ he => g2 e y he (by omega) (by omega)))
    repeat (refine zw_go rfl rfl (fun _ _ => rfl) ?_)
    have hn2 := ih (y + 1) (by omega) g3 a1 (fun e p he hp hp2 => a2 e p he (by omega) hp2)
    rw [nI_succ] at hn2
    exact zw_kp hn2
set_option maxHeartbeats 4000000 in
set_option maxRecDepth 20000 in
theorem mPaint (c : Bool) (hM : MH I A w h n V) : zC 5 sc 222 [.ref 47, .int (bb c)] (mm f I A B) (fun M r => r = none ∧ ∃ A' B', M = mm f I A' B' ∧ MK I A B I A' B' ∧ ∀ e p, e < w → p < h → A' 21 (48 * p + e) = PF V c e p) := by
  refine zc_of hkX11_paint rfl ?_
  repeat (refine zw_go rfl rfl (fun _ _ => rfl) ?_)
  refine zw_call rfl (fun _ _ => rfl) (mD sc I A B f w h n V hM) (by decide) ?_
  rintro M1 r1 ⟨rfl, A', B', rfl, hD⟩
  have hM2 : MH I A' w h n V := mh_mk hM (dr_mk (I := I) hD)
  have hk : ∀ g, MK I A B I (va_up A' 21 g) B' := fun g => ⟨fun _ _ => rfl, fun a ha => by
    unfold va_up
    rw [if_neg (by omega)]
    exact (dr_mk (I := I) hD).2.1 a ha, (dr_mk (I := I) hD).2.2.1, (dr_mk (I := I) hD).2.2.2⟩
  repeat (refine zw_go rfl rfl (fun _ _ => rfl) ?_)
  have h5 := mPaint_1 sc I A' B' f w h n V c (fun M r => r = none ∧ ∃ A' B', M = mm f I A' B' ∧ MK I A B I A' B' ∧ ∀ e p, e < w → p < h → A' 21 (48 * p + e) = PF V c e p) hM2 hD.2.2.2.2.1 (fun g hg => ?_) w 0 (by omega) (A' 21) (fun e p he hp => by omega)
  · rw [va_up_id] at h5
    exact zw_kp h5
  · repeat (refine zw_go rfl rfl (fun _ _ => rfl) ?_)
    cases c
    · refine zw_nx rfl (fun _ _ => rfl) ?_
      repeat (refine zw_go rfl rfl (fun _ _ => rfl) ?_)
      refine zw_ret rfl (fun _ _ => rfl) ?_
      refine ⟨rfl, _, _, rfl, hk g, fun e p he hp => ?_⟩
      exact hg e p he hp
    · refine zw_kp (mPaint_2 sc I A' B' f w h n V _ hM2 (fun g2 hg2 => ⟨rfl, _, _, rfl, hk g2, fun e p he hp => ?_⟩) h 0 (by omega) g (fun e p _ hp => by omega) (fun e p he _ hp => hg e p he hp))
      exact hg2 e p he hp
end

/-! the class: relate, followThrough, followChains -/
theorem and_bit {p : Nat → Bool} {n q : Nat} (hn : n ≤ 64) (hq : q < n) : lg_cmp (mk p n &&& bitL q) 0 = 0 ↔ p q = false := by
  rw [lg_cmp_0]
  constructor
  · intro h
    have h1 : lb (mk p n &&& bitL q) q = false := by rw [h, lb_0]
    rw [lb_and, lb_mk hn, lb_bit (by omega), decide_eq_true hq, decide_eq_true rfl] at h1
    simpa using h1
  · intro h
    refine lb_ext (fun i hi => ?_)
    rw [lb_and, lb_mk hn, lb_bit (by omega), lb_0]
    by_cases h1 : i = q
    · rw [h1, h]; simp
    · rw [decide_eq_false h1]; simp
def mixT (T : Nat → Nat → Bool) (m n s t : Nat) : Bool := if s < n then wsh T m s t else T s t
theorem mix_in {T : Nat → Nat → Bool} {m n s : Nat} (h : s < n) : mixT T m n s = wsh T m s := by funext t; unfold mixT; rw [if_pos h]
theorem mix_out {T : Nat → Nat → Bool} {m n s : Nat} (h : n ≤ s) : mixT T m n s = T s := by funext t; unfold mixT; rw [if_neg (by omega)]
/-- no row of the part between -/
theorem rw_skip {P : Nat → Bool} {T : Nat → Nat → Bool} {m n k : Nat} {g0 g1 : Nat → Int64} (h : RwOk P (mixT T m n) 96 g0 g1) (hk : ∀ s, n ≤ s → s < k → P s = false) (hnk : n ≤ k) : RwOk P (mixT T m k) 96 g0 g1 := by
  intro s hs h96
  have h1 := h s hs h96
  by_cases h2 : s < n
  · rw [mix_in h2] at h1; rw [mix_in (by omega)]; exact h1
  · by_cases h3 : s < k
    · rw [hk s (by omega) h3] at hs; cases hs
    · rw [mix_out (by omega)] at h1; rw [mix_out (by omega)]; exact h1
theorem inP_e {a b c d s : Nat} (h : s < 48) : inP a b c d s = decide (a ≤ s ∧ s ≤ b) := by unfold inP; rw [if_pos h]
theorem inP_p {a b c d s : Nat} : inP a b c d (48 + s) = decide (c ≤ s ∧ s ≤ d) := by unfold inP; rw [if_neg (by omega), Nat.add_sub_cancel_left]
/-- one row done -/
theorem rw_one {P : Nat → Bool} {T : Nat → Nat → Bool} {m s : Nat} {g0 g1 : Nat → Int64} (h : RwOk P (mixT T m s) 96 g0 g1) (hb : T s m = true) : RwOk P (mixT T m (s + 1)) 96 (vp_updL g0 s (mk (fun e => T s e) 48 ||| mk (fun e => T m e) 48)) (vp_updL g1 s (mk (fun p => T s (48 + p)) 48 ||| mk (fun p => T m (48 + p)) 48)) := by
  intro t ht h96
  unfold vp_updL
  by_cases h1 : t = s
  · subst h1
    rw [if_pos rfl, if_pos rfl, mix_in (by omega), mk_or (by omega), mk_or (by omega)]
    unfold wsh
    rw [hb]
    exact ⟨mk_cong (fun i _ => by rw [Bool.true_and]), mk_cong (fun i _ => by rw [Bool.true_and])⟩
  · rw [if_neg h1, if_neg h1]
    have h2 := h t ht h96
    by_cases h3 : t < s
    · rw [mix_in h3] at h2; rw [mix_in (by omega)]; exact h2
    · rw [mix_out (by omega)] at h2; rw [mix_out (by omega)]; exact h2
theorem rw_no {P : Nat → Bool} {T : Nat → Nat → Bool} {m s : Nat} {g0 g1 : Nat → Int64} (h : RwOk P (mixT T m s) 96 g0 g1) (hb : T s m = false) : RwOk P (mixT T m (s + 1)) 96 g0 g1 := by
  intro t ht h96
  have h2 := h t ht h96
  by_cases h1 : t = s
  · subst h1
    rw [mix_out (by omega)] at h2
    rw [mix_in (by omega)]
    unfold wsh
    rw [hb]
    exact ⟨h2.1.trans (mk_cong (fun i _ => by simp)), h2.2.trans (mk_cong (fun i _ => by simp))⟩
  · by_cases h3 : t < s
    · rw [mix_in h3] at h2; rw [mix_in (by omega)]; exact h2
    · rw [mix_out (by omega)] at h2; rw [mix_out (by omega)]; exact h2
section
variable (sc : sm_S) (I : Nat → Int32) (J : Nat → Int64) (A : Nat → Nat → Int32) (B : Nat → Nat → Int64) (tl : sm_M) (f : Nat → va_E) (w h n : Nat) (V : Nat → Int32) (a b c d : Nat)
set_option maxHeartbeats 4000000 in
set_option maxRecDepth 20000 in
theorem xFTBe (T : Nat → Nat → Bool) (m : Nat) (hm : inP a b c d m = true) (hm48 : m < 48) (h30 : I 30 = nI a) (h31 : I 31 = nI b) (h32 : I 32 = nI c) (h33 : I 33 = nI d) (hab : a ≤ b) (hb : b < 48) (hcd : c ≤ d) (hd : d < 48) (g0 g1 : Nat → Int64) (hR : RwOk (inP a b c d) T 96 g0 g1) : zC 1 sc 26 [.ref 27, .ref 28, .ref 29, .int (nI m)] (xm I J A (va_up (va_up B 6 g0) 7 g1) tl) (fun M r => r = none ∧ ∃ k0 k1, M = xm I J A (va_up (va_up B 6 k0) 7 k1) tl ∧ RwOk (inP a b c d) (wsh T m) 96 k0 k1) := by
  have hrow := hR m hm (by omega)
  have picks : ∀ (k i : Nat) (g0 g1 : Nat → Int64), i + k = d + 1 → c ≤ i → RwOk (inP a b c d) (mixT T m (48 + i)) 96 g0 g1 → zW 0 sc miX2_followThrough 113 [some (.ref 27), some (.ref 28), some (.ref 29), none, none, some (.ref 28), some (.long (bitL m)), none, some (.long (mk (fun e => T m e) 48)), none, some (.long (mk (fun p => T m (48 + p)) 48)), none, some (.int (nI (48 + i)))] [] (xm I J A (va_up (va_up B 6 g0) 7 g1) tl) (fun M r => r = none ∧ ∃ k0 k1, M = xm I J A (va_up (va_up B 6 k0) 7 k1) tl ∧ RwOk (inP a b c d) (wsh T m) 96 k0 k1) := by
    intro k
    induction k with
    | zero =>
      intro i g0 g1 hi hci hr
      refine zw_nx rfl (fun _ _ => rfl) ?_
      repeat (refine zw_go rfl rfl (fun _ _ => rfl) ?_)
      rw [h33, show (Int8.ofInt 48).toInt32 + nI d = nI (48 + d) from nI_add 48 d]
      first | refine zw_br rfl (fun _ _ => rfl) (fun _ => ?_) (fun h9 => absurd (show nI (48 + d) < nI (48 + i) from nI_lt (by omega) (by omega)) h9) | refine zw_nx rfl (fun _ _ => rfl) ?_
      repeat (refine zw_go rfl rfl (fun _ _ => rfl) ?_)
      refine zw_ret rfl (fun _ _ => rfl) ?_
      refine ⟨rfl, g0, g1, rfl, fun s hs h96 => ?_⟩
      have h1 := hr s hs h96
      by_cases h2 : s < 48 + i
      · rw [mix_in h2] at h1; exact h1
      · have h3 := hs
        rw [show s = 48 + (s - 48) by omega, inP_p] at h3
        have := of_decide_eq_true h3
        omega
    | succ k ih =>
      intro i g0 g1 hi hci hr
      have hin : inP a b c d (48 + i) = true := by rw [inP_p]; exact decide_eq_true ⟨hci, by omega⟩
      have hrow2 := hr (48 + i) hin (by omega)
      rw [mix_out (Nat.le_refl _)] at hrow2
      refine zw_nx rfl (fun _ _ => rfl) ?_
      repeat (refine zw_go rfl rfl (fun _ _ => rfl) ?_)
      rw [h33, show (Int8.ofInt 48).toInt32 + nI d = nI (48 + d) from nI_add 48 d]
      first | refine zw_br rfl (fun _ _ => rfl) (fun h9 => absurd h9 (show ¬ nI (48 + d) < nI (48 + i) from nI_nlt (by omega) (by omega))) (fun _ => ?_) | refine zw_nx rfl (fun _ _ => rfl) ?_
      repeat (refine zw_go rfl rfl (fun _ _ => rfl) ?_)
      refine zw_ix rfl (fun _ _ => rfl) (show vp_in (nI ((48 + i))) _ from vp_in_nI (by omega) (by omega)) ?_
      rw [show (nI ((48 + i))).toNatClampNeg = (48 + i) from nI_clamp (by omega)]
      repeat (refine zw_go rfl rfl (fun _ _ => rfl) ?_)
      have hbit : lg_cmp (g0 (48 + i) &&& bitL m) 0 = 0 ↔ T (48 + i) m = false := by
        first | rw [hrow2.1, and_bit (by omega) hm48] | rw [hrow2.2, and_bit (by omega) hm48]
      refine zw_br rfl (fun _ _ => rfl) (fun (hc : lg_cmp (g0 (48 + i) &&& bitL m) 0 = 0) => ?_) (fun (hc : ¬ (lg_cmp (g0 (48 + i) &&& bitL m) 0 = 0)) => ?_)
      · have hn := ih (i + 1) g0 g1 (by omega) (by omega) (rw_no hr (hbit.mp hc))
        rw [← Nat.add_assoc, nI_succ] at hn
        repeat (refine zw_go rfl rfl (fun _ _ => rfl) ?_)
        exact zw_kp hn
      · have hT : T (48 + i) m = true := by
          cases hh : T (48 + i) m
          · exact absurd (hbit.mpr hh) hc
          · rfl
        have h5 := rw_one hr hT
        rw [← hrow2.1, ← hrow2.2] at h5
        have hn := ih (i + 1) _ _ (by omega) (by omega) h5
        rw [← Nat.add_assoc, nI_succ] at hn
        repeat (refine zw_go rfl rfl (fun _ _ => rfl) ?_)
        refine zw_ix rfl (fun _ _ => rfl) (show vp_in (nI ((48 + i))) _ from vp_in_nI (by omega) (by omega)) ?_
        rw [show (nI ((48 + i))).toNatClampNeg = (48 + i) from nI_clamp (by omega)]
        repeat (refine zw_go rfl rfl (fun _ _ => rfl) ?_)
        refine zw_ix rfl (fun _ _ => rfl) (show vp_in (nI ((48 + i))) _ from vp_in_nI (by omega) (by omega)) ?_
        rw [show (nI ((48 + i))).toNatClampNeg = (48 + i) from nI_clamp (by omega)]
        repeat (refine zw_go rfl rfl (fun _ _ => rfl) ?_)
        refine zw_ix rfl (fun _ _ => rfl) (show vp_in (nI ((48 + i))) _ from vp_in_nI (by omega) (by omega)) ?_
        rw [show (nI ((48 + i))).toNatClampNeg = (48 + i) from nI_clamp (by omega)]
        repeat (refine zw_go rfl rfl (fun _ _ => rfl) ?_)
        refine zw_ix rfl (fun _ _ => rfl) (show vp_in (nI ((48 + i))) _ from vp_in_nI (by omega) (by omega)) ?_
        rw [show (nI ((48 + i))).toNatClampNeg = (48 + i) from nI_clamp (by omega)]
        repeat (refine zw_go rfl rfl (fun _ _ => rfl) ?_)
        exact zw_kp hn
  have ends : ∀ (k i : Nat) (g0 g1 : Nat → Int64), i + k = b + 1 → a ≤ i → RwOk (inP a b c d) (mixT T m i) 96 g0 g1 → zW 0 sc miX2_followThrough 58 [some (.ref 27), some (.ref 28), some (.ref 29), none, none, some (.ref 28), some (.long (bitL m)), none, some (.long (mk (fun e => T m e) 48)), none, some (.long (mk (fun p => T m (48 + p)) 48)), none, some (.int (nI i))] [] (xm I J A (va_up (va_up B 6 g0) 7 g1) tl) (fun M r => r = none ∧ ∃ k0 k1, M = xm I J A (va_up (va_up B 6 k0) 7 k1) tl ∧ RwOk (inP a b c d) (wsh T m) 96 k0 k1) := by
    intro k
    induction k with
    | zero =>
      intro i g0 g1 hi hai hr
      refine zw_nx rfl (fun _ _ => rfl) ?_
      repeat (refine zw_go rfl rfl (fun _ _ => rfl) ?_)
      first | refine zw_br rfl (fun _ _ => rfl) (fun _ => ?_) (fun h9 => absurd (show I 31 < nI i by rw [h31]; exact nI_lt (by omega) (by omega)) h9) | refine zw_nx rfl (fun _ _ => rfl) ?_
      repeat (refine zw_go rfl rfl (fun _ _ => rfl) ?_)
      rw [h32, show (Int8.ofInt 48).toInt32 + nI c = nI (48 + c) from nI_add 48 c]
      refine zw_kp (picks (d + 1 - c) c g0 g1 (by omega) (Nat.le_refl c) (rw_skip hr (fun s h1 h2 => ?_) (by omega)))
      by_cases h3 : s < 48
      · rw [inP_e h3]; exact decide_eq_false (by omega)
      · rw [show s = 48 + (s - 48) by omega, inP_p]; exact decide_eq_false (by omega)
    | succ k ih =>
      intro i g0 g1 hi hai hr
      have hin : inP a b c d i = true := by rw [inP_e (by omega)]; exact decide_eq_true ⟨hai, by omega⟩
      have hrow2 := hr i hin (by omega)
      rw [mix_out (Nat.le_refl _)] at hrow2
      refine zw_nx rfl (fun _ _ => rfl) ?_
      repeat (refine zw_go rfl rfl (fun _ _ => rfl) ?_)
      first | refine zw_br rfl (fun _ _ => rfl) (fun h9 => absurd h9 (show ¬ I 31 < nI i by rw [h31]; exact nI_nlt (by omega) (by omega))) (fun _ => ?_) | refine zw_nx rfl (fun _ _ => rfl) ?_
      repeat (refine zw_go rfl rfl (fun _ _ => rfl) ?_)
      refine zw_ix rfl (fun _ _ => rfl) (show vp_in (nI (i)) _ from vp_in_nI (by omega) (by omega)) ?_
      rw [show (nI (i)).toNatClampNeg = i from nI_clamp (by omega)]
      repeat (refine zw_go rfl rfl (fun _ _ => rfl) ?_)
      have hbit : lg_cmp (g0 i &&& bitL m) 0 = 0 ↔ T i m = false := by
        first | rw [hrow2.1, and_bit (by omega) hm48] | rw [hrow2.2, and_bit (by omega) hm48]
      refine zw_br rfl (fun _ _ => rfl) (fun (hc : lg_cmp (g0 i &&& bitL m) 0 = 0) => ?_) (fun (hc : ¬ (lg_cmp (g0 i &&& bitL m) 0 = 0)) => ?_)
      · have hn := ih (i + 1) g0 g1 (by omega) (by omega) (rw_no hr (hbit.mp hc))
        rw [nI_succ] at hn
        repeat (refine zw_go rfl rfl (fun _ _ => rfl) ?_)
        exact zw_kp hn
      · have hT : T i m = true := by
          cases hh : T i m
          · exact absurd (hbit.mpr hh) hc
          · rfl
        have hn := ih (i + 1) _ _ (by omega) (by omega) (rw_one hr hT)
        rw [nI_succ, ← hrow2.1, ← hrow2.2] at hn
        repeat (refine zw_go rfl rfl (fun _ _ => rfl) ?_)
        refine zw_ix rfl (fun _ _ => rfl) (show vp_in (nI (i)) _ from vp_in_nI (by omega) (by omega)) ?_
        rw [show (nI (i)).toNatClampNeg = i from nI_clamp (by omega)]
        repeat (refine zw_go rfl rfl (fun _ _ => rfl) ?_)
        refine zw_ix rfl (fun _ _ => rfl) (show vp_in (nI (i)) _ from vp_in_nI (by omega) (by omega)) ?_
        rw [show (nI (i)).toNatClampNeg = i from nI_clamp (by omega)]
        repeat (refine zw_go rfl rfl (fun _ _ => rfl) ?_)
        refine zw_ix rfl (fun _ _ => rfl) (show vp_in (nI (i)) _ from vp_in_nI (by omega) (by omega)) ?_
        rw [show (nI (i)).toNatClampNeg = i from nI_clamp (by omega)]
        repeat (refine zw_go rfl rfl (fun _ _ => rfl) ?_)
        refine zw_ix rfl (fun _ _ => rfl) (show vp_in (nI (i)) _ from vp_in_nI (by omega) (by omega)) ?_
        rw [show (nI (i)).toNatClampNeg = i from nI_clamp (by omega)]
        repeat (refine zw_go rfl rfl (fun _ _ => rfl) ?_)
        exact zw_kp hn
  have start := ends (b + 1 - a) a g0 g1 (by omega) (Nat.le_refl a) (fun s hs h96 => by
    have h1 := hR s hs h96
    by_cases h2 : s < a
    · rw [inP_e (by omega)] at hs
      have := of_decide_eq_true hs
      omega
    · rw [mix_out (by omega)]; exact h1)
  rw [← hrow.1, ← hrow.2] at start
  refine zc_of hkX2_followThrough rfl ?_
  repeat (refine zw_go rfl rfl (fun _ _ => rfl) ?_)
  first
    | refine zw_br rfl (fun _ _ => rfl) (fun h9 => absurd h9 (nI_ge (a := m) (b := 48) (by omega) (by decide))) (fun _ => ?_)
    | refine zw_br rfl (fun _ _ => rfl) (fun _ => ?_) (fun h9 => absurd (nI_le (a := 48) (b := 48 + m) (by omega) (by omega)) h9)
  repeat (refine zw_go rfl rfl (fun _ _ => rfl) ?_)
  refine zw_ix rfl (fun _ _ => rfl) (show vp_in (nI (m)) _ from vp_in_nI (by omega) (by omega)) ?_
  rw [show (nI (m)).toNatClampNeg = m from nI_clamp (by omega)]
  repeat (refine zw_go rfl rfl (fun _ _ => rfl) ?_)
  refine zw_ix rfl (fun _ _ => rfl) (show vp_in (nI (m)) _ from vp_in_nI (by omega) (by omega)) ?_
  rw [show (nI (m)).toNatClampNeg = m from nI_clamp (by omega)]
  repeat (refine zw_go rfl rfl (fun _ _ => rfl) ?_)
  rw [h30]
  try rw [show nI (48+m) - (Int8.ofInt 48).toInt32 = nI m from by rw [show (Int8.ofInt 48).toInt32 = nI 48 from rfl, nI_sub (by omega), Nat.add_sub_cancel_left]]
  exact zw_kp start
set_option maxHeartbeats 4000000 in
set_option maxRecDepth 20000 in
theorem xFTBp (T : Nat → Nat → Bool) (m : Nat) (hm : inP a b c d (48+m) = true) (hm48 : m < 48) (h30 : I 30 = nI a) (h31 : I 31 = nI b) (h32 : I 32 = nI c) (h33 : I 33 = nI d) (hab : a ≤ b) (hb : b < 48) (hcd : c ≤ d) (hd : d < 48) (g0 g1 : Nat → Int64) (hR : RwOk (inP a b c d) T 96 g0 g1) : zC 1 sc 26 [.ref 27, .ref 28, .ref 29, .int (nI (48+m))] (xm I J A (va_up (va_up B 6 g0) 7 g1) tl) (fun M r => r = none ∧ ∃ k0 k1, M = xm I J A (va_up (va_up B 6 k0) 7 k1) tl ∧ RwOk (inP a b c d) (wsh T (48+m)) 96 k0 k1) := by
  have hrow := hR (48+m) hm (by omega)
  have picks : ∀ (k i : Nat) (g0 g1 : Nat → Int64), i + k = d + 1 → c ≤ i → RwOk (inP a b c d) (mixT T (48+m) (48 + i)) 96 g0 g1 → zW 0 sc miX2_followThrough 113 [some (.ref 27), some (.ref 28), some (.ref 29), none, none, some (.ref 29), some (.long (bitL m)), none, some (.long (mk (fun e => T (48+m) e) 48)), none, some (.long (mk (fun p => T (48+m) (48 + p)) 48)), none, some (.int (nI (48 + i)))] [] (xm I J A (va_up (va_up B 6 g0) 7 g1) tl) (fun M r => r = none ∧ ∃ k0 k1, M = xm I J A (va_up (va_up B 6 k0) 7 k1) tl ∧ RwOk (inP a b c d) (wsh T (48+m)) 96 k0 k1) := by
    intro k
    induction k with
    | zero =>
      intro i g0 g1 hi hci hr
      refine zw_nx rfl (fun _ _ => rfl) ?_
      repeat (refine zw_go rfl rfl (fun _ _ => rfl) ?_)
      rw [h33, show (Int8.ofInt 48).toInt32 + nI d = nI (48 + d) from nI_add 48 d]
      first | refine zw_br rfl (fun _ _ => rfl) (fun _ => ?_) (fun h9 => absurd (show nI (48 + d) < nI (48 + i) from nI_lt (by omega) (by omega)) h9) | refine zw_nx rfl (fun _ _ => rfl) ?_
      repeat (refine zw_go rfl rfl (fun _ _ => rfl) ?_)
      refine zw_ret rfl (fun _ _ => rfl) ?_
      refine ⟨rfl, g0, g1, rfl, fun s hs h96 => ?_⟩
      have h1 := hr s hs h96
      by_cases h2 : s < 48 + i
      · rw [mix_in h2] at h1; exact h1
      · have h3 := hs
        rw [show s = 48 + (s - 48) by omega, inP_p] at h3
        have := of_decide_eq_true h3
        omega
    | succ k ih =>
      intro i g0 g1 hi hci hr
      have hin : inP a b c d (48 + i) = true := by rw [inP_p]; exact decide_eq_true ⟨hci, by omega⟩
      have hrow2 := hr (48 + i) hin (by omega)
      rw [mix_out (Nat.le_refl _)] at hrow2
      refine zw_nx rfl (fun _ _ => rfl) ?_
      repeat (refine zw_go rfl rfl (fun _ _ => rfl) ?_)
      rw [h33, show (Int8.ofInt 48).toInt32 + nI d = nI (48 + d) from nI_add 48 d]
      first | refine zw_br rfl (fun _ _ => rfl) (fun h9 => absurd h9 (show ¬ nI (48 + d) < nI (48 + i) from nI_nlt (by omega) (by omega))) (fun _ => ?_) | refine zw_nx rfl (fun _ _ => rfl) ?_
      repeat (refine zw_go rfl rfl (fun _ _ => rfl) ?_)
      refine zw_ix rfl (fun _ _ => rfl) (show vp_in (nI ((48 + i))) _ from vp_in_nI (by omega) (by omega)) ?_
      rw [show (nI ((48 + i))).toNatClampNeg = (48 + i) from nI_clamp (by omega)]
      repeat (refine zw_go rfl rfl (fun _ _ => rfl) ?_)
      have hbit : lg_cmp (g1 (48 + i) &&& bitL m) 0 = 0 ↔ T (48 + i) (48+m) = false := by
        first | rw [hrow2.1, and_bit (by omega) hm48] | rw [hrow2.2, and_bit (by omega) hm48]
      refine zw_br rfl (fun _ _ => rfl) (fun (hc : lg_cmp (g1 (48 + i) &&& bitL m) 0 = 0) => ?_) (fun (hc : ¬ (lg_cmp (g1 (48 + i) &&& bitL m) 0 = 0)) => ?_)
      · have hn := ih (i + 1) g0 g1 (by omega) (by omega) (rw_no hr (hbit.mp hc))
        rw [← Nat.add_assoc, nI_succ] at hn
        repeat (refine zw_go rfl rfl (fun _ _ => rfl) ?_)
        exact zw_kp hn
      · have hT : T (48 + i) (48+m) = true := by
          cases hh : T (48 + i) (48+m)
          · exact absurd (hbit.mpr hh) hc
          · rfl
        have h5 := rw_one hr hT
        rw [← hrow2.1, ← hrow2.2] at h5
        have hn := ih (i + 1) _ _ (by omega) (by omega) h5
        rw [← Nat.add_assoc, nI_succ] at hn
        repeat (refine zw_go rfl rfl (fun _ _ => rfl) ?_)
        refine zw_ix rfl (fun _ _ => rfl) (show vp_in (nI ((48 + i))) _ from vp_in_nI (by omega) (by omega)) ?_
        rw [show (nI ((48 + i))).toNatClampNeg = (48 + i) from nI_clamp (by omega)]
        repeat (refine zw_go rfl rfl (fun _ _ => rfl) ?_)
        refine zw_ix rfl (fun _ _ => rfl) (show vp_in (nI ((48 + i))) _ from vp_in_nI (by omega) (by omega)) ?_
        rw [show (nI ((48 + i))).toNatClampNeg = (48 + i) from nI_clamp (by omega)]
        repeat (refine zw_go rfl rfl (fun _ _ => rfl) ?_)
        refine zw_ix rfl (fun _ _ => rfl) (show vp_in (nI ((48 + i))) _ from vp_in_nI (by omega) (by omega)) ?_
        rw [show (nI ((48 + i))).toNatClampNeg = (48 + i) from nI_clamp (by omega)]
        repeat (refine zw_go rfl rfl (fun _ _ => rfl) ?_)
        refine zw_ix rfl (fun _ _ => rfl) (show vp_in (nI ((48 + i))) _ from vp_in_nI (by omega) (by omega)) ?_
        rw [show (nI ((48 + i))).toNatClampNeg = (48 + i) from nI_clamp (by omega)]
        repeat (refine zw_go rfl rfl (fun _ _ => rfl) ?_)
        exact zw_kp hn
  have ends : ∀ (k i : Nat) (g0 g1 : Nat → Int64), i + k = b + 1 → a ≤ i → RwOk (inP a b c d) (mixT T (48+m) i) 96 g0 g1 → zW 0 sc miX2_followThrough 58 [some (.ref 27), some (.ref 28), some (.ref 29), none, none, some (.ref 29), some (.long (bitL m)), none, some (.long (mk (fun e => T (48+m) e) 48)), none, some (.long (mk (fun p => T (48+m) (48 + p)) 48)), none, some (.int (nI i))] [] (xm I J A (va_up (va_up B 6 g0) 7 g1) tl) (fun M r => r = none ∧ ∃ k0 k1, M = xm I J A (va_up (va_up B 6 k0) 7 k1) tl ∧ RwOk (inP a b c d) (wsh T (48+m)) 96 k0 k1) := by
    intro k
    induction k with
    | zero =>
      intro i g0 g1 hi hai hr
      refine zw_nx rfl (fun _ _ => rfl) ?_
      repeat (refine zw_go rfl rfl (fun _ _ => rfl) ?_)
      first | refine zw_br rfl (fun _ _ => rfl) (fun _ => ?_) (fun h9 => absurd (show I 31 < nI i by rw [h31]; exact nI_lt (by omega) (by omega)) h9) | refine zw_nx rfl (fun _ _ => rfl) ?_
      repeat (refine zw_go rfl rfl (fun _ _ => rfl) ?_)
      rw [h32, show (Int8.ofInt 48).toInt32 + nI c = nI (48 + c) from nI_add 48 c]
      refine zw_kp (picks (d + 1 - c) c g0 g1 (by omega) (Nat.le_refl c) (rw_skip hr (fun s h1 h2 => ?_) (by omega)))
      by_cases h3 : s < 48
      · rw [inP_e h3]; exact decide_eq_false (by omega)
      · rw [show s = 48 + (s - 48) by omega, inP_p]; exact decide_eq_false (by omega)
    | succ k ih =>
      intro i g0 g1 hi hai hr
      have hin : inP a b c d i = true := by rw [inP_e (by omega)]; exact decide_eq_true ⟨hai, by omega⟩
      have hrow2 := hr i hin (by omega)
      rw [mix_out (Nat.le_refl _)] at hrow2
      refine zw_nx rfl (fun _ _ => rfl) ?_
      repeat (refine zw_go rfl rfl (fun _ _ => rfl) ?_)
      first | refine zw_br rfl (fun _ _ => rfl) (fun h9 => absurd h9 (show ¬ I 31 < nI i by rw [h31]; exact nI_nlt (by omega) (by omega))) (fun _ => ?_) | refine zw_nx rfl (fun _ _ => rfl) ?_
      repeat (refine zw_go rfl rfl (fun _ _ => rfl) ?_)
      refine zw_ix rfl (fun _ _ => rfl) (show vp_in (nI (i)) _ from vp_in_nI (by omega) (by omega)) ?_
      rw [show (nI (i)).toNatClampNeg = i from nI_clamp (by omega)]
      repeat (refine zw_go rfl rfl (fun _ _ => rfl) ?_)
      have hbit : lg_cmp (g1 i &&& bitL m) 0 = 0 ↔ T i (48+m) = false := by
        first | rw [hrow2.1, and_bit (by omega) hm48] | rw [hrow2.2, and_bit (by omega) hm48]
      refine zw_br rfl (fun _ _ => rfl) (fun (hc : lg_cmp (g1 i &&& bitL m) 0 = 0) => ?_) (fun (hc : ¬ (lg_cmp (g1 i &&& bitL m) 0 = 0)) => ?_)
      · have hn := ih (i + 1) g0 g1 (by omega) (by omega) (rw_no hr (hbit.mp hc))
        rw [nI_succ] at hn
        repeat (refine zw_go rfl rfl (fun _ _ => rfl) ?_)
        exact zw_kp hn
      · have hT : T i (48+m) = true := by
          cases hh : T i (48+m)
          · exact absurd (hbit.mpr hh) hc
          · rfl
        have hn := ih (i + 1) _ _ (by omega) (by omega) (rw_one hr hT)
        rw [nI_succ, ← hrow2.1, ← hrow2.2] at hn
        repeat (refine zw_go rfl rfl (fun _ _ => rfl) ?_)
        refine zw_ix rfl (fun _ _ => rfl) (show vp_in (nI (i)) _ from vp_in_nI (by omega) (by omega)) ?_
        rw [show (nI (i)).toNatClampNeg = i from nI_clamp (by omega)]
        repeat (refine zw_go rfl rfl (fun _ _ => rfl) ?_)
        refine zw_ix rfl (fun _ _ => rfl) (show vp_in (nI (i)) _ from vp_in_nI (by omega) (by omega)) ?_
        rw [show (nI (i)).toNatClampNeg = i from nI_clamp (by omega)]
        repeat (refine zw_go rfl rfl (fun _ _ => rfl) ?_)
        refine zw_ix rfl (fun _ _ => rfl) (show vp_in (nI (i)) _ from vp_in_nI (by omega) (by omega)) ?_
        rw [show (nI (i)).toNatClampNeg = i from nI_clamp (by omega)]
        repeat (refine zw_go rfl rfl (fun _ _ => rfl) ?_)
        refine zw_ix rfl (fun _ _ => rfl) (show vp_in (nI (i)) _ from vp_in_nI (by omega) (by omega)) ?_
        rw [show (nI (i)).toNatClampNeg = i from nI_clamp (by omega)]
        repeat (refine zw_go rfl rfl (fun _ _ => rfl) ?_)
        exact zw_kp hn
  have start := ends (b + 1 - a) a g0 g1 (by omega) (Nat.le_refl a) (fun s hs h96 => by
    have h1 := hR s hs h96
    by_cases h2 : s < a
    · rw [inP_e (by omega)] at hs
      have := of_decide_eq_true hs
      omega
    · rw [mix_out (by omega)]; exact h1)
  rw [← hrow.1, ← hrow.2] at start
  refine zc_of hkX2_followThrough rfl ?_
  repeat (refine zw_go rfl rfl (fun _ _ => rfl) ?_)
  first
    | refine zw_br rfl (fun _ _ => rfl) (fun h9 => absurd h9 (nI_ge (a := m) (b := 48) (by omega) (by decide))) (fun _ => ?_)
    | refine zw_br rfl (fun _ _ => rfl) (fun _ => ?_) (fun h9 => absurd (nI_le (a := 48) (b := 48 + m) (by omega) (by omega)) h9)
  repeat (refine zw_go rfl rfl (fun _ _ => rfl) ?_)
  refine zw_ix rfl (fun _ _ => rfl) (show vp_in (nI ((48+m))) _ from vp_in_nI (by omega) (by omega)) ?_
  rw [show (nI ((48+m))).toNatClampNeg = (48+m) from nI_clamp (by omega)]
  repeat (refine zw_go rfl rfl (fun _ _ => rfl) ?_)
  refine zw_ix rfl (fun _ _ => rfl) (show vp_in (nI ((48+m))) _ from vp_in_nI (by omega) (by omega)) ?_
  rw [show (nI ((48+m))).toNatClampNeg = (48+m) from nI_clamp (by omega)]
  repeat (refine zw_go rfl rfl (fun _ _ => rfl) ?_)
  rw [h30]
  try rw [show nI (48+m) - (Int8.ofInt 48).toInt32 = nI m from by rw [show (Int8.ofInt 48).toInt32 = nI 48 from rfl, nI_sub (by omega), Nat.add_sub_cancel_left]]
  exact zw_kp start
set_option maxHeartbeats 4000000 in
set_option maxRecDepth 20000 in
theorem xFTAe (T : Nat → Nat → Bool) (m : Nat) (hm : inP a b c d m = true) (hm48 : m < 48) (h30 : I 30 = nI a) (h31 : I 31 = nI b) (h32 : I 32 = nI c) (h33 : I 33 = nI d) (hab : a ≤ b) (hb : b < 48) (hcd : c ≤ d) (hd : d < 48) (g0 g1 : Nat → Int64) (hR : RwOk (inP a b c d) T 96 g0 g1) : zC 1 sc 26 [.ref 27, .ref 30, .ref 31, .int (nI m)] (xm I J A (va_up (va_up B 8 g0) 9 g1) tl) (fun M r => r = none ∧ ∃ k0 k1, M = xm I J A (va_up (va_up B 8 k0) 9 k1) tl ∧ RwOk (inP a b c d) (wsh T m) 96 k0 k1) := by
  have hrow := hR m hm (by omega)
  have picks : ∀ (k i : Nat) (g0 g1 : Nat → Int64), i + k = d + 1 → c ≤ i → RwOk (inP a b c d) (mixT T m (48 + i)) 96 g0 g1 → zW 0 sc miX2_followThrough 113 [some (.ref 27), some (.ref 30), some (.ref 31), none, none, some (.ref 30), some (.long (bitL m)), none, some (.long (mk (fun e => T m e) 48)), none, some (.long (mk (fun p => T m (48 + p)) 48)), none, some (.int (nI (48 + i)))] [] (xm I J A (va_up (va_up B 8 g0) 9 g1) tl) (fun M r => r = none ∧ ∃ k0 k1, M = xm I J A (va_up (va_up B 8 k0) 9 k1) tl ∧ RwOk (inP a b c d) (wsh T m) 96 k0 k1) := by
    intro k
    induction k with
    | zero =>
      intro i g0 g1 hi hci hr
      refine zw_nx rfl (fun _ _ => rfl) ?_
      repeat (refine zw_go rfl rfl (fun _ _ => rfl) ?_)
      rw [h33, show (Int8.ofInt 48).toInt32 + nI d = nI (48 + d) from nI_add 48 d]
      first | refine zw_br rfl (fun _ _ => rfl) (fun _ => ?_) (fun h9 => absurd (show nI (48 + d) < nI (48 + i) from nI_lt (by omega) (by omega)) h9) | refine zw_nx rfl (fun _ _ => rfl) ?_
      repeat (refine zw_go rfl rfl (fun _ _ => rfl) ?_)
      refine zw_ret rfl (fun _ _ => rfl) ?_
      refine ⟨rfl, g0, g1, rfl, fun s hs h96 => ?_⟩
      have h1 := hr s hs h96
      by_cases h2 : s < 48 + i
      · rw [mix_in h2] at h1; exact h1
      · have h3 := hs
        rw [show s = 48 + (s - 48) by omega, inP_p] at h3
        have := of_decide_eq_true h3
        omega
    | succ k ih =>
      intro i g0 g1 hi hci hr
      have hin : inP a b c d (48 + i) = true := by rw [inP_p]; exact decide_eq_true ⟨hci, by omega⟩
      have hrow2 := hr (48 + i) hin (by omega)
      rw [mix_out (Nat.le_refl _)] at hrow2
      refine zw_nx rfl (fun _ _ => rfl) ?_
      repeat (refine zw_go rfl rfl (fun _ _ => rfl) ?_)
      rw [h33, show (Int8.ofInt 48).toInt32 + nI d = nI (48 + d) from nI_add 48 d]
      first | refine zw_br rfl (fun _ _ => rfl) (fun h9 => absurd h9 (show ¬ nI (48 + d) < nI (48 + i) from nI_nlt (by omega) (by omega))) (fun _ => ?_) | refine zw_nx rfl (fun _ _ => rfl) ?_
      repeat (refine zw_go rfl rfl (fun _ _ => rfl) ?_)
      refine zw_ix rfl (fun _ _ => rfl) (show vp_in (nI ((48 + i))) _ from vp_in_nI (by omega) (by omega)) ?_
      rw [show (nI ((48 + i))).toNatClampNeg = (48 + i) from nI_clamp (by omega)]
      repeat (refine zw_go rfl rfl (fun _ _ => rfl) ?_)
      have hbit : lg_cmp (g0 (48 + i) &&& bitL m) 0 = 0 ↔ T (48 + i) m = false := by
        first | rw [hrow2.1, and_bit (by omega) hm48] | rw [hrow2.2, and_bit (by omega) hm48]
      refine zw_br rfl (fun _ _ => rfl) (fun (hc : lg_cmp (g0 (48 + i) &&& bitL m) 0 = 0) => ?_) (fun (hc : ¬ (lg_cmp (g0 (48 + i) &&& bitL m) 0 = 0)) => ?_)
      · have hn := ih (i + 1) g0 g1 (by omega) (by omega) (rw_no hr (hbit.mp hc))
        rw [← Nat.add_assoc, nI_succ] at hn
        repeat (refine zw_go rfl rfl (fun _ _ => rfl) ?_)
        exact zw_kp hn
      · have hT : T (48 + i) m = true := by
          cases hh : T (48 + i) m
          · exact absurd (hbit.mpr hh) hc
          · rfl
        have h5 := rw_one hr hT
        rw [← hrow2.1, ← hrow2.2] at h5
        have hn := ih (i + 1) _ _ (by omega) (by omega) h5
        rw [← Nat.add_assoc, nI_succ] at hn
        repeat (refine zw_go rfl rfl (fun _ _ => rfl) ?_)
        refine zw_ix rfl (fun _ _ => rfl) (show vp_in (nI ((48 + i))) _ from vp_in_nI (by omega) (by omega)) ?_
        rw [show (nI ((48 + i))).toNatClampNeg = (48 + i) from nI_clamp (by omega)]
        repeat (refine zw_go rfl rfl (fun _ _ => rfl) ?_)
        refine zw_ix rfl (fun _ _ => rfl) (show vp_in (nI ((48 + i))) _ from vp_in_nI (by omega) (by omega)) ?_
        rw [show (nI ((48 + i))).toNatClampNeg = (48 + i) from nI_clamp (by omega)]
        repeat (refine zw_go rfl rfl (fun _ _ => rfl) ?_)
        refine zw_ix rfl (fun _ _ => rfl) (show vp_in (nI ((48 + i))) _ from vp_in_nI (by omega) (by omega)) ?_
        rw [show (nI ((48 + i))).toNatClampNeg = (48 + i) from nI_clamp (by omega)]
        repeat (refine zw_go rfl rfl (fun _ _ => rfl) ?_)
        refine zw_ix rfl (fun _ _ => rfl) (show vp_in (nI ((48 + i))) _ from vp_in_nI (by omega) (by omega)) ?_
        rw [show (nI ((48 + i))).toNatClampNeg = (48 + i) from nI_clamp (by omega)]
        repeat (refine zw_go rfl rfl (fun _ _ => rfl) ?_)
        exact zw_kp hn
  have ends : ∀ (k i : Nat) (g0 g1 : Nat → Int64), i + k = b + 1 → a ≤ i → RwOk (inP a b c d) (mixT T m i) 96 g0 g1 → zW 0 sc miX2_followThrough 58 [some (.ref 27), some (.ref 30), some (.ref 31), none, none, some (.ref 30), some (.long (bitL m)), none, some (.long (mk (fun e => T m e) 48)), none, some (.long (mk (fun p => T m (48 + p)) 48)), none, some (.int (nI i))] [] (xm I J A (va_up (va_up B 8 g0) 9 g1) tl) (fun M r => r = none ∧ ∃ k0 k1, M = xm I J A (va_up (va_up B 8 k0) 9 k1) tl ∧ RwOk (inP a b c d) (wsh T m) 96 k0 k1) := by
    intro k
    induction k with
    | zero =>
      intro i g0 g1 hi hai hr
      refine zw_nx rfl (fun _ _ => rfl) ?_
      repeat (refine zw_go rfl rfl (fun _ _ => rfl) ?_)
      first | refine zw_br rfl (fun _ _ => rfl) (fun _ => ?_) (fun h9 => absurd (show I 31 < nI i by rw [h31]; exact nI_lt (by omega) (by omega)) h9) | refine zw_nx rfl (fun _ _ => rfl) ?_
      repeat (refine zw_go rfl rfl (fun _ _ => rfl) ?_)
      rw [h32, show (Int8.ofInt 48).toInt32 + nI c = nI (48 + c) from nI_add 48 c]
      refine zw_kp (picks (d + 1 - c) c g0 g1 (by omega) (Nat.le_refl c) (rw_skip hr (fun s h1 h2 => ?_) (by omega)))
      by_cases h3 : s < 48
      · rw [inP_e h3]; exact decide_eq_false (by omega)
      · rw [show s = 48 + (s - 48) by omega, inP_p]; exact decide_eq_false (by omega)
    | succ k ih =>
      intro i g0 g1 hi hai hr
      have hin : inP a b c d i = true := by rw [inP_e (by omega)]; exact decide_eq_true ⟨hai, by omega⟩
      have hrow2 := hr i hin (by omega)
      rw [mix_out (Nat.le_refl _)] at hrow2
      refine zw_nx rfl (fun _ _ => rfl) ?_
      repeat (refine zw_go rfl rfl (fun _ _ => rfl) ?_)
      first | refine zw_br rfl (fun _ _ => rfl) (fun h9 => absurd h9 (show ¬ I 31 < nI i by rw [h31]; exact nI_nlt (by omega) (by omega))) (fun _ => ?_) | refine zw_nx rfl (fun _ _ => rfl) ?_
      repeat (refine zw_go rfl rfl (fun _ _ => rfl) ?_)
      refine zw_ix rfl (fun _ _ => rfl) (show vp_in (nI (i)) _ from vp_in_nI (by omega) (by omega)) ?_
      rw [show (nI (i)).toNatClampNeg = i from nI_clamp (by omega)]
      repeat (refine zw_go rfl rfl (fun _ _ => rfl) ?_)
      have hbit : lg_cmp (g0 i &&& bitL m) 0 = 0 ↔ T i m = false := by
        first | rw [hrow2.1, and_bit (by omega) hm48] | rw [hrow2.2, and_bit (by omega) hm48]
      refine zw_br rfl (fun _ _ => rfl) (fun (hc : lg_cmp (g0 i &&& bitL m) 0 = 0) => ?_) (fun (hc : ¬ (lg_cmp (g0 i &&& bitL m) 0 = 0)) => ?_)
      · have hn := ih (i + 1) g0 g1 (by omega) (by omega) (rw_no hr (hbit.mp hc))
        rw [nI_succ] at hn
        repeat (refine zw_go rfl rfl (fun _ _ => rfl) ?_)
        exact zw_kp hn
      · have hT : T i m = true := by
          cases hh : T i m
          · exact absurd (hbit.mpr hh) hc
          · rfl
        have hn := ih (i + 1) _ _ (by omega) (by omega) (rw_one hr hT)
        rw [nI_succ, ← hrow2.1, ← hrow2.2] at hn
        repeat (refine zw_go rfl rfl (fun _ _ => rfl) ?_)
        refine zw_ix rfl (fun _ _ => rfl) (show vp_in (nI (i)) _ from vp_in_nI (by omega) (by omega)) ?_
        rw [show (nI (i)).toNatClampNeg = i from nI_clamp (by omega)]
        repeat (refine zw_go rfl rfl (fun _ _ => rfl) ?_)
        refine zw_ix rfl (fun _ _ => rfl) (show vp_in (nI (i)) _ from vp_in_nI (by omega) (by omega)) ?_
        rw [show (nI (i)).toNatClampNeg = i from nI_clamp (by omega)]
        repeat (refine zw_go rfl rfl (fun _ _ => rfl) ?_)
        refine zw_ix rfl (fun _ _ => rfl) (show vp_in (nI (i)) _ from vp_in_nI (by omega) (by omega)) ?_
        rw [show (nI (i)).toNatClampNeg = i from nI_clamp (by omega)]
        repeat (refine zw_go rfl rfl (fun _ _ => rfl) ?_)
        refine zw_ix rfl (fun _ _ => rfl) (show vp_in (nI (i)) _ from vp_in_nI (by omega) (by omega)) ?_
        rw [show (nI (i)).toNatClampNeg = i from nI_clamp (by omega)]
        repeat (refine zw_go rfl rfl (fun _ _ => rfl) ?_)
        exact zw_kp hn
  have start := ends (b + 1 - a) a g0 g1 (by omega) (Nat.le_refl a) (fun s hs h96 => by
    have h1 := hR s hs h96
    by_cases h2 : s < a
    · rw [inP_e (by omega)] at hs
      have := of_decide_eq_true hs
      omega
    · rw [mix_out (by omega)]; exact h1)
  rw [← hrow.1, ← hrow.2] at start
  refine zc_of hkX2_followThrough rfl ?_
  repeat (refine zw_go rfl rfl (fun _ _ => rfl) ?_)
  first
    | refine zw_br rfl (fun _ _ => rfl) (fun h9 => absurd h9 (nI_ge (a := m) (b := 48) (by omega) (by decide))) (fun _ => ?_)
    | refine zw_br rfl (fun _ _ => rfl) (fun _ => ?_) (fun h9 => absurd (nI_le (a := 48) (b := 48 + m) (by omega) (by omega)) h9)
  repeat (refine zw_go rfl rfl (fun _ _ => rfl) ?_)
  refine zw_ix rfl (fun _ _ => rfl) (show vp_in (nI (m)) _ from vp_in_nI (by omega) (by omega)) ?_
  rw [show (nI (m)).toNatClampNeg = m from nI_clamp (by omega)]
  repeat (refine zw_go rfl rfl (fun _ _ => rfl) ?_)
  refine zw_ix rfl (fun _ _ => rfl) (show vp_in (nI (m)) _ from vp_in_nI (by omega) (by omega)) ?_
  rw [show (nI (m)).toNatClampNeg = m from nI_clamp (by omega)]
  repeat (refine zw_go rfl rfl (fun _ _ => rfl) ?_)
  rw [h30]
  try rw [show nI (48+m) - (Int8.ofInt 48).toInt32 = nI m from by rw [show (Int8.ofInt 48).toInt32 = nI 48 from rfl, nI_sub (by omega), Nat.add_sub_cancel_left]]
  exact zw_kp start
set_option maxHeartbeats 4000000 in
set_option maxRecDepth 20000 in
theorem xFTAp (T : Nat → Nat → Bool) (m : Nat) (hm : inP a b c d (48+m) = true) (hm48 : m < 48) (h30 : I 30 = nI a) (h31 : I 31 = nI b) (h32 : I 32 = nI c) (h33 : I 33 = nI d) (hab : a ≤ b) (hb : b < 48) (hcd : c ≤ d) (hd : d < 48) (g0 g1 : Nat → Int64) (hR : RwOk (inP a b c d) T 96 g0 g1) : zC 1 sc 26 [.ref 27, .ref 30, .ref 31, .int (nI (48+m))] (xm I J A (va_up (va_up B 8 g0) 9 g1) tl) (fun M r => r = none ∧ ∃ k0 k1, M = xm I J A (va_up (va_up B 8 k0) 9 k1) tl ∧ RwOk (inP a b c d) (wsh T (48+m)) 96 k0 k1) := by
  have hrow := hR (48+m) hm (by omega)
  have picks : ∀ (k i : Nat) (g0 g1 : Nat → Int64), i + k = d + 1 → c ≤ i → RwOk (inP a b c d) (mixT T (48+m) (48 + i)) 96 g0 g1 → zW 0 sc miX2_followThrough 113 [some (.ref 27), some (.ref 30), some (.ref 31), none, none, some (.ref 31), some (.long (bitL m)), none, some (.long (mk (fun e => T (48+m) e) 48)), none, some (.long (mk (fun p => T (48+m) (48 + p)) 48)), none, some (.int (nI (48 + i)))] [] (xm I J A (va_up (va_up B 8 g0) 9 g1) tl) (fun M r => r = none ∧ ∃ k0 k1, M = xm I J A (va_up (va_up B 8 k0) 9 k1) tl ∧ RwOk (inP a b c d) (wsh T (48+m)) 96 k0 k1) := by
    intro k
    induction k with
    | zero =>
      intro i g0 g1 hi hci hr
      refine zw_nx rfl (fun _ _ => rfl) ?_
      repeat (refine zw_go rfl rfl (fun _ _ => rfl) ?_)
      rw [h33, show (Int8.ofInt 48).toInt32 + nI d = nI (48 + d) from nI_add 48 d]
      first | refine zw_br rfl (fun _ _ => rfl) (fun _ => ?_) (fun h9 => absurd (show nI (48 + d) < nI (48 + i) from nI_lt (by omega) (by omega)) h9) | refine zw_nx rfl (fun _ _ => rfl) ?_
      repeat (refine zw_go rfl rfl (fun _ _ => rfl) ?_)
      refine zw_ret rfl (fun _ _ => rfl) ?_
      refine ⟨rfl, g0, g1, rfl, fun s hs h96 => ?_⟩
      have h1 := hr s hs h96
      by_cases h2 : s < 48 + i
      · rw [mix_in h2] at h1; exact h1
      · have h3 := hs
        rw [show s = 48 + (s - 48) by omega, inP_p] at h3
        have := of_decide_eq_true h3
        omega
    | succ k ih =>
      intro i g0 g1 hi hci hr
      have hin : inP a b c d (48 + i) = true := by rw [inP_p]; exact decide_eq_true ⟨hci, by omega⟩
      have hrow2 := hr (48 + i) hin (by omega)
      rw [mix_out (Nat.le_refl _)] at hrow2
      refine zw_nx rfl (fun _ _ => rfl) ?_
      repeat (refine zw_go rfl rfl (fun _ _ => rfl) ?_)
      rw [h33, show (Int8.ofInt 48).toInt32 + nI d = nI (48 + d) from nI_add 48 d]
      first | refine zw_br rfl (fun _ _ => rfl) (fun h9 => absurd h9 (show ¬ nI (48 + d) < nI (48 + i) from nI_nlt (by omega) (by omega))) (fun _ => ?_) | refine zw_nx rfl (fun _ _ => rfl) ?_
      repeat (refine zw_go rfl rfl (fun _ _ => rfl) ?_)
      refine zw_ix rfl (fun _ _ => rfl) (show vp_in (nI ((48 + i))) _ from vp_in_nI (by omega) (by omega)) ?_
      rw [show (nI ((48 + i))).toNatClampNeg = (48 + i) from nI_clamp (by omega)]
      repeat (refine zw_go rfl rfl (fun _ _ => rfl) ?_)
      have hbit : lg_cmp (g1 (48 + i) &&& bitL m) 0 = 0 ↔ T (48 + i) (48+m) = false := by
        first | rw [hrow2.1, and_bit (by omega) hm48] | rw [hrow2.2, and_bit (by omega) hm48]
      refine zw_br rfl (fun _ _ => rfl) (fun (hc : lg_cmp (g1 (48 + i) &&& bitL m) 0 = 0) => ?_) (fun (hc : ¬ (lg_cmp (g1 (48 + i) &&& bitL m) 0 = 0)) => ?_)
      · have hn := ih (i + 1) g0 g1 (by omega) (by omega) (rw_no hr (hbit.mp hc))
        rw [← Nat.add_assoc, nI_succ] at hn
        repeat (refine zw_go rfl rfl (fun _ _ => rfl) ?_)
        exact zw_kp hn
      · have hT : T (48 + i) (48+m) = true := by
          cases hh : T (48 + i) (48+m)
          · exact absurd (hbit.mpr hh) hc
          · rfl
        have h5 := rw_one hr hT
        rw [← hrow2.1, ← hrow2.2] at h5
        have hn := ih (i + 1) _ _ (by omega) (by omega) h5
        rw [← Nat.add_assoc, nI_succ] at hn
        repeat (refine zw_go rfl rfl (fun _ _ => rfl) ?_)
        refine zw_ix rfl (fun _ _ => rfl) (show vp_in (nI ((48 + i))) _ from vp_in_nI (by omega) (by omega)) ?_
        rw [show (nI ((48 + i))).toNatClampNeg = (48 + i) from nI_clamp (by omega)]
        repeat (refine zw_go rfl rfl (fun _ _ => rfl) ?_)
        refine zw_ix rfl (fun _ _ => rfl) (show vp_in (nI ((48 + i))) _ from vp_in_nI (by omega) (by omega)) ?_
        rw [show (nI ((48 + i))).toNatClampNeg = (48 + i) from nI_clamp (by omega)]
        repeat (refine zw_go rfl rfl (fun _ _ => rfl) ?_)
        refine zw_ix rfl (fun _ _ => rfl) (show vp_in (nI ((48 + i))) _ from vp_in_nI (by omega) (by omega)) ?_
        rw [show (nI ((48 + i))).toNatClampNeg = (48 + i) from nI_clamp (by omega)]
        repeat (refine zw_go rfl rfl (fun _ _ => rfl) ?_)
        refine zw_ix rfl (fun _ _ => rfl) (show vp_in (nI ((48 + i))) _ from vp_in_nI (by omega) (by omega)) ?_
        rw [show (nI ((48 + i))).toNatClampNeg = (48 + i) from nI_clamp (by omega)]
        repeat (refine zw_go rfl rfl (fun _ _ => rfl) ?_)
        exact zw_kp hn
  have ends : ∀ (k i : Nat) (g0 g1 : Nat → Int64), i + k = b + 1 → a ≤ i → RwOk (inP a b c d) (mixT T (48+m) i) 96 g0 g1 → zW 0 sc miX2_followThrough 58 [some (.ref 27), some (.ref 30), some (.ref 31), none, none, some (.ref 31), some (.long (bitL m)), none, some (.long (mk (fun e => T (48+m) e) 48)), none, some (.long (mk (fun p => T (48+m) (48 + p)) 48)), none, some (.int (nI i))] [] (xm I J A (va_up (va_up B 8 g0) 9 g1) tl) (fun M r => r = none ∧ ∃ k0 k1, M = xm I J A (va_up (va_up B 8 k0) 9 k1) tl ∧ RwOk (inP a b c d) (wsh T (48+m)) 96 k0 k1) := by
    intro k
    induction k with
    | zero =>
      intro i g0 g1 hi hai hr
      refine zw_nx rfl (fun _ _ => rfl) ?_
      repeat (refine zw_go rfl rfl (fun _ _ => rfl) ?_)
      first | refine zw_br rfl (fun _ _ => rfl) (fun _ => ?_) (fun h9 => absurd (show I 31 < nI i by rw [h31]; exact nI_lt (by omega) (by omega)) h9) | refine zw_nx rfl (fun _ _ => rfl) ?_
      repeat (refine zw_go rfl rfl (fun _ _ => rfl) ?_)
      rw [h32, show (Int8.ofInt 48).toInt32 + nI c = nI (48 + c) from nI_add 48 c]
      refine zw_kp (picks (d + 1 - c) c g0 g1 (by omega) (Nat.le_refl c) (rw_skip hr (fun s h1 h2 => ?_) (by omega)))
      by_cases h3 : s < 48
      · rw [inP_e h3]; exact decide_eq_false (by omega)
      · rw [show s = 48 + (s - 48) by omega, inP_p]; exact decide_eq_false (by omega)
    | succ k ih =>
      intro i g0 g1 hi hai hr
      have hin : inP a b c d i = true := by rw [inP_e (by omega)]; exact decide_eq_true ⟨hai, by omega⟩
      have hrow2 := hr i hin (by omega)
      rw [mix_out (Nat.le_refl _)] at hrow2
      refine zw_nx rfl (fun _ _ => rfl) ?_
      repeat (refine zw_go rfl rfl (fun _ _ => rfl) ?_)
      first | refine zw_br rfl (fun _ _ => rfl) (fun h9 => absurd h9 (show ¬ I 31 < nI i by rw [h31]; exact nI_nlt (by omega) (by omega))) (fun _ => ?_) | refine zw_nx rfl (fun _ _ => rfl) ?_
      repeat (refine zw_go rfl rfl (fun _ _ => rfl) ?_)
      refine zw_ix rfl (fun _ _ => rfl) (show vp_in (nI (i)) _ from vp_in_nI (by omega) (by omega)) ?_
      rw [show (nI (i)).toNatClampNeg = i from nI_clamp (by omega)]
      repeat (refine zw_go rfl rfl (fun _ _ => rfl) ?_)
      have hbit : lg_cmp (g1 i &&& bitL m) 0 = 0 ↔ T i (48+m) = false := by
        first | rw [hrow2.1, and_bit (by omega) hm48] | rw [hrow2.2, and_bit (by omega) hm48]
      refine zw_br rfl (fun _ _ => rfl) (fun (hc : lg_cmp (g1 i &&& bitL m) 0 = 0) => ?_) (fun (hc : ¬ (lg_cmp (g1 i &&& bitL m) 0 = 0)) => ?_)
      · have hn := ih (i + 1) g0 g1 (by omega) (by omega) (rw_no hr (hbit.mp hc))
        rw [nI_succ] at hn
        repeat (refine zw_go rfl rfl (fun _ _ => rfl) ?_)
        exact zw_kp hn
      · have hT : T i (48+m) = true := by
          cases hh : T i (48+m)
          · exact absurd (hbit.mpr hh) hc
          · rfl
        have hn := ih (i + 1) _ _ (by omega) (by omega) (rw_one hr hT)
        rw [nI_succ, ← hrow2.1, ← hrow2.2] at hn
        repeat (refine zw_go rfl rfl (fun _ _ => rfl) ?_)
        refine zw_ix rfl (fun _ _ => rfl) (show vp_in (nI (i)) _ from vp_in_nI (by omega) (by omega)) ?_
        rw [show (nI (i)).toNatClampNeg = i from nI_clamp (by omega)]
        repeat (refine zw_go rfl rfl (fun _ _ => rfl) ?_)
        refine zw_ix rfl (fun _ _ => rfl) (show vp_in (nI (i)) _ from vp_in_nI (by omega) (by omega)) ?_
        rw [show (nI (i)).toNatClampNeg = i from nI_clamp (by omega)]
        repeat (refine zw_go rfl rfl (fun _ _ => rfl) ?_)
        refine zw_ix rfl (fun _ _ => rfl) (show vp_in (nI (i)) _ from vp_in_nI (by omega) (by omega)) ?_
        rw [show (nI (i)).toNatClampNeg = i from nI_clamp (by omega)]
        repeat (refine zw_go rfl rfl (fun _ _ => rfl) ?_)
        refine zw_ix rfl (fun _ _ => rfl) (show vp_in (nI (i)) _ from vp_in_nI (by omega) (by omega)) ?_
        rw [show (nI (i)).toNatClampNeg = i from nI_clamp (by omega)]
        repeat (refine zw_go rfl rfl (fun _ _ => rfl) ?_)
        exact zw_kp hn
  have start := ends (b + 1 - a) a g0 g1 (by omega) (Nat.le_refl a) (fun s hs h96 => by
    have h1 := hR s hs h96
    by_cases h2 : s < a
    · rw [inP_e (by omega)] at hs
      have := of_decide_eq_true hs
      omega
    · rw [mix_out (by omega)]; exact h1)
  rw [← hrow.1, ← hrow.2] at start
  refine zc_of hkX2_followThrough rfl ?_
  repeat (refine zw_go rfl rfl (fun _ _ => rfl) ?_)
  first
    | refine zw_br rfl (fun _ _ => rfl) (fun h9 => absurd h9 (nI_ge (a := m) (b := 48) (by omega) (by decide))) (fun _ => ?_)
    | refine zw_br rfl (fun _ _ => rfl) (fun _ => ?_) (fun h9 => absurd (nI_le (a := 48) (b := 48 + m) (by omega) (by omega)) h9)
  repeat (refine zw_go rfl rfl (fun _ _ => rfl) ?_)
  refine zw_ix rfl (fun _ _ => rfl) (show vp_in (nI ((48+m))) _ from vp_in_nI (by omega) (by omega)) ?_
  rw [show (nI ((48+m))).toNatClampNeg = (48+m) from nI_clamp (by omega)]
  repeat (refine zw_go rfl rfl (fun _ _ => rfl) ?_)
  refine zw_ix rfl (fun _ _ => rfl) (show vp_in (nI ((48+m))) _ from vp_in_nI (by omega) (by omega)) ?_
  rw [show (nI ((48+m))).toNatClampNeg = (48+m) from nI_clamp (by omega)]
  repeat (refine zw_go rfl rfl (fun _ _ => rfl) ?_)
  rw [h30]
  try rw [show nI (48+m) - (Int8.ofInt 48).toInt32 = nI m from by rw [show (Int8.ofInt 48).toInt32 = nI 48 from rfl, nI_sub (by omega), Nat.add_sub_cancel_left]]
  exact zw_kp start
end

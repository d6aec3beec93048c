/-! the class: relate -/
theorem rel_ee {V : Nat → Int32} {a b c d s t : Nat} (hs : s < 48) (ht : t < 48) : rel V a b c d s t = false := by
  unfold rel
  rw [if_pos hs, decide_eq_false (by omega), Bool.false_and, Bool.and_false]
theorem rel_pp {V : Nat → Int32} {a b c d s t : Nat} : rel V a b c d (48 + s) (48 + t) = false := by
  unfold rel
  rw [if_neg (by omega), decide_eq_false (by omega), Bool.false_and, Bool.and_false]
theorem rel_ep {V : Nat → Int32} {a b c d e p : Nat} (he : e < 48) : rel V a b c d e (48 + p) = (inP a b c d e && inP a b c d (48 + p) && vUp V e p) := by
  unfold rel
  rw [if_pos he, decide_eq_true (by omega), Bool.true_and, Nat.add_sub_cancel_left]
theorem rel_pe {V : Nat → Int32} {a b c d e p : Nat} (he : e < 48) : rel V a b c d (48 + p) e = (inP a b c d (48 + p) && inP a b c d e && !vUp V e p) := by
  unfold rel
  rw [if_neg (by omega), decide_eq_true he, Bool.true_and, Nat.add_sub_cancel_left]
theorem mk_sub {p q : Nat → Bool} {n : Nat} (hn : n ≤ 48) (hq : ∀ i, n ≤ i → q i = false) : mk p n &&& mk q 48 = mk (fun i => q i && p i) 48 := mk_eq (by omega) (fun i hi => by
  rw [lb_and, lb_mk (by omega), lb_mk (by omega)]
  by_cases h1 : i < n
  · have h2 : i < 48 := by omega
    simp [h1, h2, Bool.and_comm]
  · rw [hq i (by omega)]; simp)
theorem mk_subn {p q : Nat → Bool} {n : Nat} (hn : n ≤ 48) (hq : ∀ i, n ≤ i → q i = false) : (mk p n ^^^ (-1)) &&& mk q 48 = mk (fun i => q i && !p i) 48 := mk_eq (by omega) (fun i hi => by
  rw [lb_and, lb_xor, lb_m1 hi, lb_mk (by omega), lb_mk (by omega)]
  by_cases h1 : i < n
  · have h2 : i < 48 := by omega
    simp [h1, h2, Bool.and_comm]
  · rw [hq i (by omega)]; simp)
/-- the four arrays, up to row n -/
def R4 (V : Nat → Int32) (a b c d n : Nat) (g6 g7 g8 g9 : Nat → Int64) : Prop := RwOk (inP a b c d) (rel V a b c d) n g6 g7 ∧ RwOk (inP a b c d) (fun s t => rel V a b c d t s) n g8 g9
def b4 (B : Nat → Nat → Int64) (g6 g7 g8 g9 : Nat → Int64) : Nat → Nat → Int64 := va_up (va_up (va_up (va_up B 6 g6) 7 g7) 8 g8) 9 g9
theorem r4_add {V : Nat → Int32} {a b c d n : Nat} {g6 g7 g8 g9 : Nat → Int64} {x6 x7 x8 x9 : Int64} (h : R4 V a b c d n g6 g7 g8 g9) (h6 : x6 = mk (fun e => rel V a b c d n e) 48) (h7 : x7 = mk (fun p => rel V a b c d n (48 + p)) 48) (h8 : x8 = mk (fun e => rel V a b c d e n) 48) (h9 : x9 = mk (fun p => rel V a b c d (48 + p) n) 48) : R4 V a b c d (n + 1) (vp_updL g6 n x6) (vp_updL g7 n x7) (vp_updL g8 n x8) (vp_updL g9 n x9) := by
  refine ⟨fun s hs hn => ?_, fun s hs hn => ?_⟩
  · unfold vp_updL
    by_cases h1 : s = n
    · subst h1; rw [if_pos rfl, if_pos rfl]; exact ⟨h6, h7⟩
    · rw [if_neg h1, if_neg h1]; exact h.1 s hs (by omega)
  · unfold vp_updL
    by_cases h1 : s = n
    · subst h1; rw [if_pos rfl, if_pos rfl]; exact ⟨h8, h9⟩
    · rw [if_neg h1, if_neg h1]; exact h.2 s hs (by omega)
theorem r4_skip {V : Nat → Int32} {a b c d n k : Nat} {g6 g7 g8 g9 : Nat → Int64} (h : R4 V a b c d n g6 g7 g8 g9) (hk : ∀ s, n ≤ s → s < k → inP a b c d s = false) : R4 V a b c d k g6 g7 g8 g9 := by
  have key : ∀ s, inP a b c d s = true → s < k → s < n := fun s hs h1 => by
    rcases Nat.lt_or_ge s n with h2 | h2
    · exact h2
    · rw [hk s h2 h1] at hs; cases hs
  exact ⟨fun s hs hn => h.1 s hs (key s hs hn), fun s hs hn => h.2 s hs (key s hs hn)⟩
section
variable (sc : sm_S) (I : Nat → Int32) (J : Nat → Int64) (A : Nat → Nat → Int32) (B : Nat → Nat → Int64) (tl : sm_M) (f : Nat → va_E) (w h n : Nat) (V : Nat → Int32) (a b c d : Nat)
set_option maxHeartbeats 4000000 in
set_option maxRecDepth 20000 in
theorem xRelate (h30 : I 30 = nI a) (h31 : I 31 = nI b) (h32 : I 32 = nI c) (h33 : I 33 = nI d) (hab : a ≤ b) (hbw : b < w) (hw : w ≤ 48) (hcd : c ≤ d) (hdh : d < h) (hh : h ≤ 48) (hJ1 : J 1 = mk (fun e => inP a b c d e) 48) (hJ2 : J 2 = mk (fun p => inP a b c d (48 + p)) 48) (hB0 : ∀ p, p < h → B 0 p = mk (fun e => vUp V e p) w) (hB1 : ∀ e, e < w → B 1 e = mk (fun p => vUp V e p) h) : zC 1 sc 24 [.ref 27] (xm I J A B tl) (fun M r => r = none ∧ ∃ g6 g7 g8 g9, M = xm I J A (b4 B g6 g7 g8 g9) tl ∧ R4 V a b c d 96 g6 g7 g8 g9) := by
  refine zc_of hkX2_relate rfl ?_
  repeat (refine zw_go rfl rfl (fun _ _ => rfl) ?_)
  rw [h30]
  have hq2 : ∀ p, h ≤ p → inP a b c d (48 + p) = false := fun p hp => by rw [inP_p]; exact decide_eq_false (by omega)
  have hq1 : ∀ e, w ≤ e → e < 48 → inP a b c d e = false := fun e he h48 => by rw [inP_e h48]; exact decide_eq_false (by omega)
  have picks : ∀ (k i : Nat) (g6 g7 g8 g9 : Nat → Int64), i + k = d + 1 → c ≤ i → R4 V a b c d (48 + i) g6 g7 g8 g9 → zW 0 sc miX2_relate 82 [some (.ref 27), some (.int (nI i)), none] [] (xm I J A (b4 B g6 g7 g8 g9) tl) (fun M r => r = none ∧ ∃ g6 g7 g8 g9, M = xm I J A (b4 B g6 g7 g8 g9) tl ∧ R4 V a b c d 96 g6 g7 g8 g9) := by
    intro k
    induction k with
    | zero =>
      intro i g6 g7 g8 g9 hi hci hr
      refine zw_nx rfl (fun _ _ => rfl) ?_
      repeat (refine zw_go rfl rfl (fun _ _ => rfl) ?_)
      first | refine zw_br rfl (fun _ _ => rfl) (fun _ => ?_) (fun h9 => absurd (show I 33 < nI i by rw [h33]; exact nI_lt (by omega) (by omega)) h9) | refine zw_nx rfl (fun _ _ => rfl) ?_
      refine zw_ret rfl (fun _ _ => rfl) ?_
      refine ⟨rfl, g6, g7, g8, g9, rfl, r4_skip hr (fun s h1 h2 => ?_)⟩
      rw [show s = 48 + (s - 48) by omega, inP_p]
      exact decide_eq_false (by omega)
    | succ k ih =>
      intro i g6 g7 g8 g9 hi hci hr
      have hin : inP a b c d (48 + i) = true := by rw [inP_p]; exact decide_eq_true ⟨hci, by omega⟩
      have hq3 : ∀ e, w ≤ e → (fun e => decide (e < 48) && inP a b c d e) e = false := fun e he => by
        show (decide (e < 48) && inP a b c d e) = false
        by_cases h5 : e < 48
        · rw [hq1 e he h5, Bool.and_false]
        · rw [decide_eq_false h5]; rfl
      have hJ1' : J 1 = mk (fun e => decide (e < 48) && inP a b c d e) 48 := by rw [hJ1]; exact mk_cong (fun e he => by rw [decide_eq_true he, Bool.true_and])
      have e6 : (B 0 i ^^^ (-1)) &&& J 1 = mk (fun e => rel V a b c d (48 + i) e) 48 := by
        rw [hB0 i (by omega), hJ1', mk_subn hw hq3]
        exact mk_cong (fun e he => by rw [rel_pe he, hin, decide_eq_true he])
      have e8 : B 0 i &&& J 1 = mk (fun e => rel V a b c d e (48 + i)) 48 := by
        rw [hB0 i (by omega), hJ1', mk_sub hw hq3]
        exact mk_cong (fun e he => by rw [rel_ep he, hin, decide_eq_true he, Bool.true_and, Bool.and_true])
      have e7 : (0 : Int64) = mk (fun p => rel V a b c d (48 + i) (48 + p)) 48 := by rw [← mk_false 48]; exact mk_cong (fun p _ => rel_pp.symm)
      have e9 : (0 : Int64) = mk (fun p => rel V a b c d (48 + p) (48 + i)) 48 := by rw [← mk_false 48]; exact mk_cong (fun p _ => rel_pp.symm)
      have hn := ih (i + 1) _ _ _ _ (by omega) (by omega) (r4_add hr e6 e7 e8 e9)
      rw [nI_succ] at hn
      refine zw_nx rfl (fun _ _ => rfl) ?_
      repeat (refine zw_go rfl rfl (fun _ _ => rfl) ?_)
      first | refine zw_br rfl (fun _ _ => rfl) (fun h9 => absurd h9 (show ¬ I 33 < nI i by rw [h33]; exact nI_nlt (by omega) (by omega))) (fun _ => ?_) | refine zw_nx rfl (fun _ _ => rfl) ?_
      repeat (refine zw_go rfl rfl (fun _ _ => rfl) ?_)
      rw [show (Int8.ofInt 48).toInt32 + nI i = nI (48 + i) from nI_add 48 i]
      refine zw_ix rfl (fun _ _ => rfl) (show vp_in (nI (i)) _ from vp_in_nI (by omega) (by omega)) ?_
      rw [show (nI (i)).toNatClampNeg = i from nI_clamp (by omega)]
      repeat (refine zw_go rfl rfl (fun _ _ => rfl) ?_)
      refine zw_ix rfl (fun _ _ => rfl) (show vp_in (nI ((48 + i))) _ from vp_in_nI (by omega) (by omega)) ?_
      rw [show (nI ((48 + i))).toNatClampNeg = (48 + i) from nI_clamp (by omega)]
      repeat (refine zw_go rfl rfl (fun _ _ => rfl) ?_)
      refine zw_ix rfl (fun _ _ => rfl) (show vp_in (nI ((48 + i))) _ from vp_in_nI (by omega) (by omega)) ?_
      rw [show (nI ((48 + i))).toNatClampNeg = (48 + i) from nI_clamp (by omega)]
      repeat (refine zw_go rfl rfl (fun _ _ => rfl) ?_)
      refine zw_ix rfl (fun _ _ => rfl) (show vp_in (nI (i)) _ from vp_in_nI (by omega) (by omega)) ?_
      rw [show (nI (i)).toNatClampNeg = i from nI_clamp (by omega)]
      repeat (refine zw_go rfl rfl (fun _ _ => rfl) ?_)
      refine zw_ix rfl (fun _ _ => rfl) (show vp_in (nI ((48 + i))) _ from vp_in_nI (by omega) (by omega)) ?_
      rw [show (nI ((48 + i))).toNatClampNeg = (48 + i) from nI_clamp (by omega)]
      repeat (refine zw_go rfl rfl (fun _ _ => rfl) ?_)
      refine zw_ix rfl (fun _ _ => rfl) (show vp_in (nI ((48 + i))) _ from vp_in_nI (by omega) (by omega)) ?_
      rw [show (nI ((48 + i))).toNatClampNeg = (48 + i) from nI_clamp (by omega)]
      repeat (refine zw_go rfl rfl (fun _ _ => rfl) ?_)
      exact zw_kp hn
  have ends : ∀ (k i : Nat) (g6 g7 g8 g9 : Nat → Int64), i + k = b + 1 → a ≤ i → R4 V a b c d i g6 g7 g8 g9 → zW 0 sc miX2_relate 5 [some (.ref 27), some (.int (nI i)), none] [] (xm I J A (b4 B g6 g7 g8 g9) tl) (fun M r => r = none ∧ ∃ g6 g7 g8 g9, M = xm I J A (b4 B g6 g7 g8 g9) tl ∧ R4 V a b c d 96 g6 g7 g8 g9) := by
    intro k
    induction k with
    | zero =>
      intro i g6 g7 g8 g9 hi hai hr
      refine zw_nx rfl (fun _ _ => rfl) ?_
      repeat (refine zw_go rfl rfl (fun _ _ => rfl) ?_)
      first | refine zw_br rfl (fun _ _ => rfl) (fun _ => ?_) (fun h9 => absurd (show I 31 < nI i by rw [h31]; exact nI_lt (by omega) (by omega)) h9) | refine zw_nx rfl (fun _ _ => rfl) ?_
      repeat (refine zw_go rfl rfl (fun _ _ => rfl) ?_)
      rw [h32]
      refine zw_kp (picks (d + 1 - c) c g6 g7 g8 g9 (by omega) (Nat.le_refl c) (r4_skip hr (fun s h1 h2 => ?_)))
      by_cases h3 : s < 48
      · rw [inP_e h3]; exact decide_eq_false (by omega)
      · rw [show s = 48 + (s - 48) by omega, inP_p]; exact decide_eq_false (by omega)
    | succ k ih =>
      intro i g6 g7 g8 g9 hi hai hr
      have hin : inP a b c d i = true := by rw [inP_e (by omega)]; exact decide_eq_true ⟨hai, by omega⟩
      have e6 : (0 : Int64) = mk (fun e => rel V a b c d i e) 48 := by rw [← mk_false 48]; exact mk_cong (fun e he => (rel_ee (by omega) he).symm)
      have e8 : (0 : Int64) = mk (fun e => rel V a b c d e i) 48 := by rw [← mk_false 48]; exact mk_cong (fun e he => (rel_ee he (by omega)).symm)
      have e7 : B 1 i &&& J 2 = mk (fun p => rel V a b c d i (48 + p)) 48 := by
        rw [hB1 i (by omega), hJ2, mk_sub hh hq2]
        exact mk_cong (fun p _ => by rw [rel_ep (by omega), hin, Bool.true_and])
      have e9 : (B 1 i ^^^ (-1)) &&& J 2 = mk (fun p => rel V a b c d (48 + p) i) 48 := by
        rw [hB1 i (by omega), hJ2, mk_subn hh hq2]
        exact mk_cong (fun p _ => by rw [rel_pe (by omega), hin, Bool.and_true])
      have hn := ih (i + 1) _ _ _ _ (by omega) (by omega) (r4_add hr e6 e7 e8 e9)
      rw [nI_succ] at hn
      refine zw_nx rfl (fun _ _ => rfl) ?_
      repeat (refine zw_go rfl rfl (fun _ _ => rfl) ?_)
      first | refine zw_br rfl (fun _ _ => rfl) (fun h9 => absurd h9 (show ¬ I 31 < nI i by rw [h31]; exact nI_nlt (by omega) (by omega))) (fun _ => ?_) | refine zw_nx rfl (fun _ _ => rfl) ?_
      repeat (refine zw_go rfl rfl (fun _ _ => rfl) ?_)
      refine zw_ix rfl (fun _ _ => rfl) (show vp_in (nI (i)) _ from vp_in_nI (by omega) (by omega)) ?_
      rw [show (nI (i)).toNatClampNeg = i from nI_clamp (by omega)]
      repeat (refine zw_go rfl rfl (fun _ _ => rfl) ?_)
      refine zw_ix rfl (fun _ _ => rfl) (show vp_in (nI (i)) _ from vp_in_nI (by omega) (by omega)) ?_
      rw [show (nI (i)).toNatClampNeg = i from nI_clamp (by omega)]
      repeat (refine zw_go rfl rfl (fun _ _ => rfl) ?_)
      refine zw_ix rfl (fun _ _ => rfl) (show vp_in (nI (i)) _ from vp_in_nI (by omega) (by omega)) ?_
      rw [show (nI (i)).toNatClampNeg = i from nI_clamp (by omega)]
      repeat (refine zw_go rfl rfl (fun _ _ => rfl) ?_)
      refine zw_ix rfl (fun _ _ => rfl) (show vp_in (nI (i)) _ from vp_in_nI (by omega) (by omega)) ?_
      rw [show (nI (i)).toNatClampNeg = i from nI_clamp (by omega)]
      repeat (refine zw_go rfl rfl (fun _ _ => rfl) ?_)
      refine zw_ix rfl (fun _ _ => rfl) (show vp_in (nI (i)) _ from vp_in_nI (by omega) (by omega)) ?_
      rw [show (nI (i)).toNatClampNeg = i from nI_clamp (by omega)]
      repeat (refine zw_go rfl rfl (fun _ _ => rfl) ?_)
      refine zw_ix rfl (fun _ _ => rfl) (show vp_in (nI (i)) _ from vp_in_nI (by omega) (by omega)) ?_
      rw [show (nI (i)).toNatClampNeg = i from nI_clamp (by omega)]
      repeat (refine zw_go rfl rfl (fun _ _ => rfl) ?_)
      exact zw_kp hn
  exact zw_kp (ends (b + 1 - a) a (B 6) (B 7) (B 8) (B 9) (by omega) (Nat.le_refl a) (r4_skip (n := 0) ⟨fun s _ h1 => by omega, fun s _ h1 => by omega⟩ (fun s _ h2 => by
    rw [inP_e (by omega)]; exact decide_eq_false (by omega))))
end

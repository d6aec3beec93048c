/-! the class: its reader, numbers -/
/-- r's first i numbers behind k -/
def apl (g : Nat → Int32) (k : Nat) (r : List Nat) (i : Nat) : Nat → Int32 := fun j => if k ≤ j ∧ j < k + i then nI (gl r (j - k)) else g j
theorem apl_0 {g : Nat → Int32} {k : Nat} {r : List Nat} : apl g k r 0 = g := by
  funext j; unfold apl; rw [if_neg (by omega)]
theorem apl_s {g : Nat → Int32} {k i : Nat} {r : List Nat} : upd (apl g k r i) (k + i) (nI (gl r i)) = apl g k r (i + 1) := by
  funext j
  unfold upd apl
  by_cases h : j = k + i
  · rw [if_pos h, if_pos (by omega), h, Nat.add_sub_cancel_left]
  · rw [if_neg h]
    by_cases h1 : k ≤ j ∧ j < k + i
    · rw [if_pos h1, if_pos (by omega)]
    · rw [if_neg h1, if_neg (by omega)]
theorem apl_lo {g : Nat → Int32} {k i j : Nat} {r : List Nat} (h : j < k) : apl g k r i j = g j := by
  unfold apl; rw [if_neg (by omega)]
theorem apl_in {g : Nat → Int32} {k i j : Nat} {r : List Nat} (h : j < i) : apl g k r i (k + j) = nI (gl r j) := by
  unfold apl; rw [if_pos (by omega), Nat.add_sub_cancel_left]
theorem abs_sub : ∀ a, a < 16 → ∀ b, b < 16 → (if 0 ≤ nI a - nI b then nI a - nI b else 0 - (nI a - nI b)) = nI (if b ≤ a then a - b else b - a) := by decide +kernel
theorem dn_mul : ∀ a, a < 16 → ∀ i, i < 17 → i ≤ a → nI a + nI i * Int32.ofInt (-1) = nI (a - i) := by decide +kernel
theorem up_mul (a i : Nat) : nI a + nI i * Int32.ofInt 1 = nI (a + i) := by
  rw [show nI i * Int32.ofInt 1 = nI (i * 1) from nI_mul i 1, Nat.mul_one, nI_add]
/-- the ROW has grown -/
theorem xr_grow {n0 t0 cl tg sh fi fp sh' fi' fp' it : Nat} {cur r : List Nat} {fr : tF} {bk : Nat → List Nat} {en : tE} {I : Nat → Int32} {A A1 : Nat → Nat → Int32} {md md' : Nat} (hm : 4 ≤ md) (hm' : md' = 9 ∨ md' = 11) (xc : XC md cl tg sh fi fp I) (xb : XB bk A) (xe : XE n0 t0 en I A) (xn : XN cur fr I A) (h9 : md' = 9 → A1 9 fr.length = nI ((flt fr).length + it)) (hA : ∀ a, a ≠ 7 → a ≠ 9 → A1 a = A a) (hA9 : ∀ i, i < fr.length → A1 9 i = A 9 i) (hA7 : A1 7 = apl (A 7) (flt fr ++ cur).length r r.length) : XR n0 t0 (md', cl, tg, sh', fi', fp', cur ++ r, it, fr, bk, en) (upd (upd I 18 (nI ((flt fr ++ cur).length + r.length))) 20 (nI md')) A1 := by
  refine ⟨xc_to xc hm rfl rfl rfl rfl rfl (fun z => by omega) (fun z => by omega), xb_cong xb (hA 12 (by decide) (by decide)) (hA 11 (by decide) (by decide)), xe_cong xe rfl rfl (fun a ha => hA a (by omega) (by omega)), fun _ => xn_app xn rfl rfl (fun i hi => ?_) (fun i hi => ?_) (hA 8 (by decide) (by decide)) hA9 (hA 10 (by decide) (by decide)), fun z => h9 (by omega), fun z => by omega⟩
  · rw [hA7, apl_lo hi]
  · rw [hA7, apl_in hi]
theorem xf_grow {n0 : Nat} {I : Nat → Int32} {A A1 : Nat → Nat → Int32} {x y : Int32} (hA : ∀ a, a ≠ 7 → a ≠ 9 → A1 a = A a) : XF n0 I A (upd (upd I 18 x) 20 y) A1 := ⟨fun z hz => by
  unfold upd
  rw [if_neg (by omega), if_neg (by omega)], fun a h1 h2 => hA a (by omega) (by omega), fun a i h1 _ => by rw [hA a (by omega) (by omega)]⟩
section
variable (sc : sm_S) (I : Nat → Int32) (J : Nat → Int64) (A : Nat → Nat → Int32) (B : Nat → Nat → Int64) (tl : sm_M) (f : Nat → va_E) (n : Nat) (b : Nat → Nat) (w h n0 t0 p : Nat) (cl tg sh fi fp it : Nat) (cur : List Nat) (fr : tF) (bk : Nat → List Nat) (en : tE)
set_option maxHeartbeats 4000000 in
set_option maxRecDepth 20000 in
theorem xM6 (hX : XR n0 t0 (6, cl, tg, sh, fi, fp, cur, it, fr, bk, en) I A) (hT : TI w h (6, cl, tg, sh, fi, fp, cur, it, fr, bk, en) p) (ht : TkX I b n p) (hpn : p ≤ n) : zC 4 sc 70 [.ref 16] (xm I J A B tl) (fun M r => r = none ∧ XX n0 t0 (stp w h (6, cl, tg, sh, fi, fp, cur, it, fr, bk, en) (tkK b n p) (tkN b n p) (tkP b n p)) tl I J A B M) := by
  obtain ⟨xc, xb, xe, xn, xi, xj⟩ := hX
  obtain ⟨t1, t2, t3, t4, t5, t6, t7, t8, t9, t10, t11, t12, t13, t14, t15, t16, t17, t18⟩ := hT
  have xn := xn (by omega)
  have hfl := flt_len t4
  have hcl : cur.length ≤ 200 := t2.1
  have e14 := ht.2.2.1
  have e24 := (xc.2.2.2.2.1 (by omega)).1
  have htot : (flt fr ++ cur).length = (flt fr).length + cur.length := List.length_append
  simp only [stp]
  refine zc_of hkX6_endRange rfl ?_
  repeat (refine zw_go rfl rfl (fun _ _ => rfl) ?_)
  refine zw_call rfl (fun _ _ => rfl) (xIsNumber sc I J A B tl n b n0 t0 0 15 p (by omega) (by omega) ht hpn) (by decide) ?_
  rintro M1 r1 (⟨rfl, rfl, h1, h2, h3⟩ | ⟨rfl, ⟨h1, hx⟩ | ⟨h1, h2, hx⟩⟩)
  · rw [if_pos h1, if_neg (by omega)]
    have e15 := ht.2.2.2 (Or.inl h1)
    have hs := rng_len (a := fi) (b := tkN b n p)
    generalize hv : tkN b n p = v at *
    repeat (refine zw_go rfl rfl (fun _ _ => rfl) ?_)
    rw [e15, e24, show (if (0 : Int32) ≤ nI v - nI fi then nI v - nI fi else 0 - (nI v - nI fi)) = _ from abs_sub v (by omega) fi t7]
    generalize hst : (if fi ≤ v then v - fi else fi - v) = st at *
    rw [show nI st + Int32.ofInt 1 = nI (st + 1) from nI_1 st]
    have hst16 : st < 16 := by
      rw [← hst]
      split <;> omega
    refine zw_call rfl (fun _ _ => rfl) (xHasRoom sc I J A B tl cur fr (st + 1) (by omega) xn t3 (by omega)) (by decide) ?_
    rintro M1 r1 ⟨rfl, rfl⟩
    rw [hs]
    by_cases hroom : 200 < cur.length + (st + 1)
    · rw [if_pos hroom, if_pos hroom]
      repeat (refine zw_go rfl rfl (fun _ _ => rfl) ?_)
      refine zw_call rfl (fun _ _ => rfl) (xFail sc I J A B tl 5) (by decide) ?_
      rintro M1 r1 ⟨rfl, rfl⟩
      exact zw_ret rfl (fun _ _ => rfl) (⟨rfl, xx_bad (by decide) rfl e14⟩)
    · rw [if_neg hroom, if_neg hroom]
      have loop : ∀ (dr : Int32), (∀ i, i ≤ st → nI fi + nI i * dr = nI (gl (rng fi v) i)) → ∀ (z i : Nat), i + z = st + 1 → zW 3 sc miX6_endRange 65 [some (.ref 16), some (.int (nI st)), some (.int dr), some (.int (nI i))] [] (xm (upd I 18 (nI ((flt fr ++ cur).length + i))) J (va_up A 7 (apl (A 7) (flt fr ++ cur).length (rng fi v) i)) B tl) (fun M r => r = none ∧ XX n0 t0 (.inl (9, cl, tg, sh, fi, fp, cur ++ rng fi v, it, fr, bk, en)) tl I J A B M) := by
        intro dr hdr z
        induction z with
        | zero =>
          intro i hi
          have e : i = (rng fi v).length := by omega
          refine zw_nx rfl (fun _ _ => rfl) ?_
          repeat (refine zw_go rfl rfl (fun _ _ => rfl) ?_)
          first | refine zw_br rfl (fun _ _ => rfl) (fun _ => ?_) (fun h9 => absurd (nI_lt (a := st) (b := i) (by omega) (by omega)) h9) | refine zw_nx rfl (fun _ _ => rfl) ?_
          repeat (refine zw_go rfl rfl (fun _ _ => rfl) ?_)
          refine zw_ret rfl (fun _ _ => rfl) ?_
          refine ⟨rfl, upd (upd I 18 (nI ((flt fr ++ cur).length + i))) 20 (nI 9), va_up A 7 (apl (A 7) (flt fr ++ cur).length (rng fi v) i), rfl, ?_, ?_⟩
          · rw [e]
            exact xr_grow (A1 := va_up A 7 (apl (A 7) (flt fr ++ cur).length (rng fi v) (rng fi v).length)) (by omega) (Or.inl rfl) xc xb xe xn (fun _ => xi (by omega)) (fun a h7 h9 => by unfold va_up; rw [if_neg h7]) (fun _ _ => rfl) rfl
          · exact xf_grow (fun a h7 h9 => by unfold va_up; rw [if_neg h7])
        | succ z ih =>
          intro i hi
          have hne := ih (i + 1) (by omega)
          rw [nI_succ i, ← apl_s, ← Nat.add_assoc] at hne
          refine zw_nx rfl (fun _ _ => rfl) ?_
          repeat (refine zw_go rfl rfl (fun _ _ => rfl) ?_)
          first | refine zw_br rfl (fun _ _ => rfl) (fun h9 => absurd h9 (nI_nlt (a := st) (b := i) (by omega) (by omega))) (fun _ => ?_) | refine zw_nx rfl (fun _ _ => rfl) ?_
          repeat (refine zw_go rfl rfl (fun _ _ => rfl) ?_)
          rw [show upd I 18 (nI ((flt fr ++ cur).length + i)) 24 = nI fi from e24, hdr i (by omega)]
          refine zw_call rfl (fun _ _ => rfl) (xAdd sc (upd I 18 (nI ((flt fr ++ cur).length + i))) J (va_up A 7 (apl (A 7) (flt fr ++ cur).length (rng fi v) i)) B tl (nI (gl (rng fi v) i)) ((flt fr ++ cur).length + i) (by omega) rfl) (by decide) ?_
          rintro M1 r1 ⟨rfl, rfl⟩
          repeat (refine zw_go rfl rfl (fun _ _ => rfl) ?_)
          exact zw_kp hne
      have base : xm (upd I 18 (nI ((flt fr ++ cur).length + 0))) J (va_up A 7 (apl (A 7) (flt fr ++ cur).length (rng fi v) 0)) B tl = xm I J A B tl := by
        rw [apl_0, va_up_id, Nat.add_zero, ← xn.1, show upd I 18 (I 18) = I from by funext z; unfold upd; split <;> simp_all]
      by_cases hfv : fi ≤ v
      · have hlp := loop 1 (fun i hi => by
          rw [show (1 : Int32) = Int32.ofInt 1 from rfl, up_mul]
          unfold rng
          rw [if_pos hfv, gl_tab (by rw [if_pos hfv] at hst; omega)]) (st + 1) 0 (by omega)
        rw [base] at hlp
        repeat (refine zw_go rfl rfl (fun _ _ => rfl) ?_)
        rw [e15, e24]
        first | refine zw_br rfl (fun _ _ => rfl) (fun _ => ?_) (fun h9 => absurd (nI_le (a := fi) (b := v) hfv (by omega)) h9) | refine zw_nx rfl (fun _ _ => rfl) ?_
        repeat (refine zw_go rfl rfl (fun _ _ => rfl) ?_)
        exact zw_kp hlp
      · have hlp := loop (-1) (fun i hi => by
          rw [if_neg hfv] at hst
          rw [show (-1 : Int32) = Int32.ofInt (-1) from rfl, dn_mul fi t7 i (by omega) (by omega)]
          unfold rng
          rw [if_neg hfv, gl_tab (by omega)]) (st + 1) 0 (by omega)
        rw [base] at hlp
        repeat (refine zw_go rfl rfl (fun _ _ => rfl) ?_)
        rw [e15, e24]
        first | refine zw_br rfl (fun _ _ => rfl) (fun h9 => absurd h9 (nI_ge (a := v) (b := fi) (by omega) (by omega))) (fun _ => ?_) | refine zw_nx rfl (fun _ _ => rfl) ?_
        repeat (refine zw_go rfl rfl (fun _ _ => rfl) ?_)
        exact zw_kp hlp
  · rw [if_neg h1]
    repeat (refine zw_go rfl rfl (fun _ _ => rfl) ?_)
    exact zw_ret rfl (fun _ _ => rfl) (⟨rfl, hx⟩)
  · rw [if_pos h1, if_pos (by omega)]
    repeat (refine zw_go rfl rfl (fun _ _ => rfl) ?_)
    exact zw_ret rfl (fun _ _ => rfl) (⟨rfl, hx⟩)
set_option maxHeartbeats 4000000 in
set_option maxRecDepth 20000 in
theorem xAddBlock (md : Nat) (hm : 4 ≤ md) (xc : XC md cl tg sh fi fp I) (xb : XB bk A) (xe : XE n0 t0 en I A) (xn : XN cur fr I A) (h9 : A 9 fr.length = nI ((flt fr).length + it)) (hd : fr.length ≤ 8) (hc : cur.length ≤ 200) (hfl : (flt fr).length ≤ 1600) (hb : rwK (bk (tkN b n p))) (ht : TkX I b n p) (hk : tkK b n p = 3) : zC 4 sc 71 [.ref 16] (xm I J A B tl) (fun M r => r = none ∧ XX n0 t0 (if bk (tkN b n p) = [] then bad 4 (tkP b n p) else if 200 < cur.length + (bk (tkN b n p)).length then bad 5 (tkP b n p) else .inl (9, cl, tg, sh, fi, fp, cur ++ bk (tkN b n p), it, fr, bk, en)) tl I J A B M) := by
  have e14 := ht.2.2.1
  have e15 := ht.2.2.2 (Or.inr hk)
  have hl := tk_let hk
  have htot : (flt fr ++ cur).length = (flt fr).length + cur.length := List.length_append
  generalize hv : tkN b n p = v at *
  have hbl : (bk v).length ≤ 200 := hb.1
  have hx1 := (xb v hl).1
  have hx2 := (xb v hl).2
  refine zc_of hkX6_addBlock rfl ?_
  repeat (refine zw_go rfl rfl (fun _ _ => rfl) ?_)
  rw [e15]
  refine zw_call rfl (fun _ _ => rfl) (xBlockSize sc I J A B tl v hl) (by decide) ?_
  rintro M1 r1 ⟨rfl, rfl⟩
  rw [hx1]
  by_cases he : bk v = []
  · rw [if_pos he, he]
    repeat (refine zw_go rfl rfl (fun _ _ => rfl) ?_)
    refine zw_call rfl (fun _ _ => rfl) (xFail sc I J A B tl 4) (by decide) ?_
    rintro M1 r1 ⟨rfl, rfl⟩
    repeat (refine zw_go rfl rfl (fun _ _ => rfl) ?_)
    exact zw_ret rfl (fun _ _ => rfl) (⟨rfl, xx_bad (by decide) rfl e14⟩)
  · have hpos : 0 < (bk v).length := by
      cases hbq : bk v with
      | nil => exact absurd hbq he
      | cons _ _ => rw [List.length_cons]; omega
    rw [if_neg he]
    refine zw_nx rfl (fun _ _ => rfl) ?_
    refine zw_nx rfl (fun _ _ => rfl) ?_
    first | refine zw_br rfl (fun _ _ => rfl) (fun h9 => absurd h9 (nI_ne0 hpos (by omega))) (fun _ => ?_) | refine zw_nx rfl (fun _ _ => rfl) ?_
    repeat (refine zw_go rfl rfl (fun _ _ => rfl) ?_)
    refine zw_call rfl (fun _ _ => rfl) (xHasRoom sc I J A B tl cur fr (bk v).length (by omega) xn hd (by omega)) (by decide) ?_
    rintro M1 r1 ⟨rfl, rfl⟩
    by_cases hroom : 200 < cur.length + (bk v).length
    · rw [if_pos hroom, if_pos hroom]
      repeat (refine zw_go rfl rfl (fun _ _ => rfl) ?_)
      refine zw_call rfl (fun _ _ => rfl) (xFail sc I J A B tl 5) (by decide) ?_
      rintro M1 r1 ⟨rfl, rfl⟩
      repeat (refine zw_go rfl rfl (fun _ _ => rfl) ?_)
      exact zw_ret rfl (fun _ _ => rfl) (⟨rfl, xx_bad (by decide) rfl e14⟩)
    · rw [if_neg hroom, if_neg hroom]
      have loop : ∀ (z i : Nat), i + z = (bk v).length → zW 3 sc miX6_addBlock 44 [some (.ref 16), some (.int (nI v)), some (.int (nI (bk v).length)), some (.int (nI i))] [] (xm (upd I 18 (nI ((flt fr ++ cur).length + i))) J (va_up A 7 (apl (A 7) (flt fr ++ cur).length (bk v) i)) B tl) (fun M r => r = none ∧ XX n0 t0 (.inl (9, cl, tg, sh, fi, fp, cur ++ bk v, it, fr, bk, en)) tl I J A B M) := by
        intro z
        induction z with
        | zero =>
          intro i hi
          have e : i = (bk v).length := by omega
          refine zw_nx rfl (fun _ _ => rfl) ?_
          repeat (refine zw_go rfl rfl (fun _ _ => rfl) ?_)
          first | refine zw_br rfl (fun _ _ => rfl) (fun _ => ?_) (fun h9 => absurd (nI_le (a := (bk v).length) (b := i) (by omega) (by omega)) h9) | refine zw_nx rfl (fun _ _ => rfl) ?_
          repeat (refine zw_go rfl rfl (fun _ _ => rfl) ?_)
          refine zw_ret rfl (fun _ _ => rfl) ?_
          refine ⟨rfl, upd (upd I 18 (nI ((flt fr ++ cur).length + i))) 20 (nI 9), va_up A 7 (apl (A 7) (flt fr ++ cur).length (bk v) i), rfl, ?_, ?_⟩
          · rw [e]
            exact xr_grow (A1 := va_up A 7 (apl (A 7) (flt fr ++ cur).length (bk v) (bk v).length)) hm (Or.inl rfl) xc xb xe xn (fun _ => h9) (fun a h7 h9 => by unfold va_up; rw [if_neg h7]) (fun _ _ => rfl) rfl
          · exact xf_grow (fun a h7 h9 => by unfold va_up; rw [if_neg h7])
        | succ z ih =>
          intro i hi
          have hne := ih (i + 1) (by omega)
          rw [nI_succ i, ← apl_s, ← Nat.add_assoc] at hne
          refine zw_nx rfl (fun _ _ => rfl) ?_
          repeat (refine zw_go rfl rfl (fun _ _ => rfl) ?_)
          first | refine zw_br rfl (fun _ _ => rfl) (fun h9 => absurd h9 (nI_ge (a := i) (b := (bk v).length) (by omega) (by omega))) (fun _ => ?_) | refine zw_nx rfl (fun _ _ => rfl) ?_
          repeat (refine zw_go rfl rfl (fun _ _ => rfl) ?_)
          refine zw_call rfl (fun _ _ => rfl) (xBlockNumber sc (upd I 18 (nI ((flt fr ++ cur).length + i))) J (va_up A 7 (apl (A 7) (flt fr ++ cur).length (bk v) i)) B tl v i hl (by omega)) (by decide) ?_
          rintro M1 r1 ⟨rfl, rfl⟩
          rw [show va_up A 7 (apl (A 7) (flt fr ++ cur).length (bk v) i) 11 (v * 200 + i) = nI (gl (bk v) i) from hx2 i (by omega)]
          repeat (refine zw_go rfl rfl (fun _ _ => rfl) ?_)
          refine zw_call rfl (fun _ _ => rfl) (xAdd sc (upd I 18 (nI ((flt fr ++ cur).length + i))) J (va_up A 7 (apl (A 7) (flt fr ++ cur).length (bk v) i)) B tl (nI (gl (bk v) i)) ((flt fr ++ cur).length + i) (by omega) rfl) (by decide) ?_
          rintro M1 r1 ⟨rfl, rfl⟩
          repeat (refine zw_go rfl rfl (fun _ _ => rfl) ?_)
          exact zw_kp hne
      have hlp := loop (bk v).length 0 (by omega)
      rw [show xm (upd I 18 (nI ((flt fr ++ cur).length + 0))) J (va_up A 7 (apl (A 7) (flt fr ++ cur).length (bk v) 0)) B tl = xm I J A B tl from by
        rw [apl_0, va_up_id, Nat.add_zero, ← xn.1, show upd I 18 (I 18) = I from by funext z; unfold upd; split <;> simp_all]] at hlp
      repeat (refine zw_go rfl rfl (fun _ _ => rfl) ?_)
      exact zw_kp hlp
set_option maxHeartbeats 4000000 in
set_option maxRecDepth 20000 in
theorem xM10 (hX : XR n0 t0 (10, cl, tg, sh, fi, fp, cur, it, fr, bk, en) I A) (hT : TI w h (10, cl, tg, sh, fi, fp, cur, it, fr, bk, en) p) (ht : TkX I b n p) (hpn : p ≤ n) : zC 4 sc 77 [.ref 16] (xm I J A B tl) (fun M r => r = none ∧ XX n0 t0 (stp w h (10, cl, tg, sh, fi, fp, cur, it, fr, bk, en) (tkK b n p) (tkN b n p) (tkP b n p)) tl I J A B M) := by
  obtain ⟨xc, xb, xe, xn, xi, xj⟩ := hX
  obtain ⟨t1, t2, t3, t4, t5, t6, t7, t8, t9, t10, t11, t12, t13, t14, t15, t16, t17, t18⟩ := hT
  have xn := xn (by omega)
  have hfl := flt_len t4
  have hcl : cur.length ≤ 200 := t2.1
  have e14 := ht.2.2.1
  have htot : (flt fr ++ cur).length = (flt fr).length + cur.length := List.length_append
  simp only [stp]
  refine zc_of hkX6_copyItem rfl ?_
  repeat (refine zw_go rfl rfl (fun _ _ => rfl) ?_)
  refine zw_call rfl (fun _ _ => rfl) (xIsNumber sc I J A B tl n b n0 t0 1 48 p (by omega) (by omega) ht hpn) (by decide) ?_
  rintro M1 r1 (⟨rfl, rfl, h1, h2, h3⟩ | ⟨rfl, ⟨h1, hx⟩ | ⟨h1, h2, hx⟩⟩)
  · rw [if_pos h1, if_neg (by omega)]
    have e15 := ht.2.2.2 (Or.inl h1)
    generalize hv : tkN b n p = v at *
    have hgr : (cur.length - it) * (v - 1) ≤ 200 * 47 := Nat.mul_le_mul (by omega) (by omega)
    have hcp : (cpT (cur.drop it) v).length = (cur.length - it) * (v - 1) := by
      unfold cpT
      rw [tab_len, List.length_drop]
    repeat (refine zw_go rfl rfl (fun _ _ => rfl) ?_)
    refine zw_call rfl (fun _ _ => rfl) (xOpenRow sc I J A B tl fr.length t3 xn.2.1) (by decide) ?_
    rintro M1 r1 ⟨rfl, rfl⟩
    repeat (refine zw_go rfl rfl (fun _ _ => rfl) ?_)
    refine zw_ix rfl (fun _ _ => rfl) (show vp_in (nI (fr.length)) _ from vp_in_nI (by omega) (by omega)) ?_
    rw [show (nI (fr.length)).toNatClampNeg = fr.length from nI_clamp (by omega)]
    repeat (refine zw_go rfl rfl (fun _ _ => rfl) ?_)
    rw [xi (by omega), xn.1, nI_sub (by omega), e15, show nI v - Int32.ofInt 1 = nI (v - 1) from nI_sub (a := v) (b := 1) (by omega), nI_mul, show (flt fr ++ cur).length - ((flt fr).length + it) = cur.length - it by omega]
    generalize hgv : (cur.length - it) * (v - 1) = gr at *
    refine zw_call rfl (fun _ _ => rfl) (xHasRoom sc I J A B tl cur fr gr (by omega) xn t3 (by omega)) (by decide) ?_
    rintro M1 r1 ⟨rfl, rfl⟩
    by_cases hroom : 200 < cur.length + gr
    · rw [if_pos hroom, if_pos hroom]
      repeat (refine zw_go rfl rfl (fun _ _ => rfl) ?_)
      refine zw_call rfl (fun _ _ => rfl) (xFail sc I J A B tl 5) (by decide) ?_
      rintro M1 r1 ⟨rfl, rfl⟩
      exact zw_ret rfl (fun _ _ => rfl) (⟨rfl, xx_bad (by decide) rfl e14⟩)
    · rw [if_neg hroom, if_neg hroom]
      have val : ∀ i, i < gr → apl (A 7) (flt fr ++ cur).length (cpT (cur.drop it) v) i ((flt fr).length + it + i) = nI (gl (cpT (cur.drop it) v) i) := fun i hi => by
        have hpos : 0 < cur.length - it := by
          rcases Nat.eq_zero_or_pos (cur.length - it) with h5 | h5
          · rw [h5, Nat.zero_mul] at hgv; omega
          · exact h5
        have hg : gl (cpT (cur.drop it) v) i = gl (cur.drop it) (i % (cur.length - it)) := by
          unfold cpT
          rw [gl_tab (by rw [List.length_drop, hgv]; exact hi), List.length_drop]
        rcases Nat.lt_or_ge i (cur.length - it) with h5 | h5
        · rw [apl_lo (by omega), hg, Nat.mod_eq_of_lt h5, gl_drop, xn.2.2.2 _ (by omega), show (flt fr).length + it + i = (flt fr).length + (it + i) by omega, gl_app2]
        · have e : (flt fr).length + it + i = (flt fr ++ cur).length + (i - (cur.length - it)) := by omega
          rw [e, apl_in (by omega), hg]
          unfold cpT
          rw [gl_tab (by rw [List.length_drop, hgv]; omega), List.length_drop, ← Nat.mod_eq_sub_mod h5]
      have loop : ∀ (z i : Nat), i + z = gr → zW 3 sc miX6_copyItem 54 [some (.ref 16), some (.int (nI ((flt fr).length + it))), some (.int (nI gr)), some (.int (nI i))] [] (xm (upd I 18 (nI ((flt fr ++ cur).length + i))) J (va_up A 7 (apl (A 7) (flt fr ++ cur).length (cpT (cur.drop it) v) i)) B tl) (fun M r => r = none ∧ XX n0 t0 (.inl (11, cl, tg, sh, fi, fp, cur ++ cpT (cur.drop it) v, it, fr, bk, en)) tl I J A B M) := by
        intro z
        induction z with
        | zero =>
          intro i hi
          have e : i = (cpT (cur.drop it) v).length := by omega
          refine zw_nx rfl (fun _ _ => rfl) ?_
          repeat (refine zw_go rfl rfl (fun _ _ => rfl) ?_)
          first | refine zw_br rfl (fun _ _ => rfl) (fun _ => ?_) (fun h9 => absurd (nI_le (a := gr) (b := i) (by omega) (by omega)) h9) | refine zw_nx rfl (fun _ _ => rfl) ?_
          repeat (refine zw_go rfl rfl (fun _ _ => rfl) ?_)
          refine zw_ret rfl (fun _ _ => rfl) ?_
          refine ⟨rfl, upd (upd I 18 (nI ((flt fr ++ cur).length + i))) 20 (nI 11), va_up A 7 (apl (A 7) (flt fr ++ cur).length (cpT (cur.drop it) v) i), rfl, ?_, ?_⟩
          · rw [e]
            exact xr_grow (A1 := va_up A 7 (apl (A 7) (flt fr ++ cur).length (cpT (cur.drop it) v) (cpT (cur.drop it) v).length)) (by omega) (Or.inr rfl) xc xb xe xn (fun z => by omega) (fun a h7 h9 => by unfold va_up; rw [if_neg h7]) (fun _ _ => rfl) rfl
          · exact xf_grow (fun a h7 h9 => by unfold va_up; rw [if_neg h7])
        | succ z ih =>
          intro i hi
          have hne := ih (i + 1) (by omega)
          rw [nI_succ i, ← apl_s, ← Nat.add_assoc] at hne
          refine zw_nx rfl (fun _ _ => rfl) ?_
          repeat (refine zw_go rfl rfl (fun _ _ => rfl) ?_)
          first | refine zw_br rfl (fun _ _ => rfl) (fun h9 => absurd h9 (nI_ge (a := i) (b := gr) (by omega) (by omega))) (fun _ => ?_) | refine zw_nx rfl (fun _ _ => rfl) ?_
          repeat (refine zw_go rfl rfl (fun _ _ => rfl) ?_)
          rw [show nI ((flt fr).length + it) + nI i = nI ((flt fr).length + it + i) from nI_add _ _]
          refine zw_call rfl (fun _ _ => rfl) (xNumberAt sc (upd I 18 (nI ((flt fr ++ cur).length + i))) J (va_up A 7 (apl (A 7) (flt fr ++ cur).length (cpT (cur.drop it) v) i)) B tl ((flt fr).length + it + i) (by omega)) (by decide) ?_
          rintro M1 r1 ⟨rfl, rfl⟩
          rw [show va_up A 7 (apl (A 7) (flt fr ++ cur).length (cpT (cur.drop it) v) i) 7 ((flt fr).length + it + i) = _ from val i (by omega)]
          repeat (refine zw_go rfl rfl (fun _ _ => rfl) ?_)
          refine zw_call rfl (fun _ _ => rfl) (xAdd sc (upd I 18 (nI ((flt fr ++ cur).length + i))) J (va_up A 7 (apl (A 7) (flt fr ++ cur).length (cpT (cur.drop it) v) i)) B tl (nI (gl (cpT (cur.drop it) v) i)) ((flt fr ++ cur).length + i) (by omega) rfl) (by decide) ?_
          rintro M1 r1 ⟨rfl, rfl⟩
          repeat (refine zw_go rfl rfl (fun _ _ => rfl) ?_)
          exact zw_kp hne
      have hlp := loop gr 0 (by omega)
      rw [show xm (upd I 18 (nI ((flt fr ++ cur).length + 0))) J (va_up A 7 (apl (A 7) (flt fr ++ cur).length (cpT (cur.drop it) v) 0)) B tl = xm I J A B tl from by
        rw [apl_0, va_up_id, Nat.add_zero, ← xn.1, show upd I 18 (I 18) = I from by funext z; unfold upd; split <;> simp_all]] at hlp
      repeat (refine zw_go rfl rfl (fun _ _ => rfl) ?_)
      exact zw_kp hlp
  · rw [if_neg h1]
    repeat (refine zw_go rfl rfl (fun _ _ => rfl) ?_)
    exact zw_ret rfl (fun _ _ => rfl) (⟨rfl, hx⟩)
  · rw [if_pos h1, if_pos (by omega)]
    repeat (refine zw_go rfl rfl (fun _ _ => rfl) ?_)
    exact zw_ret rfl (fun _ _ => rfl) (⟨rfl, hx⟩)
set_option maxHeartbeats 4000000 in
set_option maxRecDepth 20000 in
theorem xEndNumber (hX : XR n0 t0 (5, cl, tg, sh, fi, fp, cur, it, fr, bk, en) I A) (hT : TI w h (5, cl, tg, sh, fi, fp, cur, it, fr, bk, en) p) : zC 3 sc 69 [.ref 16] (xm I J A B tl) (fun M r => r = none ∧ XX n0 t0 (if 200 < cur.length + 1 then bad 5 fp else .inl (9, cl, tg, sh, fi, fp, cur ++ [fi], it, fr, bk, en)) tl I J A B M) := by
  obtain ⟨xc, xb, xe, xn, xi, xj⟩ := hX
  obtain ⟨t1, t2, t3, t4, t5, t6, t7, t8, t9, t10, t11, t12, t13, t14, t15, t16, t17, t18⟩ := hT
  have xn := xn (by omega)
  have hfl := flt_len t4
  have hcl : cur.length ≤ 200 := t2.1
  have e24 := xc.2.2.2.2.1 (by omega)
  have htot : (flt fr ++ cur).length = (flt fr).length + cur.length := List.length_append
  refine zc_of hkX6_endNumber rfl ?_
  repeat (refine zw_go rfl rfl (fun _ _ => rfl) ?_)
  refine zw_call rfl (fun _ _ => rfl) (xHasRoom sc I J A B tl cur fr 1 (by omega) xn t3 (by omega)) (by decide) ?_
  rintro M1 r1 ⟨rfl, rfl⟩
  by_cases hroom : 200 < cur.length + 1
  · rw [if_pos hroom, if_pos hroom]
    repeat (refine zw_go rfl rfl (fun _ _ => rfl) ?_)
    refine zw_call rfl (fun _ _ => rfl) (xFailAt sc I J A B tl 5 (I 25)) (by decide) ?_
    rintro M1 r1 ⟨rfl, rfl⟩
    exact zw_ret rfl (fun _ _ => rfl) (⟨rfl, xx_bad (by decide) rfl e24.2⟩)
  · rw [if_neg hroom, if_neg hroom]
    repeat (refine zw_go rfl rfl (fun _ _ => rfl) ?_)
    refine zw_call rfl (fun _ _ => rfl) (xAdd sc I J A B tl (I 24) (flt fr ++ cur).length (by omega) xn.1) (by decide) ?_
    rintro M1 r1 ⟨rfl, rfl⟩
    repeat (refine zw_go rfl rfl (fun _ _ => rfl) ?_)
    refine zw_ret rfl (fun _ _ => rfl) ?_
    refine ⟨rfl, _, _, rfl, xr_grow (r := [fi]) (A1 := va_up A 7 (upd (A 7) (flt fr ++ cur).length (I 24))) (by omega) (Or.inl rfl) xc xb xe xn (fun _ => xi (by omega)) (fun a h7 h9 => by unfold va_up; rw [if_neg h7]) (fun _ _ => rfl) ?_, xf_grow (fun a h7 h9 => by unfold va_up; rw [if_neg h7])⟩
    show upd (A 7) (flt fr ++ cur).length (I 24) = apl (A 7) (flt fr ++ cur).length [fi] 1
    rw [← apl_s, apl_0, e24.1]; rfl
set_option maxHeartbeats 4000000 in
set_option maxRecDepth 20000 in
theorem xM4 (hX : XR n0 t0 (4, cl, tg, sh, fi, fp, cur, it, fr, bk, en) I A) (hT : TI w h (4, cl, tg, sh, fi, fp, cur, it, fr, bk, en) p) (ht : TkX I b n p) (hpn : p ≤ n) : zC 5 sc 67 [.ref 16] (xm I J A B tl) (fun M r => r = none ∧ XX n0 t0 (stp w h (4, cl, tg, sh, fi, fp, cur, it, fr, bk, en) (tkK b n p) (tkN b n p) (tkP b n p)) tl I J A B M) := by
  obtain ⟨xc, xb, xe, xn, xi, xj⟩ := hX
  obtain ⟨t1, t2, t3, t4, t5, t6, t7, t8, t9, t10, t11, t12, t13, t14, t15, t16, t17, t18⟩ := hT
  have xn := xn (by omega)
  have hfl := flt_len t4
  have hcl : cur.length ≤ 200 := t2.1
  have hk := tk_small (b := b) (n := n) (p := p)
  have e13 := ht.2.1
  have e14 := ht.2.2.1
  have htot : (flt fr ++ cur).length = (flt fr).length + cur.length := List.length_append
  simp only [stp]
  refine zc_of hkX6_startOne rfl ?_
  repeat (refine zw_go rfl rfl (fun _ _ => rfl) ?_)
  refine zw_call rfl (fun _ _ => rfl) (xOpenRow sc I J A B tl fr.length t3 xn.2.1) (by decide) ?_
  rintro M1 r1 ⟨rfl, rfl⟩
  refine zw_nx rfl (fun _ _ => rfl) ?_
  refine zw_nx rfl (fun _ _ => rfl) ?_
  refine zw_ix rfl (fun _ _ => rfl) (show vp_in (nI fr.length) _ from vp_in_nI (by omega) (by omega)) ?_
  rw [show (nI fr.length).toNatClampNeg = fr.length from nI_clamp (by omega)]
  refine zw_nx rfl (fun _ _ => rfl) ?_
  refine zw_nx rfl (fun _ _ => rfl) ?_
  refine zw_nx rfl (fun _ _ => rfl) ?_
  show zW 4 sc miX6_startOne 20 _ _ (xm I J (va_up A 9 (upd (A 9) fr.length (I 18))) B tl) _
  have a9 : va_up A 9 (upd (A 9) fr.length (I 18)) 9 fr.length = nI ((flt fr).length + cur.length) := by
    show upd (A 9) fr.length (I 18) fr.length = _
    unfold upd
    rw [if_pos rfl, xn.1, htot]
  have aK : ∀ a, a ≠ 9 → va_up A 9 (upd (A 9) fr.length (I 18)) a = A a := fun a ha => by unfold va_up; rw [if_neg ha]
  have a9i : ∀ i, i < fr.length → va_up A 9 (upd (A 9) fr.length (I 18)) 9 i = A 9 i := fun i hi => by
    show upd (A 9) fr.length (I 18) i = _
    unfold upd
    rw [if_neg (by omega)]
  generalize va_up A 9 (upd (A 9) fr.length (I 18)) = A1 at a9 aK a9i ⊢
  have xb1 : XB bk A1 := xb_cong xb (aK 12 (by decide)) (aK 11 (by decide))
  have xe1 : XE n0 t0 en I A1 := xe_cong xe rfl rfl (fun a ha => aK a (by omega))
  have xn1 : XN cur fr I A1 := xn_cong xn rfl rfl (aK 7 (by decide)) (aK 8 (by decide)) (aK 10 (by decide)) a9i
  have hf1 : XF n0 I A I A1 := ⟨fun _ _ => rfl, fun a h1 h2 => aK a (by omega), fun a i h1 _ => by rw [aK a (by omega)]⟩
  rw [e13]
  by_cases k2 : tkK b n p = 2
  · rw [if_pos k2, k2]
    repeat (refine zw_go rfl rfl (fun _ _ => rfl) ?_)
    have hold : zC 4 sc 68 [.ref 16] (xm I J A1 B tl) (fun M r => r = none ∧ XX n0 t0 (if 15 < tkN b n p then bad 2 (tkP b n p) else .inl (5, cl, tg, sh, tkN b n p, tkP b n p, cur, cur.length, fr, bk, en)) tl I J A B M) := by
      refine zc_of hkX6_holdNumber rfl ?_
      repeat (refine zw_go rfl rfl (fun _ _ => rfl) ?_)
      refine zw_call rfl (fun _ _ => rfl) (xIsNumber sc I J A1 B tl n b n0 t0 0 15 p (by omega) (by omega) ht hpn) (by decide) ?_
      rintro M1 r1 (⟨rfl, rfl, h1, h2, h3⟩ | ⟨rfl, ⟨h1, hx⟩ | ⟨h1, h2, hx⟩⟩)
      · rw [if_neg (by omega)]
        have e15 := ht.2.2.2 (Or.inl h1)
        repeat (refine zw_go rfl rfl (fun _ _ => rfl) ?_)
        refine zw_ret rfl (fun _ _ => rfl) ?_
        refine ⟨rfl, upd (upd (upd I 24 (I 15)) 25 (I 14)) 20 (nI 5), A1, rfl, ⟨xc_to xc (by omega) rfl rfl rfl rfl rfl (fun z => by omega) (fun _ => ⟨e15, e14⟩), xb1, xe_cong xe1 rfl rfl (fun _ _ => rfl), fun _ => xn_cong xn1 rfl rfl rfl rfl rfl (fun _ _ => rfl), fun _ => a9, fun z => by omega⟩, xf_tr hf1 (xf_i (fun z hz => ?_))⟩
        unfold upd
        rw [if_neg (by omega), if_neg (by omega), if_neg (by omega)]
      · exact absurd k2 h1
      · rw [if_pos (by omega)]
        repeat (refine zw_go rfl rfl (fun _ _ => rfl) ?_)
        exact zw_ret rfl (fun _ _ => rfl) (⟨rfl, xx_tr hf1 hx⟩)
    refine zw_call rfl (fun _ _ => rfl) (hold) (by decide) ?_
    rintro M1 r1 ⟨rfl, hx⟩
    repeat (refine zw_go rfl rfl (fun _ _ => rfl) ?_)
    exact zw_ret rfl (fun _ _ => rfl) (⟨rfl, hx⟩)
  · rw [if_neg k2]
    by_cases k3 : tkK b n p = 3
    · rw [if_pos k3]
      have hab := xAddBlock sc I J A1 B tl n b n0 t0 p cl tg sh fi fp cur.length cur fr bk en 4 (by omega) xc xb1 xe1 xn1 a9 t3 hcl (by omega) (t5 _) ht k3
      rw [k3]
      repeat (refine zw_go rfl rfl (fun _ _ => rfl) ?_)
      refine zw_call rfl (fun _ _ => rfl) (hab) (by decide) ?_
      rintro M1 r1 ⟨rfl, hx⟩
      repeat (refine zw_go rfl rfl (fun _ _ => rfl) ?_)
      exact zw_ret rfl (fun _ _ => rfl) (⟨rfl, xx_tr hf1 hx⟩)
    · rw [if_neg k3]
      by_cases k40 : tkK b n p = 40
      · rw [if_pos k40]
        have xn2 : XN cur fr (upd I 23 (Int32.ofInt 0)) A1 := xn_cong xn1 rfl rfl rfl rfl rfl (fun _ _ => rfl)
        have hob := xOpenBracket sc (upd I 23 (Int32.ofInt 0)) J A1 B tl n b n0 t0 p cl tg sh fi fp cur fr bk en 4 (by omega) (xc_to xc (by omega) xc.1 rfl rfl rfl rfl (fun z => by omega) (fun z => by omega)) xb1 (xe_cong xe1 rfl rfl (fun _ _ => rfl)) xn2 a9 0 rfl t3 hcl (by omega) ht
        rw [k40] at hob ⊢
        repeat (refine zw_go rfl rfl (fun _ _ => rfl) ?_)
        refine zw_call rfl (fun _ _ => rfl) (hob) (by decide) ?_
        rintro M1 r1 ⟨rfl, hx⟩
        repeat (refine zw_go rfl rfl (fun _ _ => rfl) ?_)
        refine zw_ret rfl (fun _ _ => rfl) ?_
        refine ⟨rfl, xx_tr (xf_tr hf1 (xf_i (fun z hz => ?_))) hx⟩
        unfold upd
        rw [if_neg (by omega)]
      · rw [if_neg k40]
        have plain : ∀ (md' : Nat) (s x : Nat), (md' = 8 ∨ md' = 7) → x = s → XX n0 t0 (.inl (md', cl, tg, s, fi, fp, cur, cur.length, fr, bk, en)) tl I J A B (xm (upd (upd I 23 (nI x)) 20 (nI md')) J A1 B tl) := fun md' s x hmd hx => by
          refine ⟨_, A1, rfl, ⟨xc_to xc (by omega) rfl rfl rfl rfl rfl (fun _ => by rw [← hx]; rfl) (fun z => by omega), xb1, xe_cong xe1 rfl rfl (fun _ _ => rfl), fun _ => xn_cong xn1 rfl rfl rfl rfl rfl (fun _ _ => rfl), fun z => by omega, fun _ => a9⟩, xf_tr hf1 (xf_i (fun z hz => ?_))⟩
          unfold upd
          rw [if_neg (by omega), if_neg (by omega)]
        by_cases k9 : tkK b n p = 9
        · rw [if_pos k9, k9]
          repeat (refine zw_go rfl rfl (fun _ _ => rfl) ?_)
          exact zw_ret rfl (fun _ _ => rfl) (⟨rfl, plain 8 16 16 (Or.inl rfl) rfl⟩)
        · rw [if_neg k9]
          by_cases k10 : tkK b n p = 10
          · rw [if_pos k10, k10]
            repeat (refine zw_go rfl rfl (fun _ _ => rfl) ?_)
            exact zw_ret rfl (fun _ _ => rfl) (⟨rfl, plain 8 17 17 (Or.inl rfl) rfl⟩)
          · rw [if_neg k10]
            by_cases k11 : tkK b n p = 11
            · rw [if_pos k11, k11]
              repeat (refine zw_go rfl rfl (fun _ _ => rfl) ?_)
              refine zw_ret rfl (fun _ _ => rfl) ?_
              refine ⟨rfl, upd I 20 (nI 7), A1, rfl, ⟨xc_to xc (by omega) rfl rfl rfl rfl rfl (fun z => by omega) (fun z => by omega), xb1, xe_cong xe1 rfl rfl (fun _ _ => rfl), fun _ => xn_cong xn1 rfl rfl rfl rfl rfl (fun _ _ => rfl), fun z => by omega, fun _ => a9⟩, xf_tr hf1 (xf_i (fun z hz => ?_))⟩
              unfold upd
              rw [if_neg (by omega)]
            · rw [if_neg k11]
              refine zw_lsd 145 rfl rfl rfl ?_ ?_
              · rw [nI_toInt (by omega)]
                show (if (2 : Int) = (tkK b n p : Int) then (60 : Int) else if (3 : Int) = (tkK b n p : Int) then 67 else if (9 : Int) = (tkK b n p : Int) then 86 else if (10 : Int) = (tkK b n p : Int) then 101 else if (11 : Int) = (tkK b n p : Int) then 116 else if (40 : Int) = (tkK b n p : Int) then 74 else 125) = 125
                rw [if_neg (by omega), if_neg (by omega), if_neg (by omega), if_neg (by omega), if_neg (by omega), if_neg (by omega)]
              · repeat (refine zw_go rfl rfl (fun _ _ => rfl) ?_)
                refine zw_call rfl (fun _ _ => rfl) (xFail sc I J A1 B tl 1) (by decide) ?_
                rintro M1 r1 ⟨rfl, rfl⟩
                exact zw_ret rfl (fun _ _ => rfl) (⟨rfl, xx_tr hf1 (xx_bad (by decide) rfl e14)⟩)
end

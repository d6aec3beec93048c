/-! the class: its reader, clause, ONE, brackets -/
theorem tk_small {b : Nat → Nat} {n p : Nat} : tkK b n p < 100 := by
  unfold tkK kAt
  split
  · omega
  · split
    · omega
    · split
      · split
        · omega
        · have := kdW_le (l := wrd b (tkP b n p) (spN isAl b n (tkP b n p) - tkP b n p)); omega
      · split
        · rename_i h1
          unfold isSg at h1
          rw [decide_eq_true_eq] at h1
          omega
        · omega
theorem xe_cong {n0 t0 : Nat} {en : tE} {I I' : Nat → Int32} {A A' : Nat → Nat → Int32} (h : XE n0 t0 en I A) (h3 : I' 3 = I 3) (h4 : I' 4 = I 4) (hA : ∀ a, a ≤ 2 → A' a = A a) : XE n0 t0 en I' A' := ⟨by rw [h3]; exact h.1, by rw [h4]; exact h.2.1, fun i hi hn => by
  rw [hA 0 (by omega), hA 1 (by omega), hA 2 (by omega)]; exact h.2.2 i hi hn⟩
theorem xb_cong {bk : Nat → List Nat} {A A' : Nat → Nat → Int32} (h : XB bk A) (h12 : A' 12 = A 12) (h11 : A' 11 = A 11) : XB bk A' := fun l hl => by rw [h12, h11]; exact h l hl
theorem xn_cong {cur : List Nat} {fr : tF} {I I' : Nat → Int32} {A A' : Nat → Nat → Int32} (h : XN cur fr I A) (h18 : I' 18 = I 18) (h19 : I' 19 = I 19) (h7 : A' 7 = A 7) (h8 : A' 8 = A 8) (h10 : A' 10 = A 10) (h9 : ∀ i, i < fr.length → A' 9 i = A 9 i) : XN cur fr I' A' := ⟨by rw [h18]; exact h.1, by rw [h19]; exact h.2.1, frX_cong h.2.2.1 (fun i _ => by rw [h8]) (fun i _ => by rw [h10]) h9, by rw [h7]; exact h.2.2.2⟩
theorem xc_to {md md' cl tg sh sh' fi fi' fp fp' : Nat} {I I' : Nat → Int32} (h : XC md cl tg sh fi fp I) (hm : 4 ≤ md) (h20 : I' 20 = nI md') (h21 : I' 21 = I 21) (h22 : I' 22 = I 22) (h26 : I' 26 = I 26) (h27 : I' 27 = I 27) (h8 : md' = 8 → I' 23 = nI sh') (h5 : md' = 5 ∨ md' = 6 → I' 24 = nI fi' ∧ I' 25 = nI fp') : XC md' cl tg sh' fi' fp' I' := ⟨h20, fun _ => by rw [h21]; exact h.2.1 (by omega), fun _ hc => by rw [h22]; exact h.2.2.1 (by omega) hc, h8, h5, by rw [h26]; exact h.2.2.2.2.2.1, by rw [h27]; exact h.2.2.2.2.2.2⟩
theorem xf_i {n0 : Nat} {I I' : Nat → Int32} {A : Nat → Nat → Int32} (h : ∀ z, z < 3 ∨ (3 < z ∧ z < 18) ∨ 27 < z → I' z = I z) : XF n0 I A I' A := ⟨h, fun _ _ _ => rfl, fun _ _ _ _ => rfl⟩
theorem xn_nil {I : Nat → Int32} {A : Nat → Nat → Int32} (h18 : I 18 = 0) (h19 : I 19 = 0) (h8 : A 8 0 = 0) : XN [] [] I A := ⟨h18, h19, h8, fun i hi => absurd hi (Nat.not_lt_zero _)⟩
section
variable (sc : sm_S) (I : Nat → Int32) (J : Nat → Int64) (A : Nat → Nat → Int32) (B : Nat → Nat → Int64) (tl : sm_M) (f : Nat → va_E) (n : Nat) (b : Nat → Nat) (w h n0 t0 p : Nat) (cl tg sh fi fp it : Nat) (cur : List Nat) (fr : tF) (bk : Nat → List Nat) (en : tE)
/-- the first ROW is opened -/
def opI (I : Nat → Int32) : Nat → Int32 := upd (upd (upd I 19 0) 18 0) 20 (nI 4)
def opA (A : Nat → Nat → Int32) : Nat → Nat → Int32 := va_up A 8 (upd (A 8) 0 0)
theorem op_xf {n0 : Nat} {I : Nat → Int32} {A : Nat → Nat → Int32} : XF n0 I A (opI I) (opA A) := ⟨fun z hz => by
  unfold opI upd
  rw [if_neg (by omega), if_neg (by omega), if_neg (by omega)], fun a h1 h2 => by
  unfold opA va_up
  rw [if_neg (by omega)], fun a i h1 _ => by
  unfold opA va_up
  rw [if_neg (by omega)]⟩
set_option maxHeartbeats 4000000 in
set_option maxRecDepth 20000 in
theorem xOpenFirst (x : Nat) (hx : x < 100) (ht : TkX I b n p) : zC 3 sc 66 [.ref 16, .int (nI x)] (xm I J A B tl) (fun M r => r = none ∧ ((tkK b n p = x ∧ M = xm (opI I) J (opA A) B tl) ∨ (tkK b n p ≠ x ∧ XX n0 t0 (bad 1 (tkP b n p)) tl I J A B M))) := by
  have hk := tk_small (b := b) (n := n) (p := p)
  obtain ⟨e12, e13, e14, e15⟩ := ht
  refine zc_of hkX6_openFirstRow rfl ?_
  repeat (refine zw_go rfl rfl (fun _ _ => rfl) ?_)
  rw [e13]
  refine zw_br rfl (fun _ _ => rfl) (fun (h1 : nI (tkK b n p) = nI x) => ?_) (fun (h1 : ¬ (nI (tkK b n p) = nI x)) => ?_)
  · rw [nI_eq (by omega) (by omega)] at h1
    repeat (refine zw_go rfl rfl (fun _ _ => rfl) ?_)
    exact zw_ret rfl (fun _ _ => rfl) (⟨rfl, Or.inl ⟨h1, rfl⟩⟩)
  · rw [nI_eq (by omega) (by omega)] at h1
    repeat (refine zw_go rfl rfl (fun _ _ => rfl) ?_)
    refine zw_call rfl (fun _ _ => rfl) (xFail sc I J A B tl 1) (by decide) ?_
    rintro M1 r1 ⟨rfl, rfl⟩
    exact zw_ret rfl (fun _ _ => rfl) (⟨rfl, Or.inr ⟨h1, xx_bad (by decide) rfl e14⟩⟩)
set_option maxHeartbeats 4000000 in
set_option maxRecDepth 20000 in
theorem xM0 (hX : XR n0 t0 (0, cl, tg, sh, fi, fp, cur, it, fr, bk, en) I A) (ht : TkX I b n p) : zC 4 sc 62 [.ref 16] (xm I J A B tl) (fun M r => r = none ∧ XX n0 t0 (stp w h (0, cl, tg, sh, fi, fp, cur, it, fr, bk, en) (tkK b n p) (tkN b n p) (tkP b n p)) tl I J A B M) := by
  have hk := tk_small (b := b) (n := n) (p := p)
  obtain ⟨xc, xb, xe, xn, xi, xj⟩ := hX
  have e13 := ht.2.1
  have e14 := ht.2.2.1
  simp only [stp]
  refine zc_of hkX6_startClause rfl ?_
  refine zw_nx rfl (fun _ _ => rfl) ?_
  refine zw_nx rfl (fun _ _ => rfl) ?_
  refine zw_nx rfl (fun _ _ => rfl) ?_
  refine zw_nx rfl (fun _ _ => rfl) ?_
  refine zw_nx rfl (fun _ _ => rfl) ?_
  refine zw_nx rfl (fun _ _ => rfl) ?_
  refine zw_nx rfl (fun _ _ => rfl) ?_
  show zW 3 sc miX6_startClause 15 _ _ (xm (upd I 21 (I 13)) J A B tl) _
  have hf1 : XF n0 I A (upd I 21 (I 13)) A := xf_i (fun z hz => by unfold upd; rw [if_neg (by omega)])
  have ht1 : TkX (upd I 21 (I 13)) b n p := ht
  have e21 : upd I 21 (I 13) 21 = nI (tkK b n p) := e13
  have hz : ∀ z, z ≠ 21 → upd I 21 (I 13) z = I z := fun z hz => by unfold upd; rw [if_neg hz]
  have f26 : upd I 21 (I 13) 26 = 0 := xc.2.2.2.2.2.1
  have f27 : upd I 21 (I 13) 27 = -1 := xc.2.2.2.2.2.2
  have f14 : upd I 21 (I 13) 14 = nI (tkP b n p) := e14
  have xe1 : ∀ x, XE n0 t0 en (upd (upd I 21 (I 13)) 20 x) A := fun x => xe_cong xe rfl rfl (fun _ _ => rfl)
  have xe2 : XE n0 t0 en (upd I 21 (I 13)) A := xe_cong xe rfl rfl (fun _ _ => rfl)
  generalize upd I 21 (I 13) = I1 at e21 hz f26 f27 f14 xe1 xe2 hf1 ht1 ⊢
  rw [e13]
  by_cases h0 : tkK b n p = 0
  · rw [h0, if_pos rfl]
    repeat (refine zw_go rfl rfl (fun _ _ => rfl) ?_)
    refine zw_ret rfl (fun _ _ => rfl) ?_
    refine ⟨rfl, upd I1 20 (nI 12), A, rfl, ⟨rfl, f26, fun z => absurd rfl z, fun _ => ⟨f27, xe1 _⟩⟩, xf_i (fun z hzz => ?_)⟩
    unfold upd
    rw [if_neg (by omega), hz z (by omega)]
  · rw [if_neg h0]
    by_cases h4 : tkK b n p = 4
    · rw [h4, if_pos rfl]
      repeat (refine zw_go rfl rfl (fun _ _ => rfl) ?_)
      refine zw_ret rfl (fun _ _ => rfl) ?_
      refine ⟨rfl, upd I1 20 (nI 1), A, rfl, ⟨⟨rfl, fun _ => by show I1 21 = _; rw [e21, h4], fun z => by omega, fun z => by omega, fun z => by omega, f26, f27⟩, xb, xe1 _, fun z => by omega, fun z => by omega, fun z => by omega⟩, xf_i (fun z hzz => ?_)⟩
      unfold upd
      rw [if_neg (by omega), hz z (by omega)]
    · rw [if_neg h4]
      by_cases h7 : tkK b n p = 7
      · rw [h7, if_pos rfl]
        repeat (refine zw_go rfl rfl (fun _ _ => rfl) ?_)
        refine zw_ret rfl (fun _ _ => rfl) ?_
        refine ⟨rfl, upd I1 20 (nI 3), A, rfl, ⟨⟨rfl, fun _ => by show I1 21 = _; rw [e21, h7], fun z => by omega, fun z => by omega, fun z => by omega, f26, f27⟩, xb, xe1 _, fun z => by omega, fun z => by omega, fun z => by omega⟩, xf_i (fun z hzz => ?_)⟩
        unfold upd
        rw [if_neg (by omega), hz z (by omega)]
      · rw [if_neg h7]
        by_cases h56 : tkK b n p = 5 ∨ tkK b n p = 6
        · rw [if_pos h56]
          have go : zW 3 sc miX6_startClause 85 [some (.ref 16)] [] (xm (I1) J A B tl) (fun M r => r = none ∧ XX n0 t0 (.inl (4, tkK b n p, tg, sh, fi, fp, [], 0, [], bk, en)) tl I J A B M) := by
            repeat (refine zw_go rfl rfl (fun _ _ => rfl) ?_)
            rw [show I1 21 = nI (tkK b n p) from e21]
            refine zw_call rfl (fun _ _ => rfl) (xOpenFirst sc (I1) J A B tl n b n0 t0 p (tkK b n p) (by omega) ht1) (by decide) ?_
            rintro M1 r1 ⟨rfl, ⟨_, rfl⟩ | ⟨hno, _⟩⟩
            · repeat (refine zw_go rfl rfl (fun _ _ => rfl) ?_)
              refine zw_ret rfl (fun _ _ => rfl) ?_
              refine ⟨rfl, _, _, rfl, ⟨⟨rfl, fun _ => e21, fun _ z => by omega, fun z => by omega, fun z => by omega, f26, f27⟩, xb_cong xb rfl rfl, xe_cong xe2 rfl rfl (fun a ha => ?_), fun _ => xn_nil rfl rfl rfl, fun z => by omega, fun z => by omega⟩, xf_tr hf1 op_xf⟩
              unfold opA va_up
              rw [if_neg (by omega)]
            · exact absurd rfl hno
          rcases h56 with h5 | h6
          · rw [h5] at go ⊢
            refine zw_nx rfl (fun _ _ => rfl) ?_
            exact go
          · rw [h6] at go ⊢
            refine zw_nx rfl (fun _ _ => rfl) ?_
            exact go
        · rw [if_neg h56]
          have last : zW 3 sc miX6_startClause 96 [some (.ref 16)] [] (xm (I1) J A B tl) (fun M r => r = none ∧ XX n0 t0 (bad 1 (tkP b n p)) tl I J A B M) := by
            repeat (refine zw_go rfl rfl (fun _ _ => rfl) ?_)
            refine zw_call rfl (fun _ _ => rfl) (xFail sc (I1) J A B tl 1) (by decide) ?_
            rintro M1 r1 ⟨rfl, rfl⟩
            exact zw_ret rfl (fun _ _ => rfl) (⟨rfl, xx_tr hf1 (xx_bad (by decide) rfl f14)⟩)
          by_cases h17 : tkK b n p ≤ 7
          · rcases (show tkK b n p = 1 ∨ tkK b n p = 2 ∨ tkK b n p = 3 by omega) with e | e | e
            · rw [e]
              refine zw_nx rfl (fun _ _ => rfl) ?_
              exact last
            · rw [e]
              refine zw_nx rfl (fun _ _ => rfl) ?_
              exact last
            · rw [e]
              refine zw_nx rfl (fun _ _ => rfl) ?_
              exact last
          · refine zw_tsd 96 rfl rfl (Or.inr ?_) last
            rw [nI_toInt (by omega)]
            omega
set_option maxHeartbeats 4000000 in
set_option maxRecDepth 20000 in
theorem xM1 (hX : XR n0 t0 (1, cl, tg, sh, fi, fp, cur, it, fr, bk, en) I A) (ht : TkX I b n p) (hT : TI w h (1, cl, tg, sh, fi, fp, cur, it, fr, bk, en) p) : zC 3 sc 63 [.ref 16] (xm I J A B tl) (fun M r => r = none ∧ XX n0 t0 (stp w h (1, cl, tg, sh, fi, fp, cur, it, fr, bk, en) (tkK b n p) (tkN b n p) (tkP b n p)) tl I J A B M) := by
  have hk := tk_small (b := b) (n := n) (p := p)
  obtain ⟨xc, xb, xe, xn, xi, xj⟩ := hX
  have e13 := ht.2.1
  have e14 := ht.2.2.1
  simp only [stp]
  refine zc_of hkX6_nameBlock rfl ?_
  repeat (refine zw_go rfl rfl (fun _ _ => rfl) ?_)
  rw [e13]
  refine zw_br rfl (fun _ _ => rfl) (fun (h1 : nI (tkK b n p) = nI 3) => ?_) (fun (h1 : ¬ (nI (tkK b n p) = nI 3)) => ?_)
  · rw [nI_eq (by omega) (by omega)] at h1
    have e15 := ht.2.2.2 (Or.inr h1)
    have hl := tk_let h1
    have hbk := hT.2.2.2.2.1 (tkN b n p)
    rw [if_pos h1]
    repeat (refine zw_go rfl rfl (fun _ _ => rfl) ?_)
    rw [e15]
    refine zw_call rfl (fun _ _ => rfl) (xBlockSize sc I J A B tl (tkN b n p) hl) (by decide) ?_
    rintro M1 r1 ⟨rfl, rfl⟩
    rw [(xb _ hl).1]
    have hlen : (bk (tkN b n p)).length ≤ 200 := hbk.1
    by_cases he : bk (tkN b n p) = []
    · rw [if_pos he, he]
      repeat (refine zw_go rfl rfl (fun _ _ => rfl) ?_)
      refine zw_ret rfl (fun _ _ => rfl) ?_
      refine ⟨rfl, upd (upd I 22 (I 15)) 20 (nI 2), A, rfl, ⟨⟨rfl, fun _ => xc.2.1 (by omega), fun _ _ => e15, fun z => by omega, fun z => by omega, xc.2.2.2.2.2.1, xc.2.2.2.2.2.2⟩, xb, xe_cong xe rfl rfl (fun _ _ => rfl), fun z => by omega, fun z => by omega, fun z => by omega⟩, xf_i (fun z hz => ?_)⟩
      unfold upd
      rw [if_neg (by omega), if_neg (by omega)]
    · rw [if_neg he]
      have hpos : 0 < (bk (tkN b n p)).length := by
        cases hbq : bk (tkN b n p) with
        | nil => exact absurd hbq he
        | cons _ _ => rw [List.length_cons]; omega
      first | refine zw_br rfl (fun _ _ => rfl) (fun h9 => absurd h9 (nI_ne0 hpos (by omega))) (fun _ => ?_) | refine zw_nx rfl (fun _ _ => rfl) ?_
      repeat (refine zw_go rfl rfl (fun _ _ => rfl) ?_)
      refine zw_call rfl (fun _ _ => rfl) (xFail sc I J A B tl 4) (by decide) ?_
      rintro M1 r1 ⟨rfl, rfl⟩
      repeat (refine zw_go rfl rfl (fun _ _ => rfl) ?_)
      exact zw_ret rfl (fun _ _ => rfl) (⟨rfl, xx_bad (by decide) rfl e14⟩)
  · rw [nI_eq (by omega) (by omega)] at h1
    rw [if_neg h1]
    repeat (refine zw_go rfl rfl (fun _ _ => rfl) ?_)
    refine zw_call rfl (fun _ _ => rfl) (xFail sc I J A B tl 1) (by decide) ?_
    rintro M1 r1 ⟨rfl, rfl⟩
    repeat (refine zw_go rfl rfl (fun _ _ => rfl) ?_)
    exact zw_ret rfl (fun _ _ => rfl) (⟨rfl, xx_bad (by decide) rfl e14⟩)
set_option maxHeartbeats 4000000 in
set_option maxRecDepth 20000 in
theorem xM2 (hX : XR n0 t0 (2, cl, tg, sh, fi, fp, cur, it, fr, bk, en) I A) (ht : TkX I b n p) : zC 4 sc 66 [.ref 16, .int (nI 61)] (xm I J A B tl) (fun M r => r = none ∧ XX n0 t0 (stp w h (2, cl, tg, sh, fi, fp, cur, it, fr, bk, en) (tkK b n p) (tkN b n p) (tkP b n p)) tl I J A B M) := by
  obtain ⟨xc, xb, xe, xn, xi, xj⟩ := hX
  simp only [stp]
  refine zc_up (zc_post (xOpenFirst sc I J A B tl n b n0 t0 p 61 (by omega) ht) ?_) (by omega)
  rintro M r ⟨rfl, ⟨h1, rfl⟩ | ⟨h1, hx⟩⟩
  · rw [if_pos h1]
    refine ⟨rfl, _, _, rfl, ⟨⟨rfl, fun _ => xc.2.1 (by omega), fun _ hc => xc.2.2.1 (by omega) hc, fun z => by omega, fun z => by omega, xc.2.2.2.2.2.1, xc.2.2.2.2.2.2⟩, xb_cong xb rfl rfl, xe_cong xe rfl rfl (fun a ha => ?_), fun _ => xn_nil rfl rfl rfl, fun z => by omega, fun z => by omega⟩, op_xf⟩
    unfold opA va_up
    rw [if_neg (by omega)]
  · rw [if_neg h1]
    exact ⟨rfl, hx⟩
set_option maxHeartbeats 4000000 in
set_option maxRecDepth 20000 in
theorem xM3 (hX : XR n0 t0 (3, cl, tg, sh, fi, fp, cur, it, fr, bk, en) I A) (ht : TkX I b n p) (hpn : p ≤ n) : zC 4 sc 64 [.ref 16] (xm I J A B tl) (fun M r => r = none ∧ XX n0 t0 (stp w h (3, cl, tg, sh, fi, fp, cur, it, fr, bk, en) (tkK b n p) (tkN b n p) (tkP b n p)) tl I J A B M) := by
  obtain ⟨xc, xb, xe, xn, xi, xj⟩ := hX
  simp only [stp]
  refine zc_of hkX6_nameTreadle rfl ?_
  repeat (refine zw_go rfl rfl (fun _ _ => rfl) ?_)
  refine zw_call rfl (fun _ _ => rfl) (xIsNumber sc I J A B tl n b n0 t0 0 15 p (by omega) (by omega) ht hpn) (by decide) ?_
  rintro M1 r1 (⟨rfl, rfl, h1, h2, h3⟩ | ⟨rfl, ⟨h1, hx⟩ | ⟨h1, h2, hx⟩⟩)
  · rw [if_pos h1, if_neg (by omega)]
    have e15 := ht.2.2.2 (Or.inl h1)
    have ht1 : TkX (upd I 22 (I 15)) b n p := ht
    repeat (refine zw_go rfl rfl (fun _ _ => rfl) ?_)
    refine zw_call rfl (fun _ _ => rfl) (xOpenFirst sc (upd I 22 (I 15)) J A B tl n b n0 t0 p 2 (by omega) ht1) (by decide) ?_
    rintro M1 r1 ⟨rfl, ⟨_, rfl⟩ | ⟨hno, _⟩⟩
    · refine zw_ret rfl (fun _ _ => rfl) ?_
      refine ⟨rfl, _, _, rfl, ⟨⟨rfl, fun _ => xc.2.1 (by omega), fun _ _ => e15, fun z => by omega, fun z => by omega, xc.2.2.2.2.2.1, xc.2.2.2.2.2.2⟩, xb_cong xb rfl rfl, xe_cong xe rfl rfl (fun a ha => ?_), fun _ => xn_nil rfl rfl rfl, fun z => by omega, fun z => by omega⟩, xf_tr (xf_i (fun z hz => ?_)) op_xf⟩
      · unfold opA va_up
        rw [if_neg (by omega)]
      · unfold upd
        rw [if_neg (by omega)]
    · exact absurd h1 hno
  · rw [if_neg h1]
    repeat (refine zw_go rfl rfl (fun _ _ => rfl) ?_)
    exact zw_ret rfl (fun _ _ => rfl) (⟨rfl, hx⟩)
  · rw [if_pos h1, if_pos (by omega)]
    repeat (refine zw_go rfl rfl (fun _ _ => rfl) ?_)
    exact zw_ret rfl (fun _ _ => rfl) (⟨rfl, hx⟩)
set_option maxHeartbeats 4000000 in
set_option maxRecDepth 20000 in
theorem xOpenBracket (md : Nat) (hm : 4 ≤ md) (xc : XC md cl tg sh fi fp I) (xb : XB bk A) (xe : XE n0 t0 en I A) (xn : XN cur fr I A) (h9 : A 9 fr.length = nI ((flt fr).length + cur.length)) (s : Nat) (h23 : I 23 = nI s) (hd : fr.length ≤ 8) (hc : cur.length ≤ 200) (hfl : (flt fr).length ≤ 1600) (ht : TkX I b n p) : zC 3 sc 73 [.ref 16] (xm I J A B tl) (fun M r => r = none ∧ XX n0 t0 (opB cl tg s fi fp cur fr bk en (tkK b n p) (tkP b n p)) tl I J A B M) := by
  have hk := tk_small (b := b) (n := n) (p := p)
  have e13 := ht.2.1
  have e14 := ht.2.2.1
  unfold opB
  refine zc_of hkX6_openBracket rfl ?_
  repeat (refine zw_go rfl rfl (fun _ _ => rfl) ?_)
  rw [e13]
  refine zw_br rfl (fun _ _ => rfl) (fun (h1 : nI (tkK b n p) = nI 40) => ?_) (fun (h1 : ¬ (nI (tkK b n p) = nI 40)) => ?_)
  · rw [nI_eq (by omega) (by omega)] at h1
    rw [if_pos h1]
    repeat (refine zw_go rfl rfl (fun _ _ => rfl) ?_)
    rw [xn.2.1]
    by_cases h8 : 8 ≤ fr.length
    · rw [if_pos h8]
      first | refine zw_br rfl (fun _ _ => rfl) (fun h9 => absurd h9 (nI_nlt (a := fr.length) (b := 8) h8 (by omega))) (fun _ => ?_) | refine zw_nx rfl (fun _ _ => rfl) ?_
      repeat (refine zw_go rfl rfl (fun _ _ => rfl) ?_)
      refine zw_call rfl (fun _ _ => rfl) (xFail sc I J A B tl 3) (by decide) ?_
      rintro M1 r1 ⟨rfl, rfl⟩
      repeat (refine zw_go rfl rfl (fun _ _ => rfl) ?_)
      exact zw_ret rfl (fun _ _ => rfl) (⟨rfl, xx_bad (by decide) rfl e14⟩)
    · rw [if_neg h8]
      first | refine zw_br rfl (fun _ _ => rfl) (fun _ => ?_) (fun h9 => absurd (nI_lt (a := fr.length) (b := 8) (by omega) (by omega)) h9) | refine zw_nx rfl (fun _ _ => rfl) ?_
      repeat (refine zw_go rfl rfl (fun _ _ => rfl) ?_)
      rw [xn.2.1, show nI fr.length + Int32.ofInt 1 = nI (fr.length + 1) from nI_1 _]
      refine zw_call rfl (fun _ _ => rfl) (xOpenRow sc (upd I 19 (nI (fr.length + 1))) J A B tl (fr.length + 1) (by omega) rfl) (by decide) ?_
      rintro M1 r1 ⟨rfl, rfl⟩
      repeat (refine zw_go rfl rfl (fun _ _ => rfl) ?_)
      refine zw_ix rfl (fun _ _ => rfl) (show vp_in (nI ((fr.length + 1))) _ from vp_in_nI (by omega) (by omega)) ?_
      rw [show (nI ((fr.length + 1))).toNatClampNeg = (fr.length + 1) from nI_clamp (by omega)]
      repeat (refine zw_go rfl rfl (fun _ _ => rfl) ?_)
      refine zw_ix rfl (fun _ _ => rfl) (show vp_in (nI ((fr.length + 1))) _ from vp_in_nI (by omega) (by omega)) ?_
      rw [show (nI ((fr.length + 1))).toNatClampNeg = (fr.length + 1) from nI_clamp (by omega)]
      repeat (refine zw_go rfl rfl (fun _ _ => rfl) ?_)
      refine zw_ret rfl (fun _ _ => rfl) ?_
      refine ⟨rfl, upd (upd I 19 (nI (fr.length + 1))) 20 (nI 4), va_up (va_up A 8 (upd (A 8) (fr.length + 1) (I 18))) 10 (upd (A 10) (fr.length + 1) (I 23)), rfl, ⟨xc_to xc hm rfl rfl rfl rfl rfl (fun z => by omega) (fun z => by omega), xb_cong xb rfl rfl, xe_cong xe rfl rfl (fun a ha => ?_), fun _ => ⟨?_, rfl, ⟨?_, ?_, h9.trans ?_, ?_⟩, fun i hi => ?_⟩, fun z => by omega, fun z => by omega⟩, fun z hz => ?_, fun a h2 h3 => ?_, fun a i h2 _ => ?_⟩
      · unfold va_up
        rw [if_neg (by omega), if_neg (by omega)]
      · show I 18 = _
        rw [xn.1, flt_cons, List.append_nil]
      · show upd (A 8) (fr.length + 1) (I 18) (fr.length + 1) = _
        unfold upd
        rw [if_pos rfl, xn.1]
      · show upd (A 10) (fr.length + 1) (I 23) (fr.length + 1) = _
        unfold upd
        rw [if_pos rfl, h23]
      · rw [List.length_append]
      · refine frX_cong xn.2.2.1 (fun i hi => ?_) (fun i hi => ?_) (fun _ _ => rfl)
        · show upd (A 8) (fr.length + 1) (I 18) i = _
          unfold upd
          rw [if_neg (by omega)]
        · show upd (A 10) (fr.length + 1) (I 23) i = _
          unfold upd
          rw [if_neg (by omega)]
      · rw [flt_cons, List.append_nil] at hi ⊢
        exact xn.2.2.2 i hi
      · unfold upd
        rw [if_neg (by omega), if_neg (by omega)]
      · unfold va_up
        rw [if_neg (by omega), if_neg (by omega)]
      · unfold va_up
        rw [if_neg (by omega), if_neg (by omega)]
  · rw [nI_eq (by omega) (by omega)] at h1
    rw [if_neg h1]
    repeat (refine zw_go rfl rfl (fun _ _ => rfl) ?_)
    refine zw_call rfl (fun _ _ => rfl) (xFail sc I J A B tl 1) (by decide) ?_
    rintro M1 r1 ⟨rfl, rfl⟩
    repeat (refine zw_go rfl rfl (fun _ _ => rfl) ?_)
    exact zw_ret rfl (fun _ _ => rfl) (⟨rfl, xx_bad (by decide) rfl e14⟩)
set_option maxHeartbeats 4000000 in
set_option maxRecDepth 20000 in
theorem xM7 (hX : XR n0 t0 (7, cl, tg, sh, fi, fp, cur, it, fr, bk, en) I A) (ht : TkX I b n p) (hpn : p ≤ n) : zC 4 sc 72 [.ref 16] (xm I J A B tl) (fun M r => r = none ∧ XX n0 t0 (stp w h (7, cl, tg, sh, fi, fp, cur, it, fr, bk, en) (tkK b n p) (tkN b n p) (tkP b n p)) tl I J A B M) := by
  obtain ⟨xc, xb, xe, xn, xi, xj⟩ := hX
  simp only [stp]
  refine zc_of hkX6_nameSum rfl ?_
  repeat (refine zw_go rfl rfl (fun _ _ => rfl) ?_)
  refine zw_call rfl (fun _ _ => rfl) (xIsNumber sc I J A B tl n b n0 t0 0 15 p (by omega) (by omega) ht hpn) (by decide) ?_
  rintro M1 r1 (⟨rfl, rfl, h1, h2, h3⟩ | ⟨rfl, ⟨h1, hx⟩ | ⟨h1, h2, hx⟩⟩)
  · rw [if_pos h1, if_neg (by omega)]
    have e15 := ht.2.2.2 (Or.inl h1)
    repeat (refine zw_go rfl rfl (fun _ _ => rfl) ?_)
    refine zw_ret rfl (fun _ _ => rfl) ?_
    refine ⟨rfl, upd (upd I 23 (I 15)) 20 (nI 8), A, rfl, ⟨xc_to xc (by omega) rfl rfl rfl rfl rfl (fun _ => e15) (fun z => by omega), xb, xe_cong xe rfl rfl (fun _ _ => rfl), fun _ => xn_cong (xn (by omega)) rfl rfl rfl rfl rfl (fun _ _ => rfl), fun z => by omega, fun _ => xj (Or.inl rfl)⟩, xf_i (fun z hz => ?_)⟩
    unfold upd
    rw [if_neg (by omega), if_neg (by omega)]
  · rw [if_neg h1]
    repeat (refine zw_go rfl rfl (fun _ _ => rfl) ?_)
    exact zw_ret rfl (fun _ _ => rfl) (⟨rfl, hx⟩)
  · rw [if_pos h1, if_pos (by omega)]
    repeat (refine zw_go rfl rfl (fun _ _ => rfl) ?_)
    exact zw_ret rfl (fun _ _ => rfl) (⟨rfl, hx⟩)
end

/-! the class: steps, readTape -/
section
variable (sc : sm_S) (I : Nat → Int32) (J : Nat → Int64) (A : Nat → Nat → Int32) (B : Nat → Nat → Int64) (tl : sm_M) (f : Nat → va_E) (n : Nat) (b : Nat → Nat) (w h n0 t0 p : Nat) (cl tg sh fi fp it : Nat) (cur : List Nat) (fr : tF) (bk : Nat → List Nat) (en : tE)
set_option maxHeartbeats 4000000 in
set_option maxRecDepth 20000 in
theorem xEndClause (hX : XR n0 t0 (11, cl, tg, sh, fi, fp, cur, it, [], bk, en) I A) (hT : TI w h (11, cl, tg, sh, fi, fp, cur, it, [], bk, en) p) (hp : p ≤ 300) (hn0 : n0 ≤ 2000) (hw : w ≤ 48) (hh : h ≤ 48) (h16 : I 16 = nI w) (h17 : I 17 = nI h) : zC 3 sc 79 [.ref 16] (xm I J A B tl) (fun M r => r = none ∧ XX n0 t0 (.inl (0, cl, tg, sh, fi, fp, cur, it, [], clB cl tg cur bk, clE w h cl tg cur en)) tl I J A B M) := by
  obtain ⟨xc, xb, xe, xn, xi, xj⟩ := hX
  obtain ⟨t1, t2, t3, t4, t5, t6, t7, t8, t9, t10, t11, t12, t13, t14, t15, t16, t17, t18⟩ := hT
  have xn := xn (by omega)
  have hcl : cur.length ≤ 200 := t2.1
  have hne := t10 (by omega)
  have hpos : 0 < cur.length := by
    cases hc : cur with
    | nil => exact absurd hc hne
    | cons _ _ => rw [List.length_cons]; omega
  have t11' : en.length + 32 ≤ 16 * p := t11
  have e21 := xc.2.1 (by omega)
  have e26 := xc.2.2.2.2.2.1
  have e27 := xc.2.2.2.2.2.2
  have xn1 : XN cur [] (upd I 20 (nI 0)) A := xn_cong xn rfl rfl rfl rfl rfl (fun _ _ => rfl)
  have xe1 : XE n0 t0 en (upd I 20 (nI 0)) A := xe_cong xe rfl rfl (fun _ _ => rfl)
  have fin : ∀ (x : Nat) (A' : Nat → Nat → Int32) (en' : tE), XE n0 t0 en' (upd (upd I 20 (nI 0)) 3 (nI x)) A' → en' = clE w h cl tg cur en → cl ≠ 4 → (∀ a, 2 < a → A' a = A a) → (∀ a i, a ≤ 2 → i < n0 → A' a i = A a i) → XX n0 t0 (.inl (0, cl, tg, sh, fi, fp, cur, it, [], clB cl tg cur bk, clE w h cl tg cur en)) tl I J A B (xm (upd (upd I 20 (nI 0)) 3 (nI x)) J A' B tl) := fun x A' en' h1 h2 h4 h5 h6 => by
    refine ⟨_, A', rfl, ⟨⟨rfl, fun z => absurd rfl z, fun z => by omega, fun z => by omega, fun z => by omega, e26, e27⟩, ?_, by rw [← h2]; exact h1, fun z => by omega, fun z => by omega, fun z => by omega⟩, fun z hz => ?_, fun a h7 h8 => h5 a h7, h6⟩
    · unfold clB
      rw [if_neg h4]
      exact xb_cong xb (h5 12 (by decide)) (h5 11 (by decide))
    · unfold upd
      rw [if_neg (by omega), if_neg (by omega)]
  refine zc_of hkX6_endClause rfl ?_
  refine zw_nx rfl (fun _ _ => rfl) ?_
  refine zw_nx rfl (fun _ _ => rfl) ?_
  refine zw_nx rfl (fun _ _ => rfl) ?_
  refine zw_nx rfl (fun _ _ => rfl) ?_
  refine zw_nx rfl (fun _ _ => rfl) ?_
  show zW 2 sc miX6_endClause 9 _ [.int (I 21)] (xm (upd I 20 (nI 0)) J A B tl) _
  have f21 : upd I 20 (nI 0) 21 = nI cl := e21
  have f16 : upd I 20 (nI 0) 16 = nI w := h16
  have f17 : upd I 20 (nI 0) 17 = nI h := h17
  have f22 : (cl = 4 ∨ cl = 7) → upd I 20 (nI 0) 22 = nI tg := fun z => xc.2.2.1 (by omega) z
  rw [e21]
  rcases t14.resolve_left (by omega) with c4 | c5 | c6 | c7
  · have hkb := xKeepBlock sc (upd I 20 (nI 0)) J A B tl tg cur bk xn1 xb (t13 (by omega) c4) (f22 (Or.inl c4)) hcl (fun l => (t5 l).1)
    rw [c4]
    repeat (refine zw_go rfl rfl (fun _ _ => rfl) ?_)
    refine zw_call rfl (fun _ _ => rfl) (hkb) (by decide) ?_
    rintro M1 r1 ⟨rfl, A', rfl, hb', hA'⟩
    repeat (refine zw_go rfl rfl (fun _ _ => rfl) ?_)
    refine zw_ret rfl (fun _ _ => rfl) ?_
    refine ⟨rfl, _, A', rfl, ⟨⟨rfl, fun z => absurd rfl z, fun z => by omega, fun z => by omega, fun z => by omega, e26, e27⟩, ?_, ?_, fun z => by omega, fun z => by omega, fun z => by omega⟩, fun z hz => ?_, fun a h7 h8 => hA' a (by omega) (by omega), fun a i h7 _ => by rw [hA' a (by omega) (by omega)]⟩
    · unfold clB
      rw [if_pos rfl]; exact hb'
    · unfold clE
      rw [if_pos rfl]
      exact xe_cong xe1 rfl rfl (fun a ha => hA' a (by omega) (by omega))
    · unfold upd
      rw [if_neg (by omega)]
  · have hst := xStageT sc (upd I 20 (nI 0)) J A B tl n0 t0 cur en w hw xn1 xe1 (by rw [← c5]; exact f21) hcl hpos (by omega)
    have hf := fin (n0 + (en ++ tabE (thE cur) w).length)
    rw [c5] at hf ⊢
    repeat (refine zw_go rfl rfl (fun _ _ => rfl) ?_)
    rw [f16]
    refine zw_call rfl (fun _ _ => rfl) (hst) (by decide) ?_
    rintro M1 r1 ⟨rfl, A', rfl, q1, q2, q3⟩
    repeat (refine zw_go rfl rfl (fun _ _ => rfl) ?_)
    exact zw_ret rfl (fun _ _ => rfl) (⟨rfl, hf A' _ q1 rfl (by decide) q2 q3⟩)
  · have hst := xStageR sc (upd I 20 (nI 0)) J A B tl n0 t0 cur en h hh xn1 xe1 (by rw [← c6]; exact f21) hcl hpos (by omega)
    have hf := fin (n0 + (en ++ tabE (trE cur) h).length)
    rw [c6] at hf ⊢
    repeat (refine zw_go rfl rfl (fun _ _ => rfl) ?_)
    rw [f17]
    refine zw_call rfl (fun _ _ => rfl) (hst) (by decide) ?_
    rintro M1 r1 ⟨rfl, A', rfl, q1, q2, q3⟩
    repeat (refine zw_go rfl rfl (fun _ _ => rfl) ?_)
    exact zw_ret rfl (fun _ _ => rfl) (⟨rfl, hf A' _ q1 rfl (by decide) q2 q3⟩)
  · have hst := xStageTie sc (upd I 20 (nI 0)) J A B tl n0 t0 tg cur en xn1 xe1 t12 (f22 (Or.inr c7)) hcl (by omega)
    have hf := fin (n0 + en.length + 1)
    rw [c7] at hf ⊢
    repeat (refine zw_go rfl rfl (fun _ _ => rfl) ?_)
    refine zw_call rfl (fun _ _ => rfl) (hst) (by decide) ?_
    rintro M1 r1 ⟨rfl, A', rfl, q1, q2, q3⟩
    exact zw_ret rfl (fun _ _ => rfl) (⟨rfl, hf A' _ q1 rfl (by decide) q2 q3⟩)
set_option maxHeartbeats 4000000 in
set_option maxRecDepth 20000 in
theorem xM11 (hX : XR n0 t0 (11, cl, tg, sh, fi, fp, cur, it, fr, bk, en) I A) (hT : TI w h (11, cl, tg, sh, fi, fp, cur, it, fr, bk, en) p) (ht : TkX I b n p) (hp : p ≤ 300) (hn0 : n0 ≤ 2000) (hw : w ≤ 48) (hh : h ≤ 48) (h16 : I 16 = nI w) (h17 : I 17 = nI h) : zC 5 sc 78 [.ref 16] (xm I J A B tl) (fun M r => r = none ∧ XX n0 t0 (stp w h (11, cl, tg, sh, fi, fp, cur, it, fr, bk, en) (tkK b n p) (tkN b n p) (tkP b n p)) tl I J A B M) := by
  have hXX := hX
  have hTT := hT
  obtain ⟨xc, xb, xe, xn, xi, xj⟩ := hX
  have xn := xn (by omega)
  have t3 : fr.length ≤ 8 := hT.2.2.1
  have hk := tk_small (b := b) (n := n) (p := p)
  have e13 := ht.2.1
  have e14 := ht.2.2.1
  simp only [stp]
  have last : zW 4 sc miX6_goOnBehindItem 72 [some (.ref 16)] [] (xm I J A B tl) (fun M r => r = none ∧ XX n0 t0 (bad 1 (tkP b n p)) tl I J A B M) := by
    repeat (refine zw_go rfl rfl (fun _ _ => rfl) ?_)
    refine zw_call rfl (fun _ _ => rfl) (xFail sc I J A B tl 1) (by decide) ?_
    rintro M1 r1 ⟨rfl, rfl⟩
    exact zw_ret rfl (fun _ _ => rfl) (⟨rfl, xx_bad (by decide) rfl e14⟩)
  refine zc_of hkX6_goOnBehindItem rfl ?_
  repeat (refine zw_go rfl rfl (fun _ _ => rfl) ?_)
  rw [e13]
  refine zw_br rfl (fun _ _ => rfl) (fun (k44 : nI (tkK b n p) = nI 44) => ?_) (fun (k44 : ¬ (nI (tkK b n p) = nI 44)) => ?_)
  · rw [nI_eq (by omega) (by omega)] at k44
    rw [if_pos k44]
    repeat (refine zw_go rfl rfl (fun _ _ => rfl) ?_)
    refine zw_ret rfl (fun _ _ => rfl) ?_
    refine ⟨rfl, upd I 20 (nI 4), A, rfl, ⟨xc_to xc (by omega) rfl rfl rfl rfl rfl (fun z => by omega) (fun z => by omega), xb, xe_cong xe rfl rfl (fun _ _ => rfl), fun _ => xn_cong xn rfl rfl rfl rfl rfl (fun _ _ => rfl), fun z => by omega, fun z => by omega⟩, xf_i (fun z hz => ?_)⟩
    unfold upd
    rw [if_neg (by omega)]
  · rw [nI_eq (by omega) (by omega)] at k44
    rw [if_neg k44]
    have semi : ¬ (tkK b n p = 41 ∧ fr ≠ []) → zW 4 sc miX6_goOnBehindItem 46 [some (.ref 16)] [] (xm I J A B tl) (fun M r => r = none ∧ XX n0 t0 (if tkK b n p = 59 ∧ fr = [] then .inl (0, cl, tg, sh, fi, fp, cur, it, fr, clB cl tg cur bk, clE w h cl tg cur en) else bad 1 (tkP b n p)) tl I J A B M) := fun hno => by
      repeat (refine zw_go rfl rfl (fun _ _ => rfl) ?_)
      rw [e13]
      refine zw_br rfl (fun _ _ => rfl) (fun (k59 : nI (tkK b n p) = nI 59) => ?_) (fun (k59 : ¬ (nI (tkK b n p) = nI 59)) => ?_)
      · rw [nI_eq (by omega) (by omega)] at k59
        cases fr with
        | nil =>
          rw [if_pos ⟨k59, rfl⟩]
          repeat (refine zw_go rfl rfl (fun _ _ => rfl) ?_)
          rw [xn.2.1]
          repeat (refine zw_go rfl rfl (fun _ _ => rfl) ?_)
          refine zw_call rfl (fun _ _ => rfl) (xEndClause sc I J A B tl w h n0 t0 p cl tg sh fi fp it cur bk en hXX hTT hp hn0 hw hh h16 h17) (by decide) ?_
          rintro M1 r1 ⟨rfl, hx⟩
          repeat (refine zw_go rfl rfl (fun _ _ => rfl) ?_)
          exact zw_ret rfl (fun _ _ => rfl) (⟨rfl, hx⟩)
        | cons q t =>
          rw [if_neg (fun z => by cases z.2)]
          rw [List.length_cons] at t3
          repeat (refine zw_go rfl rfl (fun _ _ => rfl) ?_)
          rw [xn.2.1]
          first | refine zw_br rfl (fun _ _ => rfl) (fun h9 => absurd h9 (nI_ne0 (n := (q :: t).length) (by rw [List.length_cons]; omega) (by rw [List.length_cons]; omega))) (fun _ => ?_) | refine zw_nx rfl (fun _ _ => rfl) ?_
          exact last
      · rw [nI_eq (by omega) (by omega)] at k59
        rw [if_neg (fun z => k59 z.1)]
        exact last
    repeat (refine zw_go rfl rfl (fun _ _ => rfl) ?_)
    rw [e13]
    refine zw_br rfl (fun _ _ => rfl) (fun (k41 : nI (tkK b n p) = nI 41) => ?_) (fun (k41 : ¬ (nI (tkK b n p) = nI 41)) => ?_)
    · rw [nI_eq (by omega) (by omega)] at k41
      cases fr with
      | nil =>
        rw [if_neg (fun z => z.2 rfl)]
        have hs := semi (fun z => z.2 rfl)
        repeat (refine zw_go rfl rfl (fun _ _ => rfl) ?_)
        rw [xn.2.1]
        refine zw_nx rfl (fun _ _ => rfl) ?_
        exact hs
      | cons q t =>
        obtain ⟨o, s⟩ := q
        rw [if_pos ⟨k41, fun z => by cases z⟩]
        rw [List.length_cons] at t3
        repeat (refine zw_go rfl rfl (fun _ _ => rfl) ?_)
        rw [xn.2.1]
        first | refine zw_br rfl (fun _ _ => rfl) (fun h9 => absurd h9 (nI_nle (n := ((o, s) :: t).length) (by rw [List.length_cons]; omega) (by rw [List.length_cons]; omega))) (fun _ => ?_) | refine zw_nx rfl (fun _ _ => rfl) ?_
        repeat (refine zw_go rfl rfl (fun _ _ => rfl) ?_)
        refine zw_call rfl (fun _ _ => rfl) (xClose sc I J A B tl n b w h n0 t0 p cl tg sh fi fp it cur bk en o s t hXX hTT ht) (by decide) ?_
        rintro M1 r1 ⟨rfl, hx⟩
        repeat (refine zw_go rfl rfl (fun _ _ => rfl) ?_)
        exact zw_ret rfl (fun _ _ => rfl) (⟨rfl, hx⟩)
    · rw [nI_eq (by omega) (by omega)] at k41
      rw [if_neg (fun z => k41 z.1)]
      exact semi (fun z => k41 z.1)
set_option maxHeartbeats 4000000 in
set_option maxRecDepth 20000 in
theorem xEndWhat (s : tS) (hX : XR n0 t0 s I A) (hT : TI w h s p) (ht : TkX I b n p) : zC 4 sc 58 [.ref 16] (xm I J A B tl) (fun M r => r = none ∧ XX n0 t0 (prS s (tkK b n p)) tl I J A B M) := by
  obtain ⟨md, cl, tg, sh, fi, fp, cur, it, fr, bk, en⟩ := s
  have hXX := hX
  have hTT := hT
  obtain ⟨xc, xb, xe, xn, xi, xj⟩ := hX
  have t1 : md ≤ 11 := hT.1
  have hk := tk_small (b := b) (n := n) (p := p)
  have e13 := ht.2.1
  -- the second test
  have sec : ∀ (I1 : Nat → Int32) (A1 : Nat → Nat → Int32) (s1 : tS), XR n0 t0 s1 I1 A1 → I1 13 = I 13 → XF n0 I A I1 A1 → (s1.1 ≠ 9 ∨ tkK b n p = 42) → s1.1 ≤ 11 → zW 3 sc miX6_endWhatCannotGoOn 24 [some (.ref 16)] [] (xm I1 J A1 B tl) (fun M r => r = none ∧ XX n0 t0 (.inl s1) tl I J A B M) := by
    intro I1 A1 s1 h1 h2 h3 h4 h5
    obtain ⟨md1, cl1, tg1, sh1, fi1, fp1, cur1, it1, fr1, bk1, en1⟩ := s1
    have h5' : md1 ≤ 11 := h5
    have e20 : I1 20 = nI md1 := h1.1.1
    repeat (refine zw_go rfl rfl (fun _ _ => rfl) ?_)
    rw [e20]
    refine zw_br rfl (fun _ _ => rfl) (fun (h6 : nI md1 = nI 9) => ?_) (fun (h6 : ¬ (nI md1 = nI 9)) => ?_)
    · rw [nI_eq (by omega) (by omega)] at h6
      repeat (refine zw_go rfl rfl (fun _ _ => rfl) ?_)
      rw [h2, e13]
      have h42 : tkK b n p = 42 := by
        rcases h4 with h7 | h7
        · exact absurd h6 h7
        · exact h7
      rw [h42]
      repeat (refine zw_go rfl rfl (fun _ _ => rfl) ?_)
      exact zw_ret rfl (fun _ _ => rfl) (⟨rfl, I1, A1, rfl, h1, h3⟩)
    · repeat (refine zw_go rfl rfl (fun _ _ => rfl) ?_)
      exact zw_ret rfl (fun _ _ => rfl) (⟨rfl, I1, A1, rfl, h1, h3⟩)
  have sec9 : ∀ (I1 : Nat → Int32) (A1 : Nat → Nat → Int32) (cl1 tg1 sh1 fi1 fp1 : Nat) (cur1 : List Nat) (it1 : Nat) (fr1 : tF) (bk1 : Nat → List Nat) (en1 : tE), XR n0 t0 (9, cl1, tg1, sh1, fi1, fp1, cur1, it1, fr1, bk1, en1) I1 A1 → I1 13 = I 13 → XF n0 I A I1 A1 → tkK b n p ≠ 42 → zW 3 sc miX6_endWhatCannotGoOn 24 [some (.ref 16)] [] (xm I1 J A1 B tl) (fun M r => r = none ∧ XX n0 t0 (.inl (11, cl1, tg1, sh1, fi1, fp1, cur1, it1, fr1, bk1, en1)) tl I J A B M) := by
    intro I1 A1 cl1 tg1 sh1 fi1 fp1 cur1 it1 fr1 bk1 en1 h1 h2 h3 h4
    obtain ⟨yc, yb, ye, yn, yi, yj⟩ := h1
    repeat (refine zw_go rfl rfl (fun _ _ => rfl) ?_)
    rw [yc.1]
    repeat (refine zw_go rfl rfl (fun _ _ => rfl) ?_)
    rw [h2, e13]
    first | refine zw_br rfl (fun _ _ => rfl) (fun h9 => absurd h9 ((fun z => h4 ((nI_eq (a := tkK b n p) (b := 42) (by omega) (by omega)).mp z)))) (fun _ => ?_) | refine zw_nx rfl (fun _ _ => rfl) ?_
    repeat (refine zw_go rfl rfl (fun _ _ => rfl) ?_)
    refine zw_ret rfl (fun _ _ => rfl) ?_
    refine ⟨rfl, upd I1 20 (nI 11), A1, rfl, ⟨xc_to yc (by omega) rfl rfl rfl rfl rfl (fun z => by omega) (fun z => by omega), yb, xe_cong ye rfl rfl (fun _ _ => rfl), fun _ => xn_cong (yn (by omega)) rfl rfl rfl rfl rfl (fun _ _ => rfl), fun z => by omega, fun z => by omega⟩, xf_tr h3 (xf_i (fun z hz => ?_))⟩
    unfold upd
    rw [if_neg (by omega)]
  refine zc_of hkX6_endWhatCannotGoOn rfl ?_
  repeat (refine zw_go rfl rfl (fun _ _ => rfl) ?_)
  rw [xc.1]
  by_cases m5 : md = 5
  · subst m5
    repeat (refine zw_go rfl rfl (fun _ _ => rfl) ?_)
    rw [e13]
    simp only [prS]
    refine zw_br rfl (fun _ _ => rfl) (fun (k8 : nI (tkK b n p) = nI 8) => ?_) (fun (k8 : ¬ (nI (tkK b n p) = nI 8)) => ?_)
    · rw [nI_eq (by omega) (by omega)] at k8
      rw [if_pos k8]
      exact sec I A _ hXX rfl xf_rfl (Or.inl (show (5 : Nat) ≠ 9 by decide)) (show (5 : Nat) ≤ 11 by decide)
    · rw [nI_eq (by omega) (by omega)] at k8
      rw [if_neg k8]
      repeat (refine zw_go rfl rfl (fun _ _ => rfl) ?_)
      refine zw_call rfl (fun _ _ => rfl) (xEndNumber sc I J A B tl w h n0 t0 p cl tg sh fi fp it cur fr bk en hXX hTT) (by decide) ?_
      rintro M1 r1 ⟨rfl, hx⟩
      by_cases hroom : 200 < cur.length + 1
      · rw [if_pos hroom] at hx ⊢
        obtain ⟨I1, A1, rfl, hs, hf⟩ := hx
        have e20 : I1 20 = nI 12 := hs.1
        repeat (refine zw_go rfl rfl (fun _ _ => rfl) ?_)
        rw [e20]
        repeat (refine zw_go rfl rfl (fun _ _ => rfl) ?_)
        exact zw_ret rfl (fun _ _ => rfl) (⟨rfl, I1, A1, rfl, hs, hf⟩)
      · rw [if_neg hroom] at hx ⊢
        obtain ⟨I1, A1, rfl, hs, hf⟩ := hx
        have e13' : I1 13 = I 13 := hf.1 13 (by omega)
        by_cases k42 : tkK b n p = 42
        · rw [if_pos k42]
          exact sec I1 A1 _ hs e13' hf (Or.inr k42) (show (9 : Nat) ≤ 11 by decide)
        · rw [if_neg k42]
          exact sec9 I1 A1 _ _ _ _ _ _ _ _ _ _ hs e13' hf k42
  · first | refine zw_br rfl (fun _ _ => rfl) (fun h9 => absurd h9 ((fun z => m5 ((nI_eq (a := md) (b := 5) (by omega) (by omega)).mp z)))) (fun _ => ?_) | refine zw_nx rfl (fun _ _ => rfl) ?_
    by_cases m9 : md = 9
    · subst m9
      simp only [prS]
      by_cases k42 : tkK b n p = 42
      · rw [if_pos k42]
        exact sec I A _ hXX rfl xf_rfl (Or.inr k42) (show (9 : Nat) ≤ 11 by decide)
      · rw [if_neg k42]
        exact sec9 I A _ _ _ _ _ _ _ _ _ _ hXX rfl xf_rfl k42
    · have hpr : prS (md, cl, tg, sh, fi, fp, cur, it, fr, bk, en) (tkK b n p) = .inl (md, cl, tg, sh, fi, fp, cur, it, fr, bk, en) := by
        rcases (show md = 0 ∨ md = 1 ∨ md = 2 ∨ md = 3 ∨ md = 4 ∨ md = 6 ∨ md = 7 ∨ md = 8 ∨ md = 10 ∨ md = 11 by omega) with rfl | rfl | rfl | rfl | rfl | rfl | rfl | rfl | rfl | rfl <;> rfl
      rw [hpr]
      exact sec I A _ hXX rfl xf_rfl (Or.inl m9) t1
set_option maxHeartbeats 4000000 in
set_option maxRecDepth 20000 in
theorem xStep (s : tS) (hX : XR n0 t0 s I A) (hT : TI w h s p) (ht : TkX I b n p) (hpn : p ≤ n) (hn : n ≤ 300) (hn0 : n0 ≤ 2000) (hw : w ≤ 48) (hh : h ≤ 48) (h16 : I 16 = nI w) (h17 : I 17 = nI h) : zC 6 sc 61 [.ref 16] (xm I J A B tl) (fun M r => r = none ∧ XX n0 t0 (stp w h s (tkK b n p) (tkN b n p) (tkP b n p)) tl I J A B M) := by
  obtain ⟨md, cl, tg, sh, fi, fp, cur, it, fr, bk, en⟩ := s
  have t1 : md ≤ 11 := hT.1
  have e20 : I 20 = nI md := hX.1.1
  refine zc_of hkX6_step rfl ?_
  refine zw_nx rfl (fun _ _ => rfl) ?_
  refine zw_nx rfl (fun _ _ => rfl) ?_
  show zW 5 sc miX6_step 4 _ [.int (I 20)] (xm I J A B tl) _
  rw [e20]
  rcases (show md = 0 ∨ md = 1 ∨ md = 2 ∨ md = 3 ∨ md = 4 ∨ md = 5 ∨ md = 6 ∨ md = 7 ∨ md = 8 ∨ md = 9 ∨ md = 10 ∨ md = 11 by omega) with rfl | rfl | rfl | rfl | rfl | rfl | rfl | rfl | rfl | rfl | rfl | rfl
  · repeat (refine zw_go rfl rfl (fun _ _ => rfl) ?_)
    refine zw_call rfl (fun _ _ => rfl) (xM0 sc I J A B tl n b w h n0 t0 p cl tg sh fi fp it cur fr bk en hX ht) (by decide) ?_
    rintro M1 r1 ⟨rfl, hx⟩
    repeat (refine zw_go rfl rfl (fun _ _ => rfl) ?_)
    exact zw_ret rfl (fun _ _ => rfl) (⟨rfl, hx⟩)
  · repeat (refine zw_go rfl rfl (fun _ _ => rfl) ?_)
    refine zw_call rfl (fun _ _ => rfl) (xM1 sc I J A B tl n b w h n0 t0 p cl tg sh fi fp it cur fr bk en hX ht hT) (by decide) ?_
    rintro M1 r1 ⟨rfl, hx⟩
    repeat (refine zw_go rfl rfl (fun _ _ => rfl) ?_)
    exact zw_ret rfl (fun _ _ => rfl) (⟨rfl, hx⟩)
  · repeat (refine zw_go rfl rfl (fun _ _ => rfl) ?_)
    refine zw_call rfl (fun _ _ => rfl) (xM2 sc I J A B tl n b w h n0 t0 p cl tg sh fi fp it cur fr bk en hX ht) (by decide) ?_
    rintro M1 r1 ⟨rfl, hx⟩
    repeat (refine zw_go rfl rfl (fun _ _ => rfl) ?_)
    exact zw_ret rfl (fun _ _ => rfl) (⟨rfl, hx⟩)
  · repeat (refine zw_go rfl rfl (fun _ _ => rfl) ?_)
    refine zw_call rfl (fun _ _ => rfl) (xM3 sc I J A B tl n b w h n0 t0 p cl tg sh fi fp it cur fr bk en hX ht hpn) (by decide) ?_
    rintro M1 r1 ⟨rfl, hx⟩
    repeat (refine zw_go rfl rfl (fun _ _ => rfl) ?_)
    exact zw_ret rfl (fun _ _ => rfl) (⟨rfl, hx⟩)
  · repeat (refine zw_go rfl rfl (fun _ _ => rfl) ?_)
    refine zw_call rfl (fun _ _ => rfl) (xM4 sc I J A B tl n b w h n0 t0 p cl tg sh fi fp it cur fr bk en hX hT ht hpn) (by decide) ?_
    rintro M1 r1 ⟨rfl, hx⟩
    repeat (refine zw_go rfl rfl (fun _ _ => rfl) ?_)
    exact zw_ret rfl (fun _ _ => rfl) (⟨rfl, hx⟩)
  · obtain ⟨xc, xb, xe, xn, xi, xj⟩ := hX
    repeat (refine zw_go rfl rfl (fun _ _ => rfl) ?_)
    refine zw_ret rfl (fun _ _ => rfl) ?_
    refine ⟨rfl, upd I 20 (nI 6), A, rfl, ⟨xc_to xc (by omega) rfl rfl rfl rfl rfl (fun z => by omega) (fun _ => xc.2.2.2.2.1 (by omega)), xb, xe_cong xe rfl rfl (fun _ _ => rfl), fun _ => xn_cong (xn (by omega)) rfl rfl rfl rfl rfl (fun _ _ => rfl), fun _ => xi (by omega), fun z => by omega⟩, xf_i (fun z hz => ?_)⟩
    unfold upd
    rw [if_neg (by omega)]
  · repeat (refine zw_go rfl rfl (fun _ _ => rfl) ?_)
    refine zw_call rfl (fun _ _ => rfl) (xM6 sc I J A B tl n b w h n0 t0 p cl tg sh fi fp it cur fr bk en hX hT ht hpn) (by decide) ?_
    rintro M1 r1 ⟨rfl, hx⟩
    repeat (refine zw_go rfl rfl (fun _ _ => rfl) ?_)
    exact zw_ret rfl (fun _ _ => rfl) (⟨rfl, hx⟩)
  · repeat (refine zw_go rfl rfl (fun _ _ => rfl) ?_)
    refine zw_call rfl (fun _ _ => rfl) (xM7 sc I J A B tl n b w h n0 t0 p cl tg sh fi fp it cur fr bk en hX ht hpn) (by decide) ?_
    rintro M1 r1 ⟨rfl, hx⟩
    repeat (refine zw_go rfl rfl (fun _ _ => rfl) ?_)
    exact zw_ret rfl (fun _ _ => rfl) (⟨rfl, hx⟩)
  · obtain ⟨xc, xb, xe, xn, xi, xj⟩ := hX
    have hfl := flt_len hT.2.2.2.1
    have t3 : fr.length ≤ 8 := hT.2.2.1
    repeat (refine zw_go rfl rfl (fun _ _ => rfl) ?_)
    refine zw_call rfl (fun _ _ => rfl) (xOpenBracket sc I J A B tl n b n0 t0 p cl tg sh fi fp cur fr bk en 8 (by omega) xc xb xe (xn (by omega)) (xj (by omega)) sh (xc.2.2.2.1 rfl) t3 hT.2.1.1 (by omega) ht) (by decide) ?_
    rintro M1 r1 ⟨rfl, hx⟩
    repeat (refine zw_go rfl rfl (fun _ _ => rfl) ?_)
    exact zw_ret rfl (fun _ _ => rfl) (⟨rfl, hx⟩)
  · obtain ⟨xc, xb, xe, xn, xi, xj⟩ := hX
    repeat (refine zw_go rfl rfl (fun _ _ => rfl) ?_)
    refine zw_ret rfl (fun _ _ => rfl) ?_
    refine ⟨rfl, upd I 20 (nI 10), A, rfl, ⟨xc_to xc (by omega) rfl rfl rfl rfl rfl (fun z => by omega) (fun z => by omega), xb, xe_cong xe rfl rfl (fun _ _ => rfl), fun _ => xn_cong (xn (by omega)) rfl rfl rfl rfl rfl (fun _ _ => rfl), fun _ => xi (by omega), fun z => by omega⟩, xf_i (fun z hz => ?_)⟩
    unfold upd
    rw [if_neg (by omega)]
  · repeat (refine zw_go rfl rfl (fun _ _ => rfl) ?_)
    refine zw_call rfl (fun _ _ => rfl) (xM10 sc I J A B tl n b w h n0 t0 p cl tg sh fi fp it cur fr bk en hX hT ht hpn) (by decide) ?_
    rintro M1 r1 ⟨rfl, hx⟩
    repeat (refine zw_go rfl rfl (fun _ _ => rfl) ?_)
    exact zw_ret rfl (fun _ _ => rfl) (⟨rfl, hx⟩)
  · repeat (refine zw_go rfl rfl (fun _ _ => rfl) ?_)
    refine zw_call rfl (fun _ _ => rfl) (xM11 sc I J A B tl n b w h n0 t0 p cl tg sh fi fp it cur fr bk en hX hT ht (by omega) hn0 hw hh h16 h17) (by decide) ?_
    rintro M1 r1 ⟨rfl, hx⟩
    repeat (refine zw_go rfl rfl (fun _ _ => rfl) ?_)
    exact zw_ret rfl (fun _ _ => rfl) (⟨rfl, hx⟩)
end

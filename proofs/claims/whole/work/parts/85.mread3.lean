/-! the reference: closes, readRow -/
theorem ful_close {w h cl tg sh fi fp : Nat} {cur : List Nat} {it : Nat} {o : List Nat} {s : Nat} {t : tF} {bk : Nat → List Nat} {en : tE} {v q : Nat} : ful w h (11, cl, tg, sh, fi, fp, cur, it, (o, s) :: t, bk, en) 41 v q = clR cl tg sh fi fp cur bk en q ((o, s) :: t) := rfl
theorem ful_911 {w h cl tg sh fi fp : Nat} {cur : List Nat} {it : Nat} {fr : tF} {bk : Nat → List Nat} {en : tE} {k v q : Nat} (hk : k ≠ 42) : ful w h (9, cl, tg, sh, fi, fp, cur, it, fr, bk, en) k v q = ful w h (11, cl, tg, sh, fi, fp, cur, it, fr, bk, en) k v q := by
  unfold ful
  simp only [prS]
  rw [if_neg hk]
theorem out_911 {w h : Nat} {b : Nat → Nat} {n cl tg sh fi fp : Nat} {cur : List Nat} {it : Nat} {fr : tF} {bk : Nat → List Nat} {en : tE} {p : Nat} {R : tR} (hk : tkK b n p ≠ 42) (h1 : Out w h b n (11, cl, tg, sh, fi, fp, cur, it, fr, bk, en) p R) : Out w h b n (9, cl, tg, sh, fi, fp, cur, it, fr, bk, en) p R := by
  obtain ⟨m, h1⟩ := h1
  cases m with
  | zero => cases h1
  | succ m =>
    refine ⟨m + 1, ?_⟩
    rw [runT] at h1 ⊢
    rw [ful_911 hk]
    exact h1
theorem div2 : ∀ k, k < 201 → nI k / Int32.ofInt 2 = nI (k / 2) := by decide +kernel
theorem rem16 : ∀ x, x < 16 → ∀ s, s < 16 → (nI x + nI s) - (nI x + nI s) / (Int8.ofInt 16).toInt32 * (Int8.ofInt 16).toInt32 = nI ((x + s) % 16) := by decide +kernel
theorem mn_set {cur r o : List Nat} {t : tF} {I I' : Nat → Int32} {A A' : Nat → Nat → Int32} (h : MN (o ++ cur) t I A) (hl : r.length = cur.length) (h15 : I' 15 = I 15) (h16 : I' 16 = I 16) (h7 : ∀ i, i < (flt t ++ o).length → A' 12 i = A 12 i) (h7r : ∀ i, i < r.length → A' 12 ((flt t ++ o).length + i) = nI (gl r i)) (a15 : A' 15 = A 15) (a13 : A' 13 = A 13) (a14 : A' 14 = A 14) : MN (o ++ r) t I' A' := by
  have e1 : flt t ++ (o ++ cur) = (flt t ++ o) ++ cur := (List.append_assoc _ _ _).symm
  have e2 : flt t ++ (o ++ r) = (flt t ++ o) ++ r := (List.append_assoc _ _ _).symm
  refine ⟨?_, by rw [h16]; exact h.2.1, frM_cong h.2.2.1 (fun i _ => by rw [a15]) (fun i _ => by rw [a13]) (fun i _ => by rw [a14]), fun i hi => ?_⟩
  · rw [h15, h.1, e1, e2, List.length_append (as := flt t ++ o), List.length_append (as := flt t ++ o), hl]
  · rw [e2] at hi ⊢
    rw [List.length_append (as := flt t ++ o)] at hi
    rcases Nat.lt_or_ge i (flt t ++ o).length with h1 | h1
    · rw [gl_app h1, h7 i h1, h.2.2.2 i (by rw [e1, List.length_append (as := flt t ++ o)]; omega), e1, gl_app h1]
    · have e : i = (flt t ++ o).length + (i - (flt t ++ o).length) := by omega
      rw [e, gl_app2]
      exact h7r _ (by omega)
section
variable (sc : sm_S) (I : Nat → Int32) (A : Nat → Nat → Int32) (B : Nat → Nat → Int64) (f : Nat → va_E) (n : Nat) (b : Nat → Nat) (w h p : Nat) (cl tg sh fi fp it : Nat) (cur : List Nat) (fr : tF) (bk : Nat → List Nat) (en : tE)
set_option maxHeartbeats 4000000 in
set_option maxRecDepth 20000 in
theorem mCloses (o : List Nat) (s : Nat) (t : tF) (hX : MS b n (11, cl, tg, sh, fi, fp, cur, it, (o, s) :: t, bk, en) p I A) (hT : TI w h (11, cl, tg, sh, fi, fp, cur, it, (o, s) :: t, bk, en) p) (hTp : TpM I A b n) (hpn : p ≤ n) (hw : w ≤ 48) (hh : h ≤ 48) (hk : tkK b n p = 41) : zC 5 sc 198 [.ref 47] (mm f I A B) (fun M r => MX w h b n 9 cl tg bk en (11, cl, tg, sh, fi, fp, cur, it, (o, s) :: t, bk, en) p f I A B M r) := by
  have hn := hTp.2.1
  have hTT := hT
  obtain ⟨tk, xb, xe, xn, xi⟩ := hX
  obtain ⟨t1, t2, t3, t4, t5, t6, t7, t8, t9, t10, t11, t12, t13, t14, t15, t16, t17, t18⟩ := hT
  have xn := xn (by omega)
  have hoo := t4 (o, s) List.mem_cons_self
  have hol : o.length ≤ 200 := hoo.1.1
  have hs17 : s ≤ 17 := hoo.2
  have hflt := flt_len (fr := t) (fun q hq => t4 q (List.mem_cons_of_mem _ hq))
  have hcl : cur.length ≤ 200 := t2.1
  have hne := t10 (by omega)
  have hpos : 0 < cur.length := by
    cases hc : cur with
    | nil => exact absurd hc hne
    | cons _ _ => rw [List.length_cons]; omega
  rw [List.length_cons] at t3
  have lS : (flt t ++ o).length = (flt t).length + o.length := List.length_append
  have lT : (flt ((o, s) :: t) ++ cur).length = (flt t ++ o).length + cur.length := List.length_append
  have e1 : flt t ++ (o ++ cur) = flt ((o, s) :: t) ++ cur := (List.append_assoc _ _ _).symm
  have hkne : tkK b n p ≠ 0 := by omega
  obtain ⟨hgt, _⟩ := tkX_gt hkne
  have hle := tkX_le (b := b) hpn
  have hfc : ful w h (11, cl, tg, sh, fi, fp, cur, it, (o, s) :: t, bk, en) (tkK b n p) (tkN b n p) (tkP b n p) = if 200 < o.length + (shp s cur).length then bad 5 (tkP b n p) else .inl (9, cl, tg, sh, fi, fp, o ++ shp s cur, o.length, t, bk, en) := by
    rw [hk]; rfl
  have vcur : ∀ i, i < cur.length → A 12 ((flt t ++ o).length + i) = nI (gl cur i) := fun i hi => by
    rw [xn.2.2.2 _ (by rw [lT]; omega)]
    exact congrArg nI (gl_app2 (l := flt t ++ o) (r := cur) (i := i))
  have flt1 : ∀ (c : Nat) (I2 : Nat → Int32), 0 < c → c ≤ 5 → ∀ e, Out w h b n (11, cl, tg, sh, fi, fp, cur, it, (o, s) :: t, bk, en) p (c, e, []) → MF I A I2 A → MX w h b n 9 cl tg bk en (11, cl, tg, sh, fi, fp, cur, it, (o, s) :: t, bk, en) p f I A B (mm f (upd I2 13 (nI e)) A B) (some (.int (nI c))) := fun c I2 h1 h2 e hO hF => Or.inr ⟨c, e, _, A, rfl, h1, h2, rfl, rfl, hO, mf_tr hF mf_13⟩
  refine zc_of hkX11_closes rfl ?_
  repeat (refine zw_go rfl rfl (fun _ _ => rfl) ?_)
  refine zw_call rfl (fun _ _ => rfl) (mNextToken sc I A B f n b (tkX b n p) hTp hle tk.1) (by decide) ?_
  rintro M1 r1 ⟨rfl, I2, rfl, tk2, hI2⟩
  refine zw_nx rfl (fun _ _ => rfl) ?_
  refine zw_nx rfl (fun _ _ => rfl) ?_
  refine zw_nx rfl (fun _ _ => rfl) ?_
  refine zw_nx rfl (fun _ _ => rfl) ?_
  refine zw_nx rfl (fun _ _ => rfl) ?_
  refine zw_nx rfl (fun _ _ => rfl) ?_
  show zW 4 sc miX11_closes 19 _ _ (mm f (upd I2 16 (I2 16 - 1)) A B) _
  have e16 : I2 16 = nI (t.length + 1) := by rw [hI2 16 (by omega)]; exact xn.2.1
  rw [e16, show nI (t.length + 1) - 1 = nI t.length from nI_pred _]
  repeat (refine zw_go rfl rfl (fun _ _ => rfl) ?_)
  rw [show upd I2 16 (nI t.length) 16 + Int32.ofInt 1 = nI (t.length + 1) from nI_1 _]
  refine zw_ix rfl (fun _ _ => rfl) ((show vp_in (nI (t.length + 1)) _ from vp_in_nI (by omega) (by omega))) ?_
  rw [show (nI (t.length + 1)).toNatClampNeg = t.length + 1 from nI_clamp (by omega), xn.2.2.1.1]
  refine zw_nx rfl (fun _ _ => rfl) ?_
  show zW 4 sc miX11_closes 34 _ _ (mm f (upd (upd I2 16 (nI t.length)) 17 (nI (flt t ++ o).length)) A B) _
  have f15 : upd (upd I2 16 (nI t.length)) 17 (nI (flt t ++ o).length) 15 = nI ((flt t ++ o).length + cur.length) := by
    show I2 15 = _
    rw [hI2 15 (by omega), xn.1, lT]
  have f16 : upd (upd I2 16 (nI t.length)) 17 (nI (flt t ++ o).length) 16 = nI t.length := rfl
  have f17 : upd (upd I2 16 (nI t.length)) 17 (nI (flt t ++ o).length) 17 = nI (flt t ++ o).length := rfl
  have tk3 : TkM (upd (upd I2 16 (nI t.length)) 17 (nI (flt t ++ o).length)) b n (tkX b n p) := tk2
  have xn3 : MN (o ++ cur) t (upd (upd I2 16 (nI t.length)) 17 (nI (flt t ++ o).length)) A := ⟨by rw [f15, e1, lT], rfl, xn.2.2.1.2.2, fun i hi => by rw [e1] at hi ⊢; exact xn.2.2.2 i hi⟩
  have xb3 : MB bk (upd (upd I2 16 (nI t.length)) 17 (nI (flt t ++ o).length)) A := mb_cong xb (hI2 14 (by omega)) rfl rfl rfl
  have xe3 : ME en (upd (upd I2 16 (nI t.length)) 17 (nI (flt t ++ o).length)) A := me_cong xe (hI2 18 (by omega)) rfl rfl rfl
  have hf3 : MF I A (upd (upd I2 16 (nI t.length)) 17 (nI (flt t ++ o).length)) A := ⟨fun z hz => by unfold upd; rw [if_neg (by omega), if_neg (by omega)]; exact hI2 z (by omega), fun _ _ => rfl⟩
  generalize upd (upd I2 16 (nI t.length)) 17 (nI (flt t ++ o).length) = I3 at f15 f16 f17 tk3 xn3 xb3 xe3 hf3 ⊢
  have hsh := xn.2.2.1.2.1
  have hrow := frM_row xn.2.2.1.2.2
  have ex : ∃ wh, A 13 t.length = nI wh ∧ wh < 12 ∧ ((s = 16 ∧ wh = 9) ∨ (s = 17 ∧ wh = 10) ∨ (s < 16 ∧ wh = 11 ∧ A 14 t.length = nI s) ∨ (s = 0 ∧ wh = 0)) := by
    rcases hsh with ⟨h1, h2⟩ | ⟨h1, h2⟩ | ⟨h1, h2, h3⟩ | ⟨h1, h2⟩
    · exact ⟨9, h2, by omega, Or.inl ⟨h1, rfl⟩⟩
    · exact ⟨10, h2, by omega, Or.inr (Or.inl ⟨h1, rfl⟩)⟩
    · exact ⟨11, h2, by omega, Or.inr (Or.inr (Or.inl ⟨h1, rfl, h3⟩))⟩
    · exact ⟨0, h2, by omega, Or.inr (Or.inr (Or.inr ⟨h1, rfl⟩))⟩
  obtain ⟨wh, hwh, hwh12, hcase⟩ := ex
  -- the end
  have done : ∀ (I4 : Nat → Int32) (g : Nat → Int32) (r : List Nat), r = shp s cur → ¬ 200 < o.length + (shp s cur).length → MN (o ++ r) t I4 (va_up A 12 g) → TkM I4 b n (tkX b n p) → (∀ z, z ≠ 15 → I4 z = I3 z) → MX w h b n 9 cl tg bk en (11, cl, tg, sh, fi, fp, cur, it, (o, s) :: t, bk, en) p f I A B (mm f I4 (va_up A 12 g) B) (some (.int 0)) := fun I4 g r hr hroom hmn htk hI4 => by
    rw [if_neg hroom] at hfc
    have hti := ti_ful hw hh hn hpn hTT hfc
    rw [hr] at hmn
    refine Or.inl ⟨rfl, sh, fi, fp, o ++ shp s cur, o.length, t, tkX b n p, I4, va_up A 12 g, rfl, ⟨htk, mb_cong xb3 (hI4 14 (by decide)) rfl rfl rfl, me_cong xe3 (hI4 18 (by decide)) rfl rfl rfl, fun _ => hmn, fun _ => by rw [hI4 17 (by decide), f17, lS]⟩, hti.1, hle, hgt, fun R hR => out_go hfc hR, mf_tr hf3 ⟨fun z hz => hI4 z (by omega), fun a ha => by unfold va_up; rw [if_neg (by omega)]⟩⟩
  have tkK4 : ∀ I4 : Nat → Int32, (∀ z, z ≠ 15 → I4 z = I3 z) → TkM I4 b n (tkX b n p) := fun I4 hI4 => by
    obtain ⟨a1, a2, a3, a4, a5⟩ := tk3
    exact ⟨by rw [hI4 8 (by decide)]; exact a1, by rw [hI4 10 (by decide)]; exact a2, by rw [hI4 9 (by decide)]; exact a3, by rw [hI4 11 (by decide)]; exact a4, by rw [hI4 11 (by decide)]; exact a5⟩
  repeat (refine zw_go rfl rfl (fun _ _ => rfl) ?_)
  rw [f16]
  refine zw_ix rfl (fun _ _ => rfl) ((show vp_in (nI t.length) _ from vp_in_nI (by omega) (by omega))) ?_
  rw [show (nI t.length).toNatClampNeg = t.length from nI_clamp (by omega), hwh, f15, f17, nI_sub (show (flt t ++ o).length ≤ (flt t ++ o).length + cur.length by omega), Nat.add_sub_cancel_left]
  -- behind the room
  have room : ∀ (gr : Nat) (x4 : Int32), x4 = nI gr → gr = (shp s cur).length → zW 4 sc miX11_closes 76 [some (.ref 47), some (.int (I 9)), some (.int (nI cur.length)), some (.int (nI wh)), some (.int x4), none, none] [] (mm f I3 A B) (fun M r => MX w h b n 9 cl tg bk en (11, cl, tg, sh, fi, fp, cur, it, (o, s) :: t, bk, en) p f I A B M r) := by
    intro gr x4 hx4 hgr
    subst hx4
    have hgl : gr ≤ 400 := by rw [hgr, shp_len]; split <;> omega
    repeat (refine zw_go rfl rfl (fun _ _ => rfl) ?_)
    rw [f16]
    refine zw_ix rfl (fun _ _ => rfl) ((show vp_in (nI t.length) _ from vp_in_nI (by omega) (by omega))) ?_
    rw [show (nI t.length).toNatClampNeg = t.length from nI_clamp (by omega), hrow, f17]
    repeat (refine zw_go rfl rfl (fun _ _ => rfl) ?_)
    rw [nI_sub (show (flt t).length ≤ (flt t ++ o).length by omega), show (flt t ++ o).length - (flt t).length = o.length by omega, nI_add]
    by_cases hroom : 200 < o.length + gr
    · first | refine zw_br rfl (fun _ _ => rfl) (fun h9 => absurd h9 (nI_ge (a := 200) (b := o.length + gr) hroom (by omega))) (fun _ => ?_) | refine zw_nx rfl (fun _ _ => rfl) ?_
      repeat (refine zw_go rfl rfl (fun _ _ => rfl) ?_)
      rw [tk.2.2.1]
      refine zw_call rfl (fun _ _ => rfl) (mFails sc I3 A B f 5 (nI (tkP b n p))) (by decide) ?_
      rintro M1 r1 ⟨rfl, rfl⟩
      exact zw_ret rfl (fun _ _ => rfl) (flt1 5 I3 (by omega) (by omega) _ (out_end (by rw [hfc, if_pos (by omega)]; rfl)) hf3)
    · have hroom2 : ¬ 200 < o.length + (shp s cur).length := by omega
      have last : ∀ (I4 : Nat → Int32) (g : Nat → Int32) (r : List Nat) (x5 x6 x1 x4 : Option Value), wh ≠ 11 → r = shp s cur → MN (o ++ r) t I4 (va_up A 12 g) → (∀ z, z ≠ 15 → I4 z = I3 z) → zW 4 sc miX11_closes 223 [some (.ref 47), x1, some (.int (nI cur.length)), some (.int (nI wh)), x4, x5, x6] [] (mm f I4 (va_up A 12 g) B) (fun M r => MX w h b n 9 cl tg bk en (11, cl, tg, sh, fi, fp, cur, it, (o, s) :: t, bk, en) p f I A B M r) := by
        intro I4 g r x5 x6 x1 x4 hw11 hr hmn hI4
        repeat (refine zw_go rfl rfl (fun _ _ => rfl) ?_)
        first | refine zw_br rfl (fun _ _ => rfl) (fun h9 => absurd h9 ((fun z => hw11 ((nI_eq (a := wh) (b := 11) (by omega) (by omega)).mp z)))) (fun _ => ?_) | refine zw_nx rfl (fun _ _ => rfl) ?_
        repeat (refine zw_go rfl rfl (fun _ _ => rfl) ?_)
        exact zw_ret rfl (fun _ _ => rfl) (done I4 g r hr hroom2 hmn (tkK4 I4 hI4) hI4)
      first | refine zw_br rfl (fun _ _ => rfl) (fun _ => ?_) (fun h9 => absurd (nI_le (a := o.length + gr) (b := 200) (by omega) (by omega)) h9) | refine zw_nx rfl (fun _ _ => rfl) ?_
      rcases hcase with ⟨hs, hw9⟩ | ⟨hs, hw10⟩ | ⟨hs, hw11, h14⟩ | ⟨hs, hw0⟩
      · -- mirrored
        subst hs
        subst hw9
        have hml : (mirT cur).length = cur.length - 2 := by unfold mirT; rw [tab_len]
        have eg : shp 16 cur = cur ++ mirT cur := by unfold shp; rw [if_pos rfl]
        have tail : ∀ (I4 : Nat → Int32) (x5 x6 x1 x4 : Option Value), I4 15 = nI ((flt t ++ o).length + cur.length + (cur.length - 2)) → (∀ z, z ≠ 15 → I4 z = I3 z) → zW 4 sc miX11_closes 144 [some (.ref 47), x1, some (.int (nI cur.length)), some (.int (nI 9)), x4, x5, x6] [] (mm f I4 (va_up A 12 (apl (A 12) ((flt t ++ o).length + cur.length) (mirT cur) (cur.length - 2))) B) (fun M r => MX w h b n 9 cl tg bk en (11, cl, tg, sh, fi, fp, cur, it, (o, 16) :: t, bk, en) p f I A B M r) := by
          intro I4 x5 x6 x1 x4 h15 hI4
          have hlen : (flt t ++ (o ++ cur)).length = (flt t ++ o).length + cur.length := by rw [e1, lT]
          have hmn : MN (o ++ (cur ++ mirT cur)) t I4 (va_up A 12 (apl (A 12) ((flt t ++ o).length + cur.length) (mirT cur) (cur.length - 2))) := by
            rw [← List.append_assoc]
            exact mn_app xn3 (by rw [h15, hlen, hml]) (hI4 16 (by decide)) (by rw [hlen, hml]; rfl) rfl rfl rfl
          have hl := last I4 _ (cur ++ mirT cur) x5 x6 x1 x4 (by decide) eg.symm hmn hI4
          refine zw_nx rfl (fun _ _ => rfl) ?_
          refine zw_nx rfl (fun _ _ => rfl) ?_
          refine zw_nx rfl (fun _ _ => rfl) ?_
          exact hl
        have loop : ∀ (z i : Nat), i + z = cur.length - 2 → 2 ≤ cur.length → zW 4 sc miX11_closes 117 [some (.ref 47), none, some (.int (nI cur.length)), some (.int (nI 9)), none, some (.int (nI (cur.length - 2 - i))), none] [] (mm f (upd I3 15 (nI ((flt t ++ o).length + cur.length + i))) (va_up A 12 (apl (A 12) ((flt t ++ o).length + cur.length) (mirT cur) i)) B) (fun M r => MX w h b n 9 cl tg bk en (11, cl, tg, sh, fi, fp, cur, it, (o, 16) :: t, bk, en) p f I A B M r) := by
          intro z
          induction z with
          | zero =>
            intro i hi h2
            have e : i = cur.length - 2 := by omega
            subst e
            rw [show cur.length - 2 - (cur.length - 2) = 0 by omega]
            have ht := fun x1 x4 x5 x6 => tail (upd I3 15 (nI ((flt t ++ o).length + cur.length + (cur.length - 2)))) x5 x6 x1 x4 rfl (fun z hz => by unfold upd; rw [if_neg hz])
            refine zw_nx rfl (fun _ _ => rfl) ?_
            refine zw_nx rfl (fun _ _ => rfl) ?_
            exact ht _ _ _ _
          | succ z ih =>
            intro i hi h2
            have hnext := ih (i + 1) (by omega) h2
            rw [← apl_s, ← Nat.add_assoc] at hnext
            refine zw_nx rfl (fun _ _ => rfl) ?_
            repeat (refine zw_go rfl rfl (fun _ _ => rfl) ?_)
            first | refine zw_br rfl (fun _ _ => rfl) (fun h9 => absurd h9 (nI_nle (n := cur.length - 2 - i) (by omega) (by omega))) (fun _ => ?_) | refine zw_nx rfl (fun _ _ => rfl) ?_
            repeat (refine zw_go rfl rfl (fun _ _ => rfl) ?_)
            rw [show upd I3 15 (nI ((flt t ++ o).length + cur.length + i)) 17 = nI (flt t ++ o).length from f17, show nI (flt t ++ o).length + nI (cur.length - 2 - i) = nI ((flt t ++ o).length + (cur.length - 2 - i)) from nI_add _ _]
            refine zw_ix rfl (fun _ _ => rfl) (show vp_in (nI (((flt t ++ o).length + (cur.length - 2 - i)))) _ from vp_in_nI (by omega) (by omega)) ?_
            rw [show (nI (((flt t ++ o).length + (cur.length - 2 - i)))).toNatClampNeg = ((flt t ++ o).length + (cur.length - 2 - i)) from nI_clamp (by omega)]
            repeat (refine zw_go rfl rfl (fun _ _ => rfl) ?_)
            rw [show va_up A 12 (apl (A 12) ((flt t ++ o).length + cur.length) (mirT cur) i) 12 ((flt t ++ o).length + (cur.length - 2 - i)) = nI (gl (mirT cur) i) from by
              show apl (A 12) ((flt t ++ o).length + cur.length) (mirT cur) i ((flt t ++ o).length + (cur.length - 2 - i)) = _
              rw [apl_lo (by omega), vcur _ (by omega)]
              unfold mirT
              rw [gl_tab (by omega)]]
            refine zw_call rfl (fun _ _ => rfl) (mPush sc _ _ B f (nI (gl (mirT cur) i)) ((flt t ++ o).length + cur.length + i) (by omega) rfl) (by decide) ?_
            rintro M1 r1 ⟨rfl, rfl⟩
            repeat (refine zw_go rfl rfl (fun _ _ => rfl) ?_)
            rw [show nI (cur.length - 2 - i) + Int32.ofInt (-1) = nI (cur.length - 2 - (i + 1)) from by
              rw [show cur.length - 2 - i = (cur.length - 2 - (i + 1)) + 1 by omega, nI_dn]]
            exact zw_kp hnext
        have base : mm f (upd I3 15 (nI ((flt t ++ o).length + cur.length + 0))) (va_up A 12 (apl (A 12) ((flt t ++ o).length + cur.length) (mirT cur) 0)) B = mm f I3 A B := by
          rw [apl_0, va_up_id, Nat.add_zero, ← f15, show upd I3 15 (I3 15) = I3 from by funext z; unfold upd; split <;> simp_all]
        by_cases h1 : cur.length = 1
        · have ht := fun x1 x4 x5 x6 => tail I3 x5 x6 x1 x4 (by rw [f15, h1]) (fun _ _ => rfl)
          rw [h1, apl_0, va_up_id] at ht
          rw [h1]
          repeat (refine zw_go rfl rfl (fun _ _ => rfl) ?_)
          refine zw_nx rfl (fun _ _ => rfl) ?_
          refine zw_nx rfl (fun _ _ => rfl) ?_
          exact ht _ _ _ _
        · have hlp := loop (cur.length - 2) 0 (by omega) (by omega)
          rw [base, Nat.sub_zero] at hlp
          repeat (refine zw_go rfl rfl (fun _ _ => rfl) ?_)
          rw [show nI cur.length - Int32.ofInt 2 = nI (cur.length - 2) from nI_sub (a := cur.length) (b := 2) (by omega)]
          exact zw_kp hlp
      · -- back
        subst hs
        subst hw10
        have hbk : (bakT cur).length = cur.length := by unfold bakT; rw [tab_len]
        have eg : shp 17 cur = bakT cur := rfl
        have fin : ∀ (j : Nat) (x1 x4 x5 x6 : Option Value), ¬ j < cur.length - 1 - j → zW 4 sc miX11_closes 223 [some (.ref 47), x1, some (.int (nI cur.length)), some (.int (nI 10)), x4, x5, x6] [] (mm f I3 (va_up A 12 (revG (A 12) (flt t ++ o).length cur.length j)) B) (fun M r => MX w h b n 9 cl tg bk en (11, cl, tg, sh, fi, fp, cur, it, (o, 17) :: t, bk, en) p f I A B M r) := fun j x1 x4 x5 x6 hj => last I3 _ (bakT cur) x5 x6 x1 x4 (by decide) eg.symm (mn_set xn3 hbk rfl rfl (fun i hi => rev_lo hi) (fun i hi => by
          rw [hbk] at hi
          show revG (A 12) (flt t ++ o).length cur.length j ((flt t ++ o).length + i) = _
          rw [rev_end hj hi, vcur _ (by omega)]
          unfold bakT
          rw [gl_tab hi]) rfl rfl rfl) (fun _ _ => rfl)
        have loop : ∀ (z j : Nat), j + z = cur.length → j ≤ cur.length / 2 → zW 4 sc miX11_closes 153 [some (.ref 47), none, some (.int (nI cur.length)), some (.int (nI 10)), none, some (.int (nI j)), none] [] (mm f I3 (va_up A 12 (revG (A 12) (flt t ++ o).length cur.length j)) B) (fun M r => MX w h b n 9 cl tg bk en (11, cl, tg, sh, fi, fp, cur, it, (o, 17) :: t, bk, en) p f I A B M r) := by
          intro z
          induction z with
          | zero =>
            intro j hj hj2
            omega
          | succ z ih =>
            intro j hj hj2
            have hfin := fin j
            refine zw_nx rfl (fun _ _ => rfl) ?_
            repeat (refine zw_go rfl rfl (fun _ _ => rfl) ?_)
            rw [div2 cur.length (by omega)]
            by_cases hlt : j < cur.length / 2
            · have hlt2 : j < cur.length - 1 - j := by omega
              have hnext := ih (j + 1) (by omega) (by omega)
              rw [nI_succ j, ← rev_s hlt2] at hnext
              first | refine zw_br rfl (fun _ _ => rfl) (fun h9 => absurd h9 (nI_ge (a := j) (b := cur.length / 2) hlt (by omega))) (fun _ => ?_) | refine zw_nx rfl (fun _ _ => rfl) ?_
              repeat (refine zw_go rfl rfl (fun _ _ => rfl) ?_)
              rw [f17, show nI (flt t ++ o).length + nI j = nI ((flt t ++ o).length + j) from nI_add _ _]
              refine zw_ix rfl (fun _ _ => rfl) (show vp_in (nI (((flt t ++ o).length + j))) _ from vp_in_nI (by omega) (by omega)) ?_
              rw [show (nI (((flt t ++ o).length + j))).toNatClampNeg = ((flt t ++ o).length + j) from nI_clamp (by omega)]
              repeat (refine zw_go rfl rfl (fun _ _ => rfl) ?_)
              have er : nI ((flt t ++ o).length + cur.length) - Int32.ofInt 1 - nI j = nI ((flt t ++ o).length + (cur.length - 1 - j)) := by
                rw [show nI ((flt t ++ o).length + cur.length) - Int32.ofInt 1 = nI ((flt t ++ o).length + cur.length - 1) from nI_sub (a := (flt t ++ o).length + cur.length) (b := 1) (by omega), nI_sub (by omega), show (flt t ++ o).length + cur.length - 1 - j = (flt t ++ o).length + (cur.length - 1 - j) by omega]
              rw [f17, f15, show nI (flt t ++ o).length + nI j = nI ((flt t ++ o).length + j) from nI_add _ _, er]
              refine zw_ix rfl (fun _ _ => rfl) (show vp_in (nI (((flt t ++ o).length + (cur.length - 1 - j)))) _ from vp_in_nI (by omega) (by omega)) ?_
              rw [show (nI (((flt t ++ o).length + (cur.length - 1 - j)))).toNatClampNeg = ((flt t ++ o).length + (cur.length - 1 - j)) from nI_clamp (by omega)]
              repeat (refine zw_go rfl rfl (fun _ _ => rfl) ?_)
              refine zw_ix rfl (fun _ _ => rfl) (show vp_in (nI (((flt t ++ o).length + j))) _ from vp_in_nI (by omega) (by omega)) ?_
              rw [show (nI (((flt t ++ o).length + j))).toNatClampNeg = ((flt t ++ o).length + j) from nI_clamp (by omega)]
              repeat (refine zw_go rfl rfl (fun _ _ => rfl) ?_)
              rw [f15, er]
              refine zw_ix rfl (fun _ _ => rfl) (show vp_in (nI (((flt t ++ o).length + (cur.length - 1 - j)))) _ from vp_in_nI (by omega) (by omega)) ?_
              rw [show (nI (((flt t ++ o).length + (cur.length - 1 - j)))).toNatClampNeg = ((flt t ++ o).length + (cur.length - 1 - j)) from nI_clamp (by omega)]
              repeat (refine zw_go rfl rfl (fun _ _ => rfl) ?_)
              exact zw_kp hnext
            · first | refine zw_br rfl (fun _ _ => rfl) (fun _ => ?_) (fun h9 => absurd (nI_le (a := cur.length / 2) (b := j) (by omega) (by omega)) h9) | refine zw_nx rfl (fun _ _ => rfl) ?_
              exact hfin _ _ _ _ (by omega)
        have hlp := loop cur.length 0 (by omega) (by omega)
        rw [rev_0, va_up_id] at hlp
        repeat (refine zw_go rfl rfl (fun _ _ => rfl) ?_)
        exact zw_kp hlp
      · -- plus
        subst hw11
        have hs16 : s ≠ 16 := by omega
        have hs17' : s ≠ 17 := by omega
        have hml : (cur.map (fun x => (x + s) % 16)).length = cur.length := List.length_map _
        have eg : shp s cur = cur.map (fun x => (x + s) % 16) := by unfold shp; rw [if_neg hs16, if_neg hs17']
        have loop : ∀ (z j : Nat) (g : Nat → Int32), j + z = cur.length → (∀ i, i < (flt t ++ o).length → g i = A 12 i) → (∀ i, i < j → g ((flt t ++ o).length + i) = nI ((gl cur i + s) % 16)) → (∀ i, j ≤ i → i < cur.length → g ((flt t ++ o).length + i) = nI (gl cur i)) → zW 4 sc miX11_closes 235 [some (.ref 47), none, none, none, none, some (.int (nI ((flt t ++ o).length + j))), none] [] (mm f I3 (va_up A 12 g) B) (fun M r => MX w h b n 9 cl tg bk en (11, cl, tg, sh, fi, fp, cur, it, (o, s) :: t, bk, en) p f I A B M r) := by
          intro z
          induction z with
          | zero =>
            intro j g hj h1 h2 h3
            refine zw_nx rfl (fun _ _ => rfl) ?_
            repeat (refine zw_go rfl rfl (fun _ _ => rfl) ?_)
            rw [f15]
            first | refine zw_br rfl (fun _ _ => rfl) (fun _ => ?_) (fun h9 => absurd (nI_le (a := (flt t ++ o).length + cur.length) (b := (flt t ++ o).length + j) (by omega) (by omega)) h9) | refine zw_nx rfl (fun _ _ => rfl) ?_
            repeat (refine zw_go rfl rfl (fun _ _ => rfl) ?_)
            refine zw_ret rfl (fun _ _ => rfl) ?_
            refine done I3 g (cur.map (fun x => (x + s) % 16)) eg.symm hroom2 (mn_set xn3 hml rfl rfl h1 (fun i hi => ?_) rfl rfl rfl) (tkK4 I3 (fun _ _ => rfl)) (fun _ _ => rfl)
            rw [hml] at hi
            rw [gl_map hi]
            exact h2 i (by omega)
          | succ z ih =>
            intro j g hj h1 h2 h3
            have hnext := ih (j + 1) (upd g ((flt t ++ o).length + j) (nI ((gl cur j + s) % 16))) (by omega) (fun i hi => by unfold upd; rw [if_neg (by omega)]; exact h1 i hi) (fun i hi => by
              unfold upd
              by_cases h4 : i = j
              · rw [if_pos (by omega), h4]
              · rw [if_neg (by omega)]; exact h2 i (by omega)) (fun i h4 h5 => by
              unfold upd
              rw [if_neg (by omega)]; exact h3 i (by omega) h5)
            refine zw_nx rfl (fun _ _ => rfl) ?_
            repeat (refine zw_go rfl rfl (fun _ _ => rfl) ?_)
            rw [f15]
            first | refine zw_br rfl (fun _ _ => rfl) (fun h9 => absurd h9 (nI_ge (a := (flt t ++ o).length + j) (b := (flt t ++ o).length + cur.length) (by omega) (by omega))) (fun _ => ?_) | refine zw_nx rfl (fun _ _ => rfl) ?_
            repeat (refine zw_go rfl rfl (fun _ _ => rfl) ?_)
            refine zw_ix rfl (fun _ _ => rfl) (show vp_in (nI (((flt t ++ o).length + j))) _ from vp_in_nI (by omega) (by omega)) ?_
            rw [show (nI (((flt t ++ o).length + j))).toNatClampNeg = ((flt t ++ o).length + j) from nI_clamp (by omega)]
            repeat (refine zw_go rfl rfl (fun _ _ => rfl) ?_)
            rw [show va_up A 12 g 12 ((flt t ++ o).length + j) = nI (gl cur j) from h3 j (Nat.le_refl _) (by omega), f16]
            refine zw_ix rfl (fun _ _ => rfl) (show vp_in (nI (t.length)) _ from vp_in_nI (by omega) (by omega)) ?_
            rw [show (nI (t.length)).toNatClampNeg = t.length from nI_clamp (by omega)]
            repeat (refine zw_go rfl rfl (fun _ _ => rfl) ?_)
            rw [show va_up A 12 g 14 t.length = nI s from h14, show (nI (gl cur j) + nI s) - (nI (gl cur j) + nI s) / (Int8.ofInt 16).toInt32 * (Int8.ofInt 16).toInt32 = _ from rem16 _ (gl_lt t2.2 j) s hs]
            refine zw_ix rfl (fun _ _ => rfl) (show vp_in (nI (((flt t ++ o).length + j))) _ from vp_in_nI (by omega) (by omega)) ?_
            rw [show (nI (((flt t ++ o).length + j))).toNatClampNeg = ((flt t ++ o).length + j) from nI_clamp (by omega)]
            repeat (refine zw_go rfl rfl (fun _ _ => rfl) ?_)
            rw [show nI ((flt t ++ o).length + j) + Int32.ofInt 1 = nI ((flt t ++ o).length + (j + 1)) from nI_1 ((flt t ++ o).length + j)]
            exact zw_kp hnext
        have hlp := loop cur.length 0 (A 12) (by omega) (fun _ _ => rfl) (fun i hi => by omega) (fun i _ hi => vcur i hi)
        rw [va_up_id, Nat.add_zero] at hlp
        repeat (refine zw_go rfl rfl (fun _ _ => rfl) ?_)
        rw [f17]
        exact zw_kp hlp
      · -- bare
        subst hs
        subst hw0
        have eg : shp 0 cur = cur := by
          have : shp 0 cur = cur.map (fun x => (x + 0) % 16) := rfl
          rw [this]
          refine gl_ext (List.length_map _) (fun i hi => ?_)
          rw [List.length_map] at hi
          rw [gl_map hi, Nat.add_zero, Nat.mod_eq_of_lt (gl_lt t2.2 i)]
        have hd := done I3 (A 12) cur eg.symm hroom2 (by rw [va_up_id]; exact xn3) (tkK4 I3 (fun _ _ => rfl)) (fun _ _ => rfl)
        rw [va_up_id] at hd
        repeat (refine zw_go rfl rfl (fun _ _ => rfl) ?_)
        exact zw_ret rfl (fun _ _ => rfl) (hd)
  refine zw_nx rfl (fun _ _ => rfl) ?_
  refine zw_nx rfl (fun _ _ => rfl) ?_
  refine zw_nx rfl (fun _ _ => rfl) ?_
  rcases hcase with ⟨hs, hw9⟩ | hcase
  · by_cases h2 : cur.length ≤ 2
    · have hr := room cur.length (nI cur.length) rfl (by rw [shp_len, hs, if_pos rfl]; omega)
      rw [hw9] at hr ⊢
      repeat (refine zw_go rfl rfl (fun _ _ => rfl) ?_)
      first | refine zw_br rfl (fun _ _ => rfl) (fun _ => ?_) (fun h9 => absurd (nI_le (a := cur.length) (b := 2) h2 (by omega)) h9) | refine zw_nx rfl (fun _ _ => rfl) ?_
      refine zw_nx rfl (fun _ _ => rfl) ?_
      refine zw_nx rfl (fun _ _ => rfl) ?_
      exact hr
    · have hr := room (2 * cur.length - 2) (nI (2 * cur.length - 2)) rfl (by rw [shp_len, hs, if_pos rfl]; omega)
      rw [hw9] at hr ⊢
      repeat (refine zw_go rfl rfl (fun _ _ => rfl) ?_)
      first | refine zw_br rfl (fun _ _ => rfl) (fun h9 => absurd h9 (nI_ge (a := 2) (b := cur.length) (by omega) (by omega))) (fun _ => ?_) | refine zw_nx rfl (fun _ _ => rfl) ?_
      refine zw_nx rfl (fun _ _ => rfl) ?_
      refine zw_nx rfl (fun _ _ => rfl) ?_
      refine zw_nx rfl (fun _ _ => rfl) ?_
      refine zw_nx rfl (fun _ _ => rfl) ?_
      refine zw_nx rfl (fun _ _ => rfl) ?_
      rw [show Int32.ofInt 2 * nI cur.length = nI (2 * cur.length) from nI_mul 2 _, show nI (2 * cur.length) - Int32.ofInt 2 = nI (2 * cur.length - 2) from nI_sub (a := 2 * cur.length) (b := 2) (by omega)]
      refine zw_nx rfl (fun _ _ => rfl) ?_
      refine zw_nx rfl (fun _ _ => rfl) ?_
      exact hr
  · have hs16 : s ≠ 16 := by omega
    have hw9 : wh ≠ 9 := by omega
    have hr := room cur.length (nI cur.length) rfl (by rw [shp_len, if_neg hs16, Nat.add_zero])
    repeat (refine zw_go rfl rfl (fun _ _ => rfl) ?_)
    first | refine zw_br rfl (fun _ _ => rfl) (fun h9 => absurd h9 ((fun z => hw9 ((nI_eq (a := wh) (b := 9) (by omega) (by omega)).mp z)))) (fun _ => ?_) | refine zw_nx rfl (fun _ _ => rfl) ?_
    refine zw_nx rfl (fun _ _ => rfl) ?_
    refine zw_nx rfl (fun _ _ => rfl) ?_
    exact hr
end

/-! the class: hang, cross, weave -/
set_option maxHeartbeats 4000000 in
set_option maxRecDepth 20000 in
theorem xPicksOf (sc : sm_S) (I : Nat → Int32) (J : Nat → Int64) (A : Nat → Nat → Int32) (B : Nat → Nat → Int64) (tl : sm_M) (x : Int32) : zC 1 sc 2 [.ref 7, .int x] (xm I J A B tl) (zR (xm I J A B tl) (.long (if 0 ≤ x ∧ x < 16 then B 3 x.toNatClampNeg else 0))) := by
  refine zc_of hkX0_picksOf rfl ?_
  refine zw_nx rfl (fun _ _ => rfl) ?_
  refine zw_br rfl (fun _ _ => rfl) (fun (h1 : x < 0) => ?_) (fun (h1 : ¬ (x < 0)) => ?_)
  · refine zw_nx rfl (fun _ _ => rfl) ?_
    exact zw_ret rfl (fun _ _ => rfl) (⟨rfl, by rw [if_neg (fun z => Int32.not_lt.mpr z.1 h1)]; rfl⟩)
  · refine zw_nx rfl (fun _ _ => rfl) ?_
    refine zw_nx rfl (fun _ _ => rfl) ?_
    refine zw_br rfl (fun _ _ => rfl) (fun (h2 : 16 ≤ x) => ?_) (fun (h2 : ¬ (16 ≤ x)) => ?_)
    · refine zw_nx rfl (fun _ _ => rfl) ?_
      exact zw_ret rfl (fun _ _ => rfl) (⟨rfl, by rw [if_neg (fun z => Int32.not_lt.mpr h2 z.2)]; rfl⟩)
    · have hx : 0 ≤ x ∧ x < 16 := ⟨Int32.not_lt.mp h1, Int32.not_le.mp h2⟩
      obtain ⟨j, hj, rfl⟩ := inR_of (n := 16) hx (by omega)
      rw [if_pos hx]
      refine zw_nx rfl (fun _ _ => rfl) ?_
      refine zw_nx rfl (fun _ _ => rfl) ?_
      refine zw_nx rfl (fun _ _ => rfl) ?_
      refine zw_ix rfl (fun _ _ => rfl) (vp_in_nI hj (by decide)) ?_
      refine zw_nx rfl (fun _ _ => rfl) ?_
      exact zw_ret rfl (fun _ _ => rfl) (⟨rfl, rfl⟩)
/-- the SHAFTS that the first e ENDS have -/
def usF (sh : Nat → Int32) : Nat → Int32
  | 0 => 0
  | n + 1 => if 0 ≤ sh n then usF sh n ||| ((1 : Int32) <<< (sh n &&& 31)) else usF sh n
/-- the ENDS of each SHAFT, of the first e -/
def seF (sh : Nat → Int32) (g : Nat → Int64) (e : Nat) : Nat → Int64 := wr (fun s => mk (fun x => decide (sh x = nI s)) e) g 16
theorem seF_n {sh : Nat → Int32} {g : Nat → Int64} {e : Nat} (h : sh e = -1) : seF sh g (e + 1) = seF sh g e := by
  funext j
  unfold seF wr
  by_cases hj : j < 16
  · rw [if_pos hj, if_pos hj]
    show mk _ (e + 1) = mk _ e
    rw [mk, if_neg]
    rw [h]
    simp only [decide_eq_true_eq]
    exact fun z => absurd (by rw [z]; exact nI_pos' (by omega) : (0 : Int32) ≤ -1) (by decide)
  · rw [if_neg hj, if_neg hj]
theorem seF_s {sh : Nat → Int32} {g : Nat → Int64} {e q : Nat} (hq : q < 16) (h : sh e = nI q) : vp_updL (seF sh g e) q (seF sh g e q ||| bitL e) = seF sh g (e + 1) := by
  funext j
  unfold vp_updL seF wr
  by_cases hj : j = q
  · subst hj
    rw [if_pos rfl, if_pos hq, if_pos hq]
    show mk _ e ||| bitL e = mk _ (e + 1)
    rw [mk, if_pos (by simpa using h)]
  · rw [if_neg hj]
    by_cases h2 : j < 16
    · rw [if_pos h2, if_pos h2]
      show mk _ e = mk _ (e + 1)
      rw [mk, if_neg]
      rw [h]
      simp only [decide_eq_true_eq]
      exact fun z => hj ((nI_eq (by omega) (by omega)).mp z).symm
    · rw [if_neg h2, if_neg h2]
/-- the column by a SHAFT's PICKS -/
def cpF (sh : Nat → Int32) (sp : Nat → Int64) (e : Nat) : Int64 := if 0 ≤ sh e ∧ sh e < 16 then sp (sh e).toNatClampNeg else 0
set_option maxHeartbeats 4000000 in
set_option maxRecDepth 20000 in
theorem xHang (sc : sm_S) (I : Nat → Int32) (J : Nat → Int64) (A : Nat → Nat → Int32) (B : Nat → Nat → Int64) (tl : sm_M) (w : Nat) (hw : w ≤ 48) (hI : I 7 = nI w) (hs : ∀ e, e < w → shOk (A 3 e)) : zC 3 sc 5 [.ref 7] (xm I J A B tl) (fun M r => r = none ∧ M = xm (upd I 9 (usF (A 3) w)) J A (va_up (va_up B 1 (wr (cpF (A 3) (B 3)) (B 1) w)) 2 (seF (A 3) (B 2) w)) tl) := by
  refine zc_of hkX0_hang rfl ?_
  refine zw_nx rfl (fun _ _ => rfl) ?_
  refine zw_nx rfl (fun _ _ => rfl) ?_
  refine zw_nx rfl (fun _ _ => rfl) ?_
  refine zw_call rfl (fun _ _ => rfl) (cFillL sc (xm I J A B tl) 11 16 (B 2) 0 rfl rfl (by decide)) (by decide) ?_
  rintro M1 r1 ⟨rfl, rfl⟩
  refine zw_nx rfl (fun _ _ => rfl) ?_
  refine zw_nx rfl (fun _ _ => rfl) ?_
  refine zw_nx rfl (fun _ _ => rfl) ?_
  refine zw_nx rfl (fun _ _ => rfl) ?_
  refine zw_nx rfl (fun _ _ => rfl) ?_
  have key : ∀ (k e : Nat), e + k = w → zW 2 sc miX0_hang 15 [some (.ref 7), some (.int (nI e)), none] [] (xm (upd I 9 (usF (A 3) e)) J A (va_up (va_up B 1 (wr (cpF (A 3) (B 3)) (B 1) e)) 2 (seF (A 3) (B 2) e)) tl) (fun M r => r = none ∧ M = xm (upd I 9 (usF (A 3) w)) J A (va_up (va_up B 1 (wr (cpF (A 3) (B 3)) (B 1) w)) 2 (seF (A 3) (B 2) w)) tl) := by
    intro k
    induction k with
    | zero =>
      intro e he
      have e1 : e = w := by omega
      subst e1
      refine zw_nx rfl (fun _ _ => rfl) ?_
      refine zw_nx rfl (fun _ _ => rfl) ?_
      refine zw_nx rfl (fun _ _ => rfl) ?_
      first | refine zw_br rfl (fun _ _ => rfl) (fun _ => ?_) (fun h9 => absurd (show I 7 ≤ nI e by rw [hI]; exact Int32.le_refl _) h9) | refine zw_nx rfl (fun _ _ => rfl) ?_
      exact zw_ret rfl (fun _ _ => rfl) (⟨rfl, rfl⟩)
    | succ k ih =>
      intro e he
      have ee : (nI e).toNatClampNeg = e := nI_clamp (by omega)
      have hie : vp_in (nI e) 48 := vp_in_nI (by omega) (by decide)
      have hn := ih (e + 1) (by omega)
      rw [nI_succ, ← wr_sL] at hn
      refine zw_nx rfl (fun _ _ => rfl) ?_
      refine zw_nx rfl (fun _ _ => rfl) ?_
      refine zw_nx rfl (fun _ _ => rfl) ?_
      first | refine zw_br rfl (fun _ _ => rfl) (fun h9 => absurd h9 (show ¬ I 7 ≤ nI e by rw [hI]; exact nI_ge (by omega) (by omega))) (fun _ => ?_) | refine zw_nx rfl (fun _ _ => rfl) ?_
      refine zw_nx rfl (fun _ _ => rfl) ?_
      refine zw_nx rfl (fun _ _ => rfl) ?_
      refine zw_nx rfl (fun _ _ => rfl) ?_
      refine zw_nx rfl (fun _ _ => rfl) ?_
      refine zw_nx rfl (fun _ _ => rfl) ?_
      rw [show (Int32.ofInt 0) + nI e = nI e from by rw [show (Int32.ofInt 0) = nI 0 from rfl, nI_add, Nat.zero_add]]
      refine zw_call rfl (fun _ _ => rfl) (cValueOf sc (upd I 9 (usF (A 3) e)) J A (va_up (va_up B 1 (wr (cpF (A 3) (B 3)) (B 1) e)) 2 (seF (A 3) (B 2) e)) tl e (by omega)) (by decide) ?_
      rintro M1 r1 ⟨rfl, rfl⟩
      refine zw_nx rfl (fun _ _ => rfl) ?_
      refine zw_nx rfl (fun _ _ => rfl) ?_
      refine zw_nx rfl (fun _ _ => rfl) ?_
      refine zw_nx rfl (fun _ _ => rfl) ?_
      refine zw_nx rfl (fun _ _ => rfl) ?_
      refine zw_nx rfl (fun _ _ => rfl) ?_
      refine zw_call rfl (fun _ _ => rfl) (xPicksOf sc (upd I 9 (usF (A 3) e)) J A (va_up (va_up B 1 (wr (cpF (A 3) (B 3)) (B 1) e)) 2 (seF (A 3) (B 2) e)) tl (A 3 e)) (by decide) ?_
      rintro M1 r1 ⟨rfl, rfl⟩
      refine zw_ix rfl (fun _ _ => rfl) (hie) ?_
      rw [ee]
      refine zw_nx rfl (fun _ _ => rfl) ?_
      rcases hs e (by omega) with h1 | ⟨q, hq, h1⟩
      · rw [seF_n h1, show usF (A 3) (e + 1) = usF (A 3) e from by rw [usF, if_neg (by rw [h1]; decide)]] at hn
        first | refine zw_br rfl (fun _ _ => rfl) (fun _ => ?_) (fun h9 => absurd (show A 3 e < 0 by rw [h1]; decide) h9) | refine zw_nx rfl (fun _ _ => rfl) ?_
        refine zw_nx rfl (fun _ _ => rfl) ?_
        refine zw_nx rfl (fun _ _ => rfl) ?_
        exact zw_kp hn
      · have eq1 : (nI q).toNatClampNeg = q := nI_clamp (by omega)
        rw [← seF_s hq h1, show usF (A 3) (e + 1) = usF (A 3) e ||| ((1 : Int32) <<< (A 3 e &&& 31)) from by rw [usF, if_pos (by rw [h1]; exact nI_pos' (by omega))]] at hn
        first | refine zw_br rfl (fun _ _ => rfl) (fun h9 => absurd h9 (show ¬ A 3 e < 0 by rw [h1]; exact nI_pos (by omega))) (fun _ => ?_) | refine zw_nx rfl (fun _ _ => rfl) ?_
        refine zw_nx rfl (fun _ _ => rfl) ?_
        refine zw_nx rfl (fun _ _ => rfl) ?_
        first | refine zw_br rfl (fun _ _ => rfl) (fun h9 => absurd h9 (show ¬ (16 : Int32) ≤ A 3 e by rw [h1]; exact nI_ge (a := q) (b := 16) hq (by decide))) (fun _ => ?_) | refine zw_nx rfl (fun _ _ => rfl) ?_
        refine zw_nx rfl (fun _ _ => rfl) ?_
        refine zw_nx rfl (fun _ _ => rfl) ?_
        refine zw_nx rfl (fun _ _ => rfl) ?_
        refine zw_nx rfl (fun _ _ => rfl) ?_
        refine zw_nx rfl (fun _ _ => rfl) ?_
        refine zw_nx rfl (fun _ _ => rfl) ?_
        refine zw_nx rfl (fun _ _ => rfl) ?_
        refine zw_nx rfl (fun _ _ => rfl) ?_
        refine zw_nx rfl (fun _ _ => rfl) ?_
        refine zw_nx rfl (fun _ _ => rfl) ?_
        refine zw_nx rfl (fun _ _ => rfl) ?_
        refine zw_nx rfl (fun _ _ => rfl) ?_
        refine zw_ix rfl (fun _ _ => rfl) (show vp_in (A 3 e) 16 by rw [h1]; exact vp_in_nI hq (by decide)) ?_
        refine zw_nx rfl (fun _ _ => rfl) ?_
        refine zw_nx rfl (fun _ _ => rfl) ?_
        refine zw_nx rfl (fun _ _ => rfl) ?_
        refine zw_nx rfl (fun _ _ => rfl) ?_
        refine zw_ix rfl (fun _ _ => rfl) (show vp_in (A 3 e) 16 by rw [h1]; exact vp_in_nI hq (by decide)) ?_
        rw [show q = (A 3 e).toNatClampNeg from by rw [h1, eq1]] at hn
        refine zw_nx rfl (fun _ _ => rfl) ?_
        refine zw_nx rfl (fun _ _ => rfl) ?_
        exact zw_kp hn
  have h0 := key w 0 (by omega)
  rw [wr_0, va_up_id] at h0
  exact zw_kp h0
/-- all longs of a set of places together -/
def orL (p : Nat → Bool) (g : Nat → Int64) : Nat → Int64
  | 0 => 0
  | n + 1 => if p n then orL p g n ||| g n else orL p g n
set_option maxHeartbeats 4000000 in
set_option maxRecDepth 20000 in
theorem xCross (sc : sm_S) (I : Nat → Int32) (J : Nat → Int64) (A : Nat → Nat → Int32) (B : Nat → Nat → Int64) (tl : sm_M) (h : Nat) (hh : h ≤ 48) (hI : I 8 = nI h) (lf : Nat → Int32) (hl : ∀ p, p < h → A 5 p = lf p) : zC 2 sc 6 [.ref 7] (xm I J A B tl) (fun M r => r = none ∧ M = xm I J A (va_up B 0 (wr (fun p => orL (fun s => ib (lf p) s) (B 2) 16) (B 0) h)) tl) := by
  refine zc_of hkX0_cross rfl ?_
  refine zw_nx rfl (fun _ _ => rfl) ?_
  refine zw_nx rfl (fun _ _ => rfl) ?_
  have key : ∀ (k p : Nat), p + k = h → zW 1 sc miX0_cross 2 [some (.ref 7), some (.int (nI p)), none, none, none] [] (xm I J A (va_up B 0 (wr (fun p => orL (fun s => ib (lf p) s) (B 2) 16) (B 0) p)) tl) (fun M r => r = none ∧ M = xm I J A (va_up B 0 (wr (fun p => orL (fun s => ib (lf p) s) (B 2) 16) (B 0) h)) tl) := by
    intro k
    induction k with
    | zero =>
      intro p hp
      have e : p = h := by omega
      subst e
      refine zw_nx rfl (fun _ _ => rfl) ?_
      refine zw_nx rfl (fun _ _ => rfl) ?_
      refine zw_nx rfl (fun _ _ => rfl) ?_
      first | refine zw_br rfl (fun _ _ => rfl) (fun _ => ?_) (fun h9 => absurd (show I 8 ≤ nI p by rw [hI]; exact Int32.le_refl _) h9) | refine zw_nx rfl (fun _ _ => rfl) ?_
      exact zw_ret rfl (fun _ _ => rfl) (⟨rfl, rfl⟩)
    | succ k ih =>
      intro p hp
      have ep : (nI p).toNatClampNeg = p := nI_clamp (by omega)
      have hip : vp_in (nI p) 48 := vp_in_nI (by omega) (by decide)
      have hn := ih (p + 1) (by omega)
      rw [nI_succ, ← wr_sL] at hn
      have hlp := hl p (by omega)
      have inner : ∀ (k s : Nat), s + k = 16 → zW 1 sc miX0_cross 15 [some (.ref 7), some (.int (nI p)), some (.long (orL (fun s => ib (lf p) s) (B 2) s)), none, some (.int (nI s))] [] (xm I J A (va_up B 0 (wr (fun p => orL (fun s => ib (lf p) s) (B 2) 16) (B 0) p)) tl) (fun M r => r = none ∧ M = xm I J A (va_up B 0 (wr (fun p => orL (fun s => ib (lf p) s) (B 2) 16) (B 0) h)) tl) := by
        intro k
        induction k with
        | zero =>
          intro s hs
          have e : s = 16 := by omega
          subst e
          refine zw_nx rfl (fun _ _ => rfl) ?_
          refine zw_nx rfl (fun _ _ => rfl) ?_
          refine zw_nx rfl (fun _ _ => rfl) ?_
          refine zw_nx rfl (fun _ _ => rfl) ?_
          refine zw_nx rfl (fun _ _ => rfl) ?_
          refine zw_nx rfl (fun _ _ => rfl) ?_
          refine zw_nx rfl (fun _ _ => rfl) ?_
          refine zw_ix rfl (fun _ _ => rfl) (hip) ?_
          rw [ep]
          refine zw_nx rfl (fun _ _ => rfl) ?_
          refine zw_nx rfl (fun _ _ => rfl) ?_
          exact zw_kp hn
        | succ k ih2 =>
          intro s hs
          have es : (nI s).toNatClampNeg = s := nI_clamp (by omega)
          have hn3 := ih2 (s + 1) (by omega)
          rw [nI_succ] at hn3
          refine zw_nx rfl (fun _ _ => rfl) ?_
          refine zw_nx rfl (fun _ _ => rfl) ?_
          first | refine zw_br rfl (fun _ _ => rfl) (fun h9 => absurd h9 (nI_ge (a := s) (b := 16) (by omega) (by decide))) (fun _ => ?_) | refine zw_nx rfl (fun _ _ => rfl) ?_
          refine zw_nx rfl (fun _ _ => rfl) ?_
          refine zw_nx rfl (fun _ _ => rfl) ?_
          refine zw_nx rfl (fun _ _ => rfl) ?_
          refine zw_ix rfl (fun _ _ => rfl) (hip) ?_
          rw [ep, hlp]
          refine zw_nx rfl (fun _ _ => rfl) ?_
          refine zw_nx rfl (fun _ _ => rfl) ?_
          refine zw_call rfl (fun _ _ => rfl) (cHasN sc (xm I J A (va_up B 0 (wr (fun p => orL (fun s => ib (lf p) s) (B 2) 16) (B 0) p)) tl) (lf p).toInt64 (i := s) (by omega)) (by decide) ?_
          rintro M1 r1 ⟨rfl, rfl⟩
          rw [lb_i2l _ (by omega)]
          cases hb : ib (lf p) s
          · rw [show orL (fun s => ib (lf p) s) (B 2) (s + 1) = orL (fun s => ib (lf p) s) (B 2) s from by rw [orL, if_neg (by simp [hb])]] at hn3
            refine zw_nx rfl (fun _ _ => rfl) ?_
            refine zw_nx rfl (fun _ _ => rfl) ?_
            refine zw_nx rfl (fun _ _ => rfl) ?_
            exact hn3
          · rw [show orL (fun s => ib (lf p) s) (B 2) (s + 1) = orL (fun s => ib (lf p) s) (B 2) s ||| B 2 s from by rw [orL, if_pos hb]] at hn3
            refine zw_nx rfl (fun _ _ => rfl) ?_
            refine zw_nx rfl (fun _ _ => rfl) ?_
            refine zw_nx rfl (fun _ _ => rfl) ?_
            refine zw_nx rfl (fun _ _ => rfl) ?_
            refine zw_nx rfl (fun _ _ => rfl) ?_
            refine zw_ix rfl (fun _ _ => rfl) (show vp_in (nI s) 16 from vp_in_nI (by omega) (by decide)) ?_
            rw [es]
            refine zw_nx rfl (fun _ _ => rfl) ?_
            refine zw_nx rfl (fun _ _ => rfl) ?_
            refine zw_nx rfl (fun _ _ => rfl) ?_
            refine zw_nx rfl (fun _ _ => rfl) ?_
            exact hn3
      refine zw_nx rfl (fun _ _ => rfl) ?_
      refine zw_nx rfl (fun _ _ => rfl) ?_
      refine zw_nx rfl (fun _ _ => rfl) ?_
      first | refine zw_br rfl (fun _ _ => rfl) (fun h9 => absurd h9 (show ¬ I 8 ≤ nI p by rw [hI]; exact nI_ge (by omega) (by omega))) (fun _ => ?_) | refine zw_nx rfl (fun _ _ => rfl) ?_
      refine zw_nx rfl (fun _ _ => rfl) ?_
      refine zw_nx rfl (fun _ _ => rfl) ?_
      refine zw_nx rfl (fun _ _ => rfl) ?_
      refine zw_nx rfl (fun _ _ => rfl) ?_
      exact inner 16 0 (by omega)
  have h0 := key h 0 (by omega)
  rw [wr_0, va_up_id] at h0
  exact zw_kp h0

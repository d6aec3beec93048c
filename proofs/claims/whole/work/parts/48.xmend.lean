/-! the class: Mending -/
theorem mk_andn {p q : Nat → Bool} {n : Nat} (hn : n ≤ 64) : mk p n &&& (mk q n ^^^ (-1)) = mk (fun i => p i && !q i) n := mk_eq hn (fun i hi => by
  rw [lb_and, lb_xor, lb_mk hn, lb_mk hn, lb_m1 hi]
  cases decide (i < n) <;> simp)
theorem wh_cong {w h : Nat} {I I' : Nat → Int32} {J J' : Nat → Int64} {A A' : Nat → Nat → Int32} {B B' : Nat → Nat → Int64} (hW : WH w h I J A B) (hI : ∀ z, z ≤ 10 → I' z = I z) (hJ : J' 0 = J 0) (hA : ∀ a, a ≤ 5 → A' a = A a) (hB : ∀ b, b ≤ 4 → B' b = B b) : WH w h I' J' A' B' := by
  obtain ⟨h0, h1, h7, h8, hw1, hw, hh1, hh, hJ0, hV, hC, hR⟩ := hW
  refine ⟨by rw [hI 0 (by decide)]; exact h0, by rw [hI 1 (by decide)]; exact h1, by rw [hI 7 (by decide)]; exact h7, by rw [hI 8 (by decide)]; exact h8, hw1, hw, hh1, hh, by rw [hJ]; exact hJ0, by rw [hA 3 (by decide)]; exact hV, ?_, ?_⟩
  · rw [hI 10 (by decide), hI 6 (by decide)]
    intro hc
    obtain ⟨c1, c2, c3, c4, c5, c6, c7⟩ := hC hc
    unfold ClOk xUp xTi xTr xSh
    rw [hA 3 (by decide), hA 5 (by decide), hB 0 (by decide), hB 1 (by decide), hB 2 (by decide), hB 3 (by decide), hB 4 (by decide), hI 9 (by decide)]
    exact ⟨c1, c2, c3, c4, c5, c6, c7⟩
  · intro p hp hp2
    rw [hB 0 (by decide)]
    exact hR p hp hp2
def jF (J : Nat → Int64) (a b c : Int64) : Nat → Int64 := vp_updL (vp_updL (vp_updL J 3 a) 5 b) 6 c
/-- misled, unthreaded, of the first c SHAFTS -/
def miB (F : Nat → Nat → Bool) (o : Nat → Nat) (c e : Nat) : Bool := decide (1 ≤ o e ∧ o e ≤ c) && !F (o e) e
def unB (o : Nat → Nat) (c e : Nat) : Bool := !decide (1 ≤ o e ∧ o e ≤ c)
theorem own_idx {x : Int32} (h : shOk x) {c : Nat} (hc : c < 16) : decide (x = nI c) = decide (idx x = c + 1) := by
  refine decide_eq_decide.mpr ?_
  obtain ⟨h1, h2⟩ := idx_k h
  constructor
  · intro h3
    rw [h3, ← kI_s c, kI_idx (by omega)]
  · intro h3
    rw [h1, h3, kI_s]
/-- what weighTie and settle need -/
def MdF (V : Nat → Int32) (S : Nat → Nat → Bool) (w h : Nat) (J : Nat → Int64) (B : Nat → Nat → Int64) : Prop := J 3 = mk (fun e => fit (vLi V) S h 0 e) w ∧ J 4 = mk (fun e => !sB (fit (vLi V) S h) 17 e) w ∧ J 5 = mk (fun e => eB (fit (vLi V) S h) 17 e) w ∧ J 6 = mk (fun e => !fit (vLi V) S h (idx (V e)) e) w ∧ (∀ c, c < 16 → B 15 c = mk (fun e => fit (vLi V) S h (c + 1) e) w)
/-- the state of the search -/
def MdS (I : Nat → Int32) (q : mSt) : Prop := I 41 = bb q.1.isSome ∧ (∀ c, q.1 = some c → I 42 = nI c) ∧ I 43 = q.2.1 ∧ I 44 = q.2.2
section
variable (sc : sm_S) (I : Nat → Int32) (J : Nat → Int64) (A : Nat → Nat → Int32) (B : Nat → Nat → Int64) (tl : sm_M) (f : Nat → va_E) (w h n : Nat) (V : Nat → Int32) (S : Nat → Nat → Bool)
set_option maxHeartbeats 4000000 in
set_option maxRecDepth 20000 in
theorem xEndsLike0 (x : Int64) (h7 : I 7 = nI w) (hw : w ≤ 48) : zC 1 sc 98 [.ref 41, .long x] (xm I J A B tl) (zR (xm I J A B tl) (.long (mk (fun e => decide (B 14 e = x)) w))) := by
  refine zc_of hkX8_endsLike rfl ?_
  repeat (refine zw_go rfl rfl (fun _ _ => rfl) ?_)
  have key : ∀ (k e : Nat), e + k = w → zW 0 sc miX8_endsLike 5 [some (.ref 41), some (.long x), none, some (.long (mk (fun e => decide (B 14 e = x)) e)), none, some (.int (nI e))] [] (xm I J A B tl) (zR (xm I J A B tl) (.long (mk (fun e => decide (B 14 e = x)) w))) := by
    intro k
    induction k with
    | zero =>
      intro e he
      have e1 : e = w := by omega
      subst e1
      refine zw_nx rfl (fun _ _ => rfl) ?_
      repeat (refine zw_go rfl rfl (fun _ _ => rfl) ?_)
      first | refine zw_br rfl (fun _ _ => rfl) (fun _ => ?_) (fun h9 => absurd (show I 7 ≤ nI e by rw [h7]; exact Int32.le_refl _) h9) | refine zw_nx rfl (fun _ _ => rfl) ?_
      repeat (refine zw_go rfl rfl (fun _ _ => rfl) ?_)
      exact zw_ret rfl (fun _ _ => rfl) (⟨rfl, rfl⟩)
    | succ k ih =>
      intro e he
      have hn := ih (e + 1) (by omega)
      rw [nI_succ, mk] at hn
      refine zw_nx rfl (fun _ _ => rfl) ?_
      repeat (refine zw_go rfl rfl (fun _ _ => rfl) ?_)
      first | refine zw_br rfl (fun _ _ => rfl) (fun h9 => absurd h9 (show ¬ I 7 ≤ nI e by rw [h7]; exact nI_ge (by omega) (by omega))) (fun _ => ?_) | refine zw_nx rfl (fun _ _ => rfl) ?_
      repeat (refine zw_go rfl rfl (fun _ _ => rfl) ?_)
      refine zw_br rfl (fun _ _ => rfl) (fun h9 => absurd h9 (nI_ge (a := e) (b := 48) (by omega) (by omega))) (fun _ => ?_)
      repeat (refine zw_go rfl rfl (fun _ _ => rfl) ?_)
      refine zw_ix rfl (fun _ _ => rfl) (show vp_in (nI (e)) _ from vp_in_nI (by omega) (by omega)) ?_
      rw [show (nI (e)).toNatClampNeg = e from nI_clamp (by omega)]
      repeat (refine zw_go rfl rfl (fun _ _ => rfl) ?_)
      refine zw_br rfl (fun _ _ => rfl) (fun (hc : lg_cmp (B 14 e) x = 0) => ?_) (fun (hc : ¬ (lg_cmp (B 14 e) x = 0)) => ?_)
      · rw [if_pos (decide_eq_true (lg_cmp_0.mp hc))] at hn
        repeat (refine zw_go rfl rfl (fun _ _ => rfl) ?_)
        exact zw_kp hn
      · rw [if_neg (fun z => hc (lg_cmp_0.mpr (of_decide_eq_true z)))] at hn
        repeat (refine zw_go rfl rfl (fun _ _ => rfl) ?_)
        exact zw_kp hn
  exact zw_kp (key w 0 (by omega))
/-- the ENDS that a SHAFT would do for -/
theorem xEndsLike (lf : Nat → Int32) (k : Nat) (x : Int64) (hx : x = mk (fun p => colK lf k p) h) (h7 : I 7 = nI w) (hw : w ≤ 48) (hh : h ≤ 48) (hS : ∀ e, e < w → B 14 e = mk (fun p => S e p) h) : zC 1 sc 98 [.ref 41, .long x] (xm I J A B tl) (zR (xm I J A B tl) (.long (mk (fun e => fit lf S h k e) w))) := by
  have h1 := xEndsLike0 sc I J A B tl w x h7 hw
  rw [mk_cong (p := fun e => decide (B 14 e = x)) (q := fun e => fit lf S h k e) (n := w) (fun e he => by
    unfold fit
    rw [hS e he, hx]
    exact decide_eq_decide.mpr (dK_0 hh).symm)] at h1
  exact h1
set_option maxHeartbeats 4000000 in
set_option maxRecDepth 20000 in
theorem xFitEnds (h7 : I 7 = nI w) (hw : w ≤ 48) (hh : h ≤ 48) (hJ : J 0 = mk (fun _ => true) w) (hV : VOk V) (hC : CV I A B w h V) (hS : ∀ e, e < w → B 14 e = mk (fun p => S e p) h) : zC 2 sc 43 [.ref 44] (xm I J A B tl) (fun M r => r = none ∧ ∃ J' B', M = xm I J' A B' tl ∧ MdF V S w h J' B' ∧ (∀ z, z ≠ 3 → z ≠ 4 → z ≠ 5 → z ≠ 6 → J' z = J z) ∧ (∀ b, b ≠ 15 → B' b = B b)) := by
  have hsh : ∀ e, e < w → shOk (V e) := fun e he => hV.1 e (by omega)
  refine zc_of hkX4_fitEnds rfl ?_
  repeat (refine zw_go rfl rfl (fun _ _ => rfl) ?_)
  refine zw_call rfl (fun _ _ => rfl) (xEndsLike sc I J A B tl w h S (vLi V) 0 0 (mk_false h).symm h7 hw hh hS) (by decide) ?_
  rintro M1 r1 ⟨rfl, rfl⟩
  repeat (refine zw_go rfl rfl (fun _ _ => rfl) ?_)
  have key : ∀ (k c : Nat), c + k = 16 → zW 1 sc miX4_fitEnds 38 [some (.ref 44), some (.long (mk (fun e => sB (fit (vLi V) S h) (c + 1) e) w)), none, some (.long (mk (fun e => unB (fun e => idx (V e)) c e) w)), none, some (.int (nI c)), none, none, none, none] [] (xm I (jF J (mk (fun e => fit (vLi V) S h 0 e) w) (mk (fun e => eB (fit (vLi V) S h) (c + 1) e) w) (mk (fun e => miB (fit (vLi V) S h) (fun e => idx (V e)) c e) w)) A (va_up B 15 (wr (fun c => mk (fun e => fit (vLi V) S h (c + 1) e) w) (B 15) c)) tl) (fun M r => r = none ∧ ∃ J' B', M = xm I J' A B' tl ∧ MdF V S w h J' B' ∧ (∀ z, z ≠ 3 → z ≠ 4 → z ≠ 5 → z ≠ 6 → J' z = J z) ∧ (∀ b, b ≠ 15 → B' b = B b)) := by
    intro k
    induction k with
    | zero =>
      intro c hc
      have e1 : c = 16 := by omega
      subst e1
      refine zw_nx rfl (fun _ _ => rfl) ?_
      repeat (refine zw_go rfl rfl (fun _ _ => rfl) ?_)
      refine zw_ret rfl (fun _ _ => rfl) ?_
      refine ⟨rfl, vp_updL (jF J (mk (fun e => fit (vLi V) S h 0 e) w) (mk (fun e => eB (fit (vLi V) S h) (16 + 1) e) w) (mk (fun e => miB (fit (vLi V) S h) (fun e => idx (V e)) 16 e) w ||| (mk (fun e => unB (fun e => idx (V e)) 16 e) w &&& (mk (fun e => fit (vLi V) S h 0 e) w ^^^ (-1))))) 4 (J 0 &&& (mk (fun e => sB (fit (vLi V) S h) (16 + 1) e) w ^^^ (-1))), _, rfl, ⟨rfl, ?_, rfl, ?_, fun c hc => wr_in (F := fun c => mk (fun e => fit (vLi V) S h (c + 1) e) w) (g := B 15) hc⟩, fun z h3 h4 h5 h6 => ?_, fun b hb => ?_⟩
      · show J 0 &&& (mk (fun e => sB (fit (vLi V) S h) (16 + 1) e) w ^^^ (-1)) = _
        rw [hJ, mk_andn (by omega)]
        exact mk_cong (fun e _ => Bool.true_and _)
      · show mk (fun e => miB (fit (vLi V) S h) (fun e => idx (V e)) 16 e) w ||| (mk (fun e => unB (fun e => idx (V e)) 16 e) w &&& (mk (fun e => fit (vLi V) S h 0 e) w ^^^ (-1))) = _
        rw [mk_andn (by omega), mk_or (by omega)]
        refine mk_cong (fun e he => ?_)
        have := (idx_k (hsh e he)).2
        unfold miB unB
        dsimp only
        by_cases h5 : idx (V e) = 0
        · have h6 : ¬ (1 ≤ idx (V e) ∧ idx (V e) ≤ 16) := by omega
          rw [decide_eq_false h6, h5]; simp
        · have h6 : 1 ≤ idx (V e) ∧ idx (V e) ≤ 16 := by omega
          simp [h6]
      · show vp_updL (vp_updL (vp_updL (vp_updL J 3 _) 5 _) 6 _) 4 _ z = J z
        unfold vp_updL
        rw [if_neg h4, if_neg h6, if_neg h5, if_neg h3]
      · show va_up B 15 _ b = B b
        unfold va_up
        rw [if_neg hb]
    | succ k ih =>
      intro c hc
      have hn := ih (c + 1) (by omega)
      have e1 : mk (fun e => eB (fit (vLi V) S h) (c + 1 + 1) e) w = mk (fun e => eB (fit (vLi V) S h) (c + 1) e) w ||| (mk (fun e => sB (fit (vLi V) S h) (c + 1) e) w &&& mk (fun e => fit (vLi V) S h (c + 1) e) w) := by
        rw [mk_and (by omega), mk_or (by omega)]
        rfl
      have e2 : mk (fun e => sB (fit (vLi V) S h) (c + 1 + 1) e) w = mk (fun e => sB (fit (vLi V) S h) (c + 1) e) w ||| mk (fun e => fit (vLi V) S h (c + 1) e) w := by
        rw [mk_or (by omega)]
        rfl
      have e3 : mk (fun e => miB (fit (vLi V) S h) (fun e => idx (V e)) (c + 1) e) w = mk (fun e => miB (fit (vLi V) S h) (fun e => idx (V e)) c e) w ||| (mk (fun e => decide (V e = nI c)) w &&& (mk (fun e => fit (vLi V) S h (c + 1) e) w ^^^ (-1))) := by
        rw [mk_andn (by omega), mk_or (by omega)]
        refine mk_cong (fun e he => ?_)
        rw [own_idx (hsh e he) (by omega)]
        unfold miB
        dsimp only
        by_cases h5 : idx (V e) = c + 1
        · have h6 : ¬ (1 ≤ idx (V e) ∧ idx (V e) ≤ c) := by omega
          have h7 : 1 ≤ idx (V e) ∧ idx (V e) ≤ c + 1 := by omega
          rw [decide_eq_false h6, decide_eq_true h7, decide_eq_true h5, h5]
          simp
        · have h6 : (1 ≤ idx (V e) ∧ idx (V e) ≤ c + 1) ↔ (1 ≤ idx (V e) ∧ idx (V e) ≤ c) := by omega
          simp [h5, h6]
      have e4 : mk (fun e => unB (fun e => idx (V e)) (c + 1) e) w = mk (fun e => unB (fun e => idx (V e)) c e) w &&& (mk (fun e => decide (V e = nI c)) w ^^^ (-1)) := by
        rw [mk_andn (by omega)]
        refine mk_cong (fun e he => ?_)
        rw [own_idx (hsh e he) (by omega)]
        unfold unB
        dsimp only
        by_cases h5 : idx (V e) = c + 1
        · have h7 : 1 ≤ idx (V e) ∧ idx (V e) ≤ c + 1 := by omega
          rw [decide_eq_true h7, decide_eq_true h5]
          simp
        · have h6 : (1 ≤ idx (V e) ∧ idx (V e) ≤ c + 1) ↔ (1 ≤ idx (V e) ∧ idx (V e) ≤ c) := by omega
          simp [h5, h6]
      rw [nI_succ, e1, e2, e3, e4, ← wr_sL] at hn
      refine zw_nx rfl (fun _ _ => rfl) ?_
      repeat (refine zw_go rfl rfl (fun _ _ => rfl) ?_)
      refine zw_br rfl (fun _ _ => rfl) (fun h9 => absurd h9 (nI_ge (a := c) (b := 16) (by omega) (by omega))) (fun _ => ?_)
      repeat (refine zw_go rfl rfl (fun _ _ => rfl) ?_)
      refine zw_ix rfl (fun _ _ => rfl) (show vp_in (nI (c)) _ from vp_in_nI (by omega) (by omega)) ?_
      rw [show (nI (c)).toNatClampNeg = c from nI_clamp (by omega)]
      repeat (refine zw_go rfl rfl (fun _ _ => rfl) ?_)
      rw [show va_up B 15 (wr (fun c => mk (fun e => fit (vLi V) S h (c + 1) e) w) (B 15) c) 3 c = mk (fun p => ib (vLi V p) c) h from hC.2.2.2.2.1 c (by omega)]
      have hcol : mk (fun p => ib (vLi V p) c) h = mk (fun p => colK (vLi V) (c + 1) p) h := mk_cong (fun p _ => by
        unfold colK
        rw [decide_eq_true (by omega), Bool.true_and, Nat.add_sub_cancel])
      refine zw_call rfl (fun _ _ => rfl) (xEndsLike sc I _ A (va_up B 15 (wr (fun c => mk (fun e => fit (vLi V) S h (c + 1) e) w) (B 15) c)) tl w h S (vLi V) (c + 1) _ hcol h7 hw hh hS) (by decide) ?_
      rintro M1 r1 ⟨rfl, rfl⟩
      repeat (refine zw_go rfl rfl (fun _ _ => rfl) ?_)
      refine zw_ix rfl (fun _ _ => rfl) (show vp_in (nI (c)) _ from vp_in_nI (by omega) (by omega)) ?_
      rw [show (nI (c)).toNatClampNeg = c from nI_clamp (by omega)]
      repeat (refine zw_go rfl rfl (fun _ _ => rfl) ?_)
      rw [show va_up B 15 (wr (fun c => mk (fun e => fit (vLi V) S h (c + 1) e) w) (B 15) c) 2 c = mk (fun e => decide (V e = nI c)) w from hC.2.2.2.1 c (by omega)]
      refine zw_ix rfl (fun _ _ => rfl) (show vp_in (nI (c)) _ from vp_in_nI (by omega) (by omega)) ?_
      rw [show (nI (c)).toNatClampNeg = c from nI_clamp (by omega)]
      repeat (refine zw_go rfl rfl (fun _ _ => rfl) ?_)
      exact zw_kp hn
  have hk := key 16 0 (by omega)
  rw [wr_0] at hk
  have z1 : mk (fun e => sB (fit (vLi V) S h) (0 + 1) e) w = mk (fun e => fit (vLi V) S h 0 e) w := mk_cong (fun e _ => Bool.false_or _)
  have z2 : mk (fun e => unB (fun e => idx (V e)) 0 e) w = J 0 := by
    rw [hJ]
    refine mk_cong (fun e _ => ?_)
    unfold unB
    simp
    omega
  have z3 : mk (fun e => eB (fit (vLi V) S h) (0 + 1) e) w = 0 := by
    rw [← mk_false w]
    rfl
  have z4 : mk (fun e => miB (fit (vLi V) S h) (fun e => idx (V e)) 0 e) w = 0 := by
    rw [← mk_false w]
    refine mk_cong (fun e _ => ?_)
    unfold miB
    dsimp only
    have h6 : ¬ (1 ≤ idx (V e) ∧ idx (V e) ≤ 0) := by omega
    rw [decide_eq_false h6]
    rfl
  rw [z1, z2, z3, z4] at hk
  exact zw_kp hk
set_option maxHeartbeats 4000000 in
set_option maxRecDepth 20000 in
theorem xWeighThr (hw : w ≤ 48) (hF : MdF V S w h J B) : zC 2 sc 44 [.ref 44] (xm I J A B tl) (fun M r => r = none ∧ ∃ I', M = xm I' J A B tl ∧ MdS I' (mFo V S w h 0) ∧ ∀ z, z < 41 ∨ 44 < z → I' z = I z) := by
  obtain ⟨f3, f4, f5, f6, f15⟩ := hF
  have hz : J 4 = 0 ↔ ∀ e, e < w → sB (fit (vLi V) S h) 17 e = true := by
    rw [f4, mk_zero (by omega)]
    exact ⟨fun z e he => by simpa using z e he, fun z e he => by simpa using z e he⟩
  refine zc_of hkX4_weighThreading rfl ?_
  repeat (refine zw_go rfl rfl (fun _ _ => rfl) ?_)
  refine zw_br rfl (fun _ _ => rfl) (fun (hc : lg_cmp (J 4) 0 = 0) => ?_) (fun (hc : ¬ (lg_cmp (J 4) 0 = 0)) => ?_)
  · have h1 := hz.mp (lg_cmp_0.mp hc)
    repeat (refine zw_go rfl rfl (fun _ _ => rfl) ?_)
    refine zw_call rfl (fun _ _ => rfl) (cBitL sc _ (J 6)) (by decide) ?_
    rintro M1 r1 ⟨rfl, rfl⟩
    repeat (refine zw_go rfl rfl (fun _ _ => rfl) ?_)
    refine zw_ret rfl (fun _ _ => rfl) ?_
    refine ⟨rfl, upd (upd (upd (upd I 41 1) 42 (nI (cnt (lb (J 6)) 64))) 43 (-1)) 44 (-1), rfl, ?_, fun z hz => ?_⟩
    · rw [mFo]
      unfold cst
      rw [if_pos h1]
      refine ⟨rfl, fun c hc => ?_, rfl, rfl⟩
      cases hc
      show nI (cnt (lb (J 6)) 64) = _
      rw [f6, cnt_mk (by omega)]
    · unfold upd
      rw [if_neg (by omega), if_neg (by omega), if_neg (by omega), if_neg (by omega)]
  · have h1 : ¬ (∀ e, e < w → sB (fit (vLi V) S h) 17 e = true) := fun z => hc (lg_cmp_0.mpr (hz.mpr z))
    repeat (refine zw_go rfl rfl (fun _ _ => rfl) ?_)
    refine zw_call rfl (fun _ _ => rfl) (cBitL sc _ (J 6)) (by decide) ?_
    rintro M1 r1 ⟨rfl, rfl⟩
    repeat (refine zw_go rfl rfl (fun _ _ => rfl) ?_)
    refine zw_ret rfl (fun _ _ => rfl) ?_
    refine ⟨rfl, upd (upd (upd (upd I 41 0) 42 (nI (cnt (lb (J 6)) 64))) 43 (-1)) 44 (-1), rfl, ?_, fun z hz => ?_⟩
    · rw [mFo]
      unfold cst
      rw [if_neg h1]
      refine ⟨rfl, fun c hc => ?_, rfl, rfl⟩
      cases hc
    · unfold upd
      rw [if_neg (by omega), if_neg (by omega), if_neg (by omega), if_neg (by omega)]
set_option maxHeartbeats 4000000 in
set_option maxRecDepth 20000 in
theorem xPicksAfter (t s : Nat) (ht : t < 16) (hs : s < 16) (hh : h ≤ 48) (h3 : A 3 = V) (hB : ∀ a, a < 16 → B 4 a = mk (fun p => ib (V (64 + p)) a) h) : zC 2 sc 46 [.ref 44, .int (nI t), .int (nI s)] (xm I J A B tl) (zR (xm I J A B tl) (.long (mk (fun p => colK (lfT V t s) (s + 1) p) h))) := by
  have fin : orL (fun a => ib (tgT (fun a => V (48 + a)) t s a) s) (B 4) 16 = mk (fun p => colK (lfT V t s) (s + 1) p) h := mk_eq (by omega) (fun p hp => by
    rw [Bool.eq_iff_iff, lb_orL, Bool.and_eq_true, decide_eq_true_eq]
    unfold colK
    rw [decide_eq_true (by omega), Bool.true_and, Nat.add_sub_cancel]
    unfold lfT liF
    rw [ib_orI]
    constructor
    · rintro ⟨a, h1, h2, h5⟩
      rw [hB a h1, lb_mk (by omega), Bool.and_eq_true, decide_eq_true_eq] at h5
      exact ⟨h5.1, a, h1, h5.2, h2⟩
    · rintro ⟨h1, a, h2, h5, h6⟩
      refine ⟨a, h2, h6, ?_⟩
      rw [hB a h2, lb_mk (by omega), decide_eq_true h1, h5]
      rfl)
  rw [← fin]
  refine zc_of hkX4_picksAfter rfl ?_
  repeat (refine zw_go rfl rfl (fun _ _ => rfl) ?_)
  have key : ∀ (k a : Nat), a + k = 16 → zW 1 sc miX4_picksAfter 5 [some (.ref 44), some (.int (nI t)), some (.int (nI s)), some (.long (orL (fun a => ib (tgT (fun a => V (48 + a)) t s a) s) (B 4) a)), none, some (.int (nI a)), none] [] (xm I J A B tl) (zR (xm I J A B tl) (.long (orL (fun a => ib (tgT (fun a => V (48 + a)) t s a) s) (B 4) 16))) := by
    intro k
    induction k with
    | zero =>
      intro a ha
      have e1 : a = 16 := by omega
      subst e1
      refine zw_nx rfl (fun _ _ => rfl) ?_
      repeat (refine zw_go rfl rfl (fun _ _ => rfl) ?_)
      exact zw_ret rfl (fun _ _ => rfl) (⟨rfl, rfl⟩)
    | succ k ih =>
      intro a ha
      have hn := ih (a + 1) (by omega)
      rw [nI_succ, orL, tg_bit hs (by omega), decide_eq_true (p := s = s) rfl, Bool.and_true] at hn
      refine zw_nx rfl (fun _ _ => rfl) ?_
      repeat (refine zw_go rfl rfl (fun _ _ => rfl) ?_)
      refine zw_br rfl (fun _ _ => rfl) (fun h9 => absurd h9 (nI_ge (a := a) (b := 16) (by omega) (by omega))) (fun _ => ?_)
      repeat (refine zw_go rfl rfl (fun _ _ => rfl) ?_)
      rw [show (Int8.ofInt 48).toInt32 + nI a = nI (48 + a) from nI_add 48 a]
      refine zw_call rfl (fun _ _ => rfl) (cValueOf sc I J A B tl (48 + a) (by omega)) (by decide) ?_
      rintro M1 r1 ⟨rfl, rfl⟩
      rw [h3]
      repeat (refine zw_go rfl rfl (fun _ _ => rfl) ?_)
      refine zw_call rfl (fun _ _ => rfl) (cHasN sc (xm I J A B tl) (V (48 + a)).toInt64 (i := s) (by omega)) (by decide) ?_
      rintro M1 r1 ⟨rfl, rfl⟩
      rw [lb_i2l _ (by omega)]
      repeat (refine zw_go rfl rfl (fun _ _ => rfl) ?_)
      refine zw_br rfl (fun _ _ => rfl) (fun (hc : nI a = nI t) => ?_) (fun (hc : ¬ (nI a = nI t)) => ?_)
      · rw [nI_eq (by omega) (by omega)] at hc
        rw [decide_eq_true hc] at hn
        cases hb : ib (V (48 + a)) s
        · rw [hb, if_pos (by decide)] at hn
          repeat (refine zw_go rfl rfl (fun _ _ => rfl) ?_)
          refine zw_ix rfl (fun _ _ => rfl) (show vp_in (nI (a)) _ from vp_in_nI (by omega) (by omega)) ?_
          rw [show (nI (a)).toNatClampNeg = a from nI_clamp (by omega)]
          repeat (refine zw_go rfl rfl (fun _ _ => rfl) ?_)
          exact zw_kp hn
        · rw [hb, if_neg (by decide)] at hn
          repeat (refine zw_go rfl rfl (fun _ _ => rfl) ?_)
          exact zw_kp hn
      · rw [nI_eq (by omega) (by omega)] at hc
        rw [decide_eq_false hc] at hn
        cases hb : ib (V (48 + a)) s
        · rw [hb, if_neg (by decide)] at hn
          repeat (refine zw_go rfl rfl (fun _ _ => rfl) ?_)
          exact zw_kp hn
        · rw [hb, if_pos (by decide)] at hn
          repeat (refine zw_go rfl rfl (fun _ _ => rfl) ?_)
          refine zw_ix rfl (fun _ _ => rfl) (show vp_in (nI (a)) _ from vp_in_nI (by omega) (by omega)) ?_
          rw [show (nI (a)).toNatClampNeg = a from nI_clamp (by omega)]
          repeat (refine zw_go rfl rfl (fun _ _ => rfl) ?_)
          exact zw_kp hn
  exact zw_kp (key 16 0 (by omega))
set_option maxHeartbeats 4000000 in
set_option maxRecDepth 20000 in
theorem xWeighTie (t s : Nat) (q : mSt) (ht : t < 16) (hs : s < 16) (h7 : I 7 = nI w) (hw : w ≤ 48) (hh : h ≤ 48) (hV : VOk V) (h3 : A 3 = V) (hC : CV I A B w h V) (hS : ∀ e, e < w → B 14 e = mk (fun p => S e p) h) (hF : MdF V S w h J B) (hq : MdS I q) (hk : mOk q) : zC 3 sc 45 [.ref 44, .int (nI t), .int (nI s)] (xm I J A B tl) (fun M r => r = none ∧ ∃ I', M = xm I' J A B tl ∧ MdS I' (mNx (cst (lfT V t s) S (fun e => idx (V e)) w h) t s q) ∧ ∀ z, z < 41 ∨ 44 < z → I' z = I z) := by
  have hsh : ∀ e, e < w → shOk (V e) := fun e he => hV.1 e (by omega)
  obtain ⟨f3, f4, f5, f6, f15⟩ := hF
  rw [cst_T hs (fun e he => (idx_k (hsh e he)).2)]
  have e1 : (J 4 ||| (B 15 s &&& (J 5 ^^^ (-1)))) &&& (mk (fun e => fit (lfT V t s) S h (s + 1) e) w ^^^ (-1)) = mk (fun e => (!sB (fit (vLi V) S h) 17 e || (fit (vLi V) S h (s + 1) e && !eB (fit (vLi V) S h) 17 e)) && !fit (lfT V t s) S h (s + 1) e) w := by
    rw [f4, f5, f15 s hs, mk_andn (by omega), mk_or (by omega), mk_andn (by omega)]
  have e2 : (J 6 &&& (B 2 s ^^^ (-1))) ||| (B 2 s &&& (mk (fun e => fit (lfT V t s) S h (s + 1) e) w ^^^ (-1))) = mk (fun e => (!fit (vLi V) S h (idx (V e)) e && !decide (idx (V e) = s + 1)) || (decide (idx (V e) = s + 1) && !fit (lfT V t s) S h (s + 1) e)) w := by
    rw [f6, hC.2.2.2.1 s hs, mk_andn (by omega), mk_andn (by omega), mk_or (by omega)]
    exact mk_cong (fun e he => by rw [own_idx (hsh e he) hs])
  obtain ⟨q1, q2, q3, q4⟩ := hq
  refine zc_of hkX4_weighTie rfl ?_
  repeat (refine zw_go rfl rfl (fun _ _ => rfl) ?_)
  refine zw_call rfl (fun _ _ => rfl) (xPicksAfter sc I J A B tl h V t s ht hs hh h3 hC.2.2.2.2.2.1) (by decide) ?_
  rintro M1 r1 ⟨rfl, rfl⟩
  repeat (refine zw_go rfl rfl (fun _ _ => rfl) ?_)
  refine zw_call rfl (fun _ _ => rfl) (xEndsLike sc I J A B tl w h S (lfT V t s) (s + 1) _ rfl h7 hw hh hS) (by decide) ?_
  rintro M1 r1 ⟨rfl, rfl⟩
  repeat (refine zw_go rfl rfl (fun _ _ => rfl) ?_)
  refine zw_ix rfl (fun _ _ => rfl) (show vp_in (nI (s)) _ from vp_in_nI (by omega) (by omega)) ?_
  rw [show (nI (s)).toNatClampNeg = s from nI_clamp (by omega)]
  repeat (refine zw_go rfl rfl (fun _ _ => rfl) ?_)
  refine zw_br rfl (fun _ _ => rfl) (fun (hc : lg_cmp ((J 4 ||| (B 15 s &&& (J 5 ^^^ (-1)))) &&& (mk (fun e => fit (lfT V t s) S h (s + 1) e) w ^^^ (-1))) 0 = 0) => ?_) (fun (hc : ¬ (lg_cmp ((J 4 ||| (B 15 s &&& (J 5 ^^^ (-1)))) &&& (mk (fun e => fit (lfT V t s) S h (s + 1) e) w ^^^ (-1))) 0 = 0)) => ?_)
  · rw [lg_cmp_0, e1, mk_zero (by omega)] at hc
    rw [if_pos hc]
    repeat (refine zw_go rfl rfl (fun _ _ => rfl) ?_)
    refine zw_ix rfl (fun _ _ => rfl) (show vp_in (nI (s)) _ from vp_in_nI (by omega) (by omega)) ?_
    rw [show (nI (s)).toNatClampNeg = s from nI_clamp (by omega)]
    repeat (refine zw_go rfl rfl (fun _ _ => rfl) ?_)
    rw [show J 6 &&& (B 2 s ^^^ (-1)) ||| B 2 s &&& (mk (fun e => fit (lfT V t s) S h (s + 1) e) w ^^^ (-1)) = _ from e2]
    refine zw_call rfl (fun _ _ => rfl) (cBitL sc (xm I J A B tl) (mk (fun e => (!fit (vLi V) S h (idx (V e)) e && !decide (idx (V e) = s + 1)) || (decide (idx (V e) = s + 1) && !fit (lfT V t s) S h (s + 1) e)) w)) (by decide) ?_
    rintro M1 r1 ⟨rfl, rfl⟩
    rw [cnt_mk (by omega)]
    have hv : cnt (fun e => (!fit (vLi V) S h (idx (V e)) e && !decide (idx (V e) = s + 1)) || (decide (idx (V e) = s + 1) && !fit (lfT V t s) S h (s + 1) e)) w ≤ w := cnt_le
    generalize cnt (fun e => (!fit (vLi V) S h (idx (V e)) e && !decide (idx (V e) = s + 1)) || (decide (idx (V e) = s + 1) && !fit (lfT V t s) S h (s + 1) e)) w = v at hv ⊢
    have enew : Int32.ofInt 1 + nI v = nI (v + 1) := by rw [Nat.add_comm v 1]; exact nI_add 1 v
    have new : MdS (upd (upd (upd (upd I 41 1) 42 (nI (v + 1))) 43 (nI t)) 44 (nI s)) (some (v + 1), nI t, nI s) := ⟨rfl, fun c hc => by cases hc; rfl, rfl, rfl⟩
    have fr : ∀ z, z < 41 ∨ 44 < z → upd (upd (upd (upd I 41 1) 42 (nI (v + 1))) 43 (nI t)) 44 (nI s) z = I z := fun z hz => by
      unfold upd
      rw [if_neg (by omega), if_neg (by omega), if_neg (by omega), if_neg (by omega)]
    unfold mNx
    repeat (refine zw_go rfl rfl (fun _ _ => rfl) ?_)
    cases h5 : q.1 with
    | none =>
      rw [h5] at q1
      first | refine zw_br rfl (fun _ _ => rfl) (fun _ => ?_) (fun h9 => absurd (q1) h9) | refine zw_nx rfl (fun _ _ => rfl) ?_
      repeat (refine zw_go rfl rfl (fun _ _ => rfl) ?_)
      rw [enew]
      exact zw_ret rfl (fun _ _ => rfl) (⟨rfl, _, rfl, new, fr⟩)
    | some b =>
      rw [h5] at q1
      have hb := hk.1 b h5
      first | refine zw_br rfl (fun _ _ => rfl) (fun h9 => absurd h9 (show ¬ I 41 = 0 by rw [q1]; exact (by decide : ¬ (1 : Int32) = 0))) (fun _ => ?_) | refine zw_nx rfl (fun _ _ => rfl) ?_
      repeat (refine zw_go rfl rfl (fun _ _ => rfl) ?_)
      rw [enew, q2 b h5]
      refine zw_br rfl (fun _ _ => rfl) (fun (h6 : nI b ≤ nI (v + 1)) => ?_) (fun (h6 : ¬ (nI b ≤ nI (v + 1))) => ?_)
      · rw [nI_leI (by omega) (by omega)] at h6
        refine zw_ret rfl (fun _ _ => rfl) ?_
        refine ⟨rfl, I, rfl, ?_, fun _ _ => rfl⟩
        show MdS I (if v + 1 < b then (some (v + 1), nI t, nI s) else q)
        rw [if_neg (by omega)]
        exact ⟨by rw [h5]; exact q1, q2, q3, q4⟩
      · rw [nI_leI (by omega) (by omega)] at h6
        repeat (refine zw_go rfl rfl (fun _ _ => rfl) ?_)
        refine zw_ret rfl (fun _ _ => rfl) ?_
        refine ⟨rfl, _, rfl, ?_, fr⟩
        show MdS _ (if v + 1 < b then (some (v + 1), nI t, nI s) else q)
        rw [if_pos (by omega)]
        exact new
  · rw [lg_cmp_0, e1, mk_zero (by omega)] at hc
    rw [if_neg hc]
    repeat (refine zw_go rfl rfl (fun _ _ => rfl) ?_)
    exact zw_ret rfl (fun _ _ => rfl) (⟨rfl, I, rfl, ⟨q1, q2, q3, q4⟩, fun _ _ => rfl⟩)
end

/-! about, lead -/
theorem zw_tsd {D : Nat} {sc : sm_S} {mi : sm_MI} {pc : Nat} {L : sm_L} {M : sm_M} {Post : sm_M → Option Value → Prop} {dflt lo hi : Int} {offs : Array Int} {x : Int32} {r : List Value} (t : Nat) (hi' : sm_fd mi.2.2.2.2.1 pc = some (.tableswitch dflt lo hi offs)) (ht : (pc : Int) + dflt = Int.ofNat t) (hx : x.toInt < lo ∨ hi < x.toInt) (hn : zW D sc mi t (sm_kp mi.2.2.2.2.2.1 pc L) r M Post) : zW D sc mi pc L (.int x :: r) M Post :=
  zw_nx hi' (fun cal k => by
    show (if x.toInt < lo ∨ hi < x.toInt then sm_tg pc dflt (fun t => k t (sm_kp mi.2.2.2.2.2.1 pc L) r M) else _) = _
    rw [if_pos hx]
    unfold sm_tg
    rw [ht]) hn
theorem i32_out {z : Int32} {n : Nat} (hn : n < 2 ^ 31) (h : ¬ (0 ≤ z ∧ z ≤ nI n)) : z.toInt < 0 ∨ (n : Int) < z.toInt := by
  rw [Int32.le_iff_toInt_le, Int32.le_iff_toInt_le, nI_toInt hn] at h
  have : (0 : Int32).toInt = 0 := rfl
  omega
/-- the cells that are UP -/
def nUp (V : Nat → Int32) (w h : Nat) : Nat := sumN (fun p => cnt (fun e => vUp V e p) w) h
theorem sumN_0 {g : Nat → Nat} : ∀ {n : Nat}, (∀ i, i < n → g i = 0) → sumN g n = 0 := by
  intro n
  induction n with
  | zero => intro _; rfl
  | succ n ih => intro h; rw [sumN, ih (fun i hi => h i (by omega)), h n (by omega)]
theorem sumN_app {g : Nat → Nat} {a : Nat} : ∀ {b : Nat}, sumN g (a + b) = sumN g a + sumN (fun i => g (a + i)) b := by
  intro b
  induction b with
  | zero => rfl
  | succ b ih => rw [← Nat.add_assoc, sumN, ih, sumN]; omega
theorem nUp_sw {V : Nat → Int32} {w h : Nat} : sumN (fun e => cnt (fun p => vUp V e p) h) w = nUp V w h := by
  unfold nUp
  have e1 : sumN (fun e => cnt (fun p => vUp V e p) h) w = sumN (fun e => sumN (fun p => if vUp V e p then 1 else 0) h) w := sumN_cong (fun i _ => cnt_sum)
  have e2 : sumN (fun p => cnt (fun e => vUp V e p) w) h = sumN (fun p => sumN (fun e => if vUp V e p then 1 else 0) w) h := sumN_cong (fun i _ => cnt_sum)
  rw [e1, e2, sumN_swap]
theorem rows_sum {g : Nat → Int64} {S : Nat → Nat → Bool} {w h : Nat} (hw : w ≤ 48) (hh : h ≤ 48) (h1 : ∀ p, p < h → g p = mk (fun e => S e p) w) (h2 : ∀ p, h ≤ p → p < 48 → g p = 0) : sumN (fun p => cnt (lb (g p)) 64) 48 = sumN (fun p => cnt (fun e => S e p) w) h := by
  have e : (48 : Nat) = h + (48 - h) := by omega
  rw [e, sumN_app, sumN_0 (g := fun i => cnt (lb (g (h + i))) 64) (fun i hi => by rw [h2 (h + i) (by omega) (by omega)]; exact cnt_0 (fun j _ => lb_0 j)), Nat.add_zero]
  exact sumN_cong (fun i hi => by rw [h1 i hi, cnt_mk (by omega)])
def nThr (V : Nat → Int32) (w : Nat) : Nat := cnt (fun e => decide (¬ V e = -1)) w
section
variable (sc : sm_S) (I : Nat → Int32) (J : Nat → Int64) (A : Nat → Nat → Int32) (B : Nat → Nat → Int64) (tl : sm_M) (f : Nat → va_E) (w h n : Nat) (V : Nat → Int32) (S : Nat → Nat → Bool)
set_option maxHeartbeats 4000000 in
set_option maxRecDepth 20000 in
theorem xCountR : zC 2 sc 159 [.ref 9] (xm I J A B tl) (zR (xm I J A B tl) (.int (nI (sumN (fun p => cnt (lb (B 0 p)) 64) 48)))) := by
  refine zc_of hkX10_countCells rfl ?_
  repeat (refine zw_go rfl rfl (fun _ _ => rfl) ?_)
  have key : ∀ (k p : Nat), p + k = 48 → zW 1 sc miX10_countCells 10 [none, some (.int (nI (sumN (fun p => cnt (lb (B 0 p)) 64) p))), some (.ref 9), some (.int 48), some (.int (nI p)), none, none] [] (xm I J A B tl) (zR (xm I J A B tl) (.int (nI (sumN (fun p => cnt (lb (B 0 p)) 64) 48)))) := by
    intro k
    induction k with
    | zero =>
      intro p hp
      have e1 : p = 48 := by omega
      subst e1
      refine zw_nx rfl (fun _ _ => rfl) ?_
      repeat (refine zw_go rfl rfl (fun _ _ => rfl) ?_)
      exact zw_ret rfl (fun _ _ => rfl) (⟨rfl, rfl⟩)
    | succ k ih =>
      intro p hp
      have hn := ih (p + 1) (by omega)
      rw [nI_succ, sumN, ← nI_add] at hn
      refine zw_nx rfl (fun _ _ => rfl) ?_
      repeat (refine zw_go rfl rfl (fun _ _ => rfl) ?_)
      refine zw_br rfl (fun _ _ => rfl) (fun h9 => absurd h9 (nI_ge (a := p) (b := 48) (by omega) (by omega))) (fun _ => ?_)
      repeat (refine zw_go rfl rfl (fun _ _ => rfl) ?_)
      refine zw_ix rfl (fun _ _ => rfl) (show vp_in (nI (p)) _ from vp_in_nI (by omega) (by omega)) ?_
      rw [show (nI (p)).toNatClampNeg = p from nI_clamp (by omega)]
      repeat (refine zw_go rfl rfl (fun _ _ => rfl) ?_)
      refine zw_call rfl (fun _ _ => rfl) (cBitL sc (xm I J A B tl) (B 0 p)) (by decide) ?_
      rintro M1 r1 ⟨rfl, rfl⟩
      repeat (refine zw_go rfl rfl (fun _ _ => rfl) ?_)
      exact zw_kp hn
  exact zw_kp (key 48 0 (by omega))
set_option maxHeartbeats 4000000 in
set_option maxRecDepth 20000 in
theorem xCountS : zC 2 sc 159 [.ref 42] (xm I J A B tl) (zR (xm I J A B tl) (.int (nI (sumN (fun p => cnt (lb (B 13 p)) 64) 48)))) := by
  refine zc_of hkX10_countCells rfl ?_
  repeat (refine zw_go rfl rfl (fun _ _ => rfl) ?_)
  have key : ∀ (k p : Nat), p + k = 48 → zW 1 sc miX10_countCells 10 [none, some (.int (nI (sumN (fun p => cnt (lb (B 13 p)) 64) p))), some (.ref 42), some (.int 48), some (.int (nI p)), none, none] [] (xm I J A B tl) (zR (xm I J A B tl) (.int (nI (sumN (fun p => cnt (lb (B 13 p)) 64) 48)))) := by
    intro k
    induction k with
    | zero =>
      intro p hp
      have e1 : p = 48 := by omega
      subst e1
      refine zw_nx rfl (fun _ _ => rfl) ?_
      repeat (refine zw_go rfl rfl (fun _ _ => rfl) ?_)
      exact zw_ret rfl (fun _ _ => rfl) (⟨rfl, rfl⟩)
    | succ k ih =>
      intro p hp
      have hn := ih (p + 1) (by omega)
      rw [nI_succ, sumN, ← nI_add] at hn
      refine zw_nx rfl (fun _ _ => rfl) ?_
      repeat (refine zw_go rfl rfl (fun _ _ => rfl) ?_)
      refine zw_br rfl (fun _ _ => rfl) (fun h9 => absurd h9 (nI_ge (a := p) (b := 48) (by omega) (by omega))) (fun _ => ?_)
      repeat (refine zw_go rfl rfl (fun _ _ => rfl) ?_)
      refine zw_ix rfl (fun _ _ => rfl) (show vp_in (nI (p)) _ from vp_in_nI (by omega) (by omega)) ?_
      rw [show (nI (p)).toNatClampNeg = p from nI_clamp (by omega)]
      repeat (refine zw_go rfl rfl (fun _ _ => rfl) ?_)
      refine zw_call rfl (fun _ _ => rfl) (cBitL sc (xm I J A B tl) (B 13 p)) (by decide) ?_
      rintro M1 r1 ⟨rfl, rfl⟩
      repeat (refine zw_go rfl rfl (fun _ _ => rfl) ?_)
      exact zw_kp hn
  exact zw_kp (key 48 0 (by omega))
set_option maxHeartbeats 4000000 in
set_option maxRecDepth 20000 in
theorem xCellsUp (hW : WH w h I J A B) : zC 5 sc 158 [.ref 0] (xm I J A B tl) (fun M r => r = some (.int (nI (nUp (A 3) w h))) ∧ ∃ I' A' B', M = xm I' J A' B' tl ∧ WH w h I' J A' B' ∧ CV I' A' B' w h (A 3) ∧ WK I A B I' A' B') := by
  refine zc_of hkX10_cellsUp rfl ?_
  repeat (refine zw_go rfl rfl (fun _ _ => rfl) ?_)
  refine zw_call rfl (fun _ _ => rfl) (xWv sc I J A B tl w h hW) (by decide) ?_
  rintro M1 r1 ⟨rfl, I', A', B', rfl, hW2, hC, hK⟩
  have hW3 := hW2
  obtain ⟨h0, h1, h7, h8, hw1, hw, hh1, hh, hJ, hV, hC', hR⟩ := hW2
  repeat (refine zw_go rfl rfl (fun _ _ => rfl) ?_)
  refine zw_call rfl (fun _ _ => rfl) (xCountR sc I' J A' B' tl) (by decide) ?_
  rintro M1 r1 ⟨rfl, rfl⟩
  repeat (refine zw_go rfl rfl (fun _ _ => rfl) ?_)
  exact zw_ret rfl (fun _ _ => rfl) (⟨by rw [rows_sum (S := vUp (A 3)) hw hh hC.2.1 hR]; rfl, I', A', B', rfl, hW3, hC, hK⟩)
set_option maxHeartbeats 4000000 in
set_option maxRecDepth 20000 in
theorem xThreaded (h0 : I 0 = nI w) (hw : w ≤ 48) : zC 2 sc 161 [.ref 0] (xm I J A B tl) (zR (xm I J A B tl) (.int (nI (nThr (A 3) w)))) := by
  refine zc_of hkX10_threadedEnds rfl ?_
  repeat (refine zw_go rfl rfl (fun _ _ => rfl) ?_)
  have key : ∀ (k e : Nat), e + k = w → zW 1 sc miX10_threadedEnds 4 [some (.ref 0), some (.int (nI (nThr (A 3) e))), some (.int (nI e))] [] (xm I J A B tl) (zR (xm I J A B tl) (.int (nI (nThr (A 3) w)))) := by
    intro k
    induction k with
    | zero =>
      intro e he
      have e1 : e = w := by omega
      subst e1
      refine zw_nx rfl (fun _ _ => rfl) ?_
      repeat (refine zw_go rfl rfl (fun _ _ => rfl) ?_)
      first | refine zw_br rfl (fun _ _ => rfl) (fun _ => ?_) (fun h9 => absurd (show I 0 ≤ nI e by rw [h0]; exact Int32.le_refl _) h9) | refine zw_nx rfl (fun _ _ => rfl) ?_
      repeat (refine zw_go rfl rfl (fun _ _ => rfl) ?_)
      exact zw_ret rfl (fun _ _ => rfl) (⟨rfl, rfl⟩)
    | succ k ih =>
      intro e he
      have hn := ih (e + 1) (by omega)
      rw [nI_succ, nThr, cnt] at hn
      refine zw_nx rfl (fun _ _ => rfl) ?_
      repeat (refine zw_go rfl rfl (fun _ _ => rfl) ?_)
      first | refine zw_br rfl (fun _ _ => rfl) (fun h9 => absurd h9 (show ¬ I 0 ≤ nI e by rw [h0]; exact nI_ge (by omega) (by omega))) (fun _ => ?_) | refine zw_nx rfl (fun _ _ => rfl) ?_
      repeat (refine zw_go rfl rfl (fun _ _ => rfl) ?_)
      rw [show (Int32.ofInt 0) + nI e = nI e from by rw [show (Int32.ofInt 0) = nI 0 from rfl, nI_add, Nat.zero_add]]
      refine zw_call rfl (fun _ _ => rfl) (cValueOf sc I J A B tl e (by omega)) (by decide) ?_
      rintro M1 r1 ⟨rfl, rfl⟩
      repeat (refine zw_go rfl rfl (fun _ _ => rfl) ?_)
      refine zw_br rfl (fun _ _ => rfl) (fun (hc : A 3 e = -1) => ?_) (fun (hc : ¬ (A 3 e = -1)) => ?_)
      · rw [if_neg (by simp [hc]), Nat.add_zero] at hn
        repeat (refine zw_go rfl rfl (fun _ _ => rfl) ?_)
        exact zw_kp hn
      · rw [if_pos (by simpa using hc), ← nI_1] at hn
        repeat (refine zw_go rfl rfl (fun _ _ => rfl) ?_)
        exact zw_kp hn
  exact zw_kp (key w 0 (by omega))
/-- about's answer -/
def aAbout (V : Nat → Int32) (w h t k n s : Nat) (z : Int32) : Int32 := if 0 ≤ z ∧ z ≤ nI 7 then (match z.toNatClampNeg with | 0 => nI w | 1 => nI h | 2 => nI t | 3 => nI k | 4 => nI n | 5 => nI (nUp V w h) | 6 => nI s | _ => nI (nThr V w)) else -1
set_option maxHeartbeats 4000000 in
set_option maxRecDepth 20000 in
theorem xAbout (z : Int32) (t k s : Nat) (hW : WH w h I J A B) (h4 : I 4 = nI t) (h5 : I 5 = nI k) (h2 : I 2 = nI n) (h11 : I 11 = nI s) : zC 6 sc 145 [.ref 0, .int z] (xm I J A B tl) (fun M r => r = some (.int (aAbout (A 3) w h t k n s z)) ∧ XQ tl w h I J A B M) := by
  have hW' := hW
  obtain ⟨h0, h1, h7, h8, hw1, hw, hh1, hh, hJ, hV, hC', hR⟩ := hW
  refine zc_of hkX10_about rfl ?_
  have hQ : XQ tl w h I J A B (xm I J A B tl) := ⟨I, A, B, rfl, hW', xk_rfl⟩
  by_cases hz : 0 ≤ z ∧ z ≤ nI 7
  · obtain ⟨j, hj, rfl⟩ := inR_of (n := 8) ⟨hz.1, Int32.lt_of_le_of_lt hz.2 (by decide)⟩ (by decide)
    unfold aAbout
    rw [if_pos hz, nI_clamp (by omega)]
    rcases (show j = 0 ∨ j = 1 ∨ j = 2 ∨ j = 3 ∨ j = 4 ∨ j = 5 ∨ j = 6 ∨ j = 7 by omega) with rfl | rfl | rfl | rfl | rfl | rfl | rfl | rfl
    · repeat (refine zw_go rfl rfl (fun _ _ => rfl) ?_)
      exact zw_ret rfl (fun _ _ => rfl) (⟨by rw [h0]; rfl, hQ⟩)
    · repeat (refine zw_go rfl rfl (fun _ _ => rfl) ?_)
      exact zw_ret rfl (fun _ _ => rfl) (⟨by rw [h1]; rfl, hQ⟩)
    · repeat (refine zw_go rfl rfl (fun _ _ => rfl) ?_)
      exact zw_ret rfl (fun _ _ => rfl) (⟨by rw [h4]; rfl, hQ⟩)
    · repeat (refine zw_go rfl rfl (fun _ _ => rfl) ?_)
      exact zw_ret rfl (fun _ _ => rfl) (⟨by rw [h5]; rfl, hQ⟩)
    · repeat (refine zw_go rfl rfl (fun _ _ => rfl) ?_)
      exact zw_ret rfl (fun _ _ => rfl) (⟨by rw [h2]; rfl, hQ⟩)
    · repeat (refine zw_go rfl rfl (fun _ _ => rfl) ?_)
      refine zw_call rfl (fun _ _ => rfl) (xCellsUp sc I J A B tl w h hW') (by decide) ?_
      rintro M1 r1 ⟨rfl, I', A', B', rfl, hW2, hC, hK⟩
      repeat (refine zw_go rfl rfl (fun _ _ => rfl) ?_)
      exact zw_ret rfl (fun _ _ => rfl) (⟨rfl, I', A', B', rfl, hW2, wk_xk hK⟩)
    · repeat (refine zw_go rfl rfl (fun _ _ => rfl) ?_)
      exact zw_ret rfl (fun _ _ => rfl) (⟨by rw [h11]; rfl, hQ⟩)
    · repeat (refine zw_go rfl rfl (fun _ _ => rfl) ?_)
      refine zw_call rfl (fun _ _ => rfl) (xThreaded sc I J A B tl w h0 hw) (by decide) ?_
      rintro M1 r1 ⟨rfl, rfl⟩
      repeat (refine zw_go rfl rfl (fun _ _ => rfl) ?_)
      exact zw_ret rfl (fun _ _ => rfl) (⟨rfl, hQ⟩)
  · unfold aAbout
    rw [if_neg hz]
    repeat (refine zw_go rfl rfl (fun _ _ => rfl) ?_)
    refine zw_tsd 100 rfl rfl (i32_out (by decide) hz) ?_
    repeat (refine zw_go rfl rfl (fun _ _ => rfl) ?_)
    exact zw_ret rfl (fun _ _ => rfl) (⟨rfl, hQ⟩)
set_option maxHeartbeats 4000000 in
set_option maxRecDepth 20000 in
theorem mAbout (z : Int32) (t k s : Nat) (hM : MH I A w h n V) (h2 : I 2 = nI t) (h3 : I 3 = nI k) (h5 : I 5 = nI s) : zC 5 sc 249 [.ref 47, .int z] (mm f I A B) (fun M r => r = some (.int (aAbout V w h t k n s z)) ∧ MR f I A B M) := by
  have hM' := hM
  obtain ⟨h0, h1, hw1, hw, hh1, hh, h4, hn, hv, hV⟩ := hM
  refine zc_of hkX11_about rfl ?_
  repeat (refine zw_go rfl rfl (fun _ _ => rfl) ?_)
  refine zw_call rfl (fun _ _ => rfl) (mD sc I A B f w h n V hM') (by decide) ?_
  rintro M1 r1 ⟨rfl, A', B', rfl, hD⟩
  have hQ : MR f I A B (mm f I A' B') := ⟨I, A', B', rfl, dr_mk hD⟩
  by_cases hz : 0 ≤ z ∧ z ≤ nI 7
  · obtain ⟨j, hj, rfl⟩ := inR_of (n := 8) ⟨hz.1, Int32.lt_of_le_of_lt hz.2 (by decide)⟩ (by decide)
    unfold aAbout
    rw [if_pos hz, nI_clamp (by omega)]
    rcases (show j = 0 ∨ j = 1 ∨ j = 2 ∨ j = 3 ∨ j = 4 ∨ j = 5 ∨ j = 6 ∨ j = 7 by omega) with rfl | rfl | rfl | rfl | rfl | rfl | rfl | rfl
    · repeat (refine zw_go rfl rfl (fun _ _ => rfl) ?_)
      exact zw_ret rfl (fun _ _ => rfl) (⟨by rw [h0]; rfl, hQ⟩)
    · repeat (refine zw_go rfl rfl (fun _ _ => rfl) ?_)
      exact zw_ret rfl (fun _ _ => rfl) (⟨by rw [h1]; rfl, hQ⟩)
    · repeat (refine zw_go rfl rfl (fun _ _ => rfl) ?_)
      exact zw_ret rfl (fun _ _ => rfl) (⟨by rw [h2]; rfl, hQ⟩)
    · repeat (refine zw_go rfl rfl (fun _ _ => rfl) ?_)
      exact zw_ret rfl (fun _ _ => rfl) (⟨by rw [h3]; rfl, hQ⟩)
    · repeat (refine zw_go rfl rfl (fun _ _ => rfl) ?_)
      exact zw_ret rfl (fun _ _ => rfl) (⟨by rw [h4]; rfl, hQ⟩)
    · repeat (refine zw_go rfl rfl (fun _ _ => rfl) ?_)
      have key : ∀ (k e : Nat), e + k = w → zW 4 sc miX11_about 79 [some (.ref 47), none, some (.int (nI (sumN (fun e => cnt (fun p => vUp V e p) h) e))), some (.int (nI e))] [] (mm f I A' B') (fun M r => r = some (.int (nI (nUp V w h))) ∧ MR f I A B M) := by
        intro k
        induction k with
        | zero =>
          intro e he
          have e1 : e = w := by omega
          subst e1
          refine zw_nx rfl (fun _ _ => rfl) ?_
          repeat (refine zw_go rfl rfl (fun _ _ => rfl) ?_)
          first | refine zw_br rfl (fun _ _ => rfl) (fun _ => ?_) (fun h9 => absurd (show I 0 ≤ nI e by rw [h0]; exact Int32.le_refl _) h9) | refine zw_nx rfl (fun _ _ => rfl) ?_
          repeat (refine zw_go rfl rfl (fun _ _ => rfl) ?_)
          exact zw_ret rfl (fun _ _ => rfl) (⟨by rw [nUp_sw], hQ⟩)
        | succ k ih =>
          intro e he
          have hn := ih (e + 1) (by omega)
          rw [nI_succ, sumN, ← nI_add] at hn
          refine zw_nx rfl (fun _ _ => rfl) ?_
          repeat (refine zw_go rfl rfl (fun _ _ => rfl) ?_)
          first | refine zw_br rfl (fun _ _ => rfl) (fun h9 => absurd h9 (show ¬ I 0 ≤ nI e by rw [h0]; exact nI_ge (by omega) (by omega))) (fun _ => ?_) | refine zw_nx rfl (fun _ _ => rfl) ?_
          repeat (refine zw_go rfl rfl (fun _ _ => rfl) ?_)
          refine zw_ix rfl (fun _ _ => rfl) (show vp_in (nI (e)) _ from vp_in_nI (by omega) (by omega)) ?_
          rw [show (nI (e)).toNatClampNeg = e from nI_clamp (by omega)]
          repeat (refine zw_go rfl rfl (fun _ _ => rfl) ?_)
          refine zw_call rfl (fun _ _ => rfl) (mUnlike sc (mm f I A' B') (B' 1 e) 0) (by decide) ?_
          rintro M1 r1 ⟨rfl, rfl⟩
          rw [hD.2.2.2.2.2.1 e (by omega), show mk (fun p => vUp V e p) h ^^^ 0 = mk (fun p => vUp V e p) h from lb_ext (fun i _ => by rw [lb_xor, lb_0, Bool.xor_false]), cnt_mk (by omega)]
          repeat (refine zw_go rfl rfl (fun _ _ => rfl) ?_)
          exact zw_kp hn
      exact zw_kp (key w 0 (by omega))
    · repeat (refine zw_go rfl rfl (fun _ _ => rfl) ?_)
      exact zw_ret rfl (fun _ _ => rfl) (⟨by rw [h5]; rfl, hQ⟩)
    · repeat (refine zw_go rfl rfl (fun _ _ => rfl) ?_)
      have key : ∀ (k e : Nat), e + k = w → zW 4 sc miX11_about 115 [some (.ref 47), none, some (.int (nI (nThr V e))), some (.int (nI e))] [] (mm f I A' B') (fun M r => r = some (.int (nI (nThr V w))) ∧ MR f I A B M) := by
        intro k
        induction k with
        | zero =>
          intro e he
          have e1 : e = w := by omega
          subst e1
          refine zw_nx rfl (fun _ _ => rfl) ?_
          repeat (refine zw_go rfl rfl (fun _ _ => rfl) ?_)
          first | refine zw_br rfl (fun _ _ => rfl) (fun _ => ?_) (fun h9 => absurd (show I 0 ≤ nI e by rw [h0]; exact Int32.le_refl _) h9) | refine zw_nx rfl (fun _ _ => rfl) ?_
          repeat (refine zw_go rfl rfl (fun _ _ => rfl) ?_)
          exact zw_ret rfl (fun _ _ => rfl) (⟨rfl, hQ⟩)
        | succ k ih =>
          intro e he
          have hn := ih (e + 1) (by omega)
          rw [nI_succ, nThr, cnt] at hn
          refine zw_nx rfl (fun _ _ => rfl) ?_
          repeat (refine zw_go rfl rfl (fun _ _ => rfl) ?_)
          first | refine zw_br rfl (fun _ _ => rfl) (fun h9 => absurd h9 (show ¬ I 0 ≤ nI e by rw [h0]; exact nI_ge (by omega) (by omega))) (fun _ => ?_) | refine zw_nx rfl (fun _ _ => rfl) ?_
          repeat (refine zw_go rfl rfl (fun _ _ => rfl) ?_)
          refine zw_ix rfl (fun _ _ => rfl) (show vp_in (nI (e)) _ from vp_in_nI (by omega) (by omega)) ?_
          rw [show (nI (e)).toNatClampNeg = e from nI_clamp (by omega)]
          repeat (refine zw_go rfl rfl (fun _ _ => rfl) ?_)
          rw [hD.1 e (by omega)]
          rcases hV.1 e (by omega) with h6 | ⟨q, hq, h6⟩
          · rw [if_neg (by simp [h6]), Nat.add_zero] at hn
            rw [h6]
            repeat (refine zw_go rfl rfl (fun _ _ => rfl) ?_)
            rw [show ∀ q : Int32, q + Int32.ofInt 0 = q from fun q => Int32.add_zero q]
            exact zw_kp hn
          · have h7 : ¬ V e = -1 := by
              rw [h6]
              intro h8
              exact absurd (by rw [← h8]; exact nI_pos' (by omega) : (0 : Int32) ≤ -1) (by decide)
            rw [if_pos (by simpa using h7), ← nI_1] at hn
            rw [h6]
            first | refine zw_br rfl (fun _ _ => rfl) (fun h9 => absurd h9 (show ¬ nI q < (0 : Int32) from nI_pos (by omega))) (fun _ => ?_) | refine zw_nx rfl (fun _ _ => rfl) ?_
            repeat (refine zw_go rfl rfl (fun _ _ => rfl) ?_)
            exact zw_kp hn
      exact zw_kp (key w 0 (by omega))
  · unfold aAbout
    rw [if_neg hz]
    repeat (refine zw_go rfl rfl (fun _ _ => rfl) ?_)
    refine zw_tsd 148 rfl rfl (i32_out (by decide) hz) ?_
    repeat (refine zw_go rfl rfl (fun _ _ => rfl) ?_)
    exact zw_ret rfl (fun _ _ => rfl) (⟨rfl, hQ⟩)
/-- the first place from i on, of k -/
def ffst (p : Nat → Bool) : Nat → Nat → Int32
  | 0, _ => -1
  | k + 1, i => if p i then nI i else ffst p k (i + 1)
/-- the lowest TREADLE -/
def lowT (V : Nat → Int32) (e p : Nat) : Int32 := if V e < 0 then -1 else ffst (fun t => ib (V (64 + p)) t && ib (V (48 + t)) (V e).toNatClampNeg) 16 0
set_option maxHeartbeats 4000000 in
set_option maxRecDepth 20000 in
theorem xLowest (p s : Nat) (hp : p < 48) (hs : s < 16) : zC 2 sc 153 [.ref 0, .int (nI s), .int (nI p)] (xm I J A B tl) (zR (xm I J A B tl) (.int (ffst (fun t => ib (A 3 (64 + p)) t && ib (A 3 (48 + t)) s) 16 0))) := by
  refine zc_of hkX10_lowestTreadle rfl ?_
  repeat (refine zw_go rfl rfl (fun _ _ => rfl) ?_)
  first | refine zw_br rfl (fun _ _ => rfl) (fun _ => ?_) (fun h9 => absurd (show (0 : Int32) ≤ nI s from nI_pos' (by omega)) h9) | refine zw_nx rfl (fun _ _ => rfl) ?_
  repeat (refine zw_go rfl rfl (fun _ _ => rfl) ?_)
  rw [show (Int8.ofInt 64).toInt32 + nI p = nI (64 + p) from nI_add 64 p]
  refine zw_call rfl (fun _ _ => rfl) (cValueOf sc I J A B tl (64 + p) (by omega)) (by decide) ?_
  rintro M1 r1 ⟨rfl, rfl⟩
  repeat (refine zw_go rfl rfl (fun _ _ => rfl) ?_)
  have key : ∀ (k t : Nat), t + k = 16 → zW 1 sc miX10_lowestTreadle 21 [some (.ref 0), some (.int (nI s)), none, some (.int (A 3 (64 + p))), some (.int (nI t))] [] (xm I J A B tl) (zR (xm I J A B tl) (.int (ffst (fun t => ib (A 3 (64 + p)) t && ib (A 3 (48 + t)) s) k t))) := by
    intro k
    induction k with
    | zero =>
      intro t ht
      have e1 : t = 16 := by omega
      subst e1
      refine zw_nx rfl (fun _ _ => rfl) ?_
      repeat (refine zw_go rfl rfl (fun _ _ => rfl) ?_)
      exact zw_ret rfl (fun _ _ => rfl) (⟨rfl, rfl⟩)
    | succ k ih =>
      intro t ht
      have hn := ih (t + 1) (by omega)
      rw [nI_succ] at hn
      rw [ffst]
      refine zw_nx rfl (fun _ _ => rfl) ?_
      repeat (refine zw_go rfl rfl (fun _ _ => rfl) ?_)
      refine zw_br rfl (fun _ _ => rfl) (fun h9 => absurd h9 (nI_ge (a := t) (b := 16) (by omega) (by omega))) (fun _ => ?_)
      repeat (refine zw_go rfl rfl (fun _ _ => rfl) ?_)
      refine zw_call rfl (fun _ _ => rfl) (cHasN sc (xm I J A B tl) (A 3 (64 + p)).toInt64 (i := t) (by omega)) (by decide) ?_
      rintro M1 r1 ⟨rfl, rfl⟩
      rw [lb_i2l _ (by omega)]
      cases h1 : ib (A 3 (64 + p)) t
      · rw [Bool.false_and, if_neg (by simp)]
        repeat (refine zw_go rfl rfl (fun _ _ => rfl) ?_)
        exact zw_kp hn
      · rw [Bool.true_and]
        repeat (refine zw_go rfl rfl (fun _ _ => rfl) ?_)
        rw [show (Int8.ofInt 48).toInt32 + nI t = nI (48 + t) from nI_add 48 t]
        refine zw_call rfl (fun _ _ => rfl) (cValueOf sc I J A B tl (48 + t) (by omega)) (by decide) ?_
        rintro M1 r1 ⟨rfl, rfl⟩
        repeat (refine zw_go rfl rfl (fun _ _ => rfl) ?_)
        refine zw_call rfl (fun _ _ => rfl) (cHasN sc (xm I J A B tl) (A 3 (48 + t)).toInt64 (i := s) (by omega)) (by decide) ?_
        rintro M1 r1 ⟨rfl, rfl⟩
        rw [lb_i2l _ (by omega)]
        cases h2 : ib (A 3 (48 + t)) s
        · rw [if_neg (by simp)]
          repeat (refine zw_go rfl rfl (fun _ _ => rfl) ?_)
          exact zw_kp hn
        · rw [if_pos rfl]
          repeat (refine zw_go rfl rfl (fun _ _ => rfl) ?_)
          exact zw_ret rfl (fun _ _ => rfl) (⟨rfl, rfl⟩)
  exact zw_kp (key 16 0 (by omega))
set_option maxHeartbeats 4000000 in
set_option maxRecDepth 20000 in
theorem xLowestN (p : Nat) : zC 2 sc 153 [.ref 0, .int (-1), .int (nI p)] (xm I J A B tl) (zR (xm I J A B tl) (.int (-1))) := by
  refine zc_of hkX10_lowestTreadle rfl ?_
  repeat (refine zw_go rfl rfl (fun _ _ => rfl) ?_)
  exact zw_ret rfl (fun _ _ => rfl) (⟨rfl, rfl⟩)
/-- lead's answer -/
def aLead (V T : Nat → Int32) (w h : Nat) (x y z : Int32) : Int32 := if (0 ≤ x ∧ x < nI w) ∧ (0 ≤ y ∧ y < nI h) ∧ (0 ≤ z ∧ z ≤ nI 3) then (match z.toNatClampNeg with | 0 => V x.toNatClampNeg | 1 => lowT V x.toNatClampNeg y.toNatClampNeg | 2 => T x.toNatClampNeg | _ => T (64 + y.toNatClampNeg)) else -1
set_option maxHeartbeats 4000000 in
set_option maxRecDepth 20000 in
theorem xLead (x y z : Int32) (hW : WH w h I J A B) : zC 5 sc 128 [.ref 0, .int x, .int y, .int z] (xm I J A B tl) (zR (xm I J A B tl) (.int (aLead (A 3) (A 4) w h x y z))) := by
  obtain ⟨h0, h1, h7, h8, hw1, hw, hh1, hh, hJ, hV, hC', hR⟩ := hW
  unfold aLead
  refine zc_of hkX10_lead rfl ?_
  repeat (refine zw_go rfl rfl (fun _ _ => rfl) ?_)
  refine zw_call rfl (fun _ _ => rfl) (xIsEnd sc I J A B tl x w h0) (by decide) ?_
  rintro M1 r1 ⟨rfl, rfl⟩
  repeat (refine zw_go rfl rfl (fun _ _ => rfl) ?_)
  refine zw_br rfl (fun _ _ => rfl) (fun (hc : bI (0 ≤ x ∧ x < nI w) = 0) => ?_) (fun (hc : ¬ (bI (0 ≤ x ∧ x < nI w) = 0)) => ?_)
  · repeat (refine zw_go rfl rfl (fun _ _ => rfl) ?_)
    exact zw_ret rfl (fun _ _ => rfl) (⟨rfl, by rw [if_neg (fun z => bI_0.mp hc z.1)]; rfl⟩)
  · have he := bI_of hc
    repeat (refine zw_go rfl rfl (fun _ _ => rfl) ?_)
    refine zw_call rfl (fun _ _ => rfl) (xIsPick sc I J A B tl y h h1) (by decide) ?_
    rintro M1 r1 ⟨rfl, rfl⟩
    repeat (refine zw_go rfl rfl (fun _ _ => rfl) ?_)
    refine zw_br rfl (fun _ _ => rfl) (fun (hd : bI (0 ≤ y ∧ y < nI h) = 0) => ?_) (fun (hd : ¬ (bI (0 ≤ y ∧ y < nI h) = 0)) => ?_)
    · repeat (refine zw_go rfl rfl (fun _ _ => rfl) ?_)
      exact zw_ret rfl (fun _ _ => rfl) (⟨rfl, by rw [if_neg (fun z => bI_0.mp hd z.2.1)]; rfl⟩)
    · have hp := bI_of hd
      repeat (refine zw_go rfl rfl (fun _ _ => rfl) ?_)
      by_cases hz : 0 ≤ z ∧ z ≤ nI 3
      · rw [if_pos ⟨he, hp, hz⟩]
        obtain ⟨e, hew, rfl⟩ := inR_of he (by omega)
        obtain ⟨p, hph, rfl⟩ := inR_of hp (by omega)
        obtain ⟨j, hj, rfl⟩ := inR_of (n := 4) ⟨hz.1, Int32.lt_of_le_of_lt hz.2 (by decide)⟩ (by decide)
        rw [nI_clamp (n := e) (by omega), nI_clamp (n := p) (by omega), nI_clamp (n := j) (by omega)]
        have e0 : (Int32.ofInt 0) + nI e = nI e := by rw [show (Int32.ofInt 0) = nI 0 from rfl, nI_add, Nat.zero_add]
        rcases (show j = 0 ∨ j = 1 ∨ j = 2 ∨ j = 3 by omega) with rfl | rfl | rfl | rfl
        · repeat (refine zw_go rfl rfl (fun _ _ => rfl) ?_)
          rw [e0]
          refine zw_call rfl (fun _ _ => rfl) (cValueOf sc I J A B tl e (by omega)) (by decide) ?_
          rintro M1 r1 ⟨rfl, rfl⟩
          repeat (refine zw_go rfl rfl (fun _ _ => rfl) ?_)
          exact zw_ret rfl (fun _ _ => rfl) (⟨rfl, rfl⟩)
        · repeat (refine zw_go rfl rfl (fun _ _ => rfl) ?_)
          rw [e0]
          refine zw_call rfl (fun _ _ => rfl) (cValueOf sc I J A B tl e (by omega)) (by decide) ?_
          rintro M1 r1 ⟨rfl, rfl⟩
          unfold lowT
          rcases hV.1 e (by omega) with h6 | ⟨q, hq, h6⟩
          · rw [h6]
            repeat (refine zw_go rfl rfl (fun _ _ => rfl) ?_)
            refine zw_call rfl (fun _ _ => rfl) (xLowestN sc I J A B tl p) (by decide) ?_
            rintro M1 r1 ⟨rfl, rfl⟩
            repeat (refine zw_go rfl rfl (fun _ _ => rfl) ?_)
            exact zw_ret rfl (fun _ _ => rfl) (⟨rfl, rfl⟩)
          · rw [h6, if_neg (nI_pos (by omega)), nI_clamp (by omega)]
            repeat (refine zw_go rfl rfl (fun _ _ => rfl) ?_)
            refine zw_call rfl (fun _ _ => rfl) (xLowest sc I J A B tl p q (by omega) hq) (by decide) ?_
            rintro M1 r1 ⟨rfl, rfl⟩
            repeat (refine zw_go rfl rfl (fun _ _ => rfl) ?_)
            exact zw_ret rfl (fun _ _ => rfl) (⟨rfl, rfl⟩)
        · repeat (refine zw_go rfl rfl (fun _ _ => rfl) ?_)
          rw [e0]
          refine zw_call rfl (fun _ _ => rfl) (cTimeOf sc I J A B tl e (by omega)) (by decide) ?_
          rintro M1 r1 ⟨rfl, rfl⟩
          repeat (refine zw_go rfl rfl (fun _ _ => rfl) ?_)
          exact zw_ret rfl (fun _ _ => rfl) (⟨rfl, rfl⟩)
        · repeat (refine zw_go rfl rfl (fun _ _ => rfl) ?_)
          rw [show (Int8.ofInt 64).toInt32 + nI p = nI (64 + p) from nI_add 64 p]
          refine zw_call rfl (fun _ _ => rfl) (cTimeOf sc I J A B tl (64 + p) (by omega)) (by decide) ?_
          rintro M1 r1 ⟨rfl, rfl⟩
          repeat (refine zw_go rfl rfl (fun _ _ => rfl) ?_)
          exact zw_ret rfl (fun _ _ => rfl) (⟨rfl, rfl⟩)
      · rw [if_neg (fun q => hz q.2.2)]
        refine zw_tsd 98 rfl rfl (i32_out (by decide) hz) ?_
        repeat (refine zw_go rfl rfl (fun _ _ => rfl) ?_)
        exact zw_ret rfl (fun _ _ => rfl) (⟨rfl, rfl⟩)
set_option maxHeartbeats 4000000 in
set_option maxRecDepth 20000 in
theorem mLead (T : Nat → Int32) (x y z : Int32) (hM : MH I A w h n V) (hT : ∀ a b, a ≤ 4 → b < ksz a → mTim A n (nI a) (nI b) (I 3) = T (sb a + b)) : zC 5 sc 181 [.ref 47, .int x, .int y, .int z] (mm f I A B) (fun M r => r = some (.int (aLead V T w h x y z)) ∧ MR f I A B M) := by
  have hM' := hM
  obtain ⟨h0, h1, hw1, hw, hh1, hh, h4, hn, hv, hV⟩ := hM
  unfold aLead
  refine zc_of hkX11_lead rfl ?_
  repeat (refine zw_go rfl rfl (fun _ _ => rfl) ?_)
  refine zw_call rfl (fun _ _ => rfl) (mIsEnd sc f I A B x w h0 hw1 hw) (by decide) ?_
  rintro M1 r1 ⟨rfl, rfl⟩
  repeat (refine zw_go rfl rfl (fun _ _ => rfl) ?_)
  refine zw_br rfl (fun _ _ => rfl) (fun (hc : bI (0 ≤ x ∧ x < nI w) = 0) => ?_) (fun (hc : ¬ (bI (0 ≤ x ∧ x < nI w) = 0)) => ?_)
  · repeat (refine zw_go rfl rfl (fun _ _ => rfl) ?_)
    exact zw_ret rfl (fun _ _ => rfl) (⟨by rw [if_neg (fun z => bI_0.mp hc z.1)]; rfl, I, A, B, rfl, mk_rfl⟩)
  · have he := bI_of hc
    repeat (refine zw_go rfl rfl (fun _ _ => rfl) ?_)
    refine zw_call rfl (fun _ _ => rfl) (mIsPick sc f I A B y h h1 hh1 hh) (by decide) ?_
    rintro M1 r1 ⟨rfl, rfl⟩
    repeat (refine zw_go rfl rfl (fun _ _ => rfl) ?_)
    refine zw_br rfl (fun _ _ => rfl) (fun (hd : bI (0 ≤ y ∧ y < nI h) = 0) => ?_) (fun (hd : ¬ (bI (0 ≤ y ∧ y < nI h) = 0)) => ?_)
    · repeat (refine zw_go rfl rfl (fun _ _ => rfl) ?_)
      exact zw_ret rfl (fun _ _ => rfl) (⟨by rw [if_neg (fun z => bI_0.mp hd z.2.1)]; rfl, I, A, B, rfl, mk_rfl⟩)
    · have hp := bI_of hd
      repeat (refine zw_go rfl rfl (fun _ _ => rfl) ?_)
      refine zw_call rfl (fun _ _ => rfl) (mIsIn sc (mm f I A B) z 0 (nI 3)) (by decide) ?_
      rintro M1 r1 ⟨rfl, rfl⟩
      repeat (refine zw_go rfl rfl (fun _ _ => rfl) ?_)
      refine zw_br rfl (fun _ _ => rfl) (fun (hf : bI (0 ≤ z ∧ z ≤ nI 3) = 0) => ?_) (fun (hf : ¬ (bI (0 ≤ z ∧ z ≤ nI 3) = 0)) => ?_)
      · repeat (refine zw_go rfl rfl (fun _ _ => rfl) ?_)
        exact zw_ret rfl (fun _ _ => rfl) (⟨by rw [if_neg (fun z => bI_0.mp hf z.2.2)]; rfl, I, A, B, rfl, mk_rfl⟩)
      · have hz := bI_of hf
        rw [if_pos ⟨he, hp, hz⟩]
        obtain ⟨e, hew, rfl⟩ := inR_of he (by omega)
        obtain ⟨p, hph, rfl⟩ := inR_of hp (by omega)
        obtain ⟨j, hj, rfl⟩ := inR_of (n := 4) ⟨hz.1, Int32.lt_of_le_of_lt hz.2 (by decide)⟩ (by decide)
        rw [nI_clamp (n := e) (by omega), nI_clamp (n := p) (by omega), nI_clamp (n := j) (by omega)]
        repeat (refine zw_go rfl rfl (fun _ _ => rfl) ?_)
        refine zw_call rfl (fun _ _ => rfl) (mD sc I A B f w h n V hM') (by decide) ?_
        rintro M1 r1 ⟨rfl, A', B', rfl, hD⟩
        have hQ : MR f I A B (mm f I A' B') := ⟨I, A', B', rfl, dr_mk hD⟩
        have hA3 : ∀ a, a < 4 → A' a = A a := (dr_mk (I := I) hD).2.1
        have tim : ∀ a b, a ≤ 4 → b < ksz a → mEnt A' n (nI a) (nI b) (I 3) = mEnt A n (nI a) (nI b) (I 3) := fun a b _ _ => by
          unfold mEnt
          rw [hA3 0 (by decide), hA3 1 (by decide), hA3 3 (by decide)]
        repeat (refine zw_go rfl rfl (fun _ _ => rfl) ?_)
        refine zw_ix rfl (fun _ _ => rfl) (show vp_in (nI (e)) _ from vp_in_nI (by omega) (by omega)) ?_
        rw [show (nI (e)).toNatClampNeg = e from nI_clamp (by omega)]
        repeat (refine zw_go rfl rfl (fun _ _ => rfl) ?_)
        rw [hD.1 e hew]
        rcases (show j = 0 ∨ j = 1 ∨ j = 2 ∨ j = 3 by omega) with rfl | rfl | rfl | rfl
        · repeat (refine zw_go rfl rfl (fun _ _ => rfl) ?_)
          exact zw_ret rfl (fun _ _ => rfl) (⟨rfl, hQ⟩)
        · repeat (refine zw_go rfl rfl (fun _ _ => rfl) ?_)
          unfold lowT
          rcases hV.1 e (by omega) with h6 | ⟨q, hq, h6⟩
          · rw [h6]
            repeat (refine zw_nx rfl (fun _ _ => rfl) ?_)
            exact zw_ret rfl (fun _ _ => rfl) (⟨rfl, hQ⟩)
          · rw [h6, if_neg (nI_pos (by omega)), nI_clamp (by omega)]
            have key : ∀ (k t : Nat), t + k = 16 → zW 4 sc miX11_lead 93 [some (.ref 47), none, some (.int (nI p)), none, some (.int (nI q)), some (.int (nI t))] [] (mm f I A' B') (fun M r => r = some (.int (ffst (fun t => ib (V (64 + p)) t && ib (V (48 + t)) q) k t)) ∧ MR f I A B M) := by
              intro k
              induction k with
              | zero =>
                intro t ht
                have e1 : t = 16 := by omega
                subst e1
                refine zw_nx rfl (fun _ _ => rfl) ?_
                repeat (refine zw_go rfl rfl (fun _ _ => rfl) ?_)
                exact zw_ret rfl (fun _ _ => rfl) (⟨rfl, hQ⟩)
              | succ k ih =>
                intro t ht
                have hn := ih (t + 1) (by omega)
                rw [nI_succ] at hn
                rw [ffst]
                refine zw_nx rfl (fun _ _ => rfl) ?_
                repeat (refine zw_go rfl rfl (fun _ _ => rfl) ?_)
                refine zw_br rfl (fun _ _ => rfl) (fun h9 => absurd h9 (nI_ge (a := t) (b := 16) (by omega) (by omega))) (fun _ => ?_)
                repeat (refine zw_go rfl rfl (fun _ _ => rfl) ?_)
                first | refine zw_br rfl (fun _ _ => rfl) (fun h9 => absurd h9 (show ¬ nI q < (0 : Int32) from nI_pos (by omega))) (fun _ => ?_) | refine zw_nx rfl (fun _ _ => rfl) ?_
                repeat (refine zw_go rfl rfl (fun _ _ => rfl) ?_)
                refine zw_ix rfl (fun _ _ => rfl) (show vp_in (nI (p)) _ from vp_in_nI (by omega) (by omega)) ?_
                rw [show (nI (p)).toNatClampNeg = p from nI_clamp (by omega)]
                repeat (refine zw_go rfl rfl (fun _ _ => rfl) ?_)
                rw [hD.2.2.1 p hph, show (V (64 + p) >>> (nI t &&& 31)) &&& Int32.ofInt 1 = if ib (V (64 + p)) t then 1 else 0 from bit_test _ (by omega)]
                cases h1 : ib (V (64 + p)) t
                · rw [Bool.false_and, if_neg (by simp), if_neg (by simp)]
                  repeat (refine zw_go rfl rfl (fun _ _ => rfl) ?_)
                  exact zw_kp hn
                · rw [Bool.true_and, if_pos rfl]
                  repeat (refine zw_go rfl rfl (fun _ _ => rfl) ?_)
                  refine zw_ix rfl (fun _ _ => rfl) (show vp_in (nI (t)) _ from vp_in_nI (by omega) (by omega)) ?_
                  rw [show (nI (t)).toNatClampNeg = t from nI_clamp (by omega)]
                  repeat (refine zw_go rfl rfl (fun _ _ => rfl) ?_)
                  rw [hD.2.1 t (by omega), show (V (48 + t) >>> (nI q &&& 31)) &&& Int32.ofInt 1 = if ib (V (48 + t)) q then 1 else 0 from bit_test _ (by omega)]
                  cases h2 : ib (V (48 + t)) q
                  · rw [if_neg (by simp), if_neg (by simp)]
                    repeat (refine zw_go rfl rfl (fun _ _ => rfl) ?_)
                    exact zw_kp hn
                  · rw [if_pos rfl, if_pos rfl]
                    repeat (refine zw_go rfl rfl (fun _ _ => rfl) ?_)
                    exact zw_ret rfl (fun _ _ => rfl) (⟨rfl, hQ⟩)
            exact zw_kp (key 16 0 (by omega))
        · repeat (refine zw_go rfl rfl (fun _ _ => rfl) ?_)
          refine zw_call rfl (fun _ _ => rfl) (mEntryOf sc f I A' B' 0 (nI e) n h4 hn) (by decide) ?_
          rintro M1 r1 ⟨rfl, rfl⟩
          have ht := hT 0 e (by omega) (by simp only [ksz]; omega)
          unfold mTim at ht
          rw [← tim 0 e (by omega) (by simp only [ksz]; omega), show nI 0 = 0 from rfl] at ht
          simp only [sb, Nat.zero_add] at ht
          cases hq : mEnt A' n 0 (nI e) (I 3) with
          | none =>
            rw [hq] at ht
            repeat (refine zw_go rfl rfl (fun _ _ => rfl) ?_)
            exact zw_ret rfl (fun _ _ => rfl) (⟨by rw [← ht]; rfl, hQ⟩)
          | some j =>
            rw [hq] at ht
            have hj : j < n := (zlast_some hq).1
            rw [show oI (some j) = nI j from rfl]
            repeat (refine zw_go rfl rfl (fun _ _ => rfl) ?_)
            first | refine zw_br rfl (fun _ _ => rfl) (fun _ => ?_) (fun h9 => absurd (show (0 : Int32) ≤ nI j from nI_pos' (by omega)) h9) | refine zw_nx rfl (fun _ _ => rfl) ?_
            repeat (refine zw_go rfl rfl (fun _ _ => rfl) ?_)
            refine zw_ix rfl (fun _ _ => rfl) (show vp_in (nI (j)) _ from vp_in_nI (by omega) (by omega)) ?_
            rw [show (nI (j)).toNatClampNeg = j from nI_clamp (by omega)]
            repeat (refine zw_go rfl rfl (fun _ _ => rfl) ?_)
            exact zw_ret rfl (fun _ _ => rfl) (⟨by rw [← ht, hA3 3 (by decide)]; rfl, hQ⟩)
        · repeat (refine zw_go rfl rfl (fun _ _ => rfl) ?_)
          refine zw_call rfl (fun _ _ => rfl) (mEntryOf sc f I A' B' 2 (nI p) n h4 hn) (by decide) ?_
          rintro M1 r1 ⟨rfl, rfl⟩
          have ht := hT 2 p (by omega) (by simp only [ksz]; omega)
          unfold mTim at ht
          rw [← tim 2 p (by omega) (by simp only [ksz]; omega), show nI 2 = 2 from rfl] at ht
          cases hq : mEnt A' n 2 (nI p) (I 3) with
          | none =>
            rw [hq] at ht
            repeat (refine zw_go rfl rfl (fun _ _ => rfl) ?_)
            exact zw_ret rfl (fun _ _ => rfl) (⟨congrArg (fun z => some (Value.int z)) ht, hQ⟩)
          | some j =>
            rw [hq] at ht
            have hj : j < n := (zlast_some hq).1
            rw [show oI (some j) = nI j from rfl]
            repeat (refine zw_go rfl rfl (fun _ _ => rfl) ?_)
            first | refine zw_br rfl (fun _ _ => rfl) (fun _ => ?_) (fun h9 => absurd (show (0 : Int32) ≤ nI j from nI_pos' (by omega)) h9) | refine zw_nx rfl (fun _ _ => rfl) ?_
            repeat (refine zw_go rfl rfl (fun _ _ => rfl) ?_)
            refine zw_ix rfl (fun _ _ => rfl) (show vp_in (nI (j)) _ from vp_in_nI (by omega) (by omega)) ?_
            rw [show (nI (j)).toNatClampNeg = j from nI_clamp (by omega)]
            repeat (refine zw_go rfl rfl (fun _ _ => rfl) ?_)
            exact zw_ret rfl (fun _ _ => rfl) (⟨by rw [hA3 3 (by decide)]; exact congrArg (fun z => some (Value.int z)) ht, hQ⟩)
end

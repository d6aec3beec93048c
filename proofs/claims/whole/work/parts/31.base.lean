/-! steps up to the next loop's head; what weave and draw leave -/
theorem zw_go {D : Nat} {sc : sm_S} {mi : sm_MI} {pc : Nat} {L : sm_L} {st : List Value} {M : sm_M} {Post : sm_M → Option Value → Prop} {i : Instr} {pc' : Nat} {L' : sm_L} {st' : List Value} {M1 : sm_M} (hh : sm_fd mi.2.2.2.2.2.1 pc = none) (hi : sm_fd mi.2.2.2.2.1 pc = some i) (h : ∀ cal k, sm_ex cal sc mi k pc (sm_kp mi.2.2.2.2.2.1 pc L) st M i = k pc' L' st' M1) (hn : zW D sc mi pc' L' st' M1 Post) : zW D sc mi pc L st M Post := zw_nx hi h hn
theorem bI_of {c : Prop} [Decidable c] (h : ¬ bI c = 0) : c := by
  by_cases hc : c
  · exact hc
  · exact absurd (bI_0.mpr hc) h
/-- a set of 16 -/
def seOk (x : Int32) : Prop := ∃ q, q < 65536 ∧ x = nI q
/-- the values at the look are in their ranges -/
def VOk (V : Nat → Int32) : Prop := (∀ e, e < 48 → shOk (V e)) ∧ (∀ s, 48 ≤ s → s < 112 → seOk (V s)) ∧ (∀ s, 112 ≤ s → s < 208 → ∃ q, q < 10 ∧ V s = nI q)
/-- a LIFT, a CELL, by the values -/
abbrev vLi (V : Nat → Int32) : Nat → Int32 := liF (fun t => V (48 + t)) (fun p => V (64 + p))
abbrev vUp (V : Nat → Int32) : Nat → Nat → Bool := upF V (fun t => V (48 + t)) (fun p => V (64 + p))
/-- the class, as the cloth needs it -/
def WH (w h : Nat) (I : Nat → Int32) (J : Nat → Int64) (A : Nat → Nat → Int32) (B : Nat → Nat → Int64) : Prop := I 0 = nI w ∧ I 1 = nI h ∧ I 7 = nI w ∧ I 8 = nI h ∧ 1 ≤ w ∧ w ≤ 48 ∧ 1 ≤ h ∧ h ≤ 48 ∧ J 0 = mk (fun _ => true) w ∧ VOk (A 3) ∧ (I 10 = I 6 → ClOk I A B w h) ∧ RoZ B h
/-- what weave touches -/
def WK (I : Nat → Int32) (A : Nat → Nat → Int32) (B : Nat → Nat → Int64) (I' : Nat → Int32) (A' : Nat → Nat → Int32) (B' : Nat → Nat → Int64) : Prop := (∀ z, z ≠ 9 → z ≠ 10 → I' z = I z) ∧ I' 10 = I' 6 ∧ (∀ a, a ≠ 5 → A' a = A a) ∧ (∀ b, 4 < b → B' b = B b)
/-- THE CLOTH stands in its arrays, by the values -/
def CV (I : Nat → Int32) (A : Nat → Nat → Int32) (B : Nat → Nat → Int64) (w h : Nat) (V : Nat → Int32) : Prop :=
  (∀ p, p < h → A 5 p = vLi V p) ∧ (∀ p, p < h → B 0 p = mk (fun e => vUp V e p) w) ∧ (∀ e, e < w → B 1 e = mk (fun p => vUp V e p) h) ∧ (∀ s, s < 16 → B 2 s = mk (fun e => decide (V e = nI s)) w) ∧ (∀ s, s < 16 → B 3 s = mk (fun p => ib (vLi V p) s) h) ∧ (∀ t, t < 16 → B 4 t = mk (fun p => ib (V (64 + p)) t) h) ∧ I 9 = usF V w
section
variable (sc : sm_S) (I : Nat → Int32) (J : Nat → Int64) (A : Nat → Nat → Int32) (B : Nat → Nat → Int64) (tl : sm_M) (f : Nat → va_E) (w h n : Nat) (V : Nat → Int32)
theorem xWv (hW : WH w h I J A B) : zC 4 sc 1 [.ref 7] (xm I J A B tl) (fun M r => r = none ∧ ∃ I' A' B', M = xm I' J A' B' tl ∧ WH w h I' J A' B' ∧ CV I' A' B' w h (A 3) ∧ WK I A B I' A' B') := by
  obtain ⟨h0, h1, h7, h8, hw1, hw, hh1, hh, hJ, hV, hC, hR⟩ := hW
  refine zc_post (xWeave sc I J A B tl w h hw hh h7 h8 (fun e he => hV.1 e (by omega)) hC hR) ?_
  rintro M r ⟨rfl, I', A', B', rfl, c1, c2, c3, c4, c5, c6⟩
  have c4' : I' 10 = I' 6 := by rw [c4, c3 6 (by decide) (by decide)]
  refine ⟨rfl, I', A', B', rfl, ⟨?_, ?_, ?_, ?_, hw1, hw, hh1, hh, hJ, ?_, fun _ => c1, c2⟩, ?_, c3, c4', c5, c6⟩
  · rw [c3 0 (by decide) (by decide)]; exact h0
  · rw [c3 1 (by decide) (by decide)]; exact h1
  · rw [c3 7 (by decide) (by decide)]; exact h7
  · rw [c3 8 (by decide) (by decide)]; exact h8
  · rw [c5 3 (by decide)]; exact hV
  · rw [← c5 3 (by decide)]; exact c1
/-- the reference, as draw needs it -/
def MH (I : Nat → Int32) (A : Nat → Nat → Int32) (w h n : Nat) (V : Nat → Int32) : Prop := I 0 = nI w ∧ I 1 = nI h ∧ 1 ≤ w ∧ w ≤ 48 ∧ 1 ≤ h ∧ h ≤ 48 ∧ I 4 = nI n ∧ n ≤ 2000 ∧ (∀ a b, a ≤ 4 → b < ksz a → mVal A n (nI a) (nI b) (I 3) = V (sb a + b)) ∧ VOk V
/-- what draw leaves -/
def Dr (A : Nat → Nat → Int32) (B : Nat → Nat → Int64) (w h : Nat) (V : Nat → Int32) (A' : Nat → Nat → Int32) (B' : Nat → Nat → Int64) : Prop := (∀ x, x < w → A' 4 x = V x) ∧ (∀ t, t < 16 → A' 5 t = V (48 + t)) ∧ (∀ p, p < h → A' 6 p = V (64 + p)) ∧ (∀ p, p < h → A' 7 p = vLi V p) ∧ (∀ p, p < h → B' 0 p = mk (fun e => vUp V e p) w) ∧ (∀ e, e < w → B' 1 e = mk (fun p => vUp V e p) h) ∧ (∀ a, a ≠ 4 → a ≠ 5 → a ≠ 6 → a ≠ 7 → A' a = A a) ∧ (∀ b, 2 ≤ b → B' b = B b)
theorem liF_cong {ti tr ti' tr' : Nat → Int32} {p : Nat} (h1 : ∀ t, t < 16 → ti t = ti' t) (h2 : tr p = tr' p) : liF ti tr p = liF ti' tr' p := by
  have key : ∀ n, n ≤ 16 → orI (fun t => ib (tr p) t) ti n = orI (fun t => ib (tr' p) t) ti' n := by
    intro n
    induction n with
    | zero => intro _; rfl
    | succ n ih =>
      intro hn
      rw [orI, orI, ih (by omega), h1 n (by omega), h2]
  exact key 16 (by omega)
theorem mD (hM : MH I A w h n V) : zC 4 sc 176 [.ref 47] (mm f I A B) (fun M r => r = none ∧ ∃ A' B', M = mm f I A' B' ∧ Dr A B w h V A' B') := by
  obtain ⟨h0, h1, hw1, hw, hh1, hh, h4, hn, hv, hV⟩ := hM
  have e0 : ∀ x, x < w → mVal A n 0 (nI x) (I 3) = V x := fun x hx => by
    have := hv 0 x (by omega) (by simp only [ksz]; omega)
    simp only [sb, Nat.zero_add] at this
    exact this
  have e1 : ∀ x, x < 16 → mVal A n 1 (nI x) (I 3) = V (48 + x) := fun x hx => hv 1 x (by omega) (by simp only [ksz]; omega)
  have e2 : ∀ x, x < h → mVal A n 2 (nI x) (I 3) = V (64 + x) := fun x hx => hv 2 x (by omega) (by simp only [ksz]; omega)
  have e3 : ∀ p, p < h → liF (fun x => mVal A n 1 (nI x) (I 3)) (fun x => mVal A n 2 (nI x) (I 3)) p = vLi V p := fun p hp => liF_cong (fun t ht => e1 t ht) (e2 p hp)
  have e4 : ∀ e p, e < w → p < h → mUp A n (I 3) e p = vUp V e p := fun e p he hp => by
    unfold mUp vUp upF
    rw [e3 p hp]
    show (decide (0 ≤ mVal A n 0 (nI e) (I 3)) && ib (vLi V p) (mVal A n 0 (nI e) (I 3)).toNatClampNeg) = _
    rw [e0 e he]
  refine zc_post (mDraw sc f I A B n w h h4 hn hw hh h0 h1 (fun x hx => by rw [e0 x hx]; exact hV.1 x (by omega))) ?_
  rintro M r ⟨rfl, rfl⟩
  refine ⟨rfl, _, _, rfl, fun x hx => ?_, fun x hx => ?_, fun x hx => ?_, fun x hx => ?_, fun x hx => ?_, fun x hx => ?_, fun a g4 g5 g6 g7 => ?_, fun b hb => ?_⟩
  · exact (wr_in (F := fun x => mVal A n 0 (nI x) (I 3)) (g := A 4) hx).trans (e0 x hx)
  · exact (wr_in (F := fun x => mVal A n 1 (nI x) (I 3)) (g := A 5) hx).trans (e1 x hx)
  · exact (wr_in (F := fun x => mVal A n 2 (nI x) (I 3)) (g := A 6) hx).trans (e2 x hx)
  · exact (wr_in (F := liF (fun x => mVal A n 1 (nI x) (I 3)) (fun x => mVal A n 2 (nI x) (I 3))) (g := A 7) hx).trans (e3 x hx)
  · exact (wr_in (F := fun p => mk (fun e => mUp A n (I 3) e p) w) (g := B 0) hx).trans (mk_cong (fun e he => e4 e x he hx))
  · exact (wr_in (F := fun e => mk (fun p => mUp A n (I 3) e p) h) (g := B 1) hx).trans (mk_cong (fun p hp => e4 x p hx hp))
  · unfold dwA drA va_up
    rw [if_neg g7, if_neg g6, if_neg g5, if_neg g4]
  · unfold dwB drB va_up
    rw [if_neg (by omega), if_neg (by omega)]
/-! lift, row -/
set_option maxHeartbeats 4000000 in
set_option maxRecDepth 20000 in
theorem xLift (x : Int32) (hW : WH w h I J A B) : zC 5 sc 126 [.ref 0, .int x] (xm I J A B tl) (fun M r => r = some (.int (if 0 ≤ x ∧ x < nI h then vLi (A 3) x.toNatClampNeg else -1)) ∧ ∃ I' A' B', M = xm I' J A' B' tl ∧ WH w h I' J A' B' ∧ WK I A B I' A' B') := by
  refine zc_of hkX10_lift rfl ?_
  repeat (refine zw_go rfl rfl (fun _ _ => rfl) ?_)
  refine zw_call rfl (fun _ _ => rfl) (xWv sc I J A B tl w h hW) (by decide) ?_
  rintro M1 r1 ⟨rfl, I', A', B', rfl, hW', hC, hK⟩
  obtain ⟨h0, h1, h7, h8, hw1, hw, hh1, hh, hJ, hV, hC', hR⟩ := hW'
  repeat (refine zw_go rfl rfl (fun _ _ => rfl) ?_)
  refine zw_call rfl (fun _ _ => rfl) (xIsPick sc I' J A' B' tl x h h1) (by decide) ?_
  rintro M1 r1 ⟨rfl, rfl⟩
  repeat (refine zw_go rfl rfl (fun _ _ => rfl) ?_)
  refine zw_br rfl (fun _ _ => rfl) (fun (hc : bI (0 ≤ x ∧ x < nI h) = 0) => ?_) (fun (hc : ¬ (bI (0 ≤ x ∧ x < nI h) = 0)) => ?_)
  · repeat (refine zw_go rfl rfl (fun _ _ => rfl) ?_)
    refine zw_ret rfl (fun _ _ => rfl) ?_
    exact ⟨by rw [if_neg (bI_0.mp hc)]; try rfl, I', A', B', rfl, ⟨h0, h1, h7, h8, hw1, hw, hh1, hh, hJ, hV, hC', hR⟩, hK⟩
  · have he := bI_of hc
    rw [if_pos he]
    obtain ⟨j, hj, rfl⟩ := inR_of he (by omega)
    repeat (refine zw_go rfl rfl (fun _ _ => rfl) ?_)
    refine zw_ix rfl (fun _ _ => rfl) (show vp_in (nI (j)) _ from vp_in_nI (by omega) (by omega)) ?_
    rw [show (nI (j)).toNatClampNeg = j from nI_clamp (by omega)]
    repeat (refine zw_go rfl rfl (fun _ _ => rfl) ?_)
    refine zw_ret rfl (fun _ _ => rfl) ?_
    exact ⟨by rw [hC.1 j hj], I', A', B', rfl, ⟨h0, h1, h7, h8, hw1, hw, hh1, hh, hJ, hV, hC', hR⟩, hK⟩
set_option maxHeartbeats 4000000 in
set_option maxRecDepth 20000 in
theorem mLift (x : Int32) (hM : MH I A w h n V) : zC 5 sc 179 [.ref 47, .int x] (mm f I A B) (fun M r => r = some (.int (if 0 ≤ x ∧ x < nI h then vLi V x.toNatClampNeg else -1)) ∧ (M = mm f I A B ∨ ∃ A' B', M = mm f I A' B' ∧ Dr A B w h V A' B')) := by
  have hM' := hM
  obtain ⟨h0, h1, hw1, hw, hh1, hh, h4, hn, hv, hV⟩ := hM
  refine zc_of hkX11_lift rfl ?_
  repeat (refine zw_go rfl rfl (fun _ _ => rfl) ?_)
  refine zw_call rfl (fun _ _ => rfl) (mIsPick sc f I A B x h h1 hh1 hh) (by decide) ?_
  rintro M1 r1 ⟨rfl, rfl⟩
  repeat (refine zw_go rfl rfl (fun _ _ => rfl) ?_)
  refine zw_br rfl (fun _ _ => rfl) (fun (hc : bI (0 ≤ x ∧ x < nI h) = 0) => ?_) (fun (hc : ¬ (bI (0 ≤ x ∧ x < nI h) = 0)) => ?_)
  · repeat (refine zw_go rfl rfl (fun _ _ => rfl) ?_)
    refine zw_ret rfl (fun _ _ => rfl) ?_
    exact ⟨by rw [if_neg (bI_0.mp hc)]; try rfl, Or.inl rfl⟩
  · have he := bI_of hc
    rw [if_pos he]
    obtain ⟨j, hj, rfl⟩ := inR_of he (by omega)
    repeat (refine zw_go rfl rfl (fun _ _ => rfl) ?_)
    refine zw_call rfl (fun _ _ => rfl) (mD sc I A B f w h n V hM') (by decide) ?_
    rintro M1 r1 ⟨rfl, A', B', rfl, hD⟩
    repeat (refine zw_go rfl rfl (fun _ _ => rfl) ?_)
    refine zw_ix rfl (fun _ _ => rfl) (show vp_in (nI (j)) _ from vp_in_nI (by omega) (by omega)) ?_
    rw [show (nI (j)).toNatClampNeg = j from nI_clamp (by omega)]
    repeat (refine zw_go rfl rfl (fun _ _ => rfl) ?_)
    refine zw_ret rfl (fun _ _ => rfl) ?_
    exact ⟨by rw [hD.2.2.2.1 j hj], Or.inr ⟨A', B', rfl, hD⟩⟩
set_option maxHeartbeats 4000000 in
set_option maxRecDepth 20000 in
theorem xRow (x : Int32) (hW : WH w h I J A B) : zC 5 sc 127 [.ref 0, .int x] (xm I J A B tl) (fun M r => r = some (.long (if 0 ≤ x ∧ x < nI h then mk (fun e => vUp (A 3) e x.toNatClampNeg) w else -1)) ∧ ∃ I' A' B', M = xm I' J A' B' tl ∧ WH w h I' J A' B' ∧ WK I A B I' A' B') := by
  refine zc_of hkX10_row rfl ?_
  repeat (refine zw_go rfl rfl (fun _ _ => rfl) ?_)
  refine zw_call rfl (fun _ _ => rfl) (xWv sc I J A B tl w h hW) (by decide) ?_
  rintro M1 r1 ⟨rfl, I', A', B', rfl, hW', hC, hK⟩
  obtain ⟨h0, h1, h7, h8, hw1, hw, hh1, hh, hJ, hV, hC', hR⟩ := hW'
  repeat (refine zw_go rfl rfl (fun _ _ => rfl) ?_)
  refine zw_call rfl (fun _ _ => rfl) (xIsPick sc I' J A' B' tl x h h1) (by decide) ?_
  rintro M1 r1 ⟨rfl, rfl⟩
  repeat (refine zw_go rfl rfl (fun _ _ => rfl) ?_)
  refine zw_br rfl (fun _ _ => rfl) (fun (hc : bI (0 ≤ x ∧ x < nI h) = 0) => ?_) (fun (hc : ¬ (bI (0 ≤ x ∧ x < nI h) = 0)) => ?_)
  · repeat (refine zw_go rfl rfl (fun _ _ => rfl) ?_)
    refine zw_ret rfl (fun _ _ => rfl) ?_
    exact ⟨by rw [if_neg (bI_0.mp hc)]; try rfl, I', A', B', rfl, ⟨h0, h1, h7, h8, hw1, hw, hh1, hh, hJ, hV, hC', hR⟩, hK⟩
  · have he := bI_of hc
    rw [if_pos he]
    obtain ⟨j, hj, rfl⟩ := inR_of he (by omega)
    repeat (refine zw_go rfl rfl (fun _ _ => rfl) ?_)
    refine zw_ix rfl (fun _ _ => rfl) (show vp_in (nI (j)) _ from vp_in_nI (by omega) (by omega)) ?_
    rw [show (nI (j)).toNatClampNeg = j from nI_clamp (by omega)]
    repeat (refine zw_go rfl rfl (fun _ _ => rfl) ?_)
    refine zw_ret rfl (fun _ _ => rfl) ?_
    exact ⟨by rw [hC.2.1 j hj], I', A', B', rfl, ⟨h0, h1, h7, h8, hw1, hw, hh1, hh, hJ, hV, hC', hR⟩, hK⟩
set_option maxHeartbeats 4000000 in
set_option maxRecDepth 20000 in
theorem mRow (x : Int32) (hM : MH I A w h n V) : zC 5 sc 180 [.ref 47, .int x] (mm f I A B) (fun M r => r = some (.long (if 0 ≤ x ∧ x < nI h then mk (fun e => vUp V e x.toNatClampNeg) w else -1)) ∧ (M = mm f I A B ∨ ∃ A' B', M = mm f I A' B' ∧ Dr A B w h V A' B')) := by
  have hM' := hM
  obtain ⟨h0, h1, hw1, hw, hh1, hh, h4, hn, hv, hV⟩ := hM
  refine zc_of hkX11_row rfl ?_
  repeat (refine zw_go rfl rfl (fun _ _ => rfl) ?_)
  refine zw_call rfl (fun _ _ => rfl) (mIsPick sc f I A B x h h1 hh1 hh) (by decide) ?_
  rintro M1 r1 ⟨rfl, rfl⟩
  repeat (refine zw_go rfl rfl (fun _ _ => rfl) ?_)
  refine zw_br rfl (fun _ _ => rfl) (fun (hc : bI (0 ≤ x ∧ x < nI h) = 0) => ?_) (fun (hc : ¬ (bI (0 ≤ x ∧ x < nI h) = 0)) => ?_)
  · repeat (refine zw_go rfl rfl (fun _ _ => rfl) ?_)
    refine zw_ret rfl (fun _ _ => rfl) ?_
    exact ⟨by rw [if_neg (bI_0.mp hc)]; try rfl, Or.inl rfl⟩
  · have he := bI_of hc
    rw [if_pos he]
    obtain ⟨j, hj, rfl⟩ := inR_of he (by omega)
    repeat (refine zw_go rfl rfl (fun _ _ => rfl) ?_)
    refine zw_call rfl (fun _ _ => rfl) (mD sc I A B f w h n V hM') (by decide) ?_
    rintro M1 r1 ⟨rfl, A', B', rfl, hD⟩
    repeat (refine zw_go rfl rfl (fun _ _ => rfl) ?_)
    refine zw_ix rfl (fun _ _ => rfl) (show vp_in (nI (j)) _ from vp_in_nI (by omega) (by omega)) ?_
    rw [show (nI (j)).toNatClampNeg = j from nI_clamp (by omega)]
    repeat (refine zw_go rfl rfl (fun _ _ => rfl) ?_)
    refine zw_ret rfl (fun _ _ => rfl) ?_
    exact ⟨by rw [hD.2.2.2.2.1 j hj], Or.inr ⟨A', B', rfl, hD⟩⟩
end

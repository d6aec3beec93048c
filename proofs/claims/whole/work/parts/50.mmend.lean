/-! the reference: mend, mended, mendedShaft -/
section
variable (sc : sm_S) (I : Nat → Int32) (J : Nat → Int64) (A : Nat → Nat → Int32) (B : Nat → Nat → Int64) (tl : sm_M) (f : Nat → va_E) (w h n : Nat) (V : Nat → Int32) (S : Nat → Nat → Bool)
/-- a cost as an int -/
def cI : Option Nat → Int32
  | none => -1
  | some c => nI c
set_option maxHeartbeats 4000000 in
set_option maxRecDepth 20000 in
theorem mCost (lf : Nat → Int32) (hM : MH I A w h n V) (hl : ∀ p, p < h → A 7 p = lf p) (hS : RSOk B w h S) (hs : ∀ e, e < w → A 4 e = V e) : zC 3 sc 243 [.ref 47] (mm f I A B) (zR (mm f I A B) (.int (cI (cst lf S (fun e => idx (V e)) w h)))) := by
  have hM' := hM
  obtain ⟨h0, h1, hw1, hw, hh1, hh, h4, hn, hv, hV⟩ := hM
  refine zc_of hkX11_costOfEnds rfl ?_
  repeat (refine zw_go rfl rfl (fun _ _ => rfl) ?_)
  have key : ∀ (k e : Nat), e + k = w → (∀ a, a < e → sB (fit lf S h) 17 a = true) → zW 2 sc miX11_costOfEnds 4 [some (.ref 47), some (.int (nI (cnt (fun e => !fit lf S h (idx (V e)) e) e))), some (.int (nI e)), none] [] (mm f I A B) (zR (mm f I A B) (.int (cI (cst lf S (fun e => idx (V e)) w h)))) := by
    intro k
    induction k with
    | zero =>
      intro e he hl2
      have e1 : e = w := by omega
      subst e1
      refine zw_nx rfl (fun _ _ => rfl) ?_
      repeat (refine zw_go rfl rfl (fun _ _ => rfl) ?_)
      first | refine zw_br rfl (fun _ _ => rfl) (fun _ => ?_) (fun h9 => absurd (show I 0 ≤ nI e by rw [h0]; exact Int32.le_refl _) h9) | refine zw_nx rfl (fun _ _ => rfl) ?_
      repeat (refine zw_go rfl rfl (fun _ _ => rfl) ?_)
      refine zw_ret rfl (fun _ _ => rfl) ?_
      refine ⟨rfl, ?_⟩
      unfold cst
      rw [if_pos hl2]
      rfl
    | succ k ih =>
      intro e he hl2
      have hn1 := ih (e + 1) (by omega)
      rw [nI_succ, cnt] at hn1
      have hix := idx_k (hV.1 e (by omega))
      have hle := nrF_le (d := dK lf S h e) hix.2 (k := 17) (by omega)
      have l1 := dK_le (lf := lf) (S := S) (h := h) (e := e) (k := nrF (dK lf S h e) (idx (V e)) 17)
      refine zw_nx rfl (fun _ _ => rfl) ?_
      repeat (refine zw_go rfl rfl (fun _ _ => rfl) ?_)
      first | refine zw_br rfl (fun _ _ => rfl) (fun h9 => absurd h9 (show ¬ I 0 ≤ nI e by rw [h0]; exact nI_ge (by omega) (by omega))) (fun _ => ?_) | refine zw_nx rfl (fun _ _ => rfl) ?_
      repeat (refine zw_go rfl rfl (fun _ _ => rfl) ?_)
      refine zw_call rfl (fun _ _ => rfl) (mNearestOf sc I A B f w h n V S lf e (idx (V e)) (by omega) hix.2 hM' hl hS ((hs e (by omega)).trans hix.1)) (by decide) ?_
      rintro M1 r1 ⟨rfl, rfl⟩
      repeat (refine zw_go rfl rfl (fun _ _ => rfl) ?_)
      refine zw_call rfl (fun _ _ => rfl) (mColBy sc I A B f w h n V lf _ hle hM' hl) (by decide) ?_
      rintro M1 r1 ⟨rfl, rfl⟩
      repeat (refine zw_go rfl rfl (fun _ _ => rfl) ?_)
      refine zw_call rfl (fun _ _ => rfl) (mSeenCol sc I A B f w h n V S e (by omega) hM' hS) (by decide) ?_
      rintro M1 r1 ⟨rfl, rfl⟩
      repeat (refine zw_go rfl rfl (fun _ _ => rfl) ?_)
      refine zw_call rfl (fun _ _ => rfl) (mDk sc I A B f h S lf e _ hh) (by decide) ?_
      rintro M1 r1 ⟨rfl, rfl⟩
      repeat (refine zw_go rfl rfl (fun _ _ => rfl) ?_)
      by_cases hd : dK lf S h e (nrF (dK lf S h e) (idx (V e)) 17) = 0
      · have hsb : sB (fit lf S h) 17 e = true := sB_iff.mpr ⟨_, by omega, decide_eq_true hd⟩
        have hn2 := hn1 (fun a ha => by
          by_cases h5 : a = e
          · subst h5; exact hsb
          · exact hl2 a (by omega))
        rw [hd]
        repeat (refine zw_go rfl rfl (fun _ _ => rfl) ?_)
        refine zw_ix rfl (fun _ _ => rfl) (show vp_in (nI (e)) _ from vp_in_nI (by omega) (by omega)) ?_
        rw [show (nI (e)).toNatClampNeg = e from nI_clamp (by omega)]
        repeat (refine zw_go rfl rfl (fun _ _ => rfl) ?_)
        rw [hs e (by omega), hix.1, kI_idx hix.2]
        by_cases h5 : dK lf S h e (idx (V e)) = 0
        · rw [show fit lf S h (idx (V e)) e = true from decide_eq_true h5, if_neg (by simp), Nat.add_zero] at hn2
          rw [nrF_own h5]
          first | refine zw_br rfl (fun _ _ => rfl) (fun _ => ?_) (fun h9 => absurd (rfl) h9) | refine zw_nx rfl (fun _ _ => rfl) ?_
          repeat (refine zw_go rfl rfl (fun _ _ => rfl) ?_)
          rw [show ∀ q : Int32, q + Int32.ofInt 0 = q from fun q => Int32.add_zero q]
          exact zw_kp hn2
        · rw [show fit lf S h (idx (V e)) e = false from decide_eq_false h5, if_pos (by simp), ← nI_1] at hn2
          first | refine zw_br rfl (fun _ _ => rfl) (fun h9 => absurd h9 (show ¬ kI (nrF (dK lf S h e) (idx (V e)) 17) = kI (idx (V e)) from fun z => h5 (by rw [← kI_inj hle hix.2 z]; exact hd))) (fun _ => ?_) | refine zw_nx rfl (fun _ _ => rfl) ?_
          repeat (refine zw_go rfl rfl (fun _ _ => rfl) ?_)
          exact zw_kp hn2
      · have hno : ¬ (∀ a, a < w → sB (fit lf S h) 17 a = true) := fun z => by
          obtain ⟨j, hj, h5⟩ := sB_iff.mp (z e (by omega))
          have := (nrF_min (d := dK lf S h e) (b := idx (V e)) (n := 17)).2 j hj
          rw [of_decide_eq_true h5] at this
          omega
        first | refine zw_br rfl (fun _ _ => rfl) (fun h9 => absurd h9 (show ¬ nI (dK lf S h e (nrF (dK lf S h e) (idx (V e)) 17)) ≤ 0 from nI_nle (by omega) (by omega))) (fun _ => ?_) | refine zw_nx rfl (fun _ _ => rfl) ?_
        repeat (refine zw_go rfl rfl (fun _ _ => rfl) ?_)
        refine zw_ret rfl (fun _ _ => rfl) ?_
        refine ⟨rfl, ?_⟩
        unfold cst
        rw [if_neg hno]
        rfl
  exact zw_kp (key w 0 (by omega) (fun a ha => by omega))
/-- what mend leaves on its way: TIES, TREADS, SHAFTS as drawn; LIFTS by lf -/
def MnA (A : Nat → Nat → Int32) (w h : Nat) (V : Nat → Int32) (A' : Nat → Nat → Int32) : Prop := (∀ x, x < w → A' 4 x = V x) ∧ (∀ t, t < 16 → A' 5 t = V (48 + t)) ∧ (∀ p, p < h → A' 6 p = V (64 + p)) ∧ (∀ a, a ≠ 4 → a ≠ 5 → a ≠ 6 → a ≠ 7 → A' a = A a)
/-- the search's state -/
def MnS (I : Nat → Int32) (q : mSt) : Prop := I 23 = cI q.1 ∧ I 24 = q.2.1 ∧ I 25 = q.2.2
theorem mn_mk {I I' : Nat → Int32} {A A' : Nat → Nat → Int32} {B B' : Nat → Nat → Int64} {w h : Nat} {V : Nat → Int32} (hI : ∀ z, z < 23 → I' z = I z) (hA : MnA A w h V A') (hB : B' 4 = B 4) : MK I A B I' A' B' := ⟨fun z hz => hI z (by omega), fun a ha => hA.2.2.2 a (by omega) (by omega) (by omega) (by omega), hA.2.2.2 8 (by decide) (by decide) (by decide) (by decide), hB⟩
theorem xor2 (x b : Int32) : (x ^^^ b) ^^^ b = x := ib_ext (fun i hi => by rw [ib_xor, ib_xor, Bool.xor_assoc, Bool.xor_self, Bool.xor_false])
set_option maxHeartbeats 4000000 in
set_option maxRecDepth 20000 in
theorem mMend (hM : MH I A w h n V) (hS : RSOk B w h S) : zC 5 sc 244 [.ref 47] (mm f I A B) (fun M r => r = none ∧ ∃ I' A' B', M = mm f I' A' B' ∧ MnS I' (mFo V S w h 256) ∧ MnA A w h V A' ∧ (∀ p, p < h → A' 7 p = vLi V p) ∧ (∀ z, z < 23 → I' z = I z) ∧ B' 4 = B 4) := by
  have hM' := hM
  obtain ⟨h0, h1, hw1, hw, hh1, hh, h4, hn, hv, hV⟩ := hM
  refine zc_of hkX11_mend rfl ?_
  repeat (refine zw_go rfl rfl (fun _ _ => rfl) ?_)
  refine zw_call rfl (fun _ _ => rfl) (mD sc I A B f w h n V hM') (by decide) ?_
  rintro M1 r1 ⟨rfl, A1, B1, rfl, hD⟩
  have hM2 := mh_mk hM' (dr_mk (I := I) hD)
  have hB4 : B1 4 = B 4 := hD.2.2.2.2.2.2.2 4 (by decide)
  have hS2 : RSOk B1 w h S := fun p hp => by rw [hB4]; exact hS p hp
  repeat (refine zw_go rfl rfl (fun _ _ => rfl) ?_)
  refine zw_call rfl (fun _ _ => rfl) (mCost sc I A1 B1 f w h n V S (vLi V) hM2 hD.2.2.2.1 hS2 hD.1) (by decide) ?_
  rintro M1 r1 ⟨rfl, rfl⟩
  repeat (refine zw_go rfl rfl (fun _ _ => rfl) ?_)
  have outer : ∀ (k t : Nat) (I2 : Nat → Int32) (A2 : Nat → Nat → Int32), t + k = 16 → MnS I2 (mFo V S w h (16 * t)) → (∀ z, z < 23 → I2 z = I z) → MnA A w h V A2 → zW 4 sc miX11_mend 24 [some (.ref 47), some (.int (nI t)), none, none] [] (mm f I2 A2 B1) (fun M r => r = none ∧ ∃ I' A' B', M = mm f I' A' B' ∧ MnS I' (mFo V S w h 256) ∧ MnA A w h V A' ∧ (∀ p, p < h → A' 7 p = vLi V p) ∧ (∀ z, z < 23 → I' z = I z) ∧ B' 4 = B 4) := by
    intro k
    induction k with
    | zero =>
      intro t I2 A2 ht hq iK aK
      have e1 : t = 16 := by omega
      subst e1
      refine zw_nx rfl (fun _ _ => rfl) ?_
      repeat (refine zw_go rfl rfl (fun _ _ => rfl) ?_)
      refine zw_call rfl (fun _ _ => rfl) (mLifts sc f I2 A2 B1 h hh (by rw [iK 1 (by decide)]; exact h1) (fun a => V (48 + a)) (fun p => V (64 + p)) aK.2.1 aK.2.2.1) (by decide) ?_
      rintro M1 r1 ⟨rfl, rfl⟩
      refine zw_ret rfl (fun _ _ => rfl) ?_
      exact ⟨rfl, I2, _, B1, rfl, hq, ⟨aK.1, aK.2.1, aK.2.2.1, fun a h4 h5 h6 h7 => by
        show va_up A2 7 _ a = A a
        unfold va_up
        rw [if_neg h7]
        exact aK.2.2.2 a h4 h5 h6 h7⟩, fun p hp => wr_in (F := vLi V) (g := A2 7) hp, iK, hB4⟩
    | succ k ih =>
      intro t I2 A2 ht hq iK aK
      refine zw_nx rfl (fun _ _ => rfl) ?_
      repeat (refine zw_go rfl rfl (fun _ _ => rfl) ?_)
      refine zw_br rfl (fun _ _ => rfl) (fun h9 => absurd h9 (nI_ge (a := t) (b := 16) (by omega) (by omega))) (fun _ => ?_)
      repeat (refine zw_go rfl rfl (fun _ _ => rfl) ?_)
      have inner : ∀ (k s : Nat) (I2 : Nat → Int32) (A2 : Nat → Nat → Int32), s + k = 16 → MnS I2 (mFo V S w h (16 * t + s)) → (∀ z, z < 23 → I2 z = I z) → MnA A w h V A2 → zW 4 sc miX11_mend 32 [some (.ref 47), some (.int (nI t)), some (.int (nI s)), none] [] (mm f I2 A2 B1) (fun M r => r = none ∧ ∃ I' A' B', M = mm f I' A' B' ∧ MnS I' (mFo V S w h 256) ∧ MnA A w h V A' ∧ (∀ p, p < h → A' 7 p = vLi V p) ∧ (∀ z, z < 23 → I' z = I z) ∧ B' 4 = B 4) := by
        intro k
        induction k with
        | zero =>
          intro s I2 A2 hs hq iK aK
          have e1 : s = 16 := by omega
          subst e1
          have hn1 := ih (t + 1) I2 A2 (by omega) (by rw [show 16 * (t + 1) = 16 * t + 16 by omega]; exact hq) iK aK
          rw [nI_succ] at hn1
          refine zw_nx rfl (fun _ _ => rfl) ?_
          repeat (refine zw_go rfl rfl (fun _ _ => rfl) ?_)
          exact zw_kp hn1
        | succ k ih2 =>
          intro s I2 A2 hs hq iK aK
          have e6 : (16 * t + s) / 16 = t := by omega
          have e7 : (16 * t + s) % 16 = s := by omega
          have hok := mFo_ok (V := V) (S := S) (w := w) (h := h) hw (q := 16 * t + s) (by omega)
          have hn1 := fun I3 A3 => ih2 (s + 1) I3 A3 (by omega)
          rw [show 16 * t + (s + 1) = (16 * t + s) + 1 by omega, mFo, e6, e7, nI_succ] at hn1
          have i1 : I2 1 = nI h := by rw [iK 1 (by decide)]; exact h1
          refine zw_nx rfl (fun _ _ => rfl) ?_
          repeat (refine zw_go rfl rfl (fun _ _ => rfl) ?_)
          refine zw_br rfl (fun _ _ => rfl) (fun h9 => absurd h9 (nI_ge (a := s) (b := 16) (by omega) (by omega))) (fun _ => ?_)
          repeat (refine zw_go rfl rfl (fun _ _ => rfl) ?_)
          refine zw_ix rfl (fun _ _ => rfl) (show vp_in (nI (t)) _ from vp_in_nI (by omega) (by omega)) ?_
          rw [show (nI (t)).toNatClampNeg = t from nI_clamp (by omega)]
          repeat (refine zw_go rfl rfl (fun _ _ => rfl) ?_)
          refine zw_ix rfl (fun _ _ => rfl) (show vp_in (nI (t)) _ from vp_in_nI (by omega) (by omega)) ?_
          rw [show (nI (t)).toNatClampNeg = t from nI_clamp (by omega)]
          repeat (refine zw_go rfl rfl (fun _ _ => rfl) ?_)
          have hti : ∀ a, a < 16 → va_up A2 5 (upd (A2 5) t (A2 5 t ^^^ ((1 : Int32) <<< (nI s &&& 31)))) 5 a = tgT (fun a => V (48 + a)) t s a := fun a ha => by
            show upd (A2 5) t _ a = _
            unfold upd tgT
            by_cases h5 : a = t
            · rw [if_pos h5, if_pos h5, h5, aK.2.1 t (by omega)]
            · rw [if_neg h5, if_neg h5, aK.2.1 a ha]
          refine zw_call rfl (fun _ _ => rfl) (mLifts sc f I2 (va_up A2 5 (upd (A2 5) t (A2 5 t ^^^ ((1 : Int32) <<< (nI s &&& 31))))) B1 h hh i1 (tgT (fun a => V (48 + a)) t s) (fun p => V (64 + p)) hti aK.2.2.1) (by decide) ?_
          rintro M1 r1 ⟨rfl, rfl⟩
          have hM3 : MH I2 (va_up (va_up A2 5 (upd (A2 5) t (A2 5 t ^^^ ((1 : Int32) <<< (nI s &&& 31))))) 7 (wr (lfT V t s) (A2 7) h)) w h n V := by
            refine mh_mk (B := B) (B' := B1) hM' ⟨fun z hz => iK z (by omega), fun a ha => ?_, aK.2.2.2 8 (by decide) (by decide) (by decide) (by decide), hB4⟩
            rw [← aK.2.2.2 a (by omega) (by omega) (by omega) (by omega)]
            unfold va_up
            rw [if_neg (by omega), if_neg (by omega)]
          repeat (refine zw_go rfl rfl (fun _ _ => rfl) ?_)
          refine zw_call rfl (fun _ _ => rfl) (mCost sc I2 (va_up (va_up A2 5 (upd (A2 5) t (A2 5 t ^^^ ((1 : Int32) <<< (nI s &&& 31))))) 7 (wr (lfT V t s) (A2 7) h)) B1 f w h n V S (lfT V t s) hM3 (fun p hp => wr_in (F := lfT V t s) (g := A2 7) hp) hS2 aK.1) (by decide) ?_
          rintro M1 r1 ⟨rfl, rfl⟩
          repeat (refine zw_go rfl rfl (fun _ _ => rfl) ?_)
          refine zw_ix rfl (fun _ _ => rfl) (show vp_in (nI (t)) _ from vp_in_nI (by omega) (by omega)) ?_
          rw [show (nI (t)).toNatClampNeg = t from nI_clamp (by omega)]
          repeat (refine zw_go rfl rfl (fun _ _ => rfl) ?_)
          refine zw_ix rfl (fun _ _ => rfl) (show vp_in (nI (t)) _ from vp_in_nI (by omega) (by omega)) ?_
          rw [show (nI (t)).toNatClampNeg = t from nI_clamp (by omega)]
          repeat (refine zw_go rfl rfl (fun _ _ => rfl) ?_)
          have aK3 : MnA A w h V (va_up (va_up (va_up A2 5 (upd (A2 5) t (A2 5 t ^^^ ((1 : Int32) <<< (nI s &&& 31))))) 7 (wr (lfT V t s) (A2 7) h)) 5 (upd (upd (A2 5) t (A2 5 t ^^^ ((1 : Int32) <<< (nI s &&& 31)))) t (upd (A2 5) t (A2 5 t ^^^ ((1 : Int32) <<< (nI s &&& 31))) t ^^^ ((1 : Int32) <<< (nI s &&& 31))))) := by
            refine ⟨aK.1, fun a ha => ?_, aK.2.2.1, fun a h4 h5 h6 h7 => ?_⟩
            · show upd (upd (A2 5) t _) t (upd (A2 5) t _ t ^^^ _) a = V (48 + a)
              unfold upd
              by_cases h5 : a = t
              · rw [if_pos h5, if_pos rfl, xor2, h5, aK.2.1 t (by omega)]
              · rw [if_neg h5, if_neg h5, aK.2.1 a ha]
            · rw [← aK.2.2.2 a h4 h5 h6 h7]
              unfold va_up
              rw [if_neg h5, if_neg h7, if_neg h5]
          obtain ⟨q1, q2, q3⟩ := hq
          unfold mNx at hn1
          cases hc : cst (lfT V t s) S (fun e => idx (V e)) w h with
          | none =>
            rw [hc] at hn1
            repeat (refine zw_go rfl rfl (fun _ _ => rfl) ?_)
            exact zw_kp (hn1 I2 _ ⟨q1, q2, q3⟩ iK aK3)
          | some v =>
            have hv := cst_le hc
            rw [hc] at hn1
            have new : MnS (upd (upd (upd I2 23 (nI (v + 1))) 24 (nI t)) 25 (nI s)) (some (v + 1), nI t, nI s) := ⟨rfl, rfl, rfl⟩
            have iK3 : ∀ z, z < 23 → upd (upd (upd I2 23 (nI (v + 1))) 24 (nI t)) 25 (nI s) z = I z := fun z hz => by
              unfold upd
              rw [if_neg (by omega), if_neg (by omega), if_neg (by omega)]
              exact iK z hz
            rw [show cI (some v) = nI v from rfl]
            first | refine zw_br rfl (fun _ _ => rfl) (fun h9 => absurd h9 (show ¬ nI v < (0 : Int32) from nI_pos (by omega))) (fun _ => ?_) | refine zw_nx rfl (fun _ _ => rfl) ?_
            repeat (refine zw_go rfl rfl (fun _ _ => rfl) ?_)
            cases h5 : (mFo V S w h (16 * t + s)).1 with
            | none =>
              rw [h5] at q1
              have hn2 := hn1 (upd (upd (upd I2 23 (nI (v + 1))) 24 (nI t)) 25 (nI s)) _ (by rw [h5]; exact new) iK3 aK3
              rw [← nI_1] at hn2
              first | refine zw_br rfl (fun _ _ => rfl) (fun _ => ?_) (fun h9 => absurd (show I2 23 < 0 by rw [q1]; exact (by decide : (-1 : Int32) < 0)) h9) | refine zw_nx rfl (fun _ _ => rfl) ?_
              repeat (refine zw_go rfl rfl (fun _ _ => rfl) ?_)
              exact zw_kp hn2
            | some b =>
              have hb := hok.1 b h5
              rw [h5] at q1
              first | refine zw_br rfl (fun _ _ => rfl) (fun h9 => absurd h9 (show ¬ I2 23 < 0 by rw [q1]; exact nI_pos (by omega))) (fun _ => ?_) | refine zw_nx rfl (fun _ _ => rfl) ?_
              repeat (refine zw_go rfl rfl (fun _ _ => rfl) ?_)
              rw [show nI v + Int32.ofInt 1 = nI (v + 1) from nI_1 v, show I2 23 = nI b from q1]
              refine zw_br rfl (fun _ _ => rfl) (fun (h6 : nI (v + 1) < nI b) => ?_) (fun (h6 : ¬ (nI (v + 1) < nI b)) => ?_)
              · rw [nI_ltI (by omega) (by omega)] at h6
                have hn2 := hn1 (upd (upd (upd I2 23 (nI (v + 1))) 24 (nI t)) 25 (nI s)) _ (by
                  rw [h5]
                  show MnS _ (if v + 1 < b then (some (v + 1), nI t, nI s) else mFo V S w h (16 * t + s))
                  rw [if_pos h6]
                  exact new) iK3 aK3
                rw [← nI_1] at hn2
                repeat (refine zw_go rfl rfl (fun _ _ => rfl) ?_)
                exact zw_kp hn2
              · rw [nI_ltI (by omega) (by omega)] at h6
                have hn2 := hn1 I2 _ (by
                  rw [h5]
                  show MnS _ (if v + 1 < b then (some (v + 1), nI t, nI s) else mFo V S w h (16 * t + s))
                  rw [if_neg h6]
                  exact ⟨by rw [h5]; exact q1, q2, q3⟩) iK aK3
                repeat (refine zw_go rfl rfl (fun _ _ => rfl) ?_)
                exact zw_kp hn2
      exact zw_kp (inner 16 0 I2 A2 (by omega) hq iK aK)
  exact zw_kp (outer 16 0 (upd (upd (upd I 23 (cI (cst (vLi V) S (fun e => idx (V e)) w h))) 24 (-1)) 25 (-1)) A1 (by omega) ⟨rfl, rfl, rfl⟩ (fun z hz => by
    unfold upd
    rw [if_neg (by omega), if_neg (by omega), if_neg (by omega)]) ⟨hD.1, hD.2.1, hD.2.2.1, hD.2.2.2.2.2.2.1⟩)
set_option maxHeartbeats 4000000 in
set_option maxRecDepth 20000 in
theorem mMended (z : Int32) (hM : MH I A w h n V) (hS : RSOk B w h S) : zC 6 sc 245 [.ref 47, .int z] (mm f I A B) (fun M r => r = some (.int (aMended V S w h z)) ∧ MR f I A B M) := by
  have hw := hM.2.2.2.1
  unfold aMended
  refine zc_of hkX11_mended rfl ?_
  repeat (refine zw_go rfl rfl (fun _ _ => rfl) ?_)
  refine zw_call rfl (fun _ _ => rfl) (mIsIn sc (mm f I A B) z 0 (nI 2)) (by decide) ?_
  rintro M1 r1 ⟨rfl, rfl⟩
  repeat (refine zw_go rfl rfl (fun _ _ => rfl) ?_)
  refine zw_br rfl (fun _ _ => rfl) (fun (hd : bI (0 ≤ z ∧ z ≤ nI 2) = 0) => ?_) (fun (hd : ¬ (bI (0 ≤ z ∧ z ≤ nI 2) = 0)) => ?_)
  · repeat (refine zw_go rfl rfl (fun _ _ => rfl) ?_)
    exact zw_ret rfl (fun _ _ => rfl) (⟨by rw [if_neg (bI_0.mp hd)]; rfl, I, A, B, rfl, mk_rfl⟩)
  · have hz := bI_of hd
    rw [if_pos hz]
    repeat (refine zw_go rfl rfl (fun _ _ => rfl) ?_)
    refine zw_call rfl (fun _ _ => rfl) (mMend sc I A B f w h n V S hM hS) (by decide) ?_
    rintro M1 r1 ⟨rfl, I2, A2, B2, rfl, ⟨q1, q2, q3⟩, aK, a7, iK, b4⟩
    have hQ : MR f I A B (mm f I2 A2 B2) := ⟨I2, A2, B2, rfl, mn_mk iK aK b4⟩
    have hok := mFo_ok (V := V) (S := S) (w := w) (h := h) hw (q := 256) (by omega)
    repeat (refine zw_go rfl rfl (fun _ _ => rfl) ?_)
    cases hm : (mFo V S w h 256).1 with
    | none =>
      rw [hm] at q1
      first | refine zw_br rfl (fun _ _ => rfl) (fun h9 => absurd h9 (show ¬ (0 : Int32) ≤ I2 23 by rw [q1]; exact (by decide : ¬ (0 : Int32) ≤ -1))) (fun _ => ?_) | refine zw_nx rfl (fun _ _ => rfl) ?_
      repeat (refine zw_go rfl rfl (fun _ _ => rfl) ?_)
      exact zw_ret rfl (fun _ _ => rfl) (⟨rfl, hQ⟩)
    | some c =>
      have hc := hok.1 c hm
      rw [hm] at q1
      first | refine zw_br rfl (fun _ _ => rfl) (fun _ => ?_) (fun h9 => absurd (show (0 : Int32) ≤ I2 23 by rw [q1]; exact nI_pos' (by omega)) h9) | refine zw_nx rfl (fun _ _ => rfl) ?_
      obtain ⟨j, hj, rfl⟩ := inR_of (n := 3) ⟨hz.1, Int32.lt_of_le_of_lt hz.2 (by decide)⟩ (by decide)
      rw [nI_clamp (by omega)]
      rcases (show j = 0 ∨ j = 1 ∨ j = 2 by omega) with rfl | rfl | rfl
      · repeat (refine zw_go rfl rfl (fun _ _ => rfl) ?_)
        exact zw_ret rfl (fun _ _ => rfl) (⟨by rw [q1]; rfl, hQ⟩)
      · repeat (refine zw_go rfl rfl (fun _ _ => rfl) ?_)
        exact zw_ret rfl (fun _ _ => rfl) (⟨by rw [q2]; rfl, hQ⟩)
      · repeat (refine zw_go rfl rfl (fun _ _ => rfl) ?_)
        exact zw_ret rfl (fun _ _ => rfl) (⟨by rw [q3]; rfl, hQ⟩)
set_option maxHeartbeats 4000000 in
set_option maxRecDepth 20000 in
theorem mMendedShaft (x : Int32) (hM : MH I A w h n V) (hS : RSOk B w h S) : zC 6 sc 246 [.ref 47, .int x] (mm f I A B) (fun M r => r = some (.int (aMendS V S w h x)) ∧ MR f I A B M) := by
  have hM' := hM
  obtain ⟨h0, h1, hw1, hw, hh1, hh, h4, hn, hv, hV⟩ := hM
  unfold aMendS
  refine zc_of hkX11_mendedShaft rfl ?_
  repeat (refine zw_go rfl rfl (fun _ _ => rfl) ?_)
  refine zw_call rfl (fun _ _ => rfl) (mIsEnd sc f I A B x w h0 hw1 hw) (by decide) ?_
  rintro M1 r1 ⟨rfl, rfl⟩
  repeat (refine zw_go rfl rfl (fun _ _ => rfl) ?_)
  refine zw_br rfl (fun _ _ => rfl) (fun (hd : bI (0 ≤ x ∧ x < nI w) = 0) => ?_) (fun (hd : ¬ (bI (0 ≤ x ∧ x < nI w) = 0)) => ?_)
  · repeat (refine zw_go rfl rfl (fun _ _ => rfl) ?_)
    exact zw_ret rfl (fun _ _ => rfl) (⟨by rw [if_neg (bI_0.mp hd)]; rfl, I, A, B, rfl, mk_rfl⟩)
  · have he := bI_of hd
    rw [if_pos he]
    obtain ⟨e, hew, rfl⟩ := inR_of he (by omega)
    rw [nI_clamp (n := e) (by omega)]
    have hix := idx_k (hV.1 e (by omega))
    repeat (refine zw_go rfl rfl (fun _ _ => rfl) ?_)
    refine zw_call rfl (fun _ _ => rfl) (mMend sc I A B f w h n V S hM' hS) (by decide) ?_
    rintro M1 r1 ⟨rfl, I2, A2, B2, rfl, ⟨q1, q2, q3⟩, aK, a7, iK, b4⟩
    have hQ : MR f I A B (mm f I2 A2 B2) := ⟨I2, A2, B2, rfl, mn_mk iK aK b4⟩
    have hok := mFo_ok (V := V) (S := S) (w := w) (h := h) hw (q := 256) (by omega)
    have i1 : I2 1 = nI h := by rw [iK 1 (by decide)]; exact h1
    have hS2 : RSOk B2 w h S := fun p hp => by rw [b4]; exact hS p hp
    repeat (refine zw_go rfl rfl (fun _ _ => rfl) ?_)
    cases hm : (mFo V S w h 256).1 with
    | none =>
      rw [hm] at q1
      first | refine zw_br rfl (fun _ _ => rfl) (fun h9 => absurd h9 (show ¬ (0 : Int32) ≤ I2 23 by rw [q1]; exact (by decide : ¬ (0 : Int32) ≤ -1))) (fun _ => ?_) | refine zw_nx rfl (fun _ _ => rfl) ?_
      repeat (refine zw_go rfl rfl (fun _ _ => rfl) ?_)
      exact zw_ret rfl (fun _ _ => rfl) (⟨rfl, hQ⟩)
    | some c =>
      have hc := hok.1 c hm
      rw [hm] at q1
      first | refine zw_br rfl (fun _ _ => rfl) (fun _ => ?_) (fun h9 => absurd (show (0 : Int32) ≤ I2 23 by rw [q1]; exact nI_pos' (by omega)) h9) | refine zw_nx rfl (fun _ _ => rfl) ?_
      repeat (refine zw_go rfl rfl (fun _ _ => rfl) ?_)
      rcases hok.2 with ⟨k1, k2⟩ | ⟨t, s, ht, hs, k1, k2⟩
      · have em : mLf V (mFo V S w h 256) = vLi V := by unfold mLf; rw [if_pos k1]
        rw [em]
        first | refine zw_br rfl (fun _ _ => rfl) (fun _ => ?_) (fun h9 => absurd (show I2 24 < 0 by rw [q2, k1]; decide) h9) | refine zw_nx rfl (fun _ _ => rfl) ?_
        repeat (refine zw_go rfl rfl (fun _ _ => rfl) ?_)
        refine zw_call rfl (fun _ _ => rfl) (mLifts sc f I2 A2 B2 h hh i1 (fun a => V (48 + a)) (fun p => V (64 + p)) aK.2.1 aK.2.2.1) (by decide) ?_
        rintro M1 r1 ⟨rfl, rfl⟩
        have aK3 : MnA A w h V (va_up A2 7 (wr (vLi V) (A2 7) h)) := ⟨aK.1, aK.2.1, aK.2.2.1, fun a h4 h5 h6 h7 => by
          unfold va_up
          rw [if_neg h7]
          exact aK.2.2.2 a h4 h5 h6 h7⟩
        have hM3 : MH I2 (va_up A2 7 (wr (vLi V) (A2 7) h)) w h n V := mh_mk (B := B) (B' := B2) hM' (mn_mk iK aK3 b4)
        repeat (refine zw_go rfl rfl (fun _ _ => rfl) ?_)
        refine zw_call rfl (fun _ _ => rfl) (mNearestOf sc I2 (va_up A2 7 (wr (vLi V) (A2 7) h)) B2 f w h n V S (vLi V) e (idx (V e)) hew hix.2 hM3 (fun p hp => wr_in (F := vLi V) (g := A2 7) hp) hS2 ((aK.1 e hew).trans hix.1)) (by decide) ?_
        rintro M1 r1 ⟨rfl, rfl⟩
        repeat (refine zw_go rfl rfl (fun _ _ => rfl) ?_)
        exact zw_ret rfl (fun _ _ => rfl) (⟨rfl, I2, _, B2, rfl, mn_mk iK aK3 b4⟩)
      · have em : mLf V (mFo V S w h 256) = lfT V t s := by
          unfold mLf
          rw [if_neg (fun z => by
            have : (0 : Int32) ≤ nI t := nI_pos' (by omega)
            rw [← k1, z] at this
            exact absurd this (by decide)), k1, k2, nI_clamp (by omega), nI_clamp (by omega)]
        rw [em]
        have e24 : I2 24 = nI t := q2.trans k1
        have e25 : I2 25 = nI s := q3.trans k2
        first | refine zw_br rfl (fun _ _ => rfl) (fun h9 => absurd h9 (show ¬ I2 24 < 0 by rw [e24]; exact nI_pos (by omega))) (fun _ => ?_) | refine zw_nx rfl (fun _ _ => rfl) ?_
        repeat (refine zw_go rfl rfl (fun _ _ => rfl) ?_)
        rw [e24]
        refine zw_ix rfl (fun _ _ => rfl) (show vp_in (nI (t)) _ from vp_in_nI (by omega) (by omega)) ?_
        rw [show (nI (t)).toNatClampNeg = t from nI_clamp (by omega)]
        repeat (refine zw_go rfl rfl (fun _ _ => rfl) ?_)
        rw [e25]
        refine zw_ix rfl (fun _ _ => rfl) (show vp_in (nI (t)) _ from vp_in_nI (by omega) (by omega)) ?_
        rw [show (nI (t)).toNatClampNeg = t from nI_clamp (by omega)]
        repeat (refine zw_go rfl rfl (fun _ _ => rfl) ?_)
        have hti : ∀ a, a < 16 → va_up A2 5 (upd (A2 5) t (A2 5 t ^^^ ((1 : Int32) <<< (nI s &&& 31)))) 5 a = tgT (fun a => V (48 + a)) t s a := fun a ha => by
          show upd (A2 5) t _ a = _
          unfold upd tgT
          by_cases h5 : a = t
          · rw [if_pos h5, if_pos h5, h5, aK.2.1 t (by omega)]
          · rw [if_neg h5, if_neg h5, aK.2.1 a ha]
        refine zw_call rfl (fun _ _ => rfl) (mLifts sc f I2 (va_up A2 5 (upd (A2 5) t (A2 5 t ^^^ ((1 : Int32) <<< (nI s &&& 31))))) B2 h hh i1 (tgT (fun a => V (48 + a)) t s) (fun p => V (64 + p)) hti aK.2.2.1) (by decide) ?_
        rintro M1 r1 ⟨rfl, rfl⟩
        have hK3 : MK I A B I2 (va_up (va_up A2 5 (upd (A2 5) t (A2 5 t ^^^ ((1 : Int32) <<< (nI s &&& 31))))) 7 (wr (lfT V t s) (A2 7) h)) B2 := by
          refine ⟨fun z hz => iK z (by omega), fun a ha => ?_, aK.2.2.2 8 (by decide) (by decide) (by decide) (by decide), b4⟩
          rw [← aK.2.2.2 a (by omega) (by omega) (by omega) (by omega)]
          unfold va_up
          rw [if_neg (by omega), if_neg (by omega)]
        repeat (refine zw_go rfl rfl (fun _ _ => rfl) ?_)
        refine zw_call rfl (fun _ _ => rfl) (mNearestOf sc I2 (va_up (va_up A2 5 (upd (A2 5) t (A2 5 t ^^^ ((1 : Int32) <<< (nI s &&& 31))))) 7 (wr (lfT V t s) (A2 7) h)) B2 f w h n V S (lfT V t s) e (idx (V e)) hew hix.2 (mh_mk (B := B) (B' := B2) hM' hK3) (fun p hp => wr_in (F := lfT V t s) (g := A2 7) hp) hS2 ((aK.1 e hew).trans hix.1)) (by decide) ?_
        rintro M1 r1 ⟨rfl, rfl⟩
        repeat (refine zw_go rfl rfl (fun _ _ => rfl) ?_)
        exact zw_ret rfl (fun _ _ => rfl) (⟨rfl, I2, _, B2, rfl, hK3⟩)
end

/-! the reference: draw, whole -/
set_option maxHeartbeats 4000000 in
set_option maxRecDepth 20000 in
theorem mDraw_sh (sc : sm_S) (f : Nat → va_E) (I : Nat → Int32) (A : Nat → Nat → Int32) (B : Nat → Nat → Int64) (Post : sm_M → Option Value → Prop) (n : Nat) (hn : I 4 = nI n) (hnb : n ≤ 2000) (m : Nat) (hm : m ≤ 48) (hb : I 0 = nI m) (hK : zW 3 sc miX11_draw 28 [some (.ref 47), some (.int (nI m)), none] [] (mm f I (va_up A 4 (wr (fun x => mVal A n 0 (nI x) (I 3)) (A 4) m)) B) Post) : ∀ (k x : Nat), x + k = m → zW 3 sc miX11_draw 2 [some (.ref 47), some (.int (nI x)), none] [] (mm f I (va_up A 4 (wr (fun x => mVal A n 0 (nI x) (I 3)) (A 4) x)) B) Post := by
  intro k
  induction k with
  | zero =>
    intro x hx
    have e : x = m := by omega
    subst e
    refine zw_nx rfl (fun _ _ => rfl) ?_
    refine zw_nx rfl (fun _ _ => rfl) ?_
    refine zw_nx rfl (fun _ _ => rfl) ?_
    first | refine zw_br rfl (fun _ _ => rfl) (fun _ => ?_) (fun h9 => absurd (show I 0 ≤ nI x by rw [hb]; exact Int32.le_refl _) h9) | refine zw_nx rfl (fun _ _ => rfl) ?_
    exact hK
  | succ k ih =>
    intro x hx
    have ex : (nI x).toNatClampNeg = x := nI_clamp (by omega)
    have hn2 := ih (x + 1) (by omega)
    rw [nI_succ] at hn2
    refine zw_nx rfl (fun _ _ => rfl) ?_
    refine zw_nx rfl (fun _ _ => rfl) ?_
    refine zw_nx rfl (fun _ _ => rfl) ?_
    first | refine zw_br rfl (fun _ _ => rfl) (fun h9 => absurd h9 (show ¬ I 0 ≤ nI x by rw [hb]; exact nI_ge (by omega) (by omega))) (fun _ => ?_) | refine zw_nx rfl (fun _ _ => rfl) ?_
    refine zw_nx rfl (fun _ _ => rfl) ?_
    refine zw_nx rfl (fun _ _ => rfl) ?_
    refine zw_nx rfl (fun _ _ => rfl) ?_
    refine zw_nx rfl (fun _ _ => rfl) ?_
    refine zw_nx rfl (fun _ _ => rfl) ?_
    refine zw_nx rfl (fun _ _ => rfl) ?_
    refine zw_call rfl (fun _ _ => rfl) (mValueOf sc f I (va_up A 4 (wr (fun x => mVal A n 0 (nI x) (I 3)) (A 4) x)) B 0 (nI x) n hn hnb) (by decide) ?_
    rintro M1 r1 ⟨rfl, rfl⟩
    refine zw_ix rfl (fun _ _ => rfl) (show vp_in (nI x) 48 from vp_in_nI (by omega) (by decide)) ?_
    rw [ex]
    refine zw_nx rfl (fun _ _ => rfl) ?_
    refine zw_nx rfl (fun _ _ => rfl) ?_
    rw [← wr_s] at hn2
    exact hn2
set_option maxHeartbeats 4000000 in
set_option maxRecDepth 20000 in
theorem mDraw_ti (sc : sm_S) (f : Nat → va_E) (I : Nat → Int32) (A : Nat → Nat → Int32) (B : Nat → Nat → Int64) (Post : sm_M → Option Value → Prop) (n : Nat) (hn : I 4 = nI n) (hnb : n ≤ 2000) (hK : zW 3 sc miX11_draw 54 [some (.ref 47), some (.int (nI 16)), none] [] (mm f I (va_up A 5 (wr (fun x => mVal A n 1 (nI x) (I 3)) (A 5) 16)) B) Post) : ∀ (k x : Nat), x + k = 16 → zW 3 sc miX11_draw 30 [some (.ref 47), some (.int (nI x)), none] [] (mm f I (va_up A 5 (wr (fun x => mVal A n 1 (nI x) (I 3)) (A 5) x)) B) Post := by
  intro k
  induction k with
  | zero =>
    intro x hx
    have e : x = 16 := by omega
    subst e
    refine zw_nx rfl (fun _ _ => rfl) ?_
    refine zw_nx rfl (fun _ _ => rfl) ?_
    refine zw_nx rfl (fun _ _ => rfl) ?_
    exact hK
  | succ k ih =>
    intro x hx
    have ex : (nI x).toNatClampNeg = x := nI_clamp (by omega)
    have hn2 := ih (x + 1) (by omega)
    rw [nI_succ] at hn2
    refine zw_nx rfl (fun _ _ => rfl) ?_
    refine zw_nx rfl (fun _ _ => rfl) ?_
    first | refine zw_br rfl (fun _ _ => rfl) (fun h9 => absurd h9 (nI_ge (a := x) (b := 16) (by omega) (by decide))) (fun _ => ?_) | refine zw_nx rfl (fun _ _ => rfl) ?_
    refine zw_nx rfl (fun _ _ => rfl) ?_
    refine zw_nx rfl (fun _ _ => rfl) ?_
    refine zw_nx rfl (fun _ _ => rfl) ?_
    refine zw_nx rfl (fun _ _ => rfl) ?_
    refine zw_nx rfl (fun _ _ => rfl) ?_
    refine zw_nx rfl (fun _ _ => rfl) ?_
    refine zw_call rfl (fun _ _ => rfl) (mValueOf sc f I (va_up A 5 (wr (fun x => mVal A n 1 (nI x) (I 3)) (A 5) x)) B 1 (nI x) n hn hnb) (by decide) ?_
    rintro M1 r1 ⟨rfl, rfl⟩
    refine zw_ix rfl (fun _ _ => rfl) (show vp_in (nI x) 16 from vp_in_nI (by omega) (by decide)) ?_
    rw [ex]
    refine zw_nx rfl (fun _ _ => rfl) ?_
    refine zw_nx rfl (fun _ _ => rfl) ?_
    rw [← wr_s] at hn2
    exact hn2
set_option maxHeartbeats 4000000 in
set_option maxRecDepth 20000 in
theorem mDraw_tr (sc : sm_S) (f : Nat → va_E) (I : Nat → Int32) (A : Nat → Nat → Int32) (B : Nat → Nat → Int64) (Post : sm_M → Option Value → Prop) (n : Nat) (hn : I 4 = nI n) (hnb : n ≤ 2000) (m : Nat) (hm : m ≤ 48) (hb : I 1 = nI m) (hK : zW 3 sc miX11_draw 82 [some (.ref 47), some (.int (nI m)), none] [] (mm f I (va_up A 6 (wr (fun x => mVal A n 2 (nI x) (I 3)) (A 6) m)) B) Post) : ∀ (k x : Nat), x + k = m → zW 3 sc miX11_draw 56 [some (.ref 47), some (.int (nI x)), none] [] (mm f I (va_up A 6 (wr (fun x => mVal A n 2 (nI x) (I 3)) (A 6) x)) B) Post := by
  intro k
  induction k with
  | zero =>
    intro x hx
    have e : x = m := by omega
    subst e
    refine zw_nx rfl (fun _ _ => rfl) ?_
    refine zw_nx rfl (fun _ _ => rfl) ?_
    refine zw_nx rfl (fun _ _ => rfl) ?_
    first | refine zw_br rfl (fun _ _ => rfl) (fun _ => ?_) (fun h9 => absurd (show I 1 ≤ nI x by rw [hb]; exact Int32.le_refl _) h9) | refine zw_nx rfl (fun _ _ => rfl) ?_
    exact hK
  | succ k ih =>
    intro x hx
    have ex : (nI x).toNatClampNeg = x := nI_clamp (by omega)
    have hn2 := ih (x + 1) (by omega)
    rw [nI_succ] at hn2
    refine zw_nx rfl (fun _ _ => rfl) ?_
    refine zw_nx rfl (fun _ _ => rfl) ?_
    refine zw_nx rfl (fun _ _ => rfl) ?_
    first | refine zw_br rfl (fun _ _ => rfl) (fun h9 => absurd h9 (show ¬ I 1 ≤ nI x by rw [hb]; exact nI_ge (by omega) (by omega))) (fun _ => ?_) | refine zw_nx rfl (fun _ _ => rfl) ?_
    refine zw_nx rfl (fun _ _ => rfl) ?_
    refine zw_nx rfl (fun _ _ => rfl) ?_
    refine zw_nx rfl (fun _ _ => rfl) ?_
    refine zw_nx rfl (fun _ _ => rfl) ?_
    refine zw_nx rfl (fun _ _ => rfl) ?_
    refine zw_nx rfl (fun _ _ => rfl) ?_
    refine zw_call rfl (fun _ _ => rfl) (mValueOf sc f I (va_up A 6 (wr (fun x => mVal A n 2 (nI x) (I 3)) (A 6) x)) B 2 (nI x) n hn hnb) (by decide) ?_
    rintro M1 r1 ⟨rfl, rfl⟩
    refine zw_ix rfl (fun _ _ => rfl) (show vp_in (nI x) 48 from vp_in_nI (by omega) (by decide)) ?_
    rw [ex]
    refine zw_nx rfl (fun _ _ => rfl) ?_
    refine zw_nx rfl (fun _ _ => rfl) ?_
    rw [← wr_s] at hn2
    exact hn2
set_option maxHeartbeats 4000000 in
set_option maxRecDepth 20000 in
theorem mDraw_co (sc : sm_S) (f : Nat → va_E) (I : Nat → Int32) (A : Nat → Nat → Int32) (B : Nat → Nat → Int64) (Post : sm_M → Option Value → Prop) (m : Nat) (hm : m ≤ 48) (hb : I 0 = nI m) (hK : zW 3 sc miX11_draw 109 [some (.ref 47), some (.int (nI m)), none] [] (mm f I A (va_up B 1 (wr (fun _ => 0) (B 1) m))) Post) : ∀ (k x : Nat), x + k = m → zW 3 sc miX11_draw 88 [some (.ref 47), some (.int (nI x)), none] [] (mm f I A (va_up B 1 (wr (fun _ => 0) (B 1) x))) Post := by
  intro k
  induction k with
  | zero =>
    intro x hx
    have e : x = m := by omega
    subst e
    refine zw_nx rfl (fun _ _ => rfl) ?_
    refine zw_nx rfl (fun _ _ => rfl) ?_
    refine zw_nx rfl (fun _ _ => rfl) ?_
    first | refine zw_br rfl (fun _ _ => rfl) (fun _ => ?_) (fun h9 => absurd (show I 0 ≤ nI x by rw [hb]; exact Int32.le_refl _) h9) | refine zw_nx rfl (fun _ _ => rfl) ?_
    exact hK
  | succ k ih =>
    intro x hx
    have ex : (nI x).toNatClampNeg = x := nI_clamp (by omega)
    have hn2 := ih (x + 1) (by omega)
    rw [nI_succ] at hn2
    refine zw_nx rfl (fun _ _ => rfl) ?_
    refine zw_nx rfl (fun _ _ => rfl) ?_
    refine zw_nx rfl (fun _ _ => rfl) ?_
    first | refine zw_br rfl (fun _ _ => rfl) (fun h9 => absurd h9 (show ¬ I 0 ≤ nI x by rw [hb]; exact nI_ge (by omega) (by omega))) (fun _ => ?_) | refine zw_nx rfl (fun _ _ => rfl) ?_
    refine zw_nx rfl (fun _ _ => rfl) ?_
    refine zw_nx rfl (fun _ _ => rfl) ?_
    refine zw_nx rfl (fun _ _ => rfl) ?_
    refine zw_nx rfl (fun _ _ => rfl) ?_
    refine zw_ix rfl (fun _ _ => rfl) (show vp_in (nI x) 48 from vp_in_nI (by omega) (by decide)) ?_
    rw [ex]
    refine zw_nx rfl (fun _ _ => rfl) ?_
    refine zw_nx rfl (fun _ _ => rfl) ?_
    rw [← wr_sL] at hn2
    exact hn2
/-- what draw leaves -/
def dwA (A : Nat → Nat → Int32) (n w h : Nat) (lk : Int32) : Nat → Nat → Int32 := drA A (wr (fun x => mVal A n 0 (nI x) lk) (A 4) w) (wr (fun x => mVal A n 1 (nI x) lk) (A 5) 16) (wr (fun x => mVal A n 2 (nI x) lk) (A 6) h) (wr (liF (fun x => mVal A n 1 (nI x) lk) (fun x => mVal A n 2 (nI x) lk)) (A 7) h)
/-- a CELL of THE CLOTH, by the reference's entries -/
def mUp (A : Nat → Nat → Int32) (n : Nat) (lk : Int32) : Nat → Nat → Bool := upF (fun x => mVal A n 0 (nI x) lk) (fun x => mVal A n 1 (nI x) lk) (fun x => mVal A n 2 (nI x) lk)
def dwB (B : Nat → Nat → Int64) (A : Nat → Nat → Int32) (n w h : Nat) (lk : Int32) : Nat → Nat → Int64 := drB B (wr (fun p => mk (fun e => mUp A n lk e p) w) (B 0) h) (wr (fun e => mk (fun p => mUp A n lk e p) h) (B 1) w)
set_option maxHeartbeats 4000000 in
set_option maxRecDepth 20000 in
theorem mDraw (sc : sm_S) (f : Nat → va_E) (I : Nat → Int32) (A : Nat → Nat → Int32) (B : Nat → Nat → Int64) (n w h : Nat) (hn : I 4 = nI n) (hnb : n ≤ 2000) (hw : w ≤ 48) (hh : h ≤ 48) (hI0 : I 0 = nI w) (hI1 : I 1 = nI h) (hs : ∀ x, x < w → shOk (mVal A n 0 (nI x) (I 3))) : zC 4 sc 176 [.ref 47] (mm f I A B) (fun M r => r = none ∧ M = mm f I (dwA A n w h (I 3)) (dwB B A n w h (I 3))) := by
  refine zc_of hkX11_draw rfl ?_
  refine zw_nx rfl (fun _ _ => rfl) ?_
  refine zw_nx rfl (fun _ _ => rfl) ?_
  have h5 := mDraw_sh sc f I A B (fun M r => r = none ∧ M = mm f I (dwA A n w h (I 3)) (dwB B A n w h (I 3))) n hn hnb w hw hI0 ?_ w 0 (by omega)
  · rw [wr_0, va_up_id] at h5
    exact zw_kp h5
  refine zw_nx rfl (fun _ _ => rfl) ?_
  refine zw_nx rfl (fun _ _ => rfl) ?_
  have h6 := mDraw_ti sc f I (va_up A 4 (wr (fun x => mVal A n 0 (nI x) (I 3)) (A 4) w)) B (fun M r => r = none ∧ M = mm f I (dwA A n w h (I 3)) (dwB B A n w h (I 3))) n hn hnb ?_ 16 0 (by omega)
  · rw [wr_0, va_up_id] at h6
    exact zw_kp h6
  refine zw_nx rfl (fun _ _ => rfl) ?_
  refine zw_nx rfl (fun _ _ => rfl) ?_
  have h7 := mDraw_tr sc f I (va_up (va_up A 4 (wr (fun x => mVal A n 0 (nI x) (I 3)) (A 4) w)) 5 (wr (fun x => mVal A n 1 (nI x) (I 3)) (A 5) 16)) B (fun M r => r = none ∧ M = mm f I (dwA A n w h (I 3)) (dwB B A n w h (I 3))) n hn hnb h hh hI1 ?_ h 0 (by omega)
  · rw [wr_0, va_up_id] at h7
    exact zw_kp h7
  refine zw_nx rfl (fun _ _ => rfl) ?_
  refine zw_call rfl (fun _ _ => rfl) (mLifts sc f I (va_up (va_up (va_up A 4 (wr (fun x => mVal A n 0 (nI x) (I 3)) (A 4) w)) 5 (wr (fun x => mVal A n 1 (nI x) (I 3)) (A 5) 16)) 6 (wr (fun x => mVal A n 2 (nI x) (I 3)) (A 6) h)) B h hh hI1 (fun x => mVal A n 1 (nI x) (I 3)) (fun x => mVal A n 2 (nI x) (I 3)) (fun t ht => wr_in (F := fun x => mVal A n 1 (nI x) (I 3)) (g := A 5) ht) (fun p hp => wr_in (F := fun x => mVal A n 2 (nI x) (I 3)) (g := A 6) hp)) (by decide) ?_
  rintro M1 r1 ⟨rfl, rfl⟩
  refine zw_nx rfl (fun _ _ => rfl) ?_
  refine zw_nx rfl (fun _ _ => rfl) ?_
  have h8 := mDraw_co sc f I (dwA A n w h (I 3)) B (fun M r => r = none ∧ M = mm f I (dwA A n w h (I 3)) (dwB B A n w h (I 3))) w hw hI0 ?_ w 0 (by omega)
  · rw [wr_0, va_up_id] at h8
    exact zw_kp h8
  refine zw_nx rfl (fun _ _ => rfl) ?_
  refine zw_nx rfl (fun _ _ => rfl) ?_
  have h9 := mDraw_rows sc f I (dwA A n w h (I 3)) B w h hw hh hI0 hI1 (fun x => mVal A n 0 (nI x) (I 3)) (fun x => mVal A n 1 (nI x) (I 3)) (fun x => mVal A n 2 (nI x) (I 3)) (fun x hx => ⟨wr_in (F := fun x => mVal A n 0 (nI x) (I 3)) (g := A 4) hx, hs x hx⟩) (fun y hy => wr_in (F := liF (fun x => mVal A n 1 (nI x) (I 3)) (fun x => mVal A n 2 (nI x) (I 3))) (g := A 7) hy) (B 0) (B 1) h 0 (by omega)
  have eB : drB B (wr (fun p => mk (fun e => upF (fun x => mVal A n 0 (nI x) (I 3)) (fun x => mVal A n 1 (nI x) (I 3)) (fun x => mVal A n 2 (nI x) (I 3)) e p) w) (B 0) 0) (wr (fun e => mk (fun p => upF (fun x => mVal A n 0 (nI x) (I 3)) (fun x => mVal A n 1 (nI x) (I 3)) (fun x => mVal A n 2 (nI x) (I 3)) e p) 0) (B 1) w) = va_up B 1 (wr (fun _ => 0) (B 1) w) := by
    unfold drB
    rw [wr_0, va_up_id]
    rfl
  rw [eB] at h9
  exact zw_kp h9

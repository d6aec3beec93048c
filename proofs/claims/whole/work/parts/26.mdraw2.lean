/-! the reference: draw -/
/-- the memory behind draw, up to where it is -/
def drA (A : Nat → Nat → Int32) (s4 s5 s6 s7 : Nat → Int32) : Nat → Nat → Int32 := va_up (va_up (va_up (va_up A 4 s4) 5 s5) 6 s6) 7 s7
def drB (B : Nat → Nat → Int64) (b0 b1 : Nat → Int64) : Nat → Nat → Int64 := va_up (va_up B 0 b0) 1 b1
/-- rows and columns, at the CELL (x, y) -/
def roAt (up : Nat → Nat → Bool) (w : Nat) (g : Nat → Int64) (y x : Nat) : Nat → Int64 := fun j => if j < y then mk (fun e => up e j) w else if j = y then mk (fun e => up e j) x else g j
def coAt (up : Nat → Nat → Bool) (w : Nat) (g : Nat → Int64) (y x : Nat) : Nat → Int64 := fun j => if j < w then mk (fun p => up j p) (if j < x then y + 1 else y) else g j
theorem roAt_s {up : Nat → Nat → Bool} {w : Nat} {g : Nat → Int64} {y x : Nat} (h : up x y = true) : vp_updL (roAt up w g y x) y (roAt up w g y x y ||| bitL x) = roAt up w g y (x + 1) := by
  funext j
  unfold vp_updL roAt
  by_cases hj : j = y
  · subst hj
    rw [if_pos rfl, if_neg (by omega), if_pos rfl, if_neg (by omega), if_pos rfl, mk, if_pos h]
  · rw [if_neg hj]
    by_cases h2 : j < y
    · rw [if_pos h2, if_pos h2]
    · rw [if_neg h2, if_neg hj, if_neg h2, if_neg hj]
theorem roAt_n {up : Nat → Nat → Bool} {w : Nat} {g : Nat → Int64} {y x : Nat} (h : up x y = false) : roAt up w g y (x + 1) = roAt up w g y x := by
  funext j
  unfold roAt
  by_cases hj : j = y
  · subst hj
    rw [if_neg (by omega), if_pos rfl, if_neg (by omega), if_pos rfl, mk, if_neg (by simp [h])]
  · by_cases h2 : j < y
    · rw [if_pos h2, if_pos h2]
    · rw [if_neg h2, if_neg hj, if_neg h2, if_neg hj]
theorem coAt_s {up : Nat → Nat → Bool} {w : Nat} {g : Nat → Int64} {y x : Nat} (hx : x < w) (h : up x y = true) : vp_updL (coAt up w g y x) x (coAt up w g y x x ||| bitL y) = coAt up w g y (x + 1) := by
  funext j
  unfold vp_updL coAt
  by_cases hj : j = x
  · subst hj
    rw [if_pos rfl, if_pos hx, if_neg (by omega), if_pos hx, if_pos (by omega), mk, if_pos h]
  · rw [if_neg hj]
    by_cases h2 : j < w
    · rw [if_pos h2, if_pos h2]
      by_cases h3 : j < x
      · rw [if_pos h3, if_pos (by omega)]
      · rw [if_neg h3, if_neg (by omega)]
    · rw [if_neg h2, if_neg h2]
theorem coAt_n {up : Nat → Nat → Bool} {w : Nat} {g : Nat → Int64} {y x : Nat} (h : up x y = false) : coAt up w g y (x + 1) = coAt up w g y x := by
  funext j
  unfold coAt
  by_cases h2 : j < w
  · rw [if_pos h2, if_pos h2]
    by_cases hj : j = x
    · subst hj
      rw [if_pos (by omega), if_neg (by omega), mk, if_neg (by simp [h])]
    · by_cases h3 : j < x
      · rw [if_pos h3, if_pos (by omega)]
      · rw [if_neg h3, if_neg (by omega)]
  · rw [if_neg h2, if_neg h2]
theorem roAt_y {up : Nat → Nat → Bool} {w : Nat} {g : Nat → Int64} {y : Nat} : vp_updL (wr (fun p => mk (fun e => up e p) w) g y) y 0 = roAt up w g y 0 := by
  funext j
  unfold vp_updL wr roAt
  by_cases hj : j = y
  · subst hj
    rw [if_pos rfl, if_neg (by omega), if_pos rfl]
    rfl
  · rw [if_neg hj]
    by_cases h2 : j < y
    · rw [if_pos h2, if_pos h2]
    · rw [if_neg h2, if_neg h2, if_neg hj]
theorem roAt_w {up : Nat → Nat → Bool} {w : Nat} {g : Nat → Int64} {y : Nat} : roAt up w g y w = wr (fun p => mk (fun e => up e p) w) g (y + 1) := by
  funext j
  unfold wr roAt
  by_cases hj : j = y
  · subst hj
    rw [if_neg (by omega), if_pos rfl, if_pos (by omega)]
  · by_cases h2 : j < y
    · rw [if_pos h2, if_pos (by omega)]
    · rw [if_neg h2, if_neg hj, if_neg (by omega)]
theorem coAt_w {up : Nat → Nat → Bool} {w : Nat} {g : Nat → Int64} {y : Nat} : coAt up w g y w = wr (fun e => mk (fun p => up e p) (y + 1)) g w := by
  funext j
  unfold wr coAt
  by_cases h2 : j < w
  · rw [if_pos h2, if_pos h2, if_pos h2]
  · rw [if_neg h2, if_neg h2]
theorem coAt_0 {up : Nat → Nat → Bool} {w : Nat} {g : Nat → Int64} {y : Nat} : wr (fun e => mk (fun p => up e p) y) g w = coAt up w g y 0 := by
  funext j
  unfold wr coAt
  by_cases h2 : j < w
  · rw [if_pos h2, if_pos h2, if_neg (by omega)]
  · rw [if_neg h2, if_neg h2]
/-- a SHAFT, or none -/
def shOk (x : Int32) : Prop := x = -1 ∨ ∃ q, q < 16 ∧ x = nI q
set_option maxHeartbeats 4000000 in
set_option maxRecDepth 20000 in
theorem mDraw_in (sc : sm_S) (f : Nat → va_E) (I : Nat → Int32) (A : Nat → Nat → Int32) (B : Nat → Nat → Int64) (Post : sm_M → Option Value → Prop) (w : Nat) (hw : w ≤ 48) (hI0 : I 0 = nI w) (sh ti tr : Nat → Int32) (y : Nat) (hy : y < 48) (hsh : ∀ x, x < w → A 4 x = sh x ∧ shOk (sh x)) (hl : A 7 y = liF ti tr y) (g0 g1 : Nat → Int64) (hK : zW 3 sc miX11_draw 196 [some (.ref 47), some (.int (nI y)), some (.int (nI w))] [] (mm f I A (drB B (roAt (upF sh ti tr) w g0 y w) (coAt (upF sh ti tr) w g1 y w))) Post) : ∀ (k x : Nat), x + k = w → zW 3 sc miX11_draw 128 [some (.ref 47), some (.int (nI y)), some (.int (nI x))] [] (mm f I A (drB B (roAt (upF sh ti tr) w g0 y x) (coAt (upF sh ti tr) w g1 y x))) Post := by
  have hiy : vp_in (nI y) 48 := vp_in_nI hy (by decide)
  have ey : (nI y).toNatClampNeg = y := nI_clamp (by omega)
  intro k
  induction k with
  | zero =>
    intro x hx
    have e : x = w := by omega
    subst e
    refine zw_nx rfl (fun _ _ => rfl) ?_
    refine zw_nx rfl (fun _ _ => rfl) ?_
    refine zw_nx rfl (fun _ _ => rfl) ?_
    first | refine zw_br rfl (fun _ _ => rfl) (fun _ => ?_) (fun h9 => absurd (show I 0 ≤ nI x by rw [hI0]; exact Int32.le_refl _) h9) | refine zw_nx rfl (fun _ _ => rfl) ?_
    exact hK
  | succ k ih =>
    intro x hx
    have ex : (nI x).toNatClampNeg = x := nI_clamp (by omega)
    have hix : vp_in (nI x) 48 := vp_in_nI (by omega) (by decide)
    have hn := ih (x + 1) (by omega)
    rw [nI_succ] at hn
    obtain ⟨hs1, hs2⟩ := hsh x (by omega)
    refine zw_nx rfl (fun _ _ => rfl) ?_
    refine zw_nx rfl (fun _ _ => rfl) ?_
    refine zw_nx rfl (fun _ _ => rfl) ?_
    first | refine zw_br rfl (fun _ _ => rfl) (fun h9 => absurd h9 (show ¬ I 0 ≤ nI x by rw [hI0]; exact nI_ge (by omega) (by omega))) (fun _ => ?_) | refine zw_nx rfl (fun _ _ => rfl) ?_
    refine zw_nx rfl (fun _ _ => rfl) ?_
    refine zw_nx rfl (fun _ _ => rfl) ?_
    refine zw_nx rfl (fun _ _ => rfl) ?_
    refine zw_ix rfl (fun _ _ => rfl) (hix) ?_
    rw [ex, hs1]
    rcases hs2 with hs2 | ⟨q, hq, hs2⟩
    · have hu : upF sh ti tr x y = false := by unfold upF; rw [hs2]; rfl
      rw [roAt_n hu, coAt_n hu] at hn
      first | refine zw_br rfl (fun _ _ => rfl) (fun _ => ?_) (fun h9 => absurd (show sh x < 0 by rw [hs2]; decide) h9) | refine zw_nx rfl (fun _ _ => rfl) ?_
      refine zw_nx rfl (fun _ _ => rfl) ?_
      refine zw_nx rfl (fun _ _ => rfl) ?_
      exact hn
    · have hp : ¬ sh x < 0 := by rw [hs2]; exact nI_pos (by omega)
      have hu : upF sh ti tr x y = ib (liF ti tr y) q := by
        unfold upF
        rw [hs2, nI_clamp (by omega), decide_eq_true (nI_pos' (by omega))]
        rfl
      have eb : (liF ti tr y >>> (sh x &&& 31)) &&& 1 = if ib (liF ti tr y) q then 1 else 0 := by rw [hs2]; exact bit_test _ (by omega)
      first | refine zw_br rfl (fun _ _ => rfl) (fun h9 => absurd h9 (hp)) (fun _ => ?_) | refine zw_nx rfl (fun _ _ => rfl) ?_
      refine zw_nx rfl (fun _ _ => rfl) ?_
      refine zw_nx rfl (fun _ _ => rfl) ?_
      refine zw_nx rfl (fun _ _ => rfl) ?_
      refine zw_ix rfl (fun _ _ => rfl) (hiy) ?_
      rw [ey, hl]
      refine zw_nx rfl (fun _ _ => rfl) ?_
      refine zw_nx rfl (fun _ _ => rfl) ?_
      refine zw_nx rfl (fun _ _ => rfl) ?_
      refine zw_ix rfl (fun _ _ => rfl) (hix) ?_
      rw [ex, hs1]
      refine zw_nx rfl (fun _ _ => rfl) ?_
      refine zw_nx rfl (fun _ _ => rfl) ?_
      refine zw_nx rfl (fun _ _ => rfl) ?_
      refine zw_br rfl (fun _ _ => rfl) (fun (hc : (liF ti tr y >>> (sh x &&& 31)) &&& 1 = 0) => ?_) (fun (hc : ¬ ((liF ti tr y >>> (sh x &&& 31)) &&& 1 = 0)) => ?_)
      · have hb : upF sh ti tr x y = false := by
          rw [hu]
          rw [eb] at hc
          cases h : ib (liF ti tr y) q
          · rfl
          · rw [h] at hc; exact absurd hc (by decide)
        rw [roAt_n hb, coAt_n hb] at hn
        refine zw_nx rfl (fun _ _ => rfl) ?_
        refine zw_nx rfl (fun _ _ => rfl) ?_
        refine zw_nx rfl (fun _ _ => rfl) ?_
        exact hn
      · have hb : upF sh ti tr x y = true := by
          rw [hu]
          rw [eb] at hc
          cases h : ib (liF ti tr y) q
          · rw [h] at hc; exact absurd rfl hc
          · rfl
        rw [← roAt_s hb, ← coAt_s (by omega) hb] at hn
        refine zw_nx rfl (fun _ _ => rfl) ?_
        refine zw_nx rfl (fun _ _ => rfl) ?_
        refine zw_nx rfl (fun _ _ => rfl) ?_
        refine zw_nx rfl (fun _ _ => rfl) ?_
        refine zw_ix rfl (fun _ _ => rfl) (hiy) ?_
        rw [ey]
        refine zw_nx rfl (fun _ _ => rfl) ?_
        refine zw_nx rfl (fun _ _ => rfl) ?_
        refine zw_nx rfl (fun _ _ => rfl) ?_
        refine zw_nx rfl (fun _ _ => rfl) ?_
        refine zw_ix rfl (fun _ _ => rfl) (hiy) ?_
        rw [ey]
        refine zw_nx rfl (fun _ _ => rfl) ?_
        refine zw_nx rfl (fun _ _ => rfl) ?_
        refine zw_nx rfl (fun _ _ => rfl) ?_
        refine zw_nx rfl (fun _ _ => rfl) ?_
        refine zw_ix rfl (fun _ _ => rfl) (hix) ?_
        rw [ex]
        refine zw_nx rfl (fun _ _ => rfl) ?_
        refine zw_nx rfl (fun _ _ => rfl) ?_
        refine zw_nx rfl (fun _ _ => rfl) ?_
        refine zw_nx rfl (fun _ _ => rfl) ?_
        refine zw_ix rfl (fun _ _ => rfl) (hix) ?_
        rw [ex]
        refine zw_nx rfl (fun _ _ => rfl) ?_
        refine zw_nx rfl (fun _ _ => rfl) ?_
        exact hn
set_option maxHeartbeats 4000000 in
set_option maxRecDepth 20000 in
theorem mDraw_rows (sc : sm_S) (f : Nat → va_E) (I : Nat → Int32) (A : Nat → Nat → Int32) (B : Nat → Nat → Int64) (w h : Nat) (hw : w ≤ 48) (hh : h ≤ 48) (hI0 : I 0 = nI w) (hI1 : I 1 = nI h) (sh ti tr : Nat → Int32) (hsh : ∀ x, x < w → A 4 x = sh x ∧ shOk (sh x)) (hl : ∀ y, y < h → A 7 y = liF ti tr y) (g0 g1 : Nat → Int64) : ∀ (k y : Nat), y + k = h → zW 3 sc miX11_draw 111 [some (.ref 47), some (.int (nI y)), none] [] (mm f I A (drB B (wr (fun p => mk (fun e => upF sh ti tr e p) w) g0 y) (wr (fun e => mk (fun p => upF sh ti tr e p) y) g1 w))) (fun M r => r = none ∧ M = mm f I A (drB B (wr (fun p => mk (fun e => upF sh ti tr e p) w) g0 h) (wr (fun e => mk (fun p => upF sh ti tr e p) h) g1 w))) := by
  intro k
  induction k with
  | zero =>
    intro y hy
    have e : y = h := by omega
    subst e
    refine zw_nx rfl (fun _ _ => rfl) ?_
    refine zw_nx rfl (fun _ _ => rfl) ?_
    refine zw_nx rfl (fun _ _ => rfl) ?_
    first | refine zw_br rfl (fun _ _ => rfl) (fun _ => ?_) (fun h9 => absurd (show I 1 ≤ nI y by rw [hI1]; exact Int32.le_refl _) h9) | refine zw_nx rfl (fun _ _ => rfl) ?_
    exact zw_ret rfl (fun _ _ => rfl) (⟨rfl, rfl⟩)
  | succ k ih =>
    intro y hy
    have hn := ih (y + 1) (by omega)
    rw [nI_succ] at hn
    refine zw_nx rfl (fun _ _ => rfl) ?_
    refine zw_nx rfl (fun _ _ => rfl) ?_
    refine zw_nx rfl (fun _ _ => rfl) ?_
    first | refine zw_br rfl (fun _ _ => rfl) (fun h9 => absurd h9 (show ¬ I 1 ≤ nI y by rw [hI1]; exact nI_ge (by omega) (by omega))) (fun _ => ?_) | refine zw_nx rfl (fun _ _ => rfl) ?_
    refine zw_nx rfl (fun _ _ => rfl) ?_
    refine zw_nx rfl (fun _ _ => rfl) ?_
    refine zw_nx rfl (fun _ _ => rfl) ?_
    refine zw_nx rfl (fun _ _ => rfl) ?_
    refine zw_ix rfl (fun _ _ => rfl) (show vp_in (nI y) 48 from vp_in_nI (by omega) (by decide)) ?_
    rw [show (nI y).toNatClampNeg = y from nI_clamp (by omega)]
    refine zw_nx rfl (fun _ _ => rfl) ?_
    refine zw_nx rfl (fun _ _ => rfl) ?_
    have h3 := mDraw_in sc f I A B (fun M r => r = none ∧ M = mm f I A (drB B (wr (fun p => mk (fun e => upF sh ti tr e p) w) g0 h) (wr (fun e => mk (fun p => upF sh ti tr e p) h) g1 w))) w hw hI0 sh ti tr y (by omega) hsh (hl y (by omega)) g0 g1 (by
      refine zw_nx rfl (fun _ _ => rfl) ?_
      refine zw_nx rfl (fun _ _ => rfl) ?_
      rw [roAt_w, coAt_w]
      exact zw_kp hn) w 0 (by omega)
    rw [← roAt_y, ← coAt_0] at h3
    exact h3

/-! the reference: lifts, draw -/
/-- the first k places by F, the rest as they were -/
def wr {α : Type} (F g : Nat → α) (k : Nat) : Nat → α := fun j => if j < k then F j else g j
theorem wr_0 {α : Type} (F g : Nat → α) : wr F g 0 = g := by funext j; unfold wr; rw [if_neg (by omega)]
theorem wr_in {α : Type} {F g : Nat → α} {k j : Nat} (h : j < k) : wr F g k j = F j := if_pos h
theorem wr_out {α : Type} {F g : Nat → α} {k j : Nat} (h : k ≤ j) : wr F g k j = g j := if_neg (by omega)
theorem wr_s {F g : Nat → Int32} {k : Nat} : upd (wr F g k) k (F k) = wr F g (k + 1) := by
  funext j
  unfold upd wr
  by_cases h : j = k
  · subst h; rw [if_pos rfl, if_pos (by omega)]
  · rw [if_neg h]
    by_cases h2 : j < k
    · rw [if_pos h2, if_pos (show j < k + 1 by omega)]
    · rw [if_neg h2, if_neg (show ¬ j < k + 1 by omega)]
theorem wr_sL {F g : Nat → Int64} {k : Nat} : vp_updL (wr F g k) k (F k) = wr F g (k + 1) := by
  funext j
  unfold vp_updL wr
  by_cases h : j = k
  · subst h; rw [if_pos rfl, if_pos (by omega)]
  · rw [if_neg h]
    by_cases h2 : j < k
    · rw [if_pos h2, if_pos (show j < k + 1 by omega)]
    · rw [if_neg h2, if_neg (show ¬ j < k + 1 by omega)]
theorem va_up_up {α : Type} (f : Nat → α) (k : Nat) (v w : α) : va_up (va_up f k v) k w = va_up f k w := bx_uu f k v w
theorem va_up_id {α : Type} (f : Nat → α) (k : Nat) : va_up f k (f k) = f := by
  funext j
  unfold va_up
  by_cases h : j = k
  · rw [if_pos h, h]
  · rw [if_neg h]
/-- all ints of a set of places together -/
def orI (p : Nat → Bool) (g : Nat → Int32) : Nat → Int32
  | 0 => 0
  | n + 1 => if p n then orI p g n ||| g n else orI p g n
/-- the LIFT of a PICK; a CELL is UP -/
def liF (ti tr : Nat → Int32) (p : Nat) : Int32 := orI (fun t => ib (tr p) t) ti 16
def upF (sh ti tr : Nat → Int32) (e p : Nat) : Bool := decide (0 ≤ sh e) && ib (liF ti tr p) (sh e).toNatClampNeg
theorem bit_test (x : Int32) {k : Nat} (hk : k < 32) : (x >>> (nI k &&& 31)) &&& 1 = if ib x k then 1 else 0 := by rw [ib_low, ib_sshr x hk]
set_option maxHeartbeats 4000000 in
set_option maxRecDepth 20000 in
theorem mLifts_in (sc : sm_S) (f : Nat → va_E) (I : Nat → Int32) (A : Nat → Nat → Int32) (B : Nat → Nat → Int64) (Post : sm_M → Option Value → Prop) (y : Nat) (hy : y < 48) (ti : Nat → Int32) (hti : ∀ t, t < 16 → A 5 t = ti t) (g : Nat → Int32) (hK : zW 0 sc miX11_lifts 60 [some (.ref 47), some (.int (nI y)), some (.int (nI 16))] [] (mm f I (va_up A 7 (upd g y (orI (fun t => ib (A 6 y) t) ti 16))) B) Post) : ∀ (k t : Nat), t + k = 16 → zW 0 sc miX11_lifts 19 [some (.ref 47), some (.int (nI y)), some (.int (nI t))] [] (mm f I (va_up A 7 (upd g y (orI (fun t => ib (A 6 y) t) ti t))) B) Post := by
  have hiy : vp_in (nI y) 48 := vp_in_nI hy (by decide)
  have ey : (nI y).toNatClampNeg = y := nI_clamp (by omega)
  intro k
  induction k with
  | zero =>
    intro t ht
    have e : t = 16 := by omega
    subst e
    refine zw_nx rfl (fun _ _ => rfl) ?_
    refine zw_nx rfl (fun _ _ => rfl) ?_
    refine zw_nx rfl (fun _ _ => rfl) ?_
    exact hK
  | succ k ih =>
    intro t ht
    have et : (nI t).toNatClampNeg = t := nI_clamp (by omega)
    have hit : vp_in (nI t) 16 := vp_in_nI (by omega) (by decide)
    have hn := ih (t + 1) (by omega)
    rw [nI_succ] at hn
    refine zw_nx rfl (fun _ _ => rfl) ?_
    refine zw_nx rfl (fun _ _ => rfl) ?_
    first | refine zw_br rfl (fun _ _ => rfl) (fun h9 => absurd h9 (nI_ge (a := t) (b := 16) (by omega) (by decide))) (fun _ => ?_) | refine zw_nx rfl (fun _ _ => rfl) ?_
    refine zw_nx rfl (fun _ _ => rfl) ?_
    refine zw_nx rfl (fun _ _ => rfl) ?_
    refine zw_nx rfl (fun _ _ => rfl) ?_
    refine zw_ix rfl (fun _ _ => rfl) (hiy) ?_
    rw [ey]
    refine zw_nx rfl (fun _ _ => rfl) ?_
    refine zw_nx rfl (fun _ _ => rfl) ?_
    refine zw_nx rfl (fun _ _ => rfl) ?_
    refine zw_nx rfl (fun _ _ => rfl) ?_
    refine zw_nx rfl (fun _ _ => rfl) ?_
    have eb : (A 6 y >>> (nI t &&& 31)) &&& 1 = if ib (A 6 y) t then 1 else 0 := bit_test _ (by omega)
    refine zw_br rfl (fun _ _ => rfl) (fun (hc : (A 6 y >>> (nI t &&& 31)) &&& 1 = 1) => ?_) (fun (hc : ¬ ((A 6 y >>> (nI t &&& 31)) &&& 1 = 1)) => ?_)
    · have hb : ib (A 6 y) t = true := by
        rw [eb] at hc
        cases h : ib (A 6 y) t
        · rw [h] at hc; exact absurd hc (by decide)
        · rfl
      refine zw_nx rfl (fun _ _ => rfl) ?_
      refine zw_nx rfl (fun _ _ => rfl) ?_
      refine zw_nx rfl (fun _ _ => rfl) ?_
      refine zw_nx rfl (fun _ _ => rfl) ?_
      refine zw_ix rfl (fun _ _ => rfl) (hiy) ?_
      rw [ey]
      refine zw_nx rfl (fun _ _ => rfl) ?_
      refine zw_nx rfl (fun _ _ => rfl) ?_
      refine zw_nx rfl (fun _ _ => rfl) ?_
      refine zw_ix rfl (fun _ _ => rfl) (hit) ?_
      rw [et]
      refine zw_nx rfl (fun _ _ => rfl) ?_
      refine zw_ix rfl (fun _ _ => rfl) (hiy) ?_
      rw [ey]
      refine zw_nx rfl (fun _ _ => rfl) ?_
      refine zw_nx rfl (fun _ _ => rfl) ?_
      have e1 : upd (upd g y (orI (fun t => ib (A 6 y) t) ti t)) y (upd g y (orI (fun t => ib (A 6 y) t) ti t) y ||| A 5 t) = upd g y (orI (fun t => ib (A 6 y) t) ti (t + 1)) := by
        funext j
        unfold upd
        by_cases hj : j = y
        · rw [if_pos hj, if_pos hj, if_pos rfl, hti t (by omega), orI, if_pos hb]
        · rw [if_neg hj, if_neg hj, if_neg hj]
      rw [← e1] at hn
      exact hn
    · have hb : ib (A 6 y) t = false := by
        rw [eb] at hc
        cases h : ib (A 6 y) t
        · rfl
        · rw [h] at hc; exact absurd rfl hc
      refine zw_nx rfl (fun _ _ => rfl) ?_
      refine zw_nx rfl (fun _ _ => rfl) ?_
      have e1 : orI (fun t => ib (A 6 y) t) ti (t + 1) = orI (fun t => ib (A 6 y) t) ti t := by rw [orI, if_neg (by simp [hb])]
      rw [e1] at hn
      exact hn
set_option maxHeartbeats 4000000 in
set_option maxRecDepth 20000 in
theorem mLifts (sc : sm_S) (f : Nat → va_E) (I : Nat → Int32) (A : Nat → Nat → Int32) (B : Nat → Nat → Int64) (h : Nat) (hh : h ≤ 48) (hI : I 1 = nI h) (ti tr : Nat → Int32) (hti : ∀ t, t < 16 → A 5 t = ti t) (htr : ∀ p, p < h → A 6 p = tr p) : zC 1 sc 177 [.ref 47] (mm f I A B) (fun M r => r = none ∧ M = mm f I (va_up A 7 (wr (liF ti tr) (A 7) h)) B) := by
  refine zc_of hkX11_lifts rfl ?_
  refine zw_nx rfl (fun _ _ => rfl) ?_
  refine zw_nx rfl (fun _ _ => rfl) ?_
  have key : ∀ (k y : Nat), y + k = h → zW 0 sc miX11_lifts 2 [some (.ref 47), some (.int (nI y)), none] [] (mm f I (va_up A 7 (wr (liF ti tr) (A 7) y)) B) (fun M r => r = none ∧ M = mm f I (va_up A 7 (wr (liF ti tr) (A 7) h)) B) := by
    intro k
    induction k with
    | zero =>
      intro y hy
      have e : y = h := by omega
      subst e
      refine zw_nx rfl (fun _ _ => rfl) ?_
      refine zw_nx rfl (fun _ _ => rfl) ?_
      refine zw_nx rfl (fun _ _ => rfl) ?_
      first | refine zw_br rfl (fun _ _ => rfl) (fun _ => ?_) (fun h9 => absurd (show I 1 ≤ nI y by rw [hI]; exact Int32.le_refl _) h9) | refine zw_nx rfl (fun _ _ => rfl) ?_
      exact zw_ret rfl (fun _ _ => rfl) (⟨rfl, rfl⟩)
    | succ k ih =>
      intro y hy
      have hn := ih (y + 1) (by omega)
      rw [nI_succ] at hn
      refine zw_nx rfl (fun _ _ => rfl) ?_
      refine zw_nx rfl (fun _ _ => rfl) ?_
      refine zw_nx rfl (fun _ _ => rfl) ?_
      first | refine zw_br rfl (fun _ _ => rfl) (fun h9 => absurd h9 (show ¬ I 1 ≤ nI y by rw [hI]; exact nI_ge (by omega) (by omega))) (fun _ => ?_) | refine zw_nx rfl (fun _ _ => rfl) ?_
      refine zw_nx rfl (fun _ _ => rfl) ?_
      refine zw_nx rfl (fun _ _ => rfl) ?_
      refine zw_nx rfl (fun _ _ => rfl) ?_
      refine zw_nx rfl (fun _ _ => rfl) ?_
      refine zw_ix rfl (fun _ _ => rfl) (show vp_in (nI y) 48 from vp_in_nI (by omega) (by decide)) ?_
      rw [show (nI y).toNatClampNeg = y from nI_clamp (by omega)]
      refine zw_nx rfl (fun _ _ => rfl) ?_
      refine zw_nx rfl (fun _ _ => rfl) ?_
      refine mLifts_in sc f I A B _ y (by omega) ti hti (wr (liF ti tr) (A 7) y) ?_ 16 0 (by omega)
      refine zw_nx rfl (fun _ _ => rfl) ?_
      refine zw_nx rfl (fun _ _ => rfl) ?_
      rw [show orI (fun t => ib (A 6 y) t) ti 16 = liF ti tr y from by rw [htr y (by omega)]; rfl, wr_s]
      exact zw_kp hn
  have h0 := key h 0 (by omega)
  rw [wr_0, va_up_id] at h0
  exact zw_kp h0

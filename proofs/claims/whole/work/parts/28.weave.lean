/-! the class: press, raise -/
theorem coAt_all {up : Nat → Nat → Bool} {w : Nat} {g : Nat → Int64} : wr (fun _ => (0 : Int64)) g w = wr (fun e => mk (fun p => up e p) 0) g w := rfl
theorem fill_wr {α : Type} (v : α) (g : Nat → α) (n : Nat) : (fun j => if j < n then v else g j) = wr (fun _ => v) g n := rfl
set_option maxHeartbeats 4000000 in
set_option maxRecDepth 20000 in
theorem xPress_in (sc : sm_S) (I : Nat → Int32) (J : Nat → Int64) (A : Nat → Nat → Int32) (B : Nat → Nat → Int64) (tl : sm_M) (Post : sm_M → Option Value → Prop) (p : Nat) (hp : p < 48) (g : Nat → Int64) (hK : zW 2 sc miX0_press 86 [some (.ref 7), some (.int (nI p)), some (.int (A 3 (64 + p))), some (.int (orI (fun t => ib (A 3 (64 + p)) t) (fun t => A 3 (48 + t)) 16)), some (.int (nI 16))] [] (xm I J A (va_up B 4 (coAt (fun j q => ib (A 3 (64 + q)) j) 16 g p 16)) tl) Post) : ∀ (k t : Nat), t + k = 16 → zW 2 sc miX0_press 35 [some (.ref 7), some (.int (nI p)), some (.int (A 3 (64 + p))), some (.int (orI (fun t => ib (A 3 (64 + p)) t) (fun t => A 3 (48 + t)) t)), some (.int (nI t))] [] (xm I J A (va_up B 4 (coAt (fun j q => ib (A 3 (64 + q)) j) 16 g p t)) tl) Post := by
  intro k
  induction k with
  | zero =>
    intro t ht
    have e : t = 16 := by omega
    subst e
    refine zw_nx rfl (fun _ _ => rfl) ?_
    refine zw_nx rfl (fun _ _ => rfl) ?_
    refine zw_nx rfl (fun _ _ => rfl) ?_
    exact hK
  | succ k ih =>
    intro t ht
    have et : (nI t).toNatClampNeg = t := nI_clamp (by omega)
    have hit : vp_in (nI t) 16 := vp_in_nI (by omega) (by decide)
    have hn := ih (t + 1) (by omega)
    rw [nI_succ] at hn
    refine zw_nx rfl (fun _ _ => rfl) ?_
    refine zw_nx rfl (fun _ _ => rfl) ?_
    first | refine zw_br rfl (fun _ _ => rfl) (fun h9 => absurd h9 (nI_ge (a := t) (b := 16) (by omega) (by decide))) (fun _ => ?_) | refine zw_nx rfl (fun _ _ => rfl) ?_
    refine zw_nx rfl (fun _ _ => rfl) ?_
    refine zw_nx rfl (fun _ _ => rfl) ?_
    refine zw_nx rfl (fun _ _ => rfl) ?_
    refine zw_call rfl (fun _ _ => rfl) (cHasN sc (xm I J A (va_up B 4 (coAt (fun j q => ib (A 3 (64 + q)) j) 16 g p t)) tl) (A 3 (64 + p)).toInt64 (i := t) (by omega)) (by decide) ?_
    rintro M1 r1 ⟨rfl, rfl⟩
    rw [lb_i2l _ (by omega)]
    cases hb : ib (A 3 (64 + p)) t
    · rw [coAt_n (up := fun j q => ib (A 3 (64 + q)) j) hb, show orI (fun t => ib (A 3 (64 + p)) t) (fun t => A 3 (48 + t)) (t + 1) = orI (fun t => ib (A 3 (64 + p)) t) (fun t => A 3 (48 + t)) t from by rw [orI, if_neg (by simp [hb])]] at hn
      refine zw_nx rfl (fun _ _ => rfl) ?_
      refine zw_nx rfl (fun _ _ => rfl) ?_
      refine zw_nx rfl (fun _ _ => rfl) ?_
      exact hn
    · rw [← coAt_s (up := fun j q => ib (A 3 (64 + q)) j) (by omega) hb, show orI (fun t => ib (A 3 (64 + p)) t) (fun t => A 3 (48 + t)) (t + 1) = orI (fun t => ib (A 3 (64 + p)) t) (fun t => A 3 (48 + t)) t ||| A 3 (48 + t) from by rw [orI, if_pos hb]] at hn
      refine zw_nx rfl (fun _ _ => rfl) ?_
      refine zw_nx rfl (fun _ _ => rfl) ?_
      refine zw_nx rfl (fun _ _ => rfl) ?_
      refine zw_nx rfl (fun _ _ => rfl) ?_
      refine zw_nx rfl (fun _ _ => rfl) ?_
      refine zw_ix rfl (fun _ _ => rfl) (hit) ?_
      rw [et]
      refine zw_nx rfl (fun _ _ => rfl) ?_
      refine zw_nx rfl (fun _ _ => rfl) ?_
      refine zw_nx rfl (fun _ _ => rfl) ?_
      refine zw_nx rfl (fun _ _ => rfl) ?_
      refine zw_ix rfl (fun _ _ => rfl) (hit) ?_
      rw [et]
      refine zw_nx rfl (fun _ _ => rfl) ?_
      refine zw_nx rfl (fun _ _ => rfl) ?_
      refine zw_nx rfl (fun _ _ => rfl) ?_
      refine zw_nx rfl (fun _ _ => rfl) ?_
      refine zw_nx rfl (fun _ _ => rfl) ?_
      refine zw_nx rfl (fun _ _ => rfl) ?_
      rw [show (Int8.ofInt 48).toInt32 + nI t = nI (48 + t) from nI_add 48 t]
      refine zw_call rfl (fun _ _ => rfl) (cValueOf sc I J A (va_up B 4 (vp_updL (coAt (fun j q => ib (A 3 (64 + q)) j) 16 g p t) t (coAt (fun j q => ib (A 3 (64 + q)) j) 16 g p t t ||| bitL p))) tl (48 + t) (by omega)) (by decide) ?_
      rintro M1 r1 ⟨rfl, rfl⟩
      refine zw_nx rfl (fun _ _ => rfl) ?_
      refine zw_nx rfl (fun _ _ => rfl) ?_
      refine zw_nx rfl (fun _ _ => rfl) ?_
      refine zw_nx rfl (fun _ _ => rfl) ?_
      exact hn
set_option maxHeartbeats 4000000 in
set_option maxRecDepth 20000 in
theorem xPress (sc : sm_S) (I : Nat → Int32) (J : Nat → Int64) (A : Nat → Nat → Int32) (B : Nat → Nat → Int64) (tl : sm_M) (h : Nat) (hh : h ≤ 48) (hI : I 8 = nI h) : zC 3 sc 3 [.ref 7] (xm I J A B tl) (fun M r => r = none ∧ M = xm I J (va_up A 5 (wr (liF (fun t => A 3 (48 + t)) (fun p => A 3 (64 + p))) (A 5) h)) (va_up B 4 (wr (fun t => mk (fun p => ib (A 3 (64 + p)) t) h) (B 4) 16)) tl) := by
  refine zc_of hkX0_press rfl ?_
  refine zw_nx rfl (fun _ _ => rfl) ?_
  refine zw_nx rfl (fun _ _ => rfl) ?_
  refine zw_nx rfl (fun _ _ => rfl) ?_
  refine zw_call rfl (fun _ _ => rfl) (cFillL sc (xm I J A B tl) 13 16 (B 4) 0 rfl rfl (by decide)) (by decide) ?_
  rintro M1 r1 ⟨rfl, rfl⟩
  refine zw_nx rfl (fun _ _ => rfl) ?_
  refine zw_nx rfl (fun _ _ => rfl) ?_
  have key : ∀ (k p : Nat), p + k = h → zW 2 sc miX0_press 10 [some (.ref 7), some (.int (nI p)), none, none, none] [] (xm I J (va_up A 5 (wr (liF (fun t => A 3 (48 + t)) (fun p => A 3 (64 + p))) (A 5) p)) (va_up B 4 (wr (fun t => mk (fun p => ib (A 3 (64 + p)) t) p) (B 4) 16)) tl) (fun M r => r = none ∧ M = xm I J (va_up A 5 (wr (liF (fun t => A 3 (48 + t)) (fun p => A 3 (64 + p))) (A 5) h)) (va_up B 4 (wr (fun t => mk (fun p => ib (A 3 (64 + p)) t) h) (B 4) 16)) tl) := by
    intro k
    induction k with
    | zero =>
      intro p hp
      have e : p = h := by omega
      subst e
      refine zw_nx rfl (fun _ _ => rfl) ?_
      refine zw_nx rfl (fun _ _ => rfl) ?_
      refine zw_nx rfl (fun _ _ => rfl) ?_
      first | refine zw_br rfl (fun _ _ => rfl) (fun _ => ?_) (fun h9 => absurd (show I 8 ≤ nI p by rw [hI]; exact Int32.le_refl _) h9) | refine zw_nx rfl (fun _ _ => rfl) ?_
      exact zw_ret rfl (fun _ _ => rfl) (⟨rfl, rfl⟩)
    | succ k ih =>
      intro p hp
      have ep : (nI p).toNatClampNeg = p := nI_clamp (by omega)
      have hn := ih (p + 1) (by omega)
      rw [nI_succ] at hn
      refine zw_nx rfl (fun _ _ => rfl) ?_
      refine zw_nx rfl (fun _ _ => rfl) ?_
      refine zw_nx rfl (fun _ _ => rfl) ?_
      first | refine zw_br rfl (fun _ _ => rfl) (fun h9 => absurd h9 (show ¬ I 8 ≤ nI p by rw [hI]; exact nI_ge (by omega) (by omega))) (fun _ => ?_) | refine zw_nx rfl (fun _ _ => rfl) ?_
      refine zw_nx rfl (fun _ _ => rfl) ?_
      refine zw_nx rfl (fun _ _ => rfl) ?_
      refine zw_nx rfl (fun _ _ => rfl) ?_
      refine zw_nx rfl (fun _ _ => rfl) ?_
      refine zw_nx rfl (fun _ _ => rfl) ?_
      rw [show (Int8.ofInt 64).toInt32 + nI p = nI (64 + p) from nI_add 64 p]
      refine zw_call rfl (fun _ _ => rfl) (cValueOf sc I J (va_up A 5 (wr (liF (fun t => A 3 (48 + t)) (fun p => A 3 (64 + p))) (A 5) p)) (va_up B 4 (wr (fun t => mk (fun p => ib (A 3 (64 + p)) t) p) (B 4) 16)) tl (64 + p) (by omega)) (by decide) ?_
      rintro M1 r1 ⟨rfl, rfl⟩
      refine zw_nx rfl (fun _ _ => rfl) ?_
      refine zw_nx rfl (fun _ _ => rfl) ?_
      refine zw_nx rfl (fun _ _ => rfl) ?_
      refine zw_nx rfl (fun _ _ => rfl) ?_
      refine zw_nx rfl (fun _ _ => rfl) ?_
      have h3 := xPress_in sc I J (va_up A 5 (wr (liF (fun t => A 3 (48 + t)) (fun p => A 3 (64 + p))) (A 5) p)) B tl (fun M r => r = none ∧ M = xm I J (va_up A 5 (wr (liF (fun t => A 3 (48 + t)) (fun p => A 3 (64 + p))) (A 5) h)) (va_up B 4 (wr (fun t => mk (fun p => ib (A 3 (64 + p)) t) h) (B 4) 16)) tl) p (by omega) (B 4) (by
        refine zw_nx rfl (fun _ _ => rfl) ?_
        refine zw_nx rfl (fun _ _ => rfl) ?_
        refine zw_nx rfl (fun _ _ => rfl) ?_
        refine zw_nx rfl (fun _ _ => rfl) ?_
        refine zw_ix rfl (fun _ _ => rfl) (show vp_in (nI p) 48 from vp_in_nI (by omega) (by decide)) ?_
        rw [ep]
        refine zw_nx rfl (fun _ _ => rfl) ?_
        refine zw_nx rfl (fun _ _ => rfl) ?_
        rw [coAt_w]
        rw [← wr_s] at hn
        exact zw_kp hn) 16 0 (by omega)
      rw [← coAt_0] at h3
      exact h3
  have h0 := key h 0 (by omega)
  rw [wr_0, va_up_id] at h0
  exact zw_kp h0
set_option maxHeartbeats 4000000 in
set_option maxRecDepth 20000 in
theorem xRaise_in (sc : sm_S) (I : Nat → Int32) (J : Nat → Int64) (A : Nat → Nat → Int32) (B : Nat → Nat → Int64) (tl : sm_M) (Post : sm_M → Option Value → Prop) (p : Nat) (hp : p < 48) (lf : Nat → Int32) (hl : A 5 p = lf p) (g : Nat → Int64) (hK : zW 2 sc miX0_raise 58 [some (.ref 7), some (.int (nI p)), some (.int (nI 16))] [] (xm I J A (va_up B 3 (coAt (fun j q => ib (lf q) j) 16 g p 16)) tl) Post) : ∀ (k t : Nat), t + k = 16 → zW 2 sc miX0_raise 20 [some (.ref 7), some (.int (nI p)), some (.int (nI t))] [] (xm I J A (va_up B 3 (coAt (fun j q => ib (lf q) j) 16 g p t)) tl) Post := by
  have hip : vp_in (nI p) 48 := vp_in_nI hp (by decide)
  have ep : (nI p).toNatClampNeg = p := nI_clamp (by omega)
  intro k
  induction k with
  | zero =>
    intro t ht
    have e : t = 16 := by omega
    subst e
    refine zw_nx rfl (fun _ _ => rfl) ?_
    refine zw_nx rfl (fun _ _ => rfl) ?_
    refine zw_nx rfl (fun _ _ => rfl) ?_
    exact hK
  | succ k ih =>
    intro t ht
    have et : (nI t).toNatClampNeg = t := nI_clamp (by omega)
    have hit : vp_in (nI t) 16 := vp_in_nI (by omega) (by decide)
    have hn := ih (t + 1) (by omega)
    rw [nI_succ] at hn
    refine zw_nx rfl (fun _ _ => rfl) ?_
    refine zw_nx rfl (fun _ _ => rfl) ?_
    first | refine zw_br rfl (fun _ _ => rfl) (fun h9 => absurd h9 (nI_ge (a := t) (b := 16) (by omega) (by decide))) (fun _ => ?_) | refine zw_nx rfl (fun _ _ => rfl) ?_
    refine zw_nx rfl (fun _ _ => rfl) ?_
    refine zw_nx rfl (fun _ _ => rfl) ?_
    refine zw_nx rfl (fun _ _ => rfl) ?_
    refine zw_ix rfl (fun _ _ => rfl) (hip) ?_
    rw [ep, hl]
    refine zw_nx rfl (fun _ _ => rfl) ?_
    refine zw_nx rfl (fun _ _ => rfl) ?_
    refine zw_call rfl (fun _ _ => rfl) (cHasN sc (xm I J A (va_up B 3 (coAt (fun j q => ib (lf q) j) 16 g p t)) tl) (lf p).toInt64 (i := t) (by omega)) (by decide) ?_
    rintro M1 r1 ⟨rfl, rfl⟩
    rw [lb_i2l _ (by omega)]
    cases hb : ib (lf p) t
    · rw [coAt_n (up := fun j q => ib (lf q) j) hb] at hn
      refine zw_nx rfl (fun _ _ => rfl) ?_
      refine zw_nx rfl (fun _ _ => rfl) ?_
      refine zw_nx rfl (fun _ _ => rfl) ?_
      exact hn
    · rw [← coAt_s (up := fun j q => ib (lf q) j) (by omega) hb] at hn
      refine zw_nx rfl (fun _ _ => rfl) ?_
      refine zw_nx rfl (fun _ _ => rfl) ?_
      refine zw_nx rfl (fun _ _ => rfl) ?_
      refine zw_nx rfl (fun _ _ => rfl) ?_
      refine zw_nx rfl (fun _ _ => rfl) ?_
      refine zw_ix rfl (fun _ _ => rfl) (hit) ?_
      rw [et]
      refine zw_nx rfl (fun _ _ => rfl) ?_
      refine zw_nx rfl (fun _ _ => rfl) ?_
      refine zw_nx rfl (fun _ _ => rfl) ?_
      refine zw_nx rfl (fun _ _ => rfl) ?_
      refine zw_ix rfl (fun _ _ => rfl) (hit) ?_
      rw [et]
      refine zw_nx rfl (fun _ _ => rfl) ?_
      refine zw_nx rfl (fun _ _ => rfl) ?_
      exact hn
set_option maxHeartbeats 4000000 in
set_option maxRecDepth 20000 in
theorem xRaise (sc : sm_S) (I : Nat → Int32) (J : Nat → Int64) (A : Nat → Nat → Int32) (B : Nat → Nat → Int64) (tl : sm_M) (h : Nat) (hh : h ≤ 48) (hI : I 8 = nI h) (lf : Nat → Int32) (hl : ∀ p, p < h → A 5 p = lf p) : zC 3 sc 4 [.ref 7] (xm I J A B tl) (fun M r => r = none ∧ M = xm I J A (va_up B 3 (wr (fun t => mk (fun p => ib (lf p) t) h) (B 3) 16)) tl) := by
  refine zc_of hkX0_raise rfl ?_
  refine zw_nx rfl (fun _ _ => rfl) ?_
  refine zw_nx rfl (fun _ _ => rfl) ?_
  refine zw_nx rfl (fun _ _ => rfl) ?_
  refine zw_call rfl (fun _ _ => rfl) (cFillL sc (xm I J A B tl) 12 16 (B 3) 0 rfl rfl (by decide)) (by decide) ?_
  rintro M1 r1 ⟨rfl, rfl⟩
  refine zw_nx rfl (fun _ _ => rfl) ?_
  refine zw_nx rfl (fun _ _ => rfl) ?_
  have key : ∀ (k p : Nat), p + k = h → zW 2 sc miX0_raise 10 [some (.ref 7), some (.int (nI p)), none] [] (xm I J A (va_up B 3 (wr (fun t => mk (fun p => ib (lf p) t) p) (B 3) 16)) tl) (fun M r => r = none ∧ M = xm I J A (va_up B 3 (wr (fun t => mk (fun p => ib (lf p) t) h) (B 3) 16)) tl) := by
    intro k
    induction k with
    | zero =>
      intro p hp
      have e : p = h := by omega
      subst e
      refine zw_nx rfl (fun _ _ => rfl) ?_
      refine zw_nx rfl (fun _ _ => rfl) ?_
      refine zw_nx rfl (fun _ _ => rfl) ?_
      first | refine zw_br rfl (fun _ _ => rfl) (fun _ => ?_) (fun h9 => absurd (show I 8 ≤ nI p by rw [hI]; exact Int32.le_refl _) h9) | refine zw_nx rfl (fun _ _ => rfl) ?_
      exact zw_ret rfl (fun _ _ => rfl) (⟨rfl, rfl⟩)
    | succ k ih =>
      intro p hp
      have hn := ih (p + 1) (by omega)
      rw [nI_succ] at hn
      refine zw_nx rfl (fun _ _ => rfl) ?_
      refine zw_nx rfl (fun _ _ => rfl) ?_
      refine zw_nx rfl (fun _ _ => rfl) ?_
      first | refine zw_br rfl (fun _ _ => rfl) (fun h9 => absurd h9 (show ¬ I 8 ≤ nI p by rw [hI]; exact nI_ge (by omega) (by omega))) (fun _ => ?_) | refine zw_nx rfl (fun _ _ => rfl) ?_
      refine zw_nx rfl (fun _ _ => rfl) ?_
      refine zw_nx rfl (fun _ _ => rfl) ?_
      have h3 := xRaise_in sc I J A B tl (fun M r => r = none ∧ M = xm I J A (va_up B 3 (wr (fun t => mk (fun p => ib (lf p) t) h) (B 3) 16)) tl) p (by omega) lf (hl p (by omega)) (B 3) (by
        refine zw_nx rfl (fun _ _ => rfl) ?_
        refine zw_nx rfl (fun _ _ => rfl) ?_
        rw [coAt_w]
        exact zw_kp hn) 16 0 (by omega)
      rw [← coAt_0] at h3
      exact h3
  exact zw_kp (key h 0 (by omega))

/-! the class: planes, period -/
theorem lb_not (x : Int64) {i : Nat} (hi : i < 64) : lb (x ^^^ (-1)) i = !lb x i := by
  rw [lb_xor, lb_m1 hi]
  cases lb x i <;> rfl
theorem mk_not {p : Nat → Bool} {n : Nat} (hn : n ≤ 64) : (mk p n ^^^ (-1)) &&& mk (fun _ => true) n = mk (fun i => !p i) n := mk_eq hn (fun i hi => by
  rw [lb_and, lb_not _ hi, lb_mk hn, lb_mk hn]
  cases decide (i < n) <;> simp)
/-- how many planes; a plane's bit -/
def nPl : Bool → Nat
  | true => 4
  | false => 1
def PB (V : Nat → Int32) (c : Bool) (i e p : Nat) : Bool := if c then ib (vCol V e p) i else vUp V e p
theorem low4 : ∀ a, a < 10 → ∀ b, b < 10 → (∀ i, i < 4 → ib (nI a) i = ib (nI b) i) → nI a = nI b := by decide +kernel
theorem vCol_ok {V : Nat → Int32} (hV : VOk V) {e p : Nat} (he : e < 48) (hp : p < 48) : ∃ q, q < 10 ∧ vCol V e p = nI q := by
  unfold vCol
  split
  · exact hV.2.2 _ (by omega) (by omega)
  · exact hV.2.2 _ (by omega) (by omega)
theorem pb_eq {V : Nat → Int32} (hV : VOk V) {c : Bool} {e p e' p' : Nat} (he : e < 48) (hp : p < 48) (he' : e' < 48) (hp' : p' < 48) : PF V c e p = PF V c e' p' ↔ ∀ i, i < nPl c → PB V c i e p = PB V c i e' p' := by
  cases c
  · unfold PF PB nPl
    constructor
    · intro h i hi
      simp only [Bool.false_eq_true, if_false] at h ⊢
      cases h1 : vUp V e p <;> cases h2 : vUp V e' p' <;> simp [h1, h2] at h ⊢
    · intro h
      have := h 0 (show 0 < 1 from Nat.zero_lt_one)
      simp only [Bool.false_eq_true, if_false] at this ⊢
      rw [this]
  · unfold PF PB nPl
    simp only [if_true]
    obtain ⟨a, ha, ha2⟩ := vCol_ok hV he hp
    obtain ⟨b, hb, hb2⟩ := vCol_ok hV he' hp'
    rw [ha2, hb2]
    exact ⟨fun h i hi => by rw [h], fun h => low4 a ha b hb h⟩
section
variable (sc : sm_S) (I : Nat → Int32) (J : Nat → Int64) (A : Nat → Nat → Int32) (B : Nat → Nat → Int64) (tl : sm_M) (f : Nat → va_E) (w h n : Nat) (V : Nat → Int32)
set_option maxHeartbeats 4000000 in
set_option maxRecDepth 20000 in
theorem xShowCells (hW : WH w h I J A B) : zC 1 sc 51 [.ref 25] (xm I J A B tl) (fun M r => r = none ∧ ∃ g, M = xm (upd I 28 (nI 1)) J A (va_up B 5 g) tl ∧ ∀ p, p < h → g p = B 0 p) := by
  obtain ⟨h0, h1, h7, h8, hw1, hw, hh1, hh, hJ, hV, hC', hR⟩ := hW
  refine zc_of hkX5_showCells rfl ?_
  repeat (refine zw_go rfl rfl (fun _ _ => rfl) ?_)
  have key : ∀ (k p : Nat), p + k = h → ∀ g, (∀ q, q < p → g q = B 0 q) → zW 0 sc miX5_showCells 7 [some (.ref 25), some (.int (nI p))] [] (xm (upd I 28 (nI 1)) J A (va_up B 5 g) tl) (fun M r => r = none ∧ ∃ g, M = xm (upd I 28 (nI 1)) J A (va_up B 5 g) tl ∧ ∀ p, p < h → g p = B 0 p) := by
    intro k
    induction k with
    | zero =>
      intro p hp g hg
      have e1 : p = h := by omega
      subst e1
      refine zw_nx rfl (fun _ _ => rfl) ?_
      repeat (refine zw_go rfl rfl (fun _ _ => rfl) ?_)
      first | refine zw_br rfl (fun _ _ => rfl) (fun _ => ?_) (fun h9 => absurd (show I 8 ≤ nI p by rw [h8]; exact Int32.le_refl _) h9) | refine zw_nx rfl (fun _ _ => rfl) ?_
      exact zw_ret rfl (fun _ _ => rfl) (⟨rfl, g, rfl, hg⟩)
    | succ k ih =>
      intro p hp g hg
      have hn := ih (p + 1) (by omega) (vp_updL g p (B 0 p)) (fun q hq => by
        by_cases h5 : q = p
        · subst h5; exact pk_uLs
        · rw [pk_uLn h5]; exact hg q (by omega))
      rw [nI_succ] at hn
      refine zw_nx rfl (fun _ _ => rfl) ?_
      repeat (refine zw_go rfl rfl (fun _ _ => rfl) ?_)
      first | refine zw_br rfl (fun _ _ => rfl) (fun h9 => absurd h9 (show ¬ I 8 ≤ nI p by rw [h8]; exact nI_ge (by omega) (by omega))) (fun _ => ?_) | refine zw_nx rfl (fun _ _ => rfl) ?_
      repeat (refine zw_go rfl rfl (fun _ _ => rfl) ?_)
      refine zw_br rfl (fun _ _ => rfl) (fun h9 => absurd h9 (nI_ge (a := p) (b := 48) (by omega) (by omega))) (fun _ => ?_)
      repeat (refine zw_go rfl rfl (fun _ _ => rfl) ?_)
      refine zw_ix rfl (fun _ _ => rfl) (show vp_in (nI (p)) _ from vp_in_nI (by omega) (by omega)) ?_
      rw [show (nI (p)).toNatClampNeg = p from nI_clamp (by omega)]
      repeat (refine zw_go rfl rfl (fun _ _ => rfl) ?_)
      refine zw_ix rfl (fun _ _ => rfl) (show vp_in (nI (p)) _ from vp_in_nI (by omega) (by omega)) ?_
      rw [show (nI (p)).toNatClampNeg = p from nI_clamp (by omega)]
      repeat (refine zw_go rfl rfl (fun _ _ => rfl) ?_)
      exact zw_kp hn
  have h5 := key h 0 (by omega) (B 5) (fun q hq => by omega)
  rw [va_up_id] at h5
  exact zw_kp h5
set_option maxHeartbeats 4000000 in
set_option maxRecDepth 20000 in
theorem xShowColours (hW : WH w h I J A B) (hC : CV I A B w h (A 3)) : zC 2 sc 52 [.ref 25] (xm I J A B tl) (fun M r => r = none ∧ ∃ g, M = xm (upd I 28 (nI 4)) J A (va_up B 5 g) tl ∧ ∀ i p, i < 4 → p < h → g (48 * i + p) = mk (fun e => ib (vCol (A 3) e p) i) w) := by
  obtain ⟨h0, h1, h7, h8, hw1, hw, hh1, hh, hJ, hV, hC', hR⟩ := hW
  refine zc_of hkX5_showColours rfl ?_
  repeat (refine zw_go rfl rfl (fun _ _ => rfl) ?_)
  have key : ∀ (k i : Nat), i + k = 4 → ∀ g, (∀ j p, j < i → p < h → g (48 * j + p) = mk (fun e => ib (vCol (A 3) e p) j) w) → zW 1 sc miX5_showColours 7 [some (.ref 25), some (.int (nI i)), none, none, none, none, none, none] [] (xm (upd I 28 (nI 4)) J A (va_up B 5 g) tl) (fun M r => r = none ∧ ∃ g, M = xm (upd I 28 (nI 4)) J A (va_up B 5 g) tl ∧ ∀ i p, i < 4 → p < h → g (48 * i + p) = mk (fun e => ib (vCol (A 3) e p) i) w) := by
    intro k
    induction k with
    | zero =>
      intro i hi g hg
      have e1 : i = 4 := by omega
      subst e1
      refine zw_nx rfl (fun _ _ => rfl) ?_
      repeat (refine zw_go rfl rfl (fun _ _ => rfl) ?_)
      exact zw_ret rfl (fun _ _ => rfl) (⟨rfl, g, rfl, hg⟩)
    | succ k ih =>
      intro i hi g hg
      refine zw_nx rfl (fun _ _ => rfl) ?_
      repeat (refine zw_go rfl rfl (fun _ _ => rfl) ?_)
      refine zw_br rfl (fun _ _ => rfl) (fun h9 => absurd h9 (nI_ge (a := i) (b := 4) (by omega) (by omega))) (fun _ => ?_)
      repeat (refine zw_go rfl rfl (fun _ _ => rfl) ?_)
      have in1 : ∀ (k e : Nat), e + k = w → zW 1 sc miX5_showColours 17 [some (.ref 25), some (.int (nI i)), some (.long (mk (fun e => ib (A 3 (112 + e)) i) e)), none, some (.int (nI e)), none, none, none] [] (xm (upd I 28 (nI 4)) J A (va_up B 5 g) tl) (fun M r => r = none ∧ ∃ g, M = xm (upd I 28 (nI 4)) J A (va_up B 5 g) tl ∧ ∀ i p, i < 4 → p < h → g (48 * i + p) = mk (fun e => ib (vCol (A 3) e p) i) w) := by
        intro k
        induction k with
        | zero =>
          intro e he
          have e1 : e = w := by omega
          subst e1
          refine zw_nx rfl (fun _ _ => rfl) ?_
          repeat (refine zw_go rfl rfl (fun _ _ => rfl) ?_)
          first | refine zw_br rfl (fun _ _ => rfl) (fun _ => ?_) (fun h9 => absurd (show I 7 ≤ nI e by rw [h7]; exact Int32.le_refl _) h9) | refine zw_nx rfl (fun _ _ => rfl) ?_
          repeat (refine zw_go rfl rfl (fun _ _ => rfl) ?_)
          have in2 : ∀ (k p : Nat), p + k = h → ∀ g2, (∀ j p, j < i → p < h → g2 (48 * j + p) = mk (fun e => ib (vCol (A 3) e p) j) e) → (∀ q, q < p → g2 (48 * i + q) = mk (fun e => ib (vCol (A 3) e q) i) e) → zW 1 sc miX5_showColours 65 [some (.ref 25), some (.int (nI i)), some (.long (mk (fun e => ib (A 3 (112 + e)) i) e)), none, some (.int (nI p)), none, none, none] [] (xm (upd I 28 (nI 4)) J A (va_up B 5 g2) tl) (fun M r => r = none ∧ ∃ g, M = xm (upd I 28 (nI 4)) J A (va_up B 5 g) tl ∧ ∀ i p, i < 4 → p < h → g (48 * i + p) = mk (fun e => ib (vCol (A 3) e p) i) e) := by
            intro k
            induction k with
            | zero =>
              intro p hp g2 a1 a2
              have e1 : p = h := by omega
              subst e1
              refine zw_nx rfl (fun _ _ => rfl) ?_
              repeat (refine zw_go rfl rfl (fun _ _ => rfl) ?_)
              first | refine zw_br rfl (fun _ _ => rfl) (fun _ => ?_) (fun h9 => absurd (show I 8 ≤ nI p by rw [h8]; exact Int32.le_refl _) h9) | refine zw_nx rfl (fun _ _ => rfl) ?_
              repeat (refine zw_go rfl rfl (fun _ _ => rfl) ?_)
              have hn := ih (i + 1) (by omega) g2 (fun j q hj hq => by
                by_cases h5 : j = i
                · subst h5; exact a2 q hq
                · exact a1 j q (by omega) hq)
              rw [nI_succ] at hn
              exact zw_kp hn
            | succ k ih3 =>
              intro p hp g2 a1 a2
              have hn3 := ih3 (p + 1) (by omega) (vp_updL g2 (48 * i + p) (mk (fun e => ib (vCol (A 3) e p) i) e)) (fun j q hj hq => by rw [pk_uLn (by omega)]; exact a1 j q hj hq) (fun q hq => by
                by_cases h5 : q = p
                · subst h5; exact pk_uLs
                · rw [pk_uLn (by omega)]; exact a2 q (by omega))
              rw [nI_succ] at hn3
              refine zw_nx rfl (fun _ _ => rfl) ?_
              repeat (refine zw_go rfl rfl (fun _ _ => rfl) ?_)
              first | refine zw_br rfl (fun _ _ => rfl) (fun h9 => absurd h9 (show ¬ I 8 ≤ nI p by rw [h8]; exact nI_ge (by omega) (by omega))) (fun _ => ?_) | refine zw_nx rfl (fun _ _ => rfl) ?_
              repeat (refine zw_go rfl rfl (fun _ _ => rfl) ?_)
              refine zw_br rfl (fun _ _ => rfl) (fun h9 => absurd h9 (nI_ge (a := p) (b := 48) (by omega) (by omega))) (fun _ => ?_)
              repeat (refine zw_go rfl rfl (fun _ _ => rfl) ?_)
              refine zw_ix rfl (fun _ _ => rfl) (show vp_in (nI (p)) _ from vp_in_nI (by omega) (by omega)) ?_
              rw [show (nI (p)).toNatClampNeg = p from nI_clamp (by omega)]
              repeat (refine zw_go rfl rfl (fun _ _ => rfl) ?_)
              rw [show va_up B 5 g2 0 p = mk (fun x => vUp (A 3) x p) e from hC.2.1 p (by omega)]
              rw [show (Int16.ofInt 160).toInt32 + nI p = nI (160 + p) from nI_add 160 p]
              refine zw_call rfl (fun _ _ => rfl) (cValueOf sc (upd I 28 (nI 4)) J A (va_up B 5 g2) tl (160 + p) (by omega)) (by decide) ?_
              rintro M1 r1 ⟨rfl, rfl⟩
              repeat (refine zw_go rfl rfl (fun _ _ => rfl) ?_)
              refine zw_call rfl (fun _ _ => rfl) (cHasN sc (xm (upd I 28 (nI 4)) J A (va_up B 5 g2) tl) (A 3 (160 + p)).toInt64 (i := i) (by omega)) (by decide) ?_
              rintro M1 r1 ⟨rfl, rfl⟩
              rw [lb_i2l _ (by omega)]
              have eR : mk (fun x => ib (vCol (A 3) x p) i) e = (mk (fun x => vUp (A 3) x p) e &&& mk (fun x => ib (A 3 (112 + x)) i) e) ||| (if ib (A 3 (160 + p)) i then (mk (fun x => vUp (A 3) x p) e ^^^ (-1)) &&& mk (fun _ => true) e else 0) := by
                rw [mk_and (by omega), mk_not (by omega)]
                cases hb : ib (A 3 (160 + p)) i
                · rw [if_neg (by simp), ← mk_false e, mk_or (by omega)]
                  refine mk_cong (fun x hx => ?_)
                  unfold vCol
                  cases hu : vUp (A 3) x p
                  · simp [hb]
                  · simp
                · rw [if_pos rfl, mk_or (by omega)]
                  refine mk_cong (fun x hx => ?_)
                  unfold vCol
                  cases hu : vUp (A 3) x p
                  · simp [hb]
                  · simp
              cases hb : ib (A 3 (160 + p)) i
              · rw [hb, if_neg (by simp)] at eR
                rw [eR] at hn3
                repeat (refine zw_go rfl rfl (fun _ _ => rfl) ?_)
                rw [show nI i * (Int8.ofInt 48).toInt32 + nI p = nI (48 * i + p) from by rw [show (Int8.ofInt 48).toInt32 = nI 48 from rfl, nI_mul, nI_add, Nat.mul_comm]]
                refine zw_ix rfl (fun _ _ => rfl) (show vp_in (nI (48 * i + p)) 192 from vp_in_nI (by omega) (by decide)) ?_
                rw [show (nI (48 * i + p)).toNatClampNeg = 48 * i + p from nI_clamp (by omega)]
                repeat (refine zw_go rfl rfl (fun _ _ => rfl) ?_)
                exact zw_kp hn3
              · rw [hb, if_pos rfl, ← hJ] at eR
                rw [eR] at hn3
                repeat (refine zw_go rfl rfl (fun _ _ => rfl) ?_)
                rw [show nI i * (Int8.ofInt 48).toInt32 + nI p = nI (48 * i + p) from by rw [show (Int8.ofInt 48).toInt32 = nI 48 from rfl, nI_mul, nI_add, Nat.mul_comm]]
                refine zw_ix rfl (fun _ _ => rfl) (show vp_in (nI (48 * i + p)) 192 from vp_in_nI (by omega) (by decide)) ?_
                rw [show (nI (48 * i + p)).toNatClampNeg = 48 * i + p from nI_clamp (by omega)]
                repeat (refine zw_go rfl rfl (fun _ _ => rfl) ?_)
                exact zw_kp hn3
          exact zw_kp (in2 h 0 (by omega) g hg (fun q hq => by omega))
        | succ k ih2 =>
          intro e he
          have hn2 := ih2 (e + 1) (by omega)
          rw [nI_succ, mk] at hn2
          refine zw_nx rfl (fun _ _ => rfl) ?_
          repeat (refine zw_go rfl rfl (fun _ _ => rfl) ?_)
          first | refine zw_br rfl (fun _ _ => rfl) (fun h9 => absurd h9 (show ¬ I 7 ≤ nI e by rw [h7]; exact nI_ge (by omega) (by omega))) (fun _ => ?_) | refine zw_nx rfl (fun _ _ => rfl) ?_
          repeat (refine zw_go rfl rfl (fun _ _ => rfl) ?_)
          rw [show (Int8.ofInt 112).toInt32 + nI e = nI (112 + e) from nI_add 112 e]
          refine zw_call rfl (fun _ _ => rfl) (cValueOf sc (upd I 28 (nI 4)) J A (va_up B 5 g) tl (112 + e) (by omega)) (by decide) ?_
          rintro M1 r1 ⟨rfl, rfl⟩
          repeat (refine zw_go rfl rfl (fun _ _ => rfl) ?_)
          refine zw_call rfl (fun _ _ => rfl) (cHasN sc (xm (upd I 28 (nI 4)) J A (va_up B 5 g) tl) (A 3 (112 + e)).toInt64 (i := i) (by omega)) (by decide) ?_
          rintro M1 r1 ⟨rfl, rfl⟩
          rw [lb_i2l _ (by omega)]
          cases hb : ib (A 3 (112 + e)) i
          · rw [if_neg (by simp [hb])] at hn2
            repeat (refine zw_go rfl rfl (fun _ _ => rfl) ?_)
            exact hn2
          · rw [if_pos hb] at hn2
            repeat (refine zw_go rfl rfl (fun _ _ => rfl) ?_)
            exact hn2
      exact zw_kp (in1 w 0 (by omega))
  have h5 := key 4 0 (by omega) (B 5) (fun j p hj => by omega)
  rw [va_up_id] at h5
  exact zw_kp h5
set_option maxHeartbeats 4000000 in
set_option maxRecDepth 20000 in
theorem xRowAt5 (i p : Nat) (hi : i < 4) (hp : p < 48) : zC 1 sc 55 [.ref 25, .int (nI i), .int (nI p)] (xm I J A B tl) (zR (xm I J A B tl) (.long (B 5 (48 * i + p)))) := by
  refine zc_of hkX5_rowAt rfl ?_
  repeat (refine zw_go rfl rfl (fun _ _ => rfl) ?_)
  rw [show nI i * (Int8.ofInt 48).toInt32 + nI p = nI (48 * i + p) from by rw [show (Int8.ofInt 48).toInt32 = nI 48 from rfl, nI_mul, nI_add, Nat.mul_comm]]
  first | refine zw_br rfl (fun _ _ => rfl) (fun h9 => absurd h9 (nI_pos (n := 48 * i + p) (by omega))) (fun _ => ?_) | refine zw_nx rfl (fun _ _ => rfl) ?_
  repeat (refine zw_go rfl rfl (fun _ _ => rfl) ?_)
  refine zw_br rfl (fun _ _ => rfl) (fun h9 => absurd h9 (nI_ge (a := 48 * i + p) (b := 192) (by omega) (by omega))) (fun _ => ?_)
  repeat (refine zw_go rfl rfl (fun _ _ => rfl) ?_)
  refine zw_ix rfl (fun _ _ => rfl) (show vp_in (nI (48 * i + p)) _ from vp_in_nI (by omega) (by omega)) ?_
  rw [show (nI (48 * i + p)).toNatClampNeg = 48 * i + p from nI_clamp (by omega)]
  repeat (refine zw_go rfl rfl (fun _ _ => rfl) ?_)
  exact zw_ret rfl (fun _ _ => rfl) (⟨rfl, rfl⟩)
end

/-! SEEN: seen, wrong, nearest -/
def setS (S : Nat → Nat → Bool) (q : Nat) (x : Int64) : Nat → Nat → Bool := fun e p => if p = q then lb x e else S e p
/-- what the class has of SEEN -/
def SOk (B : Nat → Nat → Int64) (w h : Nat) (S : Nat → Nat → Bool) : Prop := (∀ p, p < h → B 13 p = mk (fun e => S e p) w) ∧ (∀ p, h ≤ p → p < 48 → B 13 p = 0) ∧ (∀ e, e < w → B 14 e = mk (fun p => S e p) h)
theorem mk_on {p : Nat → Bool} {n q : Nat} (hn : n ≤ 64) (hq : q < n) : mk p n ||| bitL q = mk (fun i => if i = q then true else p i) n := mk_eq hn (fun i hi => by
  rw [lb_or, lb_mk hn, lb_bit (by omega)]
  by_cases h : i = q
  · subst h; simp [hq]
  · simp [h])
theorem mk_off {p : Nat → Bool} {n q : Nat} (hn : n ≤ 64) (hq : q < n) : mk p n &&& (bitL q ^^^ (-1)) = mk (fun i => if i = q then false else p i) n := mk_eq hn (fun i hi => by
  rw [lb_and, lb_mk hn, lb_xor, lb_bit (by omega), lb_m1 hi]
  by_cases h : i = q
  · subst h; simp
  · simp [h])
def snF (S : Nat → Nat → Bool) (q : Nat) (x : Int64) (h : Nat) : Nat → Int64 := fun e => mk (fun p => setS S q x e p) h
theorem snF_on {S : Nat → Nat → Bool} {q : Nat} {x : Int64} {h e : Nat} (hh : h ≤ 48) (hq : q < h) (hb : lb x e = true) : mk (fun p => S e p) h ||| bitL q = snF S q x h e := by
  rw [mk_on (by omega) hq]
  refine mk_cong (fun i hi => ?_)
  unfold setS
  rw [hb]
theorem snF_off {S : Nat → Nat → Bool} {q : Nat} {x : Int64} {h e : Nat} (hh : h ≤ 48) (hq : q < h) (hb : lb x e = false) : mk (fun p => S e p) h &&& (bitL q ^^^ (-1)) = snF S q x h e := by
  rw [mk_off (by omega) hq]
  refine mk_cong (fun i hi => ?_)
  unfold setS
  rw [hb]
/-- the PICKS of a SHAFT (k: the SHAFT and one more; 0: none) -/
def colK (lf : Nat → Int32) (k p : Nat) : Bool := decide (1 ≤ k) && ib (lf p) (k - 1)
def dK (lf : Nat → Int32) (S : Nat → Nat → Bool) (h e k : Nat) : Nat := cnt (fun p => colK lf k p ^^ S e p) h
/-- the nearest: its own, else the first of the fewest -/
def nrF (d : Nat → Nat) (b : Nat) : Nat → Nat
  | 0 => b
  | k + 1 => if d k < d (nrF d b k) then k else nrF d b k
def kI (k : Nat) : Int32 := nI k - 1
def idx (x : Int32) : Nat := if 0 ≤ x then x.toNatClampNeg + 1 else 0
theorem kI_s (k : Nat) : kI (k + 1) = nI k := nI_pred k
theorem kI_inc (k : Nat) : kI k + 1 = kI (k + 1) := by
  rw [kI_s]
  unfold kI
  rw [Int32.sub_add_cancel]
theorem idx_k {x : Int32} (h : shOk x) : x = kI (idx x) ∧ idx x ≤ 16 := by
  rcases h with h | ⟨q, hq, h⟩
  · subst h; exact ⟨by decide, by decide⟩
  · subst h
    have e : idx (nI q) = q + 1 := by
      unfold idx
      rw [if_pos (nI_pos' (by omega)), nI_clamp (by omega)]
    rw [e, kI_s]
    exact ⟨rfl, by omega⟩
theorem kI_sh {k : Nat} (h : k ≤ 16) : shOk (kI k) := by
  cases k with
  | zero => exact Or.inl (by decide)
  | succ k => exact Or.inr ⟨k, by omega, kI_s k⟩
theorem kI_idx {k : Nat} (h : k ≤ 16) : idx (kI k) = k := by
  cases k with
  | zero => decide
  | succ k =>
    rw [kI_s]
    unfold idx
    rw [if_pos (nI_pos' (by omega)), nI_clamp (by omega)]
theorem kI_inj {a b : Nat} (ha : a ≤ 16) (hb : b ≤ 16) (h : kI a = kI b) : a = b := by
  rw [← kI_idx ha, h, kI_idx hb]
theorem nrF_le {d : Nat → Nat} {b : Nat} (hb : b ≤ 16) : ∀ {k : Nat}, k ≤ 17 → nrF d b k ≤ 16 := by
  intro k
  induction k with
  | zero => intro _; exact hb
  | succ k ih =>
    intro hk
    rw [nrF]
    split
    · omega
    · exact ih (by omega)
theorem kI_lt16 : ∀ k, k < 17 → ¬ (16 : Int32) ≤ kI k := by decide +kernel
theorem dK_le {lf : Nat → Int32} {S : Nat → Nat → Bool} {h e k : Nat} : dK lf S h e k ≤ h := cnt_le
/-- a bit put at the top -/
theorem mk_top {p : Nat → Bool} {k : Nat} {b : Bool} (hb : p k = b) : mk p k ||| ((if b then (1 : Int64) else 0) <<< ((nI k).toInt64 &&& 63)) = mk p (k + 1) := by
  rw [mk, hb]
  cases b
  · rw [if_neg (by simp), if_neg (by simp)]
    have e : (0 : Int64) <<< ((nI k).toInt64 &&& 63) = 0 := by
      refine Int64.toBitVec_inj.mp ?_
      show (0#64) <<< (((nI k).toInt64 &&& 63).toBitVec.smod 64).toNat = 0#64
      exact BitVec.zero_shiftLeft _
    rw [e]
    exact lb_ext (fun i hi => by rw [lb_or, lb_0, Bool.or_false])
  · rw [if_pos rfl, if_pos rfl]
    rfl
theorem ite_i2l (b : Bool) : (if b = true then (1 : Int32) else 0).toInt64 = if b = true then 1 else 0 := by cases b <;> decide
theorem span_mk {a b : Nat} (ha : a ≤ b) (hb : b < 48) : (bitL (b - a + 1) - 1) <<< ((nI a).toInt64 &&& 63) = mk (fun i => decide (a ≤ i)) (b + 1) := mk_eq (by omega) (fun i hi => by
  rw [lb_shl _ (by omega), lb_low_n (by omega), decide_eq_true hi]
  by_cases h1 : i < a
  · have h2 : ¬ a ≤ i := by omega
    simp [h1, h2]
  · have h2 : a ≤ i := by omega
    by_cases h3 : i < b + 1
    · have h4 : i - a < b - a + 1 := by omega
      simp [h1, h2, h3, h4]
    · have h4 : ¬ i - a < b - a + 1 := by omega
      simp [h1, h3, h4])
section
variable (sc : sm_S) (I : Nat → Int32) (J : Nat → Int64) (A : Nat → Nat → Int32) (B : Nat → Nat → Int64) (tl : sm_M) (f : Nat → va_E) (w h n : Nat) (V : Nat → Int32) (S : Nat → Nat → Bool)
set_option maxHeartbeats 4000000 in
set_option maxRecDepth 20000 in
theorem xNoteRow (q : Nat) (x : Int64) (h7 : I 7 = nI w) (hw : w ≤ 48) (hh : h ≤ 48) (hq : q < h) (hx : x = mk (fun e => lb x e) w) (hS : SOk B w h S) : zC 2 sc 97 [.ref 41, .int (nI q), .long x] (xm I J A B tl) (fun M r => r = none ∧ ∃ B', M = xm (upd I 40 (I 40 + 1)) J A B' tl ∧ SOk B' w h (setS S q x) ∧ ∀ b, b ≠ 13 → b ≠ 14 → B' b = B b) := by
  refine zc_of hkX8_noteRow rfl ?_
  repeat (refine zw_go rfl rfl (fun _ _ => rfl) ?_)
  first | refine zw_br rfl (fun _ _ => rfl) (fun h9 => absurd h9 (show ¬ nI q < (0 : Int32) from nI_pos (by omega))) (fun _ => ?_) | refine zw_nx rfl (fun _ _ => rfl) ?_
  repeat (refine zw_go rfl rfl (fun _ _ => rfl) ?_)
  first | refine zw_br rfl (fun _ _ => rfl) (fun _ => ?_) (fun h9 => absurd (show nI q < 48 from nI_lt (b := 48) (by omega) (by decide)) h9) | refine zw_nx rfl (fun _ _ => rfl) ?_
  repeat (refine zw_go rfl rfl (fun _ _ => rfl) ?_)
  refine zw_ix rfl (fun _ _ => rfl) (show vp_in (nI (q)) _ from vp_in_nI (by omega) (by omega)) ?_
  rw [show (nI (q)).toNatClampNeg = q from nI_clamp (by omega)]
  repeat (refine zw_go rfl rfl (fun _ _ => rfl) ?_)
  have key : ∀ (k e : Nat), e + k = w → zW 1 sc miX8_noteRow 36 [some (.ref 41), none, some (.long x), none, some (.long (bitL q)), none, some (.int (nI e))] [] (xm (upd I 40 (I 40 + 1)) J A (va_up (va_up B 13 (vp_updL (B 13) q x)) 14 (wr (snF S q x h) (B 14) e)) tl) (fun M r => r = none ∧ ∃ B', M = xm (upd I 40 (I 40 + 1)) J A B' tl ∧ SOk B' w h (setS S q x) ∧ ∀ b, b ≠ 13 → b ≠ 14 → B' b = B b) := by
    intro k
    induction k with
    | zero =>
      intro e he
      have e1 : e = w := by omega
      refine zw_nx rfl (fun _ _ => rfl) ?_
      repeat (refine zw_go rfl rfl (fun _ _ => rfl) ?_)
      first | refine zw_br rfl (fun _ _ => rfl) (fun _ => ?_) (fun h9 => absurd (show I 7 ≤ nI e by rw [h7, e1]; exact Int32.le_refl _) h9) | refine zw_nx rfl (fun _ _ => rfl) ?_
      repeat (refine zw_go rfl rfl (fun _ _ => rfl) ?_)
      refine zw_ret rfl (fun _ _ => rfl) ?_
      refine ⟨rfl, _, rfl, ⟨fun p hp => ?_, fun p hp hp2 => ?_, fun e2 he2 => ?_⟩, fun b h13 h14 => ?_⟩
      · show vp_updL (B 13) q x p = _
        unfold vp_updL
        by_cases h5 : p = q
        · rw [if_pos h5, hx]
          refine mk_cong (fun i hi => ?_)
          unfold setS
          rw [if_pos h5, ← hx]
        · rw [if_neg h5, hS.1 p hp]
          refine mk_cong (fun i hi => ?_)
          unfold setS
          rw [if_neg h5]
      · show vp_updL (B 13) q x p = 0
        unfold vp_updL
        rw [if_neg (by omega), hS.2.1 p hp hp2]
      · exact wr_in (F := snF S q x h) (g := B 14) (show e2 < e by omega)
      · show va_up (va_up B 13 _) 14 _ b = B b
        unfold va_up
        rw [if_neg h14, if_neg h13]
    | succ k ih =>
      intro e he
      have hn := ih (e + 1) (by omega)
      rw [nI_succ] at hn
      have hc : wr (snF S q x h) (B 14) e e = mk (fun p => S e p) h := (wr_out (Nat.le_refl e)).trans (hS.2.2 e (by omega))
      refine zw_nx rfl (fun _ _ => rfl) ?_
      repeat (refine zw_go rfl rfl (fun _ _ => rfl) ?_)
      first | refine zw_br rfl (fun _ _ => rfl) (fun h9 => absurd h9 (show ¬ I 7 ≤ nI e by rw [h7]; exact nI_ge (by omega) (by omega))) (fun _ => ?_) | refine zw_nx rfl (fun _ _ => rfl) ?_
      repeat (refine zw_go rfl rfl (fun _ _ => rfl) ?_)
      refine zw_br rfl (fun _ _ => rfl) (fun h9 => absurd h9 (nI_ge (a := e) (b := 48) (by omega) (by omega))) (fun _ => ?_)
      repeat (refine zw_go rfl rfl (fun _ _ => rfl) ?_)
      refine zw_call rfl (fun _ _ => rfl) (cHasN sc _ x (i := e) (by omega)) (by decide) ?_
      rintro M1 r1 ⟨rfl, rfl⟩
      cases hb : lb x e
      · have hv : vp_updL (wr (snF S q x h) (B 14) e) e (wr (snF S q x h) (B 14) e e &&& (bitL q ^^^ (-1))) = wr (snF S q x h) (B 14) (e + 1) := by
          rw [hc, snF_off hh hq hb]
          exact wr_sL
        rw [← hv] at hn
        repeat (refine zw_go rfl rfl (fun _ _ => rfl) ?_)
        refine zw_ix rfl (fun _ _ => rfl) (show vp_in (nI (e)) _ from vp_in_nI (by omega) (by omega)) ?_
        rw [show (nI (e)).toNatClampNeg = e from nI_clamp (by omega)]
        repeat (refine zw_go rfl rfl (fun _ _ => rfl) ?_)
        refine zw_ix rfl (fun _ _ => rfl) (show vp_in (nI (e)) _ from vp_in_nI (by omega) (by omega)) ?_
        rw [show (nI (e)).toNatClampNeg = e from nI_clamp (by omega)]
        repeat (refine zw_go rfl rfl (fun _ _ => rfl) ?_)
        exact zw_kp hn
      · have hv : vp_updL (wr (snF S q x h) (B 14) e) e (wr (snF S q x h) (B 14) e e ||| bitL q) = wr (snF S q x h) (B 14) (e + 1) := by
          rw [hc, snF_on hh hq hb]
          exact wr_sL
        rw [← hv] at hn
        repeat (refine zw_go rfl rfl (fun _ _ => rfl) ?_)
        refine zw_ix rfl (fun _ _ => rfl) (show vp_in (nI (e)) _ from vp_in_nI (by omega) (by omega)) ?_
        rw [show (nI (e)).toNatClampNeg = e from nI_clamp (by omega)]
        repeat (refine zw_go rfl rfl (fun _ _ => rfl) ?_)
        refine zw_ix rfl (fun _ _ => rfl) (show vp_in (nI (e)) _ from vp_in_nI (by omega) (by omega)) ?_
        rw [show (nI (e)).toNatClampNeg = e from nI_clamp (by omega)]
        repeat (refine zw_go rfl rfl (fun _ _ => rfl) ?_)
        exact zw_kp hn
  have hk := key w 0 (by omega)
  rw [wr_0] at hk
  exact zw_kp hk
theorem so_cong {B : Nat → Nat → Int64} {w h : Nat} {S S' : Nat → Nat → Bool} (hS : SOk B w h S) (he : ∀ e p, e < w → p < h → S e p = S' e p) : SOk B w h S' := ⟨fun p hp => by rw [hS.1 p hp]; exact mk_cong (fun e h5 => he e p h5 hp), hS.2.1, fun e h5 => by rw [hS.2.2 e h5]; exact mk_cong (fun p hp => he e p h5 hp)⟩
set_option maxHeartbeats 4000000 in
set_option maxRecDepth 20000 in
theorem xSeen (y : Int32) (x : Int64) (hW : WH w h I J A B) (hS : SOk B w h S) : zC 3 sc 139 [.ref 0, .int y, .long x] (xm I J A B tl) (fun M r => r = some (.int (bI (0 ≤ y ∧ y < nI h))) ∧ ((¬ (0 ≤ y ∧ y < nI h) ∧ M = xm I J A B tl) ∨ ((0 ≤ y ∧ y < nI h) ∧ ∃ B', M = xm (upd I 40 (I 40 + 1)) J A B' tl ∧ SOk B' w h (setS S y.toNatClampNeg x) ∧ ∀ b, b ≠ 13 → b ≠ 14 → B' b = B b))) := by
  obtain ⟨h0, h1, h7, h8, hw1, hw, hh1, hh, hJ, hV, hC', hR⟩ := hW
  refine zc_of hkX10_seen rfl ?_
  repeat (refine zw_go rfl rfl (fun _ _ => rfl) ?_)
  refine zw_call rfl (fun _ _ => rfl) (xIsPick sc I J A B tl y h h1) (by decide) ?_
  rintro M1 r1 ⟨rfl, rfl⟩
  repeat (refine zw_go rfl rfl (fun _ _ => rfl) ?_)
  refine zw_br rfl (fun _ _ => rfl) (fun (hc : bI (0 ≤ y ∧ y < nI h) = 0) => ?_) (fun (hc : ¬ (bI (0 ≤ y ∧ y < nI h) = 0)) => ?_)
  · repeat (refine zw_go rfl rfl (fun _ _ => rfl) ?_)
    refine zw_ret rfl (fun _ _ => rfl) ?_
    exact ⟨by rw [hc]; rfl, Or.inl ⟨bI_0.mp hc, rfl⟩⟩
  · have he := bI_of hc
    obtain ⟨q, hq, rfl⟩ := inR_of he (by omega)
    have ex : x &&& J 0 = mk (fun e => lb x e) w := mk_eq (by omega) (fun i hi => by rw [hJ, lb_and, lb_mk (by omega), Bool.and_true, Bool.and_comm])
    have e2 : ∀ i, i < w → lb (x &&& J 0) i = lb x i := fun i hi => by rw [ex, lb_mk_in (by omega) hi]
    repeat (refine zw_go rfl rfl (fun _ _ => rfl) ?_)
    refine zw_call rfl (fun _ _ => rfl) (xNoteRow sc I J A B tl w h S q (x &&& J 0) h7 hw hh hq (by rw [mk_cong (q := fun e => lb x e) e2]; exact ex) hS) (by decide) ?_
    rintro M1 r1 ⟨rfl, B', rfl, hS', hB⟩
    repeat (refine zw_go rfl rfl (fun _ _ => rfl) ?_)
    refine zw_ret rfl (fun _ _ => rfl) ?_
    refine ⟨by rw [bI_t he]; rfl, Or.inr ⟨he, B', rfl, so_cong hS' (fun e p h5 h6 => ?_), hB⟩⟩
    rw [nI_clamp (by omega)]
    unfold setS
    rw [e2 e h5]
set_option maxHeartbeats 4000000 in
set_option maxRecDepth 20000 in
theorem mSpan (M : sm_M) (a b : Nat) (ha : a ≤ b) (hb : b < 48) : zC 1 sc 212 [.int (nI a), .int (nI b)] M (zR M (.long (mk (fun i => decide (a ≤ i)) (b + 1)))) := by
  refine zc_of hkX11_span rfl ?_
  repeat (refine zw_go rfl rfl (fun _ _ => rfl) ?_)
  refine zw_ret rfl (fun _ _ => rfl) ?_
  refine ⟨rfl, ?_⟩
  rw [← span_mk ha hb]
  show some (Value.long (((1 : Int64) <<< ((nI b - nI a + 1).toInt64 &&& 63) - 1) <<< ((nI a).toInt64 &&& 63))) = _
  rw [nI_sub ha, nI_1]
  rfl
/-- what the reference has of SEEN -/
def RSOk (B : Nat → Nat → Int64) (w h : Nat) (S : Nat → Nat → Bool) : Prop := ∀ p, p < h → B 4 p = mk (fun e => S e p) w
set_option maxHeartbeats 4000000 in
set_option maxRecDepth 20000 in
theorem mSeen (y : Int32) (x : Int64) (hM : MH I A w h n V) (hS : RSOk B w h S) : zC 3 sc 236 [.ref 47, .int y, .long x] (mm f I A B) (fun M r => r = some (.int (bI (0 ≤ y ∧ y < nI h))) ∧ ((¬ (0 ≤ y ∧ y < nI h) ∧ M = mm f I A B) ∨ ((0 ≤ y ∧ y < nI h) ∧ ∃ B', M = mm f I A B' ∧ RSOk B' w h (setS S y.toNatClampNeg x) ∧ ∀ b, b ≠ 4 → B' b = B b))) := by
  obtain ⟨h0, h1, hw1, hw, hh1, hh, h4, hn, hv, hV⟩ := hM
  refine zc_of hkX11_seen rfl ?_
  repeat (refine zw_go rfl rfl (fun _ _ => rfl) ?_)
  refine zw_call rfl (fun _ _ => rfl) (mIsPick sc f I A B y h h1 hh1 hh) (by decide) ?_
  rintro M1 r1 ⟨rfl, rfl⟩
  repeat (refine zw_go rfl rfl (fun _ _ => rfl) ?_)
  refine zw_br rfl (fun _ _ => rfl) (fun (hc : bI (0 ≤ y ∧ y < nI h) = 0) => ?_) (fun (hc : ¬ (bI (0 ≤ y ∧ y < nI h) = 0)) => ?_)
  · repeat (refine zw_go rfl rfl (fun _ _ => rfl) ?_)
    refine zw_ret rfl (fun _ _ => rfl) ?_
    exact ⟨by rw [hc]; rfl, Or.inl ⟨bI_0.mp hc, rfl⟩⟩
  · have he := bI_of hc
    obtain ⟨q, hq, rfl⟩ := inR_of he (by omega)
    repeat (refine zw_go rfl rfl (fun _ _ => rfl) ?_)
    rw [show I 0 - Int32.ofInt 1 = nI (w - 1) from by rw [h0]; exact nI_sub (b := 1) hw1]
    refine zw_call rfl (fun _ _ => rfl) (mSpan sc (mm f I A B) 0 (w - 1) (by omega) (by omega)) (by decide) ?_
    rintro M1 r1 ⟨rfl, rfl⟩
    repeat (refine zw_go rfl rfl (fun _ _ => rfl) ?_)
    refine zw_ix rfl (fun _ _ => rfl) (show vp_in (nI (q)) _ from vp_in_nI (by omega) (by omega)) ?_
    rw [show (nI (q)).toNatClampNeg = q from nI_clamp (by omega)]
    repeat (refine zw_go rfl rfl (fun _ _ => rfl) ?_)
    refine zw_ret rfl (fun _ _ => rfl) ?_
    refine ⟨by rw [bI_t he]; rfl, Or.inr ⟨he, va_up B 4 (vp_updL (B 4) q (x &&& mk (fun i => decide (0 ≤ i)) (w - 1 + 1))), rfl, fun p hp => ?_, fun b hb => ?_⟩⟩
    · show vp_updL (B 4) q _ p = _
      unfold vp_updL setS
      by_cases h5 : p = q
      · rw [if_pos h5]
        refine mk_eq (by omega) (fun i hi => ?_)
        rw [lb_and, lb_mk (by omega), if_pos h5]
        by_cases h6 : i < w
        · have h7 : i < w - 1 + 1 := by omega
          simp [h6, h7]
        · have h7 : ¬ i < w - 1 + 1 := by omega
          simp [h6, h7]
      · rw [if_neg h5, hS p hp]
        exact mk_cong (fun i hi => by rw [if_neg h5])
    · show va_up B 4 _ b = B b
      unfold va_up
      rw [if_neg hb]
set_option maxHeartbeats 4000000 in
set_option maxRecDepth 20000 in
theorem mSeenCol (e : Nat) (he : e < w) (hM : MH I A w h n V) (hS : RSOk B w h S) : zC 1 sc 237 [.ref 47, .int (nI e)] (mm f I A B) (zR (mm f I A B) (.long (mk (fun p => S e p) h))) := by
  obtain ⟨h0, h1, hw1, hw, hh1, hh, h4, hn, hv, hV⟩ := hM
  refine zc_of hkX11_seenColumn rfl ?_
  repeat (refine zw_go rfl rfl (fun _ _ => rfl) ?_)
  have key : ∀ (k p : Nat), p + k = h → zW 0 sc miX11_seenColumn 5 [some (.ref 47), some (.int (nI e)), some (.long (mk (fun p => S e p) p)), none, some (.int (nI p))] [] (mm f I A B) (zR (mm f I A B) (.long (mk (fun p => S e p) h))) := by
    intro k
    induction k with
    | zero =>
      intro p hp
      have e1 : p = h := by omega
      subst e1
      refine zw_nx rfl (fun _ _ => rfl) ?_
      repeat (refine zw_go rfl rfl (fun _ _ => rfl) ?_)
      first | refine zw_br rfl (fun _ _ => rfl) (fun _ => ?_) (fun h9 => absurd (show I 1 ≤ nI p by rw [h1]; exact Int32.le_refl _) h9) | refine zw_nx rfl (fun _ _ => rfl) ?_
      repeat (refine zw_go rfl rfl (fun _ _ => rfl) ?_)
      exact zw_ret rfl (fun _ _ => rfl) (⟨rfl, rfl⟩)
    | succ k ih =>
      intro p hp
      have hn := ih (p + 1) (by omega)
      have hb : lb (B 4 p) e = S e p := by rw [hS p (by omega), lb_mk_in (by omega) he]
      rw [nI_succ, ← mk_top (p := fun p => S e p) (k := p) rfl, ← hb, ← bit_testL (B 4 p) (k := e) (by omega)] at hn
      refine zw_nx rfl (fun _ _ => rfl) ?_
      repeat (refine zw_go rfl rfl (fun _ _ => rfl) ?_)
      first | refine zw_br rfl (fun _ _ => rfl) (fun h9 => absurd h9 (show ¬ I 1 ≤ nI p by rw [h1]; exact nI_ge (by omega) (by omega))) (fun _ => ?_) | refine zw_nx rfl (fun _ _ => rfl) ?_
      repeat (refine zw_go rfl rfl (fun _ _ => rfl) ?_)
      refine zw_ix rfl (fun _ _ => rfl) (show vp_in (nI (p)) _ from vp_in_nI (by omega) (by omega)) ?_
      rw [show (nI (p)).toNatClampNeg = p from nI_clamp (by omega)]
      repeat (refine zw_go rfl rfl (fun _ _ => rfl) ?_)
      exact zw_kp hn
  exact zw_kp (key h 0 (by omega))
set_option maxHeartbeats 4000000 in
set_option maxRecDepth 20000 in
theorem mColBy (lf : Nat → Int32) (j : Nat) (hj : j ≤ 16) (hM : MH I A w h n V) (hl : ∀ p, p < h → A 7 p = lf p) : zC 1 sc 238 [.ref 47, .int (kI j)] (mm f I A B) (zR (mm f I A B) (.long (mk (fun p => colK lf j p) h))) := by
  obtain ⟨h0, h1, hw1, hw, hh1, hh, h4, hn, hv, hV⟩ := hM
  refine zc_of hkX11_columnBy rfl ?_
  repeat (refine zw_go rfl rfl (fun _ _ => rfl) ?_)
  cases j with
  | zero =>
    have e0 : mk (fun p => colK lf 0 p) h = 0 := mk_false h
    rw [e0]
    refine zw_nx rfl (fun _ _ => rfl) ?_
    repeat (refine zw_go rfl rfl (fun _ _ => rfl) ?_)
    first | refine zw_br rfl (fun _ _ => rfl) (fun h9 => absurd h9 (show ¬ I 1 ≤ Int32.ofInt 0 by rw [h1]; exact nI_nle (by omega) (by omega))) (fun _ => ?_) | refine zw_nx rfl (fun _ _ => rfl) ?_
    repeat (refine zw_go rfl rfl (fun _ _ => rfl) ?_)
    exact zw_ret rfl (fun _ _ => rfl) (⟨rfl, rfl⟩)
  | succ j =>
    rw [kI_s]
    have key : ∀ (k p : Nat), p + k = h → zW 0 sc miX11_columnBy 5 [some (.ref 47), some (.int (nI j)), some (.long (mk (fun p => colK lf (j + 1) p) p)), none, some (.int (nI p))] [] (mm f I A B) (zR (mm f I A B) (.long (mk (fun p => colK lf (j + 1) p) h))) := by
      intro k
      induction k with
      | zero =>
        intro p hp
        have e1 : p = h := by omega
        subst e1
        refine zw_nx rfl (fun _ _ => rfl) ?_
        repeat (refine zw_go rfl rfl (fun _ _ => rfl) ?_)
        first | refine zw_br rfl (fun _ _ => rfl) (fun _ => ?_) (fun h9 => absurd (show I 1 ≤ nI p by rw [h1]; exact Int32.le_refl _) h9) | refine zw_nx rfl (fun _ _ => rfl) ?_
        repeat (refine zw_go rfl rfl (fun _ _ => rfl) ?_)
        exact zw_ret rfl (fun _ _ => rfl) (⟨rfl, rfl⟩)
      | succ k ih =>
        intro p hp
        have hn := ih (p + 1) (by omega)
        have hb : colK lf (j + 1) p = ib (A 7 p) j := by
          rw [hl p (by omega)]
          unfold colK
          rw [decide_eq_true (by omega), Bool.true_and, Nat.add_sub_cancel]
        rw [nI_succ, ← mk_top (p := fun p => colK lf (j + 1) p) (k := p) hb, ← ite_i2l, ← bit_test (A 7 p) (k := j) (by omega)] at hn
        refine zw_nx rfl (fun _ _ => rfl) ?_
        repeat (refine zw_go rfl rfl (fun _ _ => rfl) ?_)
        first | refine zw_br rfl (fun _ _ => rfl) (fun h9 => absurd h9 (show ¬ I 1 ≤ nI p by rw [h1]; exact nI_ge (by omega) (by omega))) (fun _ => ?_) | refine zw_nx rfl (fun _ _ => rfl) ?_
        repeat (refine zw_go rfl rfl (fun _ _ => rfl) ?_)
        first | refine zw_br rfl (fun _ _ => rfl) (fun h9 => absurd h9 (show ¬ nI j < (0 : Int32) from nI_pos (by omega))) (fun _ => ?_) | refine zw_nx rfl (fun _ _ => rfl) ?_
        repeat (refine zw_go rfl rfl (fun _ _ => rfl) ?_)
        refine zw_ix rfl (fun _ _ => rfl) (show vp_in (nI (p)) _ from vp_in_nI (by omega) (by omega)) ?_
        rw [show (nI (p)).toNatClampNeg = p from nI_clamp (by omega)]
        repeat (refine zw_go rfl rfl (fun _ _ => rfl) ?_)
        exact zw_kp hn
    exact zw_kp (key h 0 (by omega))
theorem dK_cnt {lf : Nat → Int32} {S : Nat → Nat → Bool} {h e k : Nat} (hh : h ≤ 48) : cnt (lb (mk (fun p => colK lf k p) h ^^^ mk (fun p => S e p) h)) 64 = dK lf S h e k := by
  rw [mk_xor (by omega), cnt_mk (by omega)]
  rfl
/-- one answer of unlike(columnBy(k), seenColumn) -/
theorem mDk (lf : Nat → Int32) (e j : Nat) (hh : h ≤ 48) : zC 1 sc 239 [.long (mk (fun p => colK lf j p) h), .long (mk (fun p => S e p) h)] (mm f I A B) (zR (mm f I A B) (.int (nI (dK lf S h e j)))) := by
  have := mUnlike sc (mm f I A B) (mk (fun p => colK lf j p) h) (mk (fun p => S e p) h)
  rw [dK_cnt hh] at this
  exact this
set_option maxHeartbeats 4000000 in
set_option maxRecDepth 20000 in
theorem mNearestOf (lf : Nat → Int32) (e b : Nat) (he : e < w) (hb : b ≤ 16) (hM : MH I A w h n V) (hl : ∀ p, p < h → A 7 p = lf p) (hS : RSOk B w h S) (hs : A 4 e = kI b) : zC 2 sc 241 [.ref 47, .int (nI e)] (mm f I A B) (zR (mm f I A B) (.int (kI (nrF (dK lf S h e) b 17)))) := by
  have hM' := hM
  obtain ⟨h0, h1, hw1, hw, hh1, hh, h4, hn, hv, hV⟩ := hM
  refine zc_of hkX11_nearestOf rfl ?_
  repeat (refine zw_go rfl rfl (fun _ _ => rfl) ?_)
  refine zw_call rfl (fun _ _ => rfl) (mSeenCol sc I A B f w h n V S e he hM' hS) (by decide) ?_
  rintro M1 r1 ⟨rfl, rfl⟩
  repeat (refine zw_go rfl rfl (fun _ _ => rfl) ?_)
  refine zw_ix rfl (fun _ _ => rfl) (show vp_in (nI (e)) _ from vp_in_nI (by omega) (by omega)) ?_
  rw [show (nI (e)).toNatClampNeg = e from nI_clamp (by omega)]
  repeat (refine zw_go rfl rfl (fun _ _ => rfl) ?_)
  rw [hs]
  refine zw_call rfl (fun _ _ => rfl) (mColBy sc I A B f w h n V lf 0 (by omega) hM' hl) (by decide) ?_
  rintro M1 r1 ⟨rfl, rfl⟩
  repeat (refine zw_go rfl rfl (fun _ _ => rfl) ?_)
  refine zw_call rfl (fun _ _ => rfl) (mDk sc I A B f h S lf e 0 hh) (by decide) ?_
  rintro M1 r1 ⟨rfl, rfl⟩
  repeat (refine zw_go rfl rfl (fun _ _ => rfl) ?_)
  refine zw_call rfl (fun _ _ => rfl) (mColBy sc I A B f w h n V lf b hb hM' hl) (by decide) ?_
  rintro M1 r1 ⟨rfl, rfl⟩
  repeat (refine zw_go rfl rfl (fun _ _ => rfl) ?_)
  refine zw_call rfl (fun _ _ => rfl) (mDk sc I A B f h S lf e b hh) (by decide) ?_
  rintro M1 r1 ⟨rfl, rfl⟩
  repeat (refine zw_go rfl rfl (fun _ _ => rfl) ?_)
  have key : ∀ (k j : Nat), j + k = 16 → zW 1 sc miX11_nearestOf 42 [some (.ref 47), none, some (.long (mk (fun p => S e p) h)), none, some (.int (kI (nrF (dK lf S h e) b (j + 1)))), some (.int (nI j))] [] (mm f I A B) (zR (mm f I A B) (.int (kI (nrF (dK lf S h e) b 17)))) := by
    intro k
    induction k with
    | zero =>
      intro j hj
      have e1 : j = 16 := by omega
      subst e1
      refine zw_nx rfl (fun _ _ => rfl) ?_
      repeat (refine zw_go rfl rfl (fun _ _ => rfl) ?_)
      exact zw_ret rfl (fun _ _ => rfl) (⟨rfl, rfl⟩)
    | succ k ih =>
      intro j hj
      have hn := ih (j + 1) (by omega)
      have hle := nrF_le (d := dK lf S h e) hb (k := j + 1) (by omega)
      have l1 := dK_le (lf := lf) (S := S) (h := h) (e := e) (k := j + 1)
      have l2 := dK_le (lf := lf) (S := S) (h := h) (e := e) (k := nrF (dK lf S h e) b (j + 1))
      rw [nI_succ, nrF] at hn
      refine zw_nx rfl (fun _ _ => rfl) ?_
      repeat (refine zw_go rfl rfl (fun _ _ => rfl) ?_)
      refine zw_br rfl (fun _ _ => rfl) (fun h9 => absurd h9 (nI_ge (a := j) (b := 16) (by omega) (by omega))) (fun _ => ?_)
      repeat (refine zw_go rfl rfl (fun _ _ => rfl) ?_)
      rw [← kI_s j]
      refine zw_call rfl (fun _ _ => rfl) (mColBy sc I A B f w h n V lf (j + 1) (by omega) hM' hl) (by decide) ?_
      rintro M1 r1 ⟨rfl, rfl⟩
      repeat (refine zw_go rfl rfl (fun _ _ => rfl) ?_)
      refine zw_call rfl (fun _ _ => rfl) (mDk sc I A B f h S lf e (j + 1) hh) (by decide) ?_
      rintro M1 r1 ⟨rfl, rfl⟩
      repeat (refine zw_go rfl rfl (fun _ _ => rfl) ?_)
      refine zw_call rfl (fun _ _ => rfl) (mColBy sc I A B f w h n V lf (nrF (dK lf S h e) b (j + 1)) hle hM' hl) (by decide) ?_
      rintro M1 r1 ⟨rfl, rfl⟩
      repeat (refine zw_go rfl rfl (fun _ _ => rfl) ?_)
      refine zw_call rfl (fun _ _ => rfl) (mDk sc I A B f h S lf e (nrF (dK lf S h e) b (j + 1)) hh) (by decide) ?_
      rintro M1 r1 ⟨rfl, rfl⟩
      repeat (refine zw_go rfl rfl (fun _ _ => rfl) ?_)
      refine zw_br rfl (fun _ _ => rfl) (fun (hc : nI (dK lf S h e (nrF (dK lf S h e) b (j + 1))) ≤ nI (dK lf S h e (j + 1))) => ?_) (fun (hc : ¬ (nI (dK lf S h e (nrF (dK lf S h e) b (j + 1))) ≤ nI (dK lf S h e (j + 1)))) => ?_)
      · rw [nI_leI (by omega) (by omega)] at hc
        rw [if_neg (by omega)] at hn
        repeat (refine zw_go rfl rfl (fun _ _ => rfl) ?_)
        rw [kI_s]
        exact zw_kp hn
      · rw [nI_leI (by omega) (by omega)] at hc
        rw [if_pos (by omega)] at hn
        repeat (refine zw_go rfl rfl (fun _ _ => rfl) ?_)
        rw [kI_s] at hn ⊢
        exact zw_kp hn
  have l1 := dK_le (lf := lf) (S := S) (h := h) (e := e) (k := 0)
  have l2 := dK_le (lf := lf) (S := S) (h := h) (e := e) (k := b)
  have hk := key 16 0 (by omega)
  rw [show nrF (dK lf S h e) b (0 + 1) = if dK lf S h e 0 < dK lf S h e b then 0 else b from rfl] at hk
  refine zw_br rfl (fun _ _ => rfl) (fun (hc : nI (dK lf S h e b) ≤ nI (dK lf S h e 0)) => ?_) (fun (hc : ¬ (nI (dK lf S h e b) ≤ nI (dK lf S h e 0))) => ?_)
  · rw [nI_leI (by omega) (by omega)] at hc
    rw [if_neg (by omega)] at hk
    repeat (refine zw_go rfl rfl (fun _ _ => rfl) ?_)
    exact zw_kp hk
  · rw [nI_leI (by omega) (by omega)] at hc
    rw [if_pos (by omega)] at hk
    repeat (refine zw_go rfl rfl (fun _ _ => rfl) ?_)
    exact zw_kp hk
/-- nearest's answer -/
def aNear (V : Nat → Int32) (S : Nat → Nat → Bool) (w h : Nat) (x y : Int32) : Int32 := if (0 ≤ x ∧ x < nI w) ∧ (0 ≤ y ∧ y ≤ 1) then (if y = 0 then kI (nrF (dK (vLi V) S h x.toNatClampNeg) (idx (V x.toNatClampNeg)) 17) else nI (dK (vLi V) S h x.toNatClampNeg (nrF (dK (vLi V) S h x.toNatClampNeg) (idx (V x.toNatClampNeg)) 17))) else -2
set_option maxHeartbeats 4000000 in
set_option maxRecDepth 20000 in
theorem mNearest (x y : Int32) (hM : MH I A w h n V) (hS : RSOk B w h S) : zC 5 sc 242 [.ref 47, .int x, .int y] (mm f I A B) (fun M r => r = some (.int (aNear V S w h x y)) ∧ MR f I A B M) := by
  have hM' := hM
  obtain ⟨h0, h1, hw1, hw, hh1, hh, h4, hn, hv, hV⟩ := hM
  unfold aNear
  refine zc_of hkX11_nearest rfl ?_
  repeat (refine zw_go rfl rfl (fun _ _ => rfl) ?_)
  refine zw_call rfl (fun _ _ => rfl) (mIsEnd sc f I A B x w h0 hw1 hw) (by decide) ?_
  rintro M1 r1 ⟨rfl, rfl⟩
  repeat (refine zw_go rfl rfl (fun _ _ => rfl) ?_)
  refine zw_br rfl (fun _ _ => rfl) (fun (hc : bI (0 ≤ x ∧ x < nI w) = 0) => ?_) (fun (hc : ¬ (bI (0 ≤ x ∧ x < nI w) = 0)) => ?_)
  · repeat (refine zw_go rfl rfl (fun _ _ => rfl) ?_)
    refine zw_ret rfl (fun _ _ => rfl) ?_
    exact ⟨by rw [if_neg (fun z => bI_0.mp hc z.1)]; rfl, I, A, B, rfl, mk_rfl⟩
  · have he := bI_of hc
    repeat (refine zw_go rfl rfl (fun _ _ => rfl) ?_)
    refine zw_call rfl (fun _ _ => rfl) (mIsIn sc (mm f I A B) y 0 1) (by decide) ?_
    rintro M1 r1 ⟨rfl, rfl⟩
    repeat (refine zw_go rfl rfl (fun _ _ => rfl) ?_)
    refine zw_br rfl (fun _ _ => rfl) (fun (hd : bI (0 ≤ y ∧ y ≤ 1) = 0) => ?_) (fun (hd : ¬ (bI (0 ≤ y ∧ y ≤ 1) = 0)) => ?_)
    · repeat (refine zw_go rfl rfl (fun _ _ => rfl) ?_)
      refine zw_ret rfl (fun _ _ => rfl) ?_
      exact ⟨by rw [if_neg (fun z => bI_0.mp hd z.2)]; rfl, I, A, B, rfl, mk_rfl⟩
    · have hy := bI_of hd
      rw [if_pos ⟨he, hy⟩]
      obtain ⟨e, hew, rfl⟩ := inR_of he (by omega)
      rw [nI_clamp (n := e) (by omega)]
      have hix := idx_k (hV.1 e (by omega))
      repeat (refine zw_go rfl rfl (fun _ _ => rfl) ?_)
      refine zw_call rfl (fun _ _ => rfl) (mD sc I A B f w h n V hM') (by decide) ?_
      rintro M1 r1 ⟨rfl, A', B', rfl, hD⟩
      have hM2 := mh_mk hM' (dr_mk (I := I) hD)
      have hS2 : RSOk B' w h S := fun p hp => by rw [hD.2.2.2.2.2.2.2 4 (by decide)]; exact hS p hp
      repeat (refine zw_go rfl rfl (fun _ _ => rfl) ?_)
      refine zw_call rfl (fun _ _ => rfl) (mNearestOf sc I A' B' f w h n V S (vLi V) e (idx (V e)) hew hix.2 hM2 hD.2.2.2.1 hS2 ((hD.1 e hew).trans hix.1)) (by decide) ?_
      rintro M1 r1 ⟨rfl, rfl⟩
      repeat (refine zw_go rfl rfl (fun _ _ => rfl) ?_)
      refine zw_br rfl (fun _ _ => rfl) (fun (h5 : y = 0) => ?_) (fun (h5 : ¬ (y = 0)) => ?_)
      · rw [if_pos h5]
        repeat (refine zw_go rfl rfl (fun _ _ => rfl) ?_)
        exact zw_ret rfl (fun _ _ => rfl) (⟨rfl, I, A', B', rfl, dr_mk hD⟩)
      · rw [if_neg h5]
        repeat (refine zw_go rfl rfl (fun _ _ => rfl) ?_)
        refine zw_call rfl (fun _ _ => rfl) (mColBy sc I A' B' f w h n V (vLi V) _ (nrF_le hix.2 (by omega)) hM2 hD.2.2.2.1) (by decide) ?_
        rintro M1 r1 ⟨rfl, rfl⟩
        repeat (refine zw_go rfl rfl (fun _ _ => rfl) ?_)
        refine zw_call rfl (fun _ _ => rfl) (mSeenCol sc I A' B' f w h n V S e hew hM2 hS2) (by decide) ?_
        rintro M1 r1 ⟨rfl, rfl⟩
        repeat (refine zw_go rfl rfl (fun _ _ => rfl) ?_)
        refine zw_call rfl (fun _ _ => rfl) (mDk sc I A' B' f h S (vLi V) e _ hh) (by decide) ?_
        rintro M1 r1 ⟨rfl, rfl⟩
        repeat (refine zw_go rfl rfl (fun _ _ => rfl) ?_)
        exact zw_ret rfl (fun _ _ => rfl) (⟨rfl, I, A', B', rfl, dr_mk hD⟩)
set_option maxHeartbeats 4000000 in
set_option maxRecDepth 20000 in
theorem mWrong (x : Int32) (hM : MH I A w h n V) (hS : RSOk B w h S) : zC 5 sc 240 [.ref 47, .int x] (mm f I A B) (fun M r => r = some (.int (if 0 ≤ x ∧ x < nI w then nI (cnt (fun p => vUp V x.toNatClampNeg p ^^ S x.toNatClampNeg p) h) else -1)) ∧ MR f I A B M) := by
  have hM' := hM
  obtain ⟨h0, h1, hw1, hw, hh1, hh, h4, hn, hv, hV⟩ := hM
  refine zc_of hkX11_wrong rfl ?_
  repeat (refine zw_go rfl rfl (fun _ _ => rfl) ?_)
  refine zw_call rfl (fun _ _ => rfl) (mIsEnd sc f I A B x w h0 hw1 hw) (by decide) ?_
  rintro M1 r1 ⟨rfl, rfl⟩
  repeat (refine zw_go rfl rfl (fun _ _ => rfl) ?_)
  refine zw_br rfl (fun _ _ => rfl) (fun (hc : bI (0 ≤ x ∧ x < nI w) = 0) => ?_) (fun (hc : ¬ (bI (0 ≤ x ∧ x < nI w) = 0)) => ?_)
  · repeat (refine zw_go rfl rfl (fun _ _ => rfl) ?_)
    refine zw_ret rfl (fun _ _ => rfl) ?_
    exact ⟨by rw [if_neg (bI_0.mp hc)]; rfl, I, A, B, rfl, mk_rfl⟩
  · have he := bI_of hc
    rw [if_pos he]
    obtain ⟨e, hew, rfl⟩ := inR_of he (by omega)
    rw [nI_clamp (n := e) (by omega)]
    repeat (refine zw_go rfl rfl (fun _ _ => rfl) ?_)
    refine zw_call rfl (fun _ _ => rfl) (mD sc I A B f w h n V hM') (by decide) ?_
    rintro M1 r1 ⟨rfl, A', B', rfl, hD⟩
    have hM2 := mh_mk hM' (dr_mk (I := I) hD)
    have hS2 : RSOk B' w h S := fun p hp => by rw [hD.2.2.2.2.2.2.2 4 (by decide)]; exact hS p hp
    repeat (refine zw_go rfl rfl (fun _ _ => rfl) ?_)
    refine zw_ix rfl (fun _ _ => rfl) (show vp_in (nI (e)) _ from vp_in_nI (by omega) (by omega)) ?_
    rw [show (nI (e)).toNatClampNeg = e from nI_clamp (by omega)]
    repeat (refine zw_go rfl rfl (fun _ _ => rfl) ?_)
    refine zw_call rfl (fun _ _ => rfl) (mSeenCol sc I A' B' f w h n V S e hew hM2 hS2) (by decide) ?_
    rintro M1 r1 ⟨rfl, rfl⟩
    repeat (refine zw_go rfl rfl (fun _ _ => rfl) ?_)
    refine zw_call rfl (fun _ _ => rfl) (mUnlike sc (mm f I A' B') (B' 1 e) (mk (fun p => S e p) h)) (by decide) ?_
    rintro M1 r1 ⟨rfl, rfl⟩
    repeat (refine zw_go rfl rfl (fun _ _ => rfl) ?_)
    refine zw_ret rfl (fun _ _ => rfl) ?_
    exact ⟨by rw [hD.2.2.2.2.2.1 e hew, mk_xor (by omega), cnt_mk (by omega)], I, A', B', rfl, dr_mk hD⟩
set_option maxHeartbeats 4000000 in
set_option maxRecDepth 20000 in
theorem xWrong (x : Int32) (hW : WH w h I J A B) (hS : SOk B w h S) : zC 5 sc 140 [.ref 0, .int x] (xm I J A B tl) (fun M r => r = some (.int (if 0 ≤ x ∧ x < nI w then nI (cnt (fun p => vUp (A 3) x.toNatClampNeg p ^^ S x.toNatClampNeg p) h) else -1)) ∧ XQ tl w h I J A B M) := by
  refine zc_of hkX10_wrong rfl ?_
  repeat (refine zw_go rfl rfl (fun _ _ => rfl) ?_)
  refine zw_call rfl (fun _ _ => rfl) (xWv sc I J A B tl w h hW) (by decide) ?_
  rintro M1 r1 ⟨rfl, I', A', B', rfl, hW2, hC, hK⟩
  have hW3 := hW2
  obtain ⟨h0, h1, h7, h8, hw1, hw, hh1, hh, hJ, hV, hC', hR⟩ := hW2
  repeat (refine zw_go rfl rfl (fun _ _ => rfl) ?_)
  refine zw_call rfl (fun _ _ => rfl) (xIsEnd sc I' J A' B' tl x w h0) (by decide) ?_
  rintro M1 r1 ⟨rfl, rfl⟩
  repeat (refine zw_go rfl rfl (fun _ _ => rfl) ?_)
  refine zw_br rfl (fun _ _ => rfl) (fun (hc : bI (0 ≤ x ∧ x < nI w) = 0) => ?_) (fun (hc : ¬ (bI (0 ≤ x ∧ x < nI w) = 0)) => ?_)
  · repeat (refine zw_go rfl rfl (fun _ _ => rfl) ?_)
    refine zw_ret rfl (fun _ _ => rfl) ?_
    exact ⟨by rw [if_neg (bI_0.mp hc)]; rfl, I', A', B', rfl, hW3, wk_xk hK⟩
  · have he := bI_of hc
    rw [if_pos he]
    obtain ⟨e, hew, rfl⟩ := inR_of he (by omega)
    rw [nI_clamp (n := e) (by omega)]
    have e14 : B' 14 e = mk (fun p => S e p) h := by rw [hK.2.2.2 14 (by decide)]; exact hS.2.2 e hew
    repeat (refine zw_go rfl rfl (fun _ _ => rfl) ?_)
    refine zw_ix rfl (fun _ _ => rfl) (show vp_in (nI (e)) _ from vp_in_nI (by omega) (by omega)) ?_
    rw [show (nI (e)).toNatClampNeg = e from nI_clamp (by omega)]
    repeat (refine zw_go rfl rfl (fun _ _ => rfl) ?_)
    refine zw_ix rfl (fun _ _ => rfl) (show vp_in (nI (e)) _ from vp_in_nI (by omega) (by omega)) ?_
    rw [show (nI (e)).toNatClampNeg = e from nI_clamp (by omega)]
    repeat (refine zw_go rfl rfl (fun _ _ => rfl) ?_)
    refine zw_call rfl (fun _ _ => rfl) (cBitL sc (xm I' J A' B' tl) (B' 1 e ^^^ B' 14 e)) (by decide) ?_
    rintro M1 r1 ⟨rfl, rfl⟩
    repeat (refine zw_go rfl rfl (fun _ _ => rfl) ?_)
    refine zw_ret rfl (fun _ _ => rfl) ?_
    exact ⟨by rw [hC.2.2.1 e hew, e14, mk_xor (by omega), cnt_mk (by omega)], I', A', B', rfl, hW3, wk_xk hK⟩
/-- the PICKS of a SHAFT, of the class -/
theorem colK_b3 {B : Nat → Nat → Int64} {lf : Nat → Int32} {h k : Nat} (hk : k ≤ 16) (hB : ∀ s, s < 16 → B 3 s = mk (fun p => ib (lf p) s) h) : (if 0 ≤ kI k ∧ kI k < 16 then B 3 (kI k).toNatClampNeg else 0) = mk (fun p => colK lf k p) h := by
  cases k with
  | zero =>
    rw [if_neg (by decide)]
    exact (mk_false h).symm
  | succ k =>
    rw [kI_s, if_pos ⟨nI_pos' (by omega), nI_lt (b := 16) (by omega) (by decide)⟩, nI_clamp (by omega), hB k (by omega)]
    refine mk_cong (fun p _ => ?_)
    unfold colK
    rw [decide_eq_true (by omega), Bool.true_and, Nat.add_sub_cancel]
set_option maxHeartbeats 4000000 in
set_option maxRecDepth 20000 in
theorem xUnlikePicks (lf : Nat → Int32) (e k : Nat) (he : e < 48) (hk : k ≤ 16) (hh : h ≤ 48) (hB : ∀ s, s < 16 → B 3 s = mk (fun p => ib (lf p) s) h) (hS : B 14 e = mk (fun p => S e p) h) : zC 2 sc 156 [.ref 0, .int (nI e), .int (kI k)] (xm I J A B tl) (zR (xm I J A B tl) (.int (nI (dK lf S h e k)))) := by
  refine zc_of hkX10_unlikePicks rfl ?_
  repeat (refine zw_go rfl rfl (fun _ _ => rfl) ?_)
  refine zw_call rfl (fun _ _ => rfl) (xPicksOf sc I J A B tl (kI k)) (by decide) ?_
  rintro M1 r1 ⟨rfl, rfl⟩
  rw [colK_b3 hk hB]
  repeat (refine zw_go rfl rfl (fun _ _ => rfl) ?_)
  refine zw_ix rfl (fun _ _ => rfl) (show vp_in (nI (e)) _ from vp_in_nI (by omega) (by omega)) ?_
  rw [show (nI (e)).toNatClampNeg = e from nI_clamp (by omega)]
  repeat (refine zw_go rfl rfl (fun _ _ => rfl) ?_)
  rw [hS]
  refine zw_call rfl (fun _ _ => rfl) (cBitL sc (xm I J A B tl) (mk (fun p => colK lf k p) h ^^^ mk (fun p => S e p) h)) (by decide) ?_
  rintro M1 r1 ⟨rfl, rfl⟩
  repeat (refine zw_go rfl rfl (fun _ _ => rfl) ?_)
  exact zw_ret rfl (fun _ _ => rfl) (⟨rfl, by rw [dK_cnt hh]⟩)
set_option maxHeartbeats 4000000 in
set_option maxRecDepth 20000 in
theorem xNearestShaft (e : Nat) (he : e < w) (hW : WH w h I J A B) (hS : SOk B w h S) : zC 5 sc 157 [.ref 0, .int (nI e)] (xm I J A B tl) (fun M r => r = some (.int (kI (nrF (dK (vLi (A 3)) S h e) (idx (A 3 e)) 17))) ∧ ∃ I' A' B', M = xm I' J A' B' tl ∧ WH w h I' J A' B' ∧ CV I' A' B' w h (A 3) ∧ WK I A B I' A' B') := by
  refine zc_of hkX10_nearestShaft rfl ?_
  repeat (refine zw_go rfl rfl (fun _ _ => rfl) ?_)
  refine zw_call rfl (fun _ _ => rfl) (xWv sc I J A B tl w h hW) (by decide) ?_
  rintro M1 r1 ⟨rfl, I', A', B', rfl, hW2, hC, hK⟩
  have hW3 := hW2
  obtain ⟨h0, h1, h7, h8, hw1, hw, hh1, hh, hJ, hV, hC', hR⟩ := hW2
  have e14 : B' 14 e = mk (fun p => S e p) h := by rw [hK.2.2.2 14 (by decide)]; exact hS.2.2 e he
  have e3 : A' 3 = A 3 := hK.2.2.1 3 (by decide)
  rw [e3] at hV
  have hix := idx_k (hV.1 e (by omega))
  obtain ⟨b, hb, eb⟩ : ∃ b, b ≤ 16 ∧ A 3 e = kI b := ⟨_, hix.2, hix.1⟩
  rw [show idx (A 3 e) = b from by rw [eb, kI_idx hb]]
  repeat (refine zw_go rfl rfl (fun _ _ => rfl) ?_)
  rw [show (Int32.ofInt 0) + nI e = nI e from by rw [show (Int32.ofInt 0) = nI 0 from rfl, nI_add, Nat.zero_add]]
  refine zw_call rfl (fun _ _ => rfl) (cValueOf sc I' J A' B' tl e (by omega)) (by decide) ?_
  rintro M1 r1 ⟨rfl, rfl⟩
  rw [e3, eb]
  repeat (refine zw_go rfl rfl (fun _ _ => rfl) ?_)
  have hu := fun k hk => xUnlikePicks sc I' J A' B' tl h S (vLi (A 3)) e k (by omega) hk hh hC.2.2.2.2.1 e14
  refine zw_call rfl (fun _ _ => rfl) (hu b hb) (by decide) ?_
  rintro M1 r1 ⟨rfl, rfl⟩
  repeat (refine zw_go rfl rfl (fun _ _ => rfl) ?_)
  have key : ∀ (k j : Nat), j + k = 17 → zW 4 sc miX10_nearestShaft 28 [some (.ref 0), some (.int (nI e)), some (.int (kI (nrF (dK (vLi (A 3)) S h e) b j))), some (.int (nI (dK (vLi (A 3)) S h e (nrF (dK (vLi (A 3)) S h e) b j)))), some (.int (kI j)), none] [] (xm I' J A' B' tl) (fun M r => r = some (.int (kI (nrF (dK (vLi (A 3)) S h e) b 17))) ∧ ∃ I' A' B', M = xm I' J A' B' tl ∧ WH w h I' J A' B' ∧ CV I' A' B' w h (A 3) ∧ WK I A B I' A' B') := by
    intro k
    induction k with
    | zero =>
      intro j hj
      have e1 : j = 17 := by omega
      subst e1
      refine zw_nx rfl (fun _ _ => rfl) ?_
      repeat (refine zw_go rfl rfl (fun _ _ => rfl) ?_)
      exact zw_ret rfl (fun _ _ => rfl) (⟨rfl, I', A', B', rfl, hW3, hC, hK⟩)
    | succ k ih =>
      intro j hj
      have hn := ih (j + 1) (by omega)
      have l1 := dK_le (lf := vLi (A 3)) (S := S) (h := h) (e := e) (k := j)
      have l2 := dK_le (lf := vLi (A 3)) (S := S) (h := h) (e := e) (k := nrF (dK (vLi (A 3)) S h e) b j)
      rw [nrF, ← kI_inc] at hn
      refine zw_nx rfl (fun _ _ => rfl) ?_
      repeat (refine zw_go rfl rfl (fun _ _ => rfl) ?_)
      first | refine zw_br rfl (fun _ _ => rfl) (fun h9 => absurd h9 (kI_lt16 j (by omega))) (fun _ => ?_) | refine zw_nx rfl (fun _ _ => rfl) ?_
      repeat (refine zw_go rfl rfl (fun _ _ => rfl) ?_)
      refine zw_call rfl (fun _ _ => rfl) (hu j (by omega)) (by decide) ?_
      rintro M1 r1 ⟨rfl, rfl⟩
      repeat (refine zw_go rfl rfl (fun _ _ => rfl) ?_)
      refine zw_br rfl (fun _ _ => rfl) (fun (hc : nI (dK (vLi (A 3)) S h e (nrF (dK (vLi (A 3)) S h e) b j)) ≤ nI (dK (vLi (A 3)) S h e j)) => ?_) (fun (hc : ¬ (nI (dK (vLi (A 3)) S h e (nrF (dK (vLi (A 3)) S h e) b j)) ≤ nI (dK (vLi (A 3)) S h e j))) => ?_)
      · rw [nI_leI (by omega) (by omega)] at hc
        rw [if_neg (by omega)] at hn
        repeat (refine zw_go rfl rfl (fun _ _ => rfl) ?_)
        exact zw_kp hn
      · rw [nI_leI (by omega) (by omega)] at hc
        rw [if_pos (by omega)] at hn
        repeat (refine zw_go rfl rfl (fun _ _ => rfl) ?_)
        exact zw_kp hn
  exact zw_kp (key 17 0 (by omega))
set_option maxHeartbeats 4000000 in
set_option maxRecDepth 20000 in
theorem xNearest (x y : Int32) (hW : WH w h I J A B) (hS : SOk B w h S) : zC 6 sc 141 [.ref 0, .int x, .int y] (xm I J A B tl) (fun M r => r = some (.int (aNear (A 3) S w h x y)) ∧ XQ tl w h I J A B M) := by
  have hW' := hW
  obtain ⟨h0, h1, h7, h8, hw1, hw, hh1, hh, hJ, hV, hC', hR⟩ := hW
  unfold aNear
  refine zc_of hkX10_nearest rfl ?_
  repeat (refine zw_go rfl rfl (fun _ _ => rfl) ?_)
  refine zw_call rfl (fun _ _ => rfl) (xIsEnd sc I J A B tl x w h0) (by decide) ?_
  rintro M1 r1 ⟨rfl, rfl⟩
  repeat (refine zw_go rfl rfl (fun _ _ => rfl) ?_)
  refine zw_br rfl (fun _ _ => rfl) (fun (hc : bI (0 ≤ x ∧ x < nI w) = 0) => ?_) (fun (hc : ¬ (bI (0 ≤ x ∧ x < nI w) = 0)) => ?_)
  · repeat (refine zw_go rfl rfl (fun _ _ => rfl) ?_)
    refine zw_ret rfl (fun _ _ => rfl) ?_
    exact ⟨by rw [if_neg (fun z => bI_0.mp hc z.1)]; rfl, I, A, B, rfl, hW', xk_rfl⟩
  · have he := bI_of hc
    repeat (refine zw_go rfl rfl (fun _ _ => rfl) ?_)
    refine zw_br rfl (fun _ _ => rfl) (fun (h1 : y < 0) => ?_) (fun (h1 : ¬ (y < 0)) => ?_)
    · repeat (refine zw_go rfl rfl (fun _ _ => rfl) ?_)
      refine zw_ret rfl (fun _ _ => rfl) ?_
      exact ⟨by rw [if_neg (fun z => Int32.not_lt.mpr z.2.1 h1)]; rfl, I, A, B, rfl, hW', xk_rfl⟩
    · repeat (refine zw_go rfl rfl (fun _ _ => rfl) ?_)
      refine zw_br rfl (fun _ _ => rfl) (fun (h2 : y ≤ 1) => ?_) (fun (h2 : ¬ (y ≤ 1)) => ?_)
      · rw [if_pos ⟨he, Int32.not_lt.mp h1, h2⟩]
        obtain ⟨e, hew, rfl⟩ := inR_of he (by omega)
        rw [nI_clamp (n := e) (by omega)]
        have hix := idx_k (hV.1 e (by omega))
        repeat (refine zw_go rfl rfl (fun _ _ => rfl) ?_)
        refine zw_call rfl (fun _ _ => rfl) (xNearestShaft sc I J A B tl w h S e hew hW' hS) (by decide) ?_
        rintro M1 r1 ⟨rfl, I', A', B', rfl, hW2, hC, hK⟩
        have e14 : B' 14 e = mk (fun p => S e p) h := by rw [hK.2.2.2 14 (by decide)]; exact hS.2.2 e hew
        repeat (refine zw_go rfl rfl (fun _ _ => rfl) ?_)
        refine zw_br rfl (fun _ _ => rfl) (fun (h5 : y = 0) => ?_) (fun (h5 : ¬ (y = 0)) => ?_)
        · rw [if_pos h5]
          repeat (refine zw_go rfl rfl (fun _ _ => rfl) ?_)
          exact zw_ret rfl (fun _ _ => rfl) (⟨rfl, I', A', B', rfl, hW2, wk_xk hK⟩)
        · rw [if_neg h5]
          repeat (refine zw_go rfl rfl (fun _ _ => rfl) ?_)
          refine zw_call rfl (fun _ _ => rfl) (xUnlikePicks sc I' J A' B' tl h S (vLi (A 3)) e _ (by omega) (nrF_le hix.2 (by omega)) hh hC.2.2.2.2.1 e14) (by decide) ?_
          rintro M1 r1 ⟨rfl, rfl⟩
          repeat (refine zw_go rfl rfl (fun _ _ => rfl) ?_)
          exact zw_ret rfl (fun _ _ => rfl) (⟨rfl, I', A', B', rfl, hW2, wk_xk hK⟩)
      · repeat (refine zw_go rfl rfl (fun _ _ => rfl) ?_)
        refine zw_ret rfl (fun _ _ => rfl) ?_
        exact ⟨by rw [if_neg (fun z => h2 z.2.2)]; rfl, I, A, B, rfl, hW', xk_rfl⟩
end

/-! what a query leaves; seenColour, coloured of the class, pegs, fewest -/
/-- what a query of the class may touch: the cloth, counts, planes -/
def XK (I : Nat → Int32) (A : Nat → Nat → Int32) (B : Nat → Nat → Int64) (I' : Nat → Int32) (A' : Nat → Nat → Int32) (B' : Nat → Nat → Int64) : Prop := (∀ z, z ≠ 9 → z ≠ 10 → z ≠ 28 → I' z = I z) ∧ (∀ a, a ≠ 5 → a ≠ 13 → A' a = A a) ∧ (∀ b, 5 < b → B' b = B b) ∧ (I' 10 = I 10 ∨ I' 10 = I 6)
def XQ (tl : sm_M) (w h : Nat) (I : Nat → Int32) (J : Nat → Int64) (A : Nat → Nat → Int32) (B : Nat → Nat → Int64) (M : sm_M) : Prop := ∃ I' A' B', M = xm I' J A' B' tl ∧ WH w h I' J A' B' ∧ XK I A B I' A' B'
/-- what a query of the reference keeps -/
def MK (I : Nat → Int32) (A : Nat → Nat → Int32) (B : Nat → Nat → Int64) (I' : Nat → Int32) (A' : Nat → Nat → Int32) (B' : Nat → Nat → Int64) : Prop := (∀ z, z < 8 → I' z = I z) ∧ (∀ a, a < 4 → A' a = A a) ∧ A' 8 = A 8 ∧ B' 4 = B 4
def MR (f : Nat → va_E) (I : Nat → Int32) (A : Nat → Nat → Int32) (B : Nat → Nat → Int64) (M : sm_M) : Prop := ∃ I' A' B', M = mm f I' A' B' ∧ MK I A B I' A' B'
theorem wk_xk {I : Nat → Int32} {A : Nat → Nat → Int32} {B : Nat → Nat → Int64} {I' : Nat → Int32} {A' : Nat → Nat → Int32} {B' : Nat → Nat → Int64} (h : WK I A B I' A' B') : XK I A B I' A' B' := ⟨fun z h1 h2 _ => h.1 z h1 h2, fun a h1 _ => h.2.2.1 a h1, fun b hb => h.2.2.2 b (by omega), Or.inr (by rw [h.2.1, h.1 6 (by decide) (by decide)])⟩
theorem xk_rfl {I : Nat → Int32} {A : Nat → Nat → Int32} {B : Nat → Nat → Int64} : XK I A B I A B := ⟨fun _ _ _ _ => rfl, fun _ _ _ => rfl, fun _ _ => rfl, Or.inl rfl⟩
theorem mk_rfl {I : Nat → Int32} {A : Nat → Nat → Int32} {B : Nat → Nat → Int64} : MK I A B I A B := ⟨fun _ _ => rfl, fun _ _ => rfl, rfl, rfl⟩
theorem dr_mk {I : Nat → Int32} {A : Nat → Nat → Int32} {B : Nat → Nat → Int64} {w h : Nat} {V : Nat → Int32} {A' : Nat → Nat → Int32} {B' : Nat → Nat → Int64} (hd : Dr A B w h V A' B') : MK I A B I A' B' := ⟨fun _ _ => rfl, fun a ha => hd.2.2.2.2.2.2.1 a (by omega) (by omega) (by omega) (by omega), hd.2.2.2.2.2.2.1 8 (by decide) (by decide) (by decide) (by decide), hd.2.2.2.2.2.2.2 4 (by decide)⟩
theorem mVal_cong {A A' : Nat → Nat → Int32} (he : ∀ a, a < 4 → A' a = A a) (n : Nat) (a b lk : Int32) : mVal A' n a b lk = mVal A n a b lk := by
  unfold mVal mEnt
  rw [he 0 (by decide), he 1 (by decide), he 2 (by decide), he 3 (by decide)]
theorem mh_mk {I : Nat → Int32} {A : Nat → Nat → Int32} {B : Nat → Nat → Int64} {I' : Nat → Int32} {A' : Nat → Nat → Int32} {B' : Nat → Nat → Int64} {w h n : Nat} {V : Nat → Int32} (hM : MH I A w h n V) (hK : MK I A B I' A' B') : MH I' A' w h n V := by
  obtain ⟨h0, h1, hw1, hw, hh1, hh, h4, hn, hv, hV⟩ := hM
  refine ⟨?_, ?_, hw1, hw, hh1, hh, ?_, hn, fun a b ha hb => ?_, hV⟩
  · rw [hK.1 0 (by decide)]; exact h0
  · rw [hK.1 1 (by decide)]; exact h1
  · rw [hK.1 4 (by decide)]; exact h4
  · rw [mVal_cong hK.2.1, hK.1 3 (by decide)]; exact hv a b ha hb
theorem lb_mk_in {p : Nat → Bool} {n i : Nat} (hn : n ≤ 64) (hi : i < n) : lb (mk p n) i = p i := by rw [lb_mk hn, decide_eq_true hi, Bool.true_and]
theorem mk_and {p q : Nat → Bool} {n : Nat} (hn : n ≤ 64) : mk p n &&& mk q n = mk (fun i => p i && q i) n := mk_eq hn (fun i hi => by
  rw [lb_and, lb_mk hn, lb_mk hn]
  cases decide (i < n) <;> simp)
theorem mk_xor {p q : Nat → Bool} {n : Nat} (hn : n ≤ 64) : mk p n ^^^ mk q n = mk (fun i => p i ^^ q i) n := mk_eq hn (fun i hi => by
  rw [lb_xor, lb_mk hn, lb_mk hn]
  cases decide (i < n) <;> simp)
theorem mk_or {p q : Nat → Bool} {n : Nat} (hn : n ≤ 64) : mk p n ||| mk q n = mk (fun i => p i || q i) n := mk_eq hn (fun i hi => by
  rw [lb_or, lb_mk hn, lb_mk hn]
  cases decide (i < n) <;> simp)
theorem bit_testL (x : Int64) {k : Nat} (hk : k < 64) : (x >>> ((nI k).toInt64 &&& 63)) &&& 1 = if lb x k then 1 else 0 := by rw [lb_low, lb_sshr x hk]
theorem lcb1 (x : Int64) {k : Nat} (hk : k < 64) : lg_cmp ((x >>> ((nI k).toInt64 &&& 63)) &&& 1) 1 = 0 ↔ lb x k = true := by
  rw [lg_cmp_0, bit_testL x hk]
  cases lb x k <;> simp <;> decide
theorem lcb0 (x : Int64) {k : Nat} (hk : k < 64) : lg_cmp ((x >>> ((nI k).toInt64 &&& 63)) &&& 1) 0 = 0 ↔ lb x k = false := by
  rw [lg_cmp_0, bit_testL x hk]
  cases lb x k <;> simp <;> decide
/-- the colour that is seen -/
def vCol (V : Nat → Int32) (e p : Nat) : Int32 := if vUp V e p then V (112 + e) else V (160 + p)
section
variable (sc : sm_S) (I : Nat → Int32) (J : Nat → Int64) (A : Nat → Nat → Int32) (B : Nat → Nat → Int64) (tl : sm_M) (f : Nat → va_E) (w h n : Nat) (V : Nat → Int32)
set_option maxHeartbeats 4000000 in
set_option maxRecDepth 20000 in
theorem xSeenColour (x y : Int32) (hW : WH w h I J A B) : zC 5 sc 133 [.ref 0, .int x, .int y] (xm I J A B tl) (fun M r => r = some (.int (if (0 ≤ x ∧ x < nI w) ∧ (0 ≤ y ∧ y < nI h) then vCol (A 3) x.toNatClampNeg y.toNatClampNeg else -1)) ∧ XQ tl w h I J A B M) := by
  have hW' := hW
  obtain ⟨h0, h1, h7, h8, hw1, hw, hh1, hh, hJ, hV, hC', hR⟩ := hW
  refine zc_of hkX10_seenColour rfl ?_
  repeat (refine zw_go rfl rfl (fun _ _ => rfl) ?_)
  refine zw_call rfl (fun _ _ => rfl) (xIsEnd sc I J A B tl x w h0) (by decide) ?_
  rintro M1 r1 ⟨rfl, rfl⟩
  repeat (refine zw_go rfl rfl (fun _ _ => rfl) ?_)
  refine zw_br rfl (fun _ _ => rfl) (fun (hc : bI (0 ≤ x ∧ x < nI w) = 0) => ?_) (fun (hc : ¬ (bI (0 ≤ x ∧ x < nI w) = 0)) => ?_)
  · repeat (refine zw_go rfl rfl (fun _ _ => rfl) ?_)
    refine zw_ret rfl (fun _ _ => rfl) ?_
    exact ⟨by rw [if_neg (fun z => bI_0.mp hc z.1)]; rfl, I, A, B, rfl, hW', xk_rfl⟩
  · have he := bI_of hc
    repeat (refine zw_go rfl rfl (fun _ _ => rfl) ?_)
    refine zw_call rfl (fun _ _ => rfl) (xIsPick sc I J A B tl y h h1) (by decide) ?_
    rintro M1 r1 ⟨rfl, rfl⟩
    repeat (refine zw_go rfl rfl (fun _ _ => rfl) ?_)
    refine zw_br rfl (fun _ _ => rfl) (fun (hd : bI (0 ≤ y ∧ y < nI h) = 0) => ?_) (fun (hd : ¬ (bI (0 ≤ y ∧ y < nI h) = 0)) => ?_)
    · repeat (refine zw_go rfl rfl (fun _ _ => rfl) ?_)
      refine zw_ret rfl (fun _ _ => rfl) ?_
      exact ⟨by rw [if_neg (fun z => bI_0.mp hd z.2)]; rfl, I, A, B, rfl, hW', xk_rfl⟩
    · have hp := bI_of hd
      rw [if_pos ⟨he, hp⟩]
      obtain ⟨e, hew, rfl⟩ := inR_of he (by omega)
      obtain ⟨p, hph, rfl⟩ := inR_of hp (by omega)
      rw [nI_clamp (n := e) (by omega), nI_clamp (n := p) (by omega)]
      repeat (refine zw_go rfl rfl (fun _ _ => rfl) ?_)
      refine zw_call rfl (fun _ _ => rfl) (xWv sc I J A B tl w h hW') (by decide) ?_
      rintro M1 r1 ⟨rfl, I', A', B', rfl, hW2, hC, hK⟩
      have e3 : A' 3 = A 3 := hK.2.2.1 3 (by decide)
      repeat (refine zw_go rfl rfl (fun _ _ => rfl) ?_)
      refine zw_ix rfl (fun _ _ => rfl) (show vp_in (nI (p)) _ from vp_in_nI (by omega) (by omega)) ?_
      rw [show (nI (p)).toNatClampNeg = p from nI_clamp (by omega)]
      repeat (refine zw_go rfl rfl (fun _ _ => rfl) ?_)
      refine zw_call rfl (fun _ _ => rfl) (cHasN sc (xm I' J A' B' tl) (B' 0 p) (i := e) (by omega)) (by decide) ?_
      rintro M1 r1 ⟨rfl, rfl⟩
      rw [hC.2.1 p hph, lb_mk_in (by omega) hew]
      unfold vCol
      cases hu : vUp (A 3) e p
      · repeat (refine zw_go rfl rfl (fun _ _ => rfl) ?_)
        rw [show (Int16.ofInt 160).toInt32 + nI p = nI (160 + p) from nI_add 160 p]
        refine zw_call rfl (fun _ _ => rfl) (cValueOf sc I' J A' B' tl (160 + p) (by omega)) (by decide) ?_
        rintro M1 r1 ⟨rfl, rfl⟩
        repeat (refine zw_go rfl rfl (fun _ _ => rfl) ?_)
        refine zw_ret rfl (fun _ _ => rfl) ?_
        exact ⟨by rw [e3]; rfl, I', A', B', rfl, hW2, wk_xk hK⟩
      · repeat (refine zw_go rfl rfl (fun _ _ => rfl) ?_)
        rw [show (Int8.ofInt 112).toInt32 + nI e = nI (112 + e) from nI_add 112 e]
        refine zw_call rfl (fun _ _ => rfl) (cValueOf sc I' J A' B' tl (112 + e) (by omega)) (by decide) ?_
        rintro M1 r1 ⟨rfl, rfl⟩
        repeat (refine zw_go rfl rfl (fun _ _ => rfl) ?_)
        refine zw_ret rfl (fun _ _ => rfl) ?_
        exact ⟨by rw [e3]; rfl, I', A', B', rfl, hW2, wk_xk hK⟩
set_option maxHeartbeats 4000000 in
set_option maxRecDepth 20000 in
theorem mColourAt (e p : Nat) (hM : MH I A w h n V) (he : e < w) (hp : p < h) (hB : B 0 p = mk (fun e => vUp V e p) w) : zC 3 sc 220 [.ref 47, .int (nI e), .int (nI p)] (mm f I A B) (zR (mm f I A B) (.int (vCol V e p))) := by
  obtain ⟨h0, h1, hw1, hw, hh1, hh, h4, hn, hv, hV⟩ := hM
  refine zc_of hkX11_colourAt rfl ?_
  repeat (refine zw_go rfl rfl (fun _ _ => rfl) ?_)
  refine zw_ix rfl (fun _ _ => rfl) (show vp_in (nI (p)) _ from vp_in_nI (by omega) (by omega)) ?_
  rw [show (nI (p)).toNatClampNeg = p from nI_clamp (by omega)]
  repeat (refine zw_go rfl rfl (fun _ _ => rfl) ?_)
  unfold vCol
  have hb : lb (B 0 p) e = vUp V e p := by rw [hB, lb_mk_in (by omega) he]
  refine zw_br rfl (fun _ _ => rfl) (fun (hc : lg_cmp ((B 0 p >>> ((nI e).toInt64 &&& 63)) &&& 1) 1 = 0) => ?_) (fun (hc : ¬ (lg_cmp ((B 0 p >>> ((nI e).toInt64 &&& 63)) &&& 1) 1 = 0)) => ?_)
  · have hu : vUp V e p = true := by rw [← hb]; exact (lcb1 _ (by omega)).mp hc
    rw [if_pos hu]
    repeat (refine zw_go rfl rfl (fun _ _ => rfl) ?_)
    refine zw_call rfl (fun _ _ => rfl) (mValueOf sc f I A B 3 (nI e) n h4 hn) (by decide) ?_
    rintro M1 r1 ⟨rfl, rfl⟩
    repeat (refine zw_go rfl rfl (fun _ _ => rfl) ?_)
    refine zw_ret rfl (fun _ _ => rfl) ?_
    exact ⟨rfl, by rw [show mVal A n 3 (nI e) (I 3) = V (112 + e) from hv 3 e (by omega) (by simp only [ksz]; omega)]⟩
  · have hu : ¬ vUp V e p = true := fun z => hc ((lcb1 _ (by omega)).mpr (hb.trans z))
    rw [if_neg hu]
    repeat (refine zw_go rfl rfl (fun _ _ => rfl) ?_)
    refine zw_call rfl (fun _ _ => rfl) (mValueOf sc f I A B 4 (nI p) n h4 hn) (by decide) ?_
    rintro M1 r1 ⟨rfl, rfl⟩
    repeat (refine zw_go rfl rfl (fun _ _ => rfl) ?_)
    refine zw_ret rfl (fun _ _ => rfl) ?_
    exact ⟨rfl, by rw [show mVal A n 4 (nI p) (I 3) = V (160 + p) from hv 4 p (by omega) (by simp only [ksz]; omega)]⟩
set_option maxHeartbeats 4000000 in
set_option maxRecDepth 20000 in
theorem mSeenColour (x y : Int32) (hM : MH I A w h n V) : zC 5 sc 221 [.ref 47, .int x, .int y] (mm f I A B) (fun M r => r = some (.int (if (0 ≤ x ∧ x < nI w) ∧ (0 ≤ y ∧ y < nI h) then vCol V x.toNatClampNeg y.toNatClampNeg else -1)) ∧ MR f I A B M) := by
  have hM' := hM
  obtain ⟨h0, h1, hw1, hw, hh1, hh, h4, hn, hv, hV⟩ := hM
  refine zc_of hkX11_seenColour rfl ?_
  repeat (refine zw_go rfl rfl (fun _ _ => rfl) ?_)
  refine zw_call rfl (fun _ _ => rfl) (mIsEnd sc f I A B x w h0 hw1 hw) (by decide) ?_
  rintro M1 r1 ⟨rfl, rfl⟩
  repeat (refine zw_go rfl rfl (fun _ _ => rfl) ?_)
  refine zw_br rfl (fun _ _ => rfl) (fun (hc : bI (0 ≤ x ∧ x < nI w) = 0) => ?_) (fun (hc : ¬ (bI (0 ≤ x ∧ x < nI w) = 0)) => ?_)
  · repeat (refine zw_go rfl rfl (fun _ _ => rfl) ?_)
    refine zw_ret rfl (fun _ _ => rfl) ?_
    exact ⟨by rw [if_neg (fun z => bI_0.mp hc z.1)]; rfl, I, A, B, rfl, mk_rfl⟩
  · have he := bI_of hc
    repeat (refine zw_go rfl rfl (fun _ _ => rfl) ?_)
    refine zw_call rfl (fun _ _ => rfl) (mIsPick sc f I A B y h h1 hh1 hh) (by decide) ?_
    rintro M1 r1 ⟨rfl, rfl⟩
    repeat (refine zw_go rfl rfl (fun _ _ => rfl) ?_)
    refine zw_br rfl (fun _ _ => rfl) (fun (hd : bI (0 ≤ y ∧ y < nI h) = 0) => ?_) (fun (hd : ¬ (bI (0 ≤ y ∧ y < nI h) = 0)) => ?_)
    · repeat (refine zw_go rfl rfl (fun _ _ => rfl) ?_)
      refine zw_ret rfl (fun _ _ => rfl) ?_
      exact ⟨by rw [if_neg (fun z => bI_0.mp hd z.2)]; rfl, I, A, B, rfl, mk_rfl⟩
    · have hp := bI_of hd
      rw [if_pos ⟨he, hp⟩]
      obtain ⟨e, hew, rfl⟩ := inR_of he (by omega)
      obtain ⟨p, hph, rfl⟩ := inR_of hp (by omega)
      rw [nI_clamp (n := e) (by omega), nI_clamp (n := p) (by omega)]
      repeat (refine zw_go rfl rfl (fun _ _ => rfl) ?_)
      refine zw_call rfl (fun _ _ => rfl) (mD sc I A B f w h n V hM') (by decide) ?_
      rintro M1 r1 ⟨rfl, A', B', rfl, hD⟩
      repeat (refine zw_go rfl rfl (fun _ _ => rfl) ?_)
      refine zw_call rfl (fun _ _ => rfl) (mColourAt sc I A' B' f w h n V e p (mh_mk hM' (dr_mk hD)) hew hph (hD.2.2.2.2.1 p hph)) (by decide) ?_
      rintro M1 r1 ⟨rfl, rfl⟩
      repeat (refine zw_go rfl rfl (fun _ _ => rfl) ?_)
      refine zw_ret rfl (fun _ _ => rfl) ?_
      exact ⟨rfl, I, A', B', rfl, dr_mk hD⟩
end
/-- sums -/
def sumN (g : Nat → Nat) : Nat → Nat
  | 0 => 0
  | n + 1 => sumN g n + g n
theorem sumN_cong {g k : Nat → Nat} : ∀ {n : Nat}, (∀ i, i < n → g i = k i) → sumN g n = sumN k n := by
  intro n
  induction n with
  | zero => intro _; rfl
  | succ n ih => intro h; rw [sumN, sumN, h n (by omega), ih (fun i hi => h i (by omega))]
theorem sumN_le {g : Nat → Nat} {m : Nat} : ∀ {n : Nat}, (∀ i, i < n → g i ≤ m) → sumN g n ≤ n * m := by
  intro n
  induction n with
  | zero => intro _; exact Nat.zero_le _
  | succ n ih => intro h; rw [sumN, Nat.succ_mul]; have := ih (fun i hi => h i (by omega)); have := h n (by omega); omega
theorem sumN_add {g k : Nat → Nat} : ∀ {n : Nat}, sumN (fun i => g i + k i) n = sumN g n + sumN k n := by
  intro n
  induction n with
  | zero => rfl
  | succ n ih => rw [sumN, sumN, sumN, ih]; omega
theorem sumN_swap {g : Nat → Nat → Nat} {m : Nat} : ∀ {n : Nat}, sumN (fun i => sumN (fun j => g i j) m) n = sumN (fun j => sumN (fun i => g i j) n) m := by
  intro n
  induction n with
  | zero => induction m with
    | zero => rfl
    | succ m ih => show sumN _ 0 = sumN _ m + 0; rw [Nat.add_zero, ← ih]; rfl
  | succ n ih => rw [sumN, ih, ← sumN_add]; rfl
theorem cnt_sum {p : Nat → Bool} : ∀ {n : Nat}, cnt p n = sumN (fun i => if p i then 1 else 0) n := by
  intro n
  induction n with
  | zero => rfl
  | succ n ih => rw [cnt, sumN, ih]
/-- a row's cells of a colour -/
theorem col_row {V : Nat → Int32} {c : Int32} {p : Nat} : ∀ {w : Nat}, cnt (fun e => decide (vCol V e p = c)) w = cnt (fun e => vUp V e p && decide (V (112 + e) = c)) w + (if V (160 + p) = c then w - cnt (fun e => vUp V e p) w else 0) := by
  intro w
  induction w with
  | zero => simp [cnt]
  | succ w ih =>
    rw [cnt, cnt, cnt, ih]
    have := cnt_le (p := fun e => vUp V e p) (n := w)
    unfold vCol
    by_cases h1 : vUp V w p = true <;> by_cases h2 : V (160 + p) = c <;> by_cases h3 : V (112 + w) = c <;> simp [h1, h2, h3] <;> omega

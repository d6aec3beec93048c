/-! the reference: its TOKENS -/
def pkV (b : Nat → Nat) (q : Nat) : Nat → Nat
  | 0 => 0
  | k + 1 => pkV b q k * 58 + (b (q + k) - 64)
theorem pk_inj {b c : Nat → Nat} {q : Nat} : ∀ {k : Nat}, (∀ i, i < k → 65 ≤ b (q + i) ∧ b (q + i) ≤ 122) → (∀ i, i < k → 65 ≤ c (0 + i) ∧ c (0 + i) ≤ 122) → (pkV b q k = pkV c 0 k ↔ ∀ i, i < k → b (q + i) = c (0 + i)) := by
  intro k
  induction k with
  | zero => intro _ _; exact ⟨fun _ i hi => by omega, fun _ => rfl⟩
  | succ k ih =>
    intro h1 h2
    have h3 := h1 k (by omega)
    have h4 := h2 k (by omega)
    have h5 := ih (fun i hi => h1 i (by omega)) (fun i hi => h2 i (by omega))
    rw [pkV, pkV]
    constructor
    · intro h i hi
      have h6 : pkV b q k = pkV c 0 k := by omega
      by_cases h7 : i = k
      · subst h7; omega
      · exact h5.mp h6 i (by omega)
    · intro h
      rw [h5.mpr (fun i hi => h i (by omega)), h k (by omega)]
theorem pk_w {b : Nat → Nat} {q : Nat} {l : List Nat} (h1 : ∀ i, i < l.length → 65 ≤ b (q + i) ∧ b (q + i) ≤ 122) (h2 : ∀ i, i < l.length → 65 ≤ l.getD (0 + i) 0 ∧ l.getD (0 + i) 0 ≤ 122) : pkV b q l.length = pkV (fun i => l.getD i 0) 0 l.length ↔ wrd b q l.length = l := by
  rw [pk_inj h1 h2, wrd_eq]
  constructor
  · intro h
    refine ⟨rfl, fun i hi => ?_⟩
    rw [h i hi, Nat.zero_add, List.getD_eq_getElem?_getD, List.getElem?_eq_getElem hi]; rfl
  · rintro ⟨_, h⟩ i hi
    have := h i hi
    rw [Nat.zero_add, List.getD_eq_getElem?_getD, this]; rfl
theorem wrd_ne {b : Nat → Nat} {q k : Nat} {l : List Nat} (h : k ≠ l.length) : ¬ wrd b q k = l := fun z => h (wrd_eq.mp z).1
/-- how the reference names kinds -/
def phi (k : Nat) : Nat := if k = 1 then 3 else if k = 2 then 1 else if k = 3 then 2 else k
theorem kd_1 {b : Nat → Nat} {q : Nat} : kdW (wrd b q 1) = 1 := by
  unfold kdW
  rw [if_neg (wrd_ne (by decide)), if_neg (wrd_ne (by decide)), if_neg (wrd_ne (by decide)), if_neg (wrd_ne (by decide)), if_neg (wrd_ne (by decide)), if_neg (wrd_ne (by decide)), if_neg (wrd_ne (by decide)), if_neg (wrd_ne (by decide))]
theorem kd_2 {b : Nat → Nat} {q : Nat} : kdW (wrd b q 2) = if wrd b q 2 = wTo then 8 else 1 := by
  unfold kdW
  rw [if_neg (wrd_ne (l := wBlock) (by decide)), if_neg (wrd_ne (l := wThread) (by decide)), if_neg (wrd_ne (l := wTread) (by decide)), if_neg (wrd_ne (l := wTie) (by decide)), if_neg (wrd_ne (l := wMirror) (by decide)), if_neg (wrd_ne (l := wBack) (by decide)), if_neg (wrd_ne (l := wPlus) (by decide))]
theorem kd_3 {b : Nat → Nat} {q : Nat} : kdW (wrd b q 3) = if wrd b q 3 = wTie then 7 else 1 := by
  unfold kdW
  rw [if_neg (wrd_ne (l := wBlock) (by decide)), if_neg (wrd_ne (l := wThread) (by decide)), if_neg (wrd_ne (l := wTread) (by decide)), if_neg (wrd_ne (l := wTo) (by decide)), if_neg (wrd_ne (l := wMirror) (by decide)), if_neg (wrd_ne (l := wBack) (by decide)), if_neg (wrd_ne (l := wPlus) (by decide))]
theorem kd_4 {b : Nat → Nat} {q : Nat} : kdW (wrd b q 4) = if wrd b q 4 = wBack then 10 else if wrd b q 4 = wPlus then 11 else 1 := by
  unfold kdW
  rw [if_neg (wrd_ne (l := wBlock) (by decide)), if_neg (wrd_ne (l := wThread) (by decide)), if_neg (wrd_ne (l := wTread) (by decide)), if_neg (wrd_ne (l := wTie) (by decide)), if_neg (wrd_ne (l := wTo) (by decide)), if_neg (wrd_ne (l := wMirror) (by decide))]
theorem kd_5 {b : Nat → Nat} {q : Nat} : kdW (wrd b q 5) = if wrd b q 5 = wBlock then 4 else if wrd b q 5 = wTread then 6 else 1 := by
  unfold kdW
  rw [if_neg (wrd_ne (l := wThread) (by decide)), if_neg (wrd_ne (l := wTie) (by decide)), if_neg (wrd_ne (l := wTo) (by decide)), if_neg (wrd_ne (l := wMirror) (by decide)), if_neg (wrd_ne (l := wBack) (by decide)), if_neg (wrd_ne (l := wPlus) (by decide))]
theorem kd_6 {b : Nat → Nat} {q : Nat} : kdW (wrd b q 6) = if wrd b q 6 = wThread then 5 else if wrd b q 6 = wMirror then 9 else 1 := by
  unfold kdW
  rw [if_neg (wrd_ne (l := wBlock) (by decide)), if_neg (wrd_ne (l := wTread) (by decide)), if_neg (wrd_ne (l := wTie) (by decide)), if_neg (wrd_ne (l := wTo) (by decide)), if_neg (wrd_ne (l := wBack) (by decide)), if_neg (wrd_ne (l := wPlus) (by decide))]
theorem kd_7 {b : Nat → Nat} {q k : Nat} (h : 7 ≤ k) : kdW (wrd b q k) = 1 := by
  have h1 : k ≠ 5 := by omega
  have h2 : k ≠ 6 := by omega
  have h3 : k ≠ 3 := by omega
  have h4 : k ≠ 2 := by omega
  have h5 : k ≠ 4 := by omega
  unfold kdW
  rw [if_neg (wrd_ne (l := wBlock) h1), if_neg (wrd_ne (l := wThread) h2), if_neg (wrd_ne (l := wTread) h1), if_neg (wrd_ne (l := wTie) h3), if_neg (wrd_ne (l := wTo) h4), if_neg (wrd_ne (l := wMirror) h2), if_neg (wrd_ne (l := wBack) h5), if_neg (wrd_ne (l := wPlus) h5)]
theorem wrd_6 {b : Nat → Nat} {q : Nat} {l : List Nat} {x : Nat} : wrd b q 6 = l ++ [x] ↔ wrd b q 5 = l ∧ b (q + 5) = x := by
  rw [wrd]
  constructor
  · intro h
    have := List.append_inj' h rfl
    exact ⟨this.1, by simpa using this.2⟩
  · rintro ⟨h1, h2⟩
    rw [h1, h2]
theorem al_rg {c : Nat} (h : isAl c = true) : 65 ≤ c ∧ c ≤ 122 := by
  unfold isAl at h
  rw [decide_eq_true_eq] at h
  omega
theorem pkv_lt {b : Nat → Nat} {q : Nat} : ∀ {k : Nat}, (∀ i, i < k → b (q + i) ≤ 122) → pkV b q k + 2 ≤ 2 * 58 ^ k + 0 := by
  intro k
  induction k with
  | zero => intro _; exact Nat.le_refl _
  | succ k ih =>
    intro h
    have h1 := ih (fun i hi => h i (by omega))
    have h2 := h k (by omega)
    rw [pkV, Nat.pow_succ]
    omega
theorem pk_small {b : Nat → Nat} {q k : Nat} (hk : k ≤ 5) (h : ∀ i, i < k → b (q + i) ≤ 122) : pkV b q k < 2 ^ 31 := by
  have h1 := pkv_lt h
  have h2 : 58 ^ k ≤ 58 ^ 5 := Nat.pow_le_pow_right (by decide) hk
  have h3 : 58 ^ 5 = 656356768 := rfl
  omega
/-- the reference's NUMBER -/
def rvV (b : Nat → Nat) (q : Nat) : Nat → Nat
  | 0 => 0
  | k + 1 => if rvV b q k < 100000 then 10 * rvV b q k + (b (q + k) - 48) else rvV b q k
theorem rv_lt {b : Nat → Nat} {q : Nat} : ∀ {k : Nat}, (∀ i, i < k → b (q + i) ≤ 57) → rvV b q k < 1000000 := by
  intro k
  induction k with
  | zero => intro _; rw [rvV]; omega
  | succ k ih =>
    intro h
    have h1 := ih (fun i hi => h i (by omega))
    have h2 := h k (by omega)
    rw [rvV]
    split <;> omega
theorem rv_nm {b : Nat → Nat} {q : Nat} : ∀ {k : Nat}, min 999 (rvV b q k) = nmV b q k := by
  intro k
  induction k with
  | zero => rfl
  | succ k ih =>
    rw [rvV, nmV, ← ih]
    split <;> omega
section
variable (sc : sm_S) (I : Nat → Int32) (A : Nat → Nat → Int32) (B : Nat → Nat → Int64) (f : Nat → va_E) (n : Nat) (b : Nat → Nat)
set_option maxHeartbeats 4000000 in
set_option maxRecDepth 20000 in
theorem mSee (i : Nat) (ht : TpM I A b n) (hi : i < 1000) : zC 1 sc 185 [.ref 47, .int (nI i)] (mm f I A B) (zR (mm f I A B) (.int (if i < n then nI (b i) else -1))) := by
  obtain ⟨h5, hn, hb⟩ := ht
  refine zc_of hkX11_see rfl ?_
  repeat (refine zw_go rfl rfl (fun _ _ => rfl) ?_)
  rw [h5]
  by_cases hin : i < n
  · first | refine zw_br rfl (fun _ _ => rfl) (fun h9 => absurd h9 (nI_ge (a := i) (b := n) hin (by omega))) (fun _ => ?_) | refine zw_nx rfl (fun _ _ => rfl) ?_
    repeat (refine zw_go rfl rfl (fun _ _ => rfl) ?_)
    refine zw_ix rfl (fun _ _ => rfl) (show vp_in (nI (i)) _ from vp_in_nI (by omega) (by omega)) ?_
    rw [show (nI (i)).toNatClampNeg = i from nI_clamp (by omega)]
    repeat (refine zw_go rfl rfl (fun _ _ => rfl) ?_)
    refine zw_ret rfl (fun _ _ => rfl) ?_
    exact ⟨rfl, by rw [if_pos hin, (hb i hin).1]⟩
  · first | refine zw_br rfl (fun _ _ => rfl) (fun _ => ?_) (fun h9 => absurd (nI_le (a := n) (b := i) (by omega) (by omega)) h9) | refine zw_nx rfl (fun _ _ => rfl) ?_
    repeat (refine zw_go rfl rfl (fun _ _ => rfl) ?_)
    exact zw_ret rfl (fun _ _ => rfl) (⟨rfl, by rw [if_neg hin]; rfl⟩)
set_option maxHeartbeats 4000000 in
set_option maxRecDepth 20000 in
theorem mDigN (M : sm_M) (c : Nat) (hc : c < 256) : zC 2 sc 187 [.int (nI c)] M (zR M (.int (if isDg c then 1 else 0))) := by
  refine zc_of hkX11_isDigit rfl ?_
  repeat (refine zw_go rfl rfl (fun _ _ => rfl) ?_)
  refine zw_call rfl (fun _ _ => rfl) (mIsIn sc M (nI c) (nI 48) (nI 57)) (by decide) ?_
  rintro M1 r1 ⟨rfl, rfl⟩
  refine zw_bret rfl rfl (bI_01 _) ?_
  refine ⟨rfl, ?_⟩
  unfold isDg
  rw [bI_dec (p := decide (48 ≤ c ∧ c ≤ 57)) (by rw [decide_eq_true_eq, nI_leI (by omega) (by omega), nI_leI (by omega) (by omega)])]
set_option maxHeartbeats 4000000 in
set_option maxRecDepth 20000 in
theorem mDigM (M : sm_M) : zC 2 sc 187 [.int (-1)] M (zR M (.int 0)) := by
  refine zc_of hkX11_isDigit rfl ?_
  repeat (refine zw_go rfl rfl (fun _ _ => rfl) ?_)
  refine zw_call rfl (fun _ _ => rfl) (mIsIn sc M (-1) (nI 48) (nI 57)) (by decide) ?_
  rintro M1 r1 ⟨rfl, rfl⟩
  refine zw_bret rfl rfl (bI_01 _) ?_
  exact ⟨rfl, rfl⟩
set_option maxHeartbeats 4000000 in
set_option maxRecDepth 20000 in
theorem mLetN (M : sm_M) (c : Nat) (hc : c < 256) : zC 2 sc 186 [.int (nI c)] M (zR M (.int (if isAl c then 1 else 0))) := by
  unfold isAl
  refine zc_of hkX11_isLetter rfl ?_
  repeat (refine zw_go rfl rfl (fun _ _ => rfl) ?_)
  refine zw_call rfl (fun _ _ => rfl) (mIsIn sc M (nI c) (nI 97) (nI 122)) (by decide) ?_
  rintro M1 r1 ⟨rfl, rfl⟩
  rw [bI_dec (p := decide (97 ≤ c ∧ c ≤ 122)) (by rw [decide_eq_true_eq, nI_leI (by omega) (by omega), nI_leI (by omega) (by omega)])]
  by_cases h1 : 97 ≤ c ∧ c ≤ 122
  · rw [decide_eq_true h1, decide_eq_true (Or.inl h1)]
    repeat (refine zw_go rfl rfl (fun _ _ => rfl) ?_)
    exact zw_ret rfl (fun _ _ => rfl) (⟨rfl, rfl⟩)
  · rw [decide_eq_false h1]
    repeat (refine zw_go rfl rfl (fun _ _ => rfl) ?_)
    refine zw_call rfl (fun _ _ => rfl) (mIsIn sc M1 (nI c) (nI 65) (nI 90)) (by decide) ?_
    rintro M2 r2 ⟨rfl, rfl⟩
    rw [bI_dec (p := decide (65 ≤ c ∧ c ≤ 90)) (by rw [decide_eq_true_eq, nI_leI (by omega) (by omega), nI_leI (by omega) (by omega)])]
    by_cases h2 : 65 ≤ c ∧ c ≤ 90
    · rw [decide_eq_true h2, decide_eq_true (Or.inr h2)]
      repeat (refine zw_go rfl rfl (fun _ _ => rfl) ?_)
      exact zw_ret rfl (fun _ _ => rfl) (⟨rfl, rfl⟩)
    · rw [decide_eq_false h2, decide_eq_false (fun z => z.elim h1 h2)]
      repeat (refine zw_go rfl rfl (fun _ _ => rfl) ?_)
      exact zw_ret rfl (fun _ _ => rfl) (⟨rfl, rfl⟩)
set_option maxHeartbeats 4000000 in
set_option maxRecDepth 20000 in
theorem mLetM (M : sm_M) : zC 2 sc 186 [.int (-1)] M (zR M (.int 0)) := by
  refine zc_of hkX11_isLetter rfl ?_
  repeat (refine zw_go rfl rfl (fun _ _ => rfl) ?_)
  refine zw_call rfl (fun _ _ => rfl) (mIsIn sc M (-1) (nI 97) (nI 122)) (by decide) ?_
  rintro M1 r1 ⟨rfl, rfl⟩
  repeat (refine zw_go rfl rfl (fun _ _ => rfl) ?_)
  refine zw_call rfl (fun _ _ => rfl) (mIsIn sc M1 (-1) (nI 65) (nI 90)) (by decide) ?_
  rintro M2 r2 ⟨rfl, rfl⟩
  repeat (refine zw_go rfl rfl (fun _ _ => rfl) ?_)
  exact zw_ret rfl (fun _ _ => rfl) (⟨rfl, rfl⟩)
def nn (k : Nat) : Nat := if k = 0 then 0 else k - 64
set_option maxHeartbeats 4000000 in
set_option maxRecDepth 20000 in
theorem mN (M : sm_M) (k : Nat) (hk : k = 0 ∨ (64 < k ∧ k < 256)) : zC 1 sc 189 [.int (nI k)] M (zR M (.int (nI (nn k)))) := by
  unfold nn
  refine zc_of hkX11_n rfl ?_
  rcases hk with rfl | hk
  · repeat (refine zw_go rfl rfl (fun _ _ => rfl) ?_)
    exact zw_ret rfl (fun _ _ => rfl) (⟨rfl, rfl⟩)
  · rw [if_neg (by omega)]
    refine zw_nx rfl (fun _ _ => rfl) ?_
    first | refine zw_br rfl (fun _ _ => rfl) (fun h9 => absurd h9 (nI_ne0 (n := k) (by omega) (by omega))) (fun _ => ?_) | refine zw_nx rfl (fun _ _ => rfl) ?_
    repeat (refine zw_go rfl rfl (fun _ _ => rfl) ?_)
    rw [show nI k - (Int8.ofInt 64).toInt32 = nI (k - 64) from nI_sub (a := k) (b := 64) (by omega)]
    exact zw_ret rfl (fun _ _ => rfl) (⟨rfl, rfl⟩)
set_option maxHeartbeats 4000000 in
set_option maxRecDepth 20000 in
theorem mPack (M : sm_M) (x y z u v : Nat) : zC 1 sc 188 [.int (nI x), .int (nI y), .int (nI z), .int (nI u), .int (nI v)] M (zR M (.int (nI ((((x * 58 + y) * 58 + z) * 58 + u) * 58 + v)))) := by
  refine zc_of hkX11_pack rfl ?_
  repeat (refine zw_go rfl rfl (fun _ _ => rfl) ?_)
  rw [show (Int8.ofInt 58).toInt32 = nI 58 from rfl, nI_mul, nI_add, nI_mul, nI_add, nI_mul, nI_add, nI_mul, nI_add]
  exact zw_ret rfl (fun _ _ => rfl) (⟨rfl, rfl⟩)
set_option maxHeartbeats 4000000 in
set_option maxRecDepth 20000 in
theorem mW (M : sm_M) (x y z u v : Nat) (hx : x = 0 ∨ (64 < x ∧ x < 256)) (hy : y = 0 ∨ (64 < y ∧ y < 256)) (hz : z = 0 ∨ (64 < z ∧ z < 256)) (hu : u = 0 ∨ (64 < u ∧ u < 256)) (hv : v = 0 ∨ (64 < v ∧ v < 256)) : zC 2 sc 190 [.int (nI x), .int (nI y), .int (nI z), .int (nI u), .int (nI v)] M (zR M (.int (nI ((((nn x * 58 + nn y) * 58 + nn z) * 58 + nn u) * 58 + nn v)))) := by
  refine zc_of hkX11_w rfl ?_
  repeat (refine zw_go rfl rfl (fun _ _ => rfl) ?_)
  refine zw_call rfl (fun _ _ => rfl) (mN sc M x hx) (by decide) ?_
  rintro M1 r1 ⟨rfl, rfl⟩
  repeat (refine zw_go rfl rfl (fun _ _ => rfl) ?_)
  refine zw_call rfl (fun _ _ => rfl) (mN sc M1 y hy) (by decide) ?_
  rintro M2 r1 ⟨rfl, rfl⟩
  repeat (refine zw_go rfl rfl (fun _ _ => rfl) ?_)
  refine zw_call rfl (fun _ _ => rfl) (mN sc M2 z hz) (by decide) ?_
  rintro M3 r1 ⟨rfl, rfl⟩
  repeat (refine zw_go rfl rfl (fun _ _ => rfl) ?_)
  refine zw_call rfl (fun _ _ => rfl) (mN sc M3 u hu) (by decide) ?_
  rintro M4 r1 ⟨rfl, rfl⟩
  repeat (refine zw_go rfl rfl (fun _ _ => rfl) ?_)
  refine zw_call rfl (fun _ _ => rfl) (mN sc M4 v hv) (by decide) ?_
  rintro M5 r1 ⟨rfl, rfl⟩
  repeat (refine zw_go rfl rfl (fun _ _ => rfl) ?_)
  refine zw_call rfl (fun _ _ => rfl) (mPack sc M5 (nn x) (nn y) (nn z) (nn u) (nn v)) (by decide) ?_
  rintro M6 r1 ⟨rfl, rfl⟩
  exact zw_ret rfl (fun _ _ => rfl) (⟨rfl, rfl⟩)
set_option maxHeartbeats 4000000 in
set_option maxRecDepth 20000 in
theorem mWordOf (M : sm_M) (q L : Nat) (hL : 1 ≤ L) (hL3 : L ≤ 300) (hal : ∀ i, i < L → isAl (b (q + i)) = true) : zC 3 sc 191 [.ref 47, .int (nI L), .int (nI (pkV b q (min L 5))), .int (nI (b (q + (L - 1))))] M (zR M (.int (nI (phi (if L = 1 ∧ 65 ≤ b q ∧ b q ≤ 72 then 3 else kdW (wrd b q L)))))) := by
  have rg : ∀ i, i < L → 65 ≤ b (q + i) ∧ b (q + i) ≤ 122 := fun i hi => al_rg (hal i hi)
  have sm : ∀ k, k ≤ 5 → k ≤ L → pkV b q k < 2 ^ 31 := fun k h1 h2 => pk_small h1 (fun i hi => (rg i (by omega)).2)
  refine zc_of hkX11_wordOf rfl ?_
  by_cases h1 : L = 1
  · subst h1
    have r0 := rg 0 (by omega)
    rw [Nat.add_zero] at r0
    have e1 : pkV b q (min 1 5) = b q - 64 := by
      show pkV b q 0 * 58 + (b (q + 0) - 64) = _
      rw [pkV, Nat.add_zero, Nat.zero_mul, Nat.zero_add]
    rw [e1, kd_1]
    repeat (refine zw_go rfl rfl (fun _ _ => rfl) ?_)
    refine zw_call rfl (fun _ _ => rfl) (mW sc M 0 0 0 0 65 (by decide) (by decide) (by decide) (by decide) (by decide)) (by decide) ?_
    rintro M1 r1 ⟨rfl, rfl⟩
    repeat (refine zw_go rfl rfl (fun _ _ => rfl) ?_)
    refine zw_call rfl (fun _ _ => rfl) (mW sc M1 0 0 0 0 72 (by decide) (by decide) (by decide) (by decide) (by decide)) (by decide) ?_
    rintro M2 r1 ⟨rfl, rfl⟩
    repeat (refine zw_go rfl rfl (fun _ _ => rfl) ?_)
    refine zw_call rfl (fun _ _ => rfl) (mIsIn sc M2 (nI (b q - 64)) (nI 1) (nI 8)) (by decide) ?_
    rintro M3 r1 ⟨rfl, rfl⟩
    rw [bI_dec (p := decide (65 ≤ b q ∧ b q ≤ 72)) (by rw [decide_eq_true_eq, nI_leI (by omega) (by omega), nI_leI (by omega) (by omega)]; omega)]
    by_cases h2 : 65 ≤ b q ∧ b q ≤ 72
    · rw [decide_eq_true h2, if_pos (⟨rfl, h2⟩ : 1 = 1 ∧ 65 ≤ b q ∧ b q ≤ 72)]
      repeat (refine zw_go rfl rfl (fun _ _ => rfl) ?_)
      exact zw_ret rfl (fun _ _ => rfl) (⟨rfl, rfl⟩)
    · rw [decide_eq_false h2, if_neg (fun z : 1 = 1 ∧ 65 ≤ b q ∧ b q ≤ 72 => h2 z.2)]
      repeat (refine zw_go rfl rfl (fun _ _ => rfl) ?_)
      exact zw_ret rfl (fun _ _ => rfl) (⟨rfl, rfl⟩)
  · rw [if_neg (fun z : L = 1 ∧ 65 ≤ b q ∧ b q ≤ 72 => h1 z.1)]
    by_cases h2 : L = 2
    · subst h2
      have eq : pkV b q 2 = pkV (fun i => wTo.getD i 0) 0 2 ↔ wrd b q 2 = wTo := pk_w (b := b) (q := q) (l := wTo) (fun i hi => rg i hi) (by decide)
      have s2 := sm 2 (by omega) (by omega)
      rw [kd_2]
      repeat (refine zw_go rfl rfl (fun _ _ => rfl) ?_)
      refine zw_call rfl (fun _ _ => rfl) (mW sc M 0 0 0 116 111 (by decide) (by decide) (by decide) (by decide) (by decide)) (by decide) ?_
      rintro M1 r1 ⟨rfl, rfl⟩
      refine zw_br rfl (fun _ _ => rfl) (fun (hc : nI (pkV b q 2) = nI 3063) => ?_) (fun (hc : ¬ (nI (pkV b q 2) = nI 3063)) => ?_)
      · rw [nI_eq s2 (by omega)] at hc
        rw [if_pos (eq.mp hc)]
        repeat (refine zw_go rfl rfl (fun _ _ => rfl) ?_)
        exact zw_ret rfl (fun _ _ => rfl) (⟨rfl, rfl⟩)
      · rw [nI_eq s2 (by omega)] at hc
        rw [if_neg (fun z => hc (eq.mpr z))]
        repeat (refine zw_go rfl rfl (fun _ _ => rfl) ?_)
        exact zw_ret rfl (fun _ _ => rfl) (⟨rfl, rfl⟩)
    · by_cases h3 : L = 3
      · subst h3
        have eq : pkV b q 3 = pkV (fun i => wTie.getD i 0) 0 3 ↔ wrd b q 3 = wTie := pk_w (b := b) (q := q) (l := wTie) (fun i hi => rg i hi) (by decide)
        have s2 := sm 3 (by omega) (by omega)
        rw [kd_3]
        repeat (refine zw_go rfl rfl (fun _ _ => rfl) ?_)
        refine zw_call rfl (fun _ _ => rfl) (mW sc M 0 0 116 105 101 (by decide) (by decide) (by decide) (by decide) (by decide)) (by decide) ?_
        rintro M1 r1 ⟨rfl, rfl⟩
        refine zw_br rfl (fun _ _ => rfl) (fun (hc : nI (pkV b q 3) = nI (pkV (fun i => wTie.getD i 0) 0 3)) => ?_) (fun (hc : ¬ (nI (pkV b q 3) = nI (pkV (fun i => wTie.getD i 0) 0 3))) => ?_)
        · rw [nI_eq s2 (by decide)] at hc
          rw [if_pos (eq.mp hc)]
          repeat (refine zw_go rfl rfl (fun _ _ => rfl) ?_)
          exact zw_ret rfl (fun _ _ => rfl) (⟨rfl, rfl⟩)
        · rw [nI_eq s2 (by decide)] at hc
          rw [if_neg (fun z => hc (eq.mpr z))]
          repeat (refine zw_go rfl rfl (fun _ _ => rfl) ?_)
          exact zw_ret rfl (fun _ _ => rfl) (⟨rfl, rfl⟩)
      · by_cases h4 : L = 4
        · subst h4
          have eq : pkV b q 4 = pkV (fun i => wBack.getD i 0) 0 4 ↔ wrd b q 4 = wBack := pk_w (b := b) (q := q) (l := wBack) (fun i hi => rg i hi) (by decide)
          have eq2 : pkV b q 4 = pkV (fun i => wPlus.getD i 0) 0 4 ↔ wrd b q 4 = wPlus := pk_w (b := b) (q := q) (l := wPlus) (fun i hi => rg i hi) (by decide)
          have s2 := sm 4 (by omega) (by omega)
          rw [kd_4]
          repeat (refine zw_go rfl rfl (fun _ _ => rfl) ?_)
          refine zw_call rfl (fun _ _ => rfl) (mW sc M 0 98 97 99 107 (by decide) (by decide) (by decide) (by decide) (by decide)) (by decide) ?_
          rintro M1 r1 ⟨rfl, rfl⟩
          refine zw_br rfl (fun _ _ => rfl) (fun (hc : nI (pkV b q 4) = nI (pkV (fun i => wBack.getD i 0) 0 4)) => ?_) (fun (hc : ¬ (nI (pkV b q 4) = nI (pkV (fun i => wBack.getD i 0) 0 4))) => ?_)
          · rw [nI_eq s2 (by decide)] at hc
            rw [if_pos (eq.mp hc)]
            repeat (refine zw_go rfl rfl (fun _ _ => rfl) ?_)
            exact zw_ret rfl (fun _ _ => rfl) (⟨rfl, rfl⟩)
          · rw [nI_eq s2 (by decide)] at hc
            rw [if_neg (fun z => hc (eq.mpr z))]
            repeat (refine zw_go rfl rfl (fun _ _ => rfl) ?_)
            refine zw_call rfl (fun _ _ => rfl) (mW sc M1 0 112 108 117 115 (by decide) (by decide) (by decide) (by decide) (by decide)) (by decide) ?_
            rintro M2 r1 ⟨rfl, rfl⟩
            refine zw_br rfl (fun _ _ => rfl) (fun (hd : nI (pkV b q 4) = nI (pkV (fun i => wPlus.getD i 0) 0 4)) => ?_) (fun (hd : ¬ (nI (pkV b q 4) = nI (pkV (fun i => wPlus.getD i 0) 0 4))) => ?_)
            · rw [nI_eq s2 (by decide)] at hd
              rw [if_pos (eq2.mp hd)]
              repeat (refine zw_go rfl rfl (fun _ _ => rfl) ?_)
              exact zw_ret rfl (fun _ _ => rfl) (⟨rfl, rfl⟩)
            · rw [nI_eq s2 (by decide)] at hd
              rw [if_neg (fun z => hd (eq2.mpr z))]
              repeat (refine zw_go rfl rfl (fun _ _ => rfl) ?_)
              exact zw_ret rfl (fun _ _ => rfl) (⟨rfl, rfl⟩)
        · by_cases h5 : L = 5
          · subst h5
            have eq : pkV b q 5 = pkV (fun i => wBlock.getD i 0) 0 5 ↔ wrd b q 5 = wBlock := pk_w (b := b) (q := q) (l := wBlock) (fun i hi => rg i hi) (by decide)
            have eq2 : pkV b q 5 = pkV (fun i => wTread.getD i 0) 0 5 ↔ wrd b q 5 = wTread := pk_w (b := b) (q := q) (l := wTread) (fun i hi => rg i hi) (by decide)
            have s2 := sm 5 (by omega) (by omega)
            rw [kd_5]
            repeat (refine zw_go rfl rfl (fun _ _ => rfl) ?_)
            refine zw_call rfl (fun _ _ => rfl) (mW sc M 98 108 111 99 107 (by decide) (by decide) (by decide) (by decide) (by decide)) (by decide) ?_
            rintro M1 r1 ⟨rfl, rfl⟩
            refine zw_br rfl (fun _ _ => rfl) (fun (hc : nI (pkV b q 5) = nI (pkV (fun i => wBlock.getD i 0) 0 5)) => ?_) (fun (hc : ¬ (nI (pkV b q 5) = nI (pkV (fun i => wBlock.getD i 0) 0 5))) => ?_)
            · rw [nI_eq s2 (by decide)] at hc
              rw [if_pos (eq.mp hc)]
              repeat (refine zw_go rfl rfl (fun _ _ => rfl) ?_)
              exact zw_ret rfl (fun _ _ => rfl) (⟨rfl, rfl⟩)
            · rw [nI_eq s2 (by decide)] at hc
              rw [if_neg (fun z => hc (eq.mpr z))]
              repeat (refine zw_go rfl rfl (fun _ _ => rfl) ?_)
              refine zw_call rfl (fun _ _ => rfl) (mW sc M1 116 114 101 97 100 (by decide) (by decide) (by decide) (by decide) (by decide)) (by decide) ?_
              rintro M2 r1 ⟨rfl, rfl⟩
              refine zw_br rfl (fun _ _ => rfl) (fun (hd : nI (pkV b q 5) = nI (pkV (fun i => wTread.getD i 0) 0 5)) => ?_) (fun (hd : ¬ (nI (pkV b q 5) = nI (pkV (fun i => wTread.getD i 0) 0 5))) => ?_)
              · rw [nI_eq s2 (by decide)] at hd
                rw [if_pos (eq2.mp hd)]
                repeat (refine zw_go rfl rfl (fun _ _ => rfl) ?_)
                exact zw_ret rfl (fun _ _ => rfl) (⟨rfl, rfl⟩)
              · rw [nI_eq s2 (by decide)] at hd
                rw [if_neg (fun z => hd (eq2.mpr z))]
                repeat (refine zw_go rfl rfl (fun _ _ => rfl) ?_)
                exact zw_ret rfl (fun _ _ => rfl) (⟨rfl, rfl⟩)
          · by_cases h6 : L = 6
            · subst h6
              have eq : pkV b q 5 = pkV (fun i => ([116, 104, 114, 101, 97] : List Nat).getD i 0) 0 5 ↔ wrd b q 5 = [116, 104, 114, 101, 97] := pk_w (b := b) (q := q) (l := [116, 104, 114, 101, 97]) (fun i hi => rg i (Nat.lt_of_lt_of_le hi (by decide))) (by decide)
              have eq2 : pkV b q 5 = pkV (fun i => ([109, 105, 114, 114, 111] : List Nat).getD i 0) 0 5 ↔ wrd b q 5 = [109, 105, 114, 114, 111] := pk_w (b := b) (q := q) (l := [109, 105, 114, 114, 111]) (fun i hi => rg i (Nat.lt_of_lt_of_le hi (by decide))) (by decide)
              have s2 := sm 5 (by omega) (by omega)
              have r5 := rg 5 (by omega)
              have w1 : wrd b q 6 = wThread ↔ wrd b q 5 = [116, 104, 114, 101, 97] ∧ b (q + 5) = 100 := wrd_6 (l := [116, 104, 114, 101, 97]) (x := 100)
              have w2 : wrd b q 6 = wMirror ↔ wrd b q 5 = [109, 105, 114, 114, 111] ∧ b (q + 5) = 114 := wrd_6 (l := [109, 105, 114, 114, 111]) (x := 114)
              have second : ¬ wrd b q 6 = wThread → ∀ M1, M1 = M → zW 2 sc miX11_wordOf 223 [some (.ref 47), some (.int (nI 6)), some (.int (nI (pkV b q 5))), some (.int (nI (b (q + 5))))] [] M1 (zR M (.int (nI (phi (kdW (wrd b q 6)))))) := fun hno M1 hM1 => by
                subst hM1
                rw [kd_6, if_neg hno]
                repeat (refine zw_go rfl rfl (fun _ _ => rfl) ?_)
                refine zw_call rfl (fun _ _ => rfl) (mW sc M1 109 105 114 114 111 (by decide) (by decide) (by decide) (by decide) (by decide)) (by decide) ?_
                rintro M2 r1 ⟨rfl, rfl⟩
                refine zw_br rfl (fun _ _ => rfl) (fun (hd : nI (pkV b q 5) = nI (pkV (fun i => ([109, 105, 114, 114, 111] : List Nat).getD i 0) 0 5)) => ?_) (fun (hd : ¬ (nI (pkV b q 5) = nI (pkV (fun i => ([109, 105, 114, 114, 111] : List Nat).getD i 0) 0 5))) => ?_)
                · rw [nI_eq s2 (by decide)] at hd
                  repeat (refine zw_go rfl rfl (fun _ _ => rfl) ?_)
                  refine zw_br rfl (fun _ _ => rfl) (fun (he : nI (b (q + 5)) = nI 114) => ?_) (fun (he : ¬ (nI (b (q + 5)) = nI 114)) => ?_)
                  · rw [nI_eq (by omega) (by omega)] at he
                    rw [if_pos (w2.mpr ⟨eq2.mp hd, he⟩)]
                    repeat (refine zw_go rfl rfl (fun _ _ => rfl) ?_)
                    exact zw_ret rfl (fun _ _ => rfl) (⟨rfl, rfl⟩)
                  · rw [nI_eq (by omega) (by omega)] at he
                    rw [if_neg (fun z => he (w2.mp z).2)]
                    repeat (refine zw_go rfl rfl (fun _ _ => rfl) ?_)
                    exact zw_ret rfl (fun _ _ => rfl) (⟨rfl, rfl⟩)
                · rw [nI_eq s2 (by decide)] at hd
                  rw [if_neg (fun z => hd (eq2.mpr (w2.mp z).1))]
                  repeat (refine zw_go rfl rfl (fun _ _ => rfl) ?_)
                  exact zw_ret rfl (fun _ _ => rfl) (⟨rfl, rfl⟩)
              repeat (refine zw_go rfl rfl (fun _ _ => rfl) ?_)
              refine zw_call rfl (fun _ _ => rfl) (mW sc M 116 104 114 101 97 (by decide) (by decide) (by decide) (by decide) (by decide)) (by decide) ?_
              rintro M1 r1 ⟨rfl, rfl⟩
              refine zw_br rfl (fun _ _ => rfl) (fun (hc : nI (pkV b q 5) = nI (pkV (fun i => ([116, 104, 114, 101, 97] : List Nat).getD i 0) 0 5)) => ?_) (fun (hc : ¬ (nI (pkV b q 5) = nI (pkV (fun i => ([116, 104, 114, 101, 97] : List Nat).getD i 0) 0 5))) => ?_)
              · rw [nI_eq s2 (by decide)] at hc
                repeat (refine zw_go rfl rfl (fun _ _ => rfl) ?_)
                refine zw_br rfl (fun _ _ => rfl) (fun (he : nI (b (q + 5)) = nI 100) => ?_) (fun (he : ¬ (nI (b (q + 5)) = nI 100)) => ?_)
                · rw [nI_eq (by omega) (by omega)] at he
                  rw [kd_6, if_pos (w1.mpr ⟨eq.mp hc, he⟩)]
                  repeat (refine zw_go rfl rfl (fun _ _ => rfl) ?_)
                  exact zw_ret rfl (fun _ _ => rfl) (⟨rfl, rfl⟩)
                · rw [nI_eq (by omega) (by omega)] at he
                  exact second (fun z => he (w1.mp z).2) M1 rfl
              · rw [nI_eq s2 (by decide)] at hc
                exact second (fun z => hc (eq.mpr (w1.mp z).1)) M1 rfl
            · rw [kd_7 (by omega)]
              repeat (refine zw_go rfl rfl (fun _ _ => rfl) ?_)
              first | refine zw_br rfl (fun _ _ => rfl) (fun h9 => absurd h9 ((fun z => h1 ((nI_eq (a := L) (b := 1) (by omega) (by omega)).mp z)))) (fun _ => ?_) | refine zw_nx rfl (fun _ _ => rfl) ?_
              repeat (refine zw_go rfl rfl (fun _ _ => rfl) ?_)
              first | refine zw_br rfl (fun _ _ => rfl) (fun h9 => absurd h9 ((fun z => h2 ((nI_eq (a := L) (b := 2) (by omega) (by omega)).mp z)))) (fun _ => ?_) | refine zw_nx rfl (fun _ _ => rfl) ?_
              repeat (refine zw_go rfl rfl (fun _ _ => rfl) ?_)
              first | refine zw_br rfl (fun _ _ => rfl) (fun h9 => absurd h9 ((fun z => h3 ((nI_eq (a := L) (b := 3) (by omega) (by omega)).mp z)))) (fun _ => ?_) | refine zw_nx rfl (fun _ _ => rfl) ?_
              repeat (refine zw_go rfl rfl (fun _ _ => rfl) ?_)
              first | refine zw_br rfl (fun _ _ => rfl) (fun h9 => absurd h9 ((fun z => h4 ((nI_eq (a := L) (b := 4) (by omega) (by omega)).mp z)))) (fun _ => ?_) | refine zw_nx rfl (fun _ _ => rfl) ?_
              repeat (refine zw_go rfl rfl (fun _ _ => rfl) ?_)
              first | refine zw_br rfl (fun _ _ => rfl) (fun h9 => absurd h9 ((fun z => h5 ((nI_eq (a := L) (b := 5) (by omega) (by omega)).mp z)))) (fun _ => ?_) | refine zw_nx rfl (fun _ _ => rfl) ?_
              repeat (refine zw_go rfl rfl (fun _ _ => rfl) ?_)
              first | refine zw_br rfl (fun _ _ => rfl) (fun h9 => absurd h9 ((fun z => h6 ((nI_eq (a := L) (b := 6) (by omega) (by omega)).mp z)))) (fun _ => ?_) | refine zw_nx rfl (fun _ _ => rfl) ?_
              repeat (refine zw_go rfl rfl (fun _ _ => rfl) ?_)
              exact zw_ret rfl (fun _ _ => rfl) (⟨rfl, rfl⟩)
end

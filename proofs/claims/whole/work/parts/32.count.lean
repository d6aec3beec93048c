/-! counting bits: the JDK's bit counts -/
/-- how many places below n -/
def cnt (p : Nat → Bool) : Nat → Nat
  | 0 => 0
  | n + 1 => cnt p n + (if p n then 1 else 0)
theorem cnt_cong {p q : Nat → Bool} : ∀ {n : Nat}, (∀ i, i < n → p i = q i) → cnt p n = cnt q n := by
  intro n
  induction n with
  | zero => intro _; rfl
  | succ n ih => intro h; rw [cnt, cnt, h n (by omega), ih (fun i hi => h i (by omega))]
theorem cnt_le {p : Nat → Bool} : ∀ {n : Nat}, cnt p n ≤ n := by
  intro n
  induction n with
  | zero => exact Nat.le_refl _
  | succ n ih => rw [cnt]; split <;> omega
theorem cnt_0 {p : Nat → Bool} : ∀ {n : Nat}, (∀ i, i < n → p i = false) → cnt p n = 0 := by
  intro n
  induction n with
  | zero => intro _; rfl
  | succ n ih => intro h; rw [cnt, h n (by omega), ih (fun i hi => h i (by omega))]; rfl
theorem cnt_app {p : Nat → Bool} {a : Nat} : ∀ {b : Nat}, cnt p (a + b) = cnt p a + cnt (fun i => p (a + i)) b := by
  intro b
  induction b with
  | zero => rfl
  | succ b ih => rw [← Nat.add_assoc, cnt, ih, cnt]; omega
theorem cnt_mk {p : Nat → Bool} {n : Nat} (hn : n ≤ 64) : cnt (lb (mk p n)) 64 = cnt p n := by
  have e : (64 : Nat) = n + (64 - n) := by omega
  rw [e, cnt_app, cnt_0 (n := 64 - n) (fun i hi => by rw [lb_mk hn, decide_eq_false (by omega), Bool.false_and]), Nat.add_zero]
  exact cnt_cong (fun i hi => by rw [lb_mk hn]; simp [hi])
/-- bytes of a number, each one's bits counted -/
def m55 : Nat → Nat
  | 0 => 0
  | k + 1 => 0x55 + 256 * m55 k
def m33 : Nat → Nat
  | 0 => 0
  | k + 1 => 0x33 + 256 * m33 k
def m0f : Nat → Nat
  | 0 => 0
  | k + 1 => 0x0f + 256 * m0f k
theorem and_split {lo hi m M : Nat} (h1 : lo < 256) (h2 : m < 256) : (lo + 256 * hi) &&& (m + 256 * M) = (lo &&& m) + 256 * (hi &&& M) := by
  have h3 : lo &&& m < 256 := Nat.lt_of_le_of_lt Nat.and_le_left h1
  refine Nat.eq_of_testBit_eq (fun j => ?_)
  rw [Nat.testBit_and, Nat.add_comm lo, Nat.add_comm m, Nat.add_comm (lo &&& m), show 256 * hi = 2 ^ 8 * hi from rfl, show 256 * M = 2 ^ 8 * M from rfl, show 256 * (hi &&& M) = 2 ^ 8 * (hi &&& M) from rfl, Nat.testBit_two_pow_mul_add _ h1, Nat.testBit_two_pow_mul_add _ h2, Nat.testBit_two_pow_mul_add _ h3]
  by_cases h : j < 8
  · simp [h]
  · simp [h]
def b1 (a : Nat) : Nat := a - ((a / 2) &&& 0x55)
def b2 (a : Nat) : Nat := (a &&& 0x33) + ((a / 4) &&& 0x33)
def b3 (a : Nat) : Nat := (a + a / 16) &&& 0x0f
def s1 (k x : Nat) : Nat := x - ((x / 2) &&& m55 k)
def s2 (k x : Nat) : Nat := (x &&& m33 k) + ((x / 4) &&& m33 k)
def s3 (k x : Nat) : Nat := (x + x / 16) &&& m0f k
theorem b1_lt : ∀ a, a < 256 → b1 a < 256 := by decide +kernel
theorem b2_lt : ∀ a, a < 256 → b2 a ≤ 102 ∧ b2 a % 16 ≤ 6 := by decide +kernel
theorem n55 : ∀ u, u < 128 → ∀ v, v < 2 → (u + 128 * v) &&& 0x55 = u &&& 0x55 := by decide +kernel
theorem n33 : ∀ u, u < 64 → ∀ v, v < 4 → (u + 64 * v) &&& 0x33 = u &&& 0x33 := by decide +kernel
theorem n0f (u v : Nat) : (u + 16 * v) &&& 0x0f = u &&& 0x0f := by
  rw [show (0x0f : Nat) = 2 ^ 4 - 1 from rfl, Nat.and_two_pow_sub_one_eq_mod, Nat.and_two_pow_sub_one_eq_mod]
  omega
theorem s1_s {k a y : Nat} (ha : a < 256) : s1 (k + 1) (a + 256 * y) = b1 a + 256 * s1 k y := by
  unfold s1 b1
  rw [m55, show (a + 256 * y) / 2 = (a / 2 + 128 * (y % 2)) + 256 * (y / 2) by omega, and_split (by omega) (by decide), n55 (a / 2) (by omega) (y % 2) (by omega)]
  have g1 : (a / 2) &&& 0x55 ≤ a / 2 := Nat.and_le_left
  have g2 : (y / 2) &&& m55 k ≤ y / 2 := Nat.and_le_left
  omega
theorem s2_s {k a y : Nat} (ha : a < 256) : s2 (k + 1) (a + 256 * y) = b2 a + 256 * s2 k y := by
  unfold s2 b2
  rw [m33, show (a + 256 * y) / 4 = (a / 4 + 64 * (y % 4)) + 256 * (y / 4) by omega, and_split (by omega) (by decide), and_split (by omega) (by decide), n33 (a / 4) (by omega) (y % 4) (by omega)]
  omega
theorem s3_s {k a y : Nat} (ha : a ≤ 102) (hy : y % 16 ≤ 6) : s3 (k + 1) (a + 256 * y) = b3 a + 256 * s3 k y := by
  unfold s3 b3
  rw [m0f, show (a + 256 * y) + (a + 256 * y) / 16 = (a + a / 16 + 16 * (y % 16)) + 256 * (y + y / 16) by omega, and_split (by omega) (by decide), n0f]
/-- the bits of each byte -/
def bs : Nat → Nat → Nat
  | 0, _ => 0
  | k + 1, x => b3 (b2 (b1 (x % 256))) + 256 * bs k (x / 256)
theorem s2_16 : ∀ {k x : Nat}, x < 256 ^ k → s2 k (s1 k x) % 16 ≤ 6 := by
  intro k
  cases k with
  | zero => intro x hx; have e : x = 0 := by rw [Nat.pow_zero] at hx; omega
            subst e; decide
  | succ k =>
    intro x hx
    have e : x = x % 256 + 256 * (x / 256) := by omega
    rw [e, s1_s (by omega), s2_s (b1_lt _ (by omega))]
    have := (b2_lt (b1 (x % 256)) (b1_lt _ (by omega))).2
    omega
theorem s_bs : ∀ {k x : Nat}, x < 256 ^ k → s3 k (s2 k (s1 k x)) = bs k x := by
  intro k
  induction k with
  | zero => intro x hx; have e : x = 0 := by rw [Nat.pow_zero] at hx; omega
            subst e; decide
  | succ k ih =>
    intro x hx
    have e : x = x % 256 + 256 * (x / 256) := by omega
    have hx2 : x / 256 < 256 ^ k := by rw [Nat.pow_succ] at hx; exact Nat.div_lt_of_lt_mul (by rw [Nat.mul_comm]; exact hx)
    have h2 := b2_lt (b1 (x % 256)) (b1_lt _ (by omega))
    rw [bs, ← ih hx2]
    rw [show s1 (k + 1) x = b1 (x % 256) + 256 * s1 k (x / 256) from by rw [← s1_s (by omega)]; exact congrArg _ e]
    rw [s2_s (b1_lt _ (by omega)), s3_s h2.1 (s2_16 hx2)]
/-- a byte's bits -/
theorem b_cnt : ∀ a, a < 256 → b3 (b2 (b1 a)) = cnt (fun i => a.testBit i) 8 := by decide +kernel
theorem cnt_byte (x j : Nat) : cnt (fun i => (x / 256 ^ j % 256).testBit i) 8 = cnt (fun i => x.testBit (8 * j + i)) 8 := by
  refine cnt_cong (fun i hi => ?_)
  rw [show (256 : Nat) = 2 ^ 8 from rfl, ← Nat.pow_mul, Nat.testBit_mod_two_pow, Nat.testBit_div_two_pow, Nat.add_comm]
  simp [hi]
/-- x >>> k of a long -/
def us (x : Int64) (k : Nat) : Int64 := (x.toUInt64 >>> ((nI k).toInt64.toUInt64 &&& Int64.toUInt64 63)).toInt64
/-- a long's word as a number -/
def tn (x : Int64) : Nat := x.toBitVec.toNat
theorem tn_lt (x : Int64) : tn x < 2 ^ 64 := x.toBitVec.isLt
theorem tn_us (x : Int64) {k : Nat} (hk : k < 64) : tn (us x k) = tn x / 2 ^ k := by
  unfold tn us
  have e : (x.toUInt64 >>> ((nI k).toInt64.toUInt64 &&& Int64.toUInt64 63)).toInt64.toBitVec = x.toBitVec >>> (((nI k).toInt64.toUInt64 &&& Int64.toUInt64 63).toBitVec % 64).toNat := UInt64.toBitVec_shiftRight _ _
  rw [e, sh_u k hk, BitVec.toNat_ushiftRight, Nat.shiftRight_eq_div_pow]
theorem tn_and (x y : Int64) : tn (x &&& y) = tn x &&& tn y := by unfold tn; rw [Int64.toBitVec_and, BitVec.toNat_and]
theorem tn_add {x y : Int64} (h : tn x + tn y < 2 ^ 64) : tn (x + y) = tn x + tn y := by
  unfold tn at h ⊢
  rw [Int64.toBitVec_add, BitVec.toNat_add, Nat.mod_eq_of_lt h]
theorem tn_sub {x y : Int64} (h : tn y ≤ tn x) : tn (x - y) = tn x - tn y := by
  unfold tn at h ⊢
  rw [Int64.toBitVec_sub, BitVec.toNat_sub_of_le (BitVec.le_def.mpr h)]
theorem cnt_tn (x : Int64) (n : Nat) : cnt (lb x) n = cnt (fun i => (tn x).testBit i) n := rfl
def bc1 (x : Int64) : Int64 := x - (us x 1 &&& 6148914691236517205)
def bc2 (x : Int64) : Int64 := (x &&& 3689348814741910323) + (us x 2 &&& 3689348814741910323)
def bc3 (x : Int64) : Int64 := (x + us x 4) &&& 1085102592571150095
def bc4 (x : Int64) : Int64 := x + us x 8
def bc5 (x : Int64) : Int64 := x + us x 16
def bc6 (x : Int64) : Int64 := x + us x 32
theorem bc_s1 (x : Int64) : tn (bc1 x) = s1 8 (tn x) := by
  unfold bc1 s1
  have e : tn (us x 1 &&& 6148914691236517205) = (tn x / 2) &&& m55 8 := by
    rw [tn_and, tn_us x (by omega), show tn 6148914691236517205 = m55 8 from by decide +kernel]
  have l : (tn x / 2) &&& m55 8 ≤ tn x / 2 := Nat.and_le_left
  rw [tn_sub (by omega), e]
theorem bc_s2 (x : Int64) : tn (bc2 x) = s2 8 (tn x) := by
  unfold bc2 s2
  have c : tn 3689348814741910323 = m33 8 := by decide +kernel
  have m : m33 8 = 3689348814741910323 := by decide +kernel
  have e1 : tn (x &&& 3689348814741910323) = tn x &&& m33 8 := by rw [tn_and, c]
  have e2 : tn (us x 2 &&& 3689348814741910323) = (tn x / 4) &&& m33 8 := by rw [tn_and, tn_us x (by omega), c]
  have l1 : tn x &&& m33 8 ≤ m33 8 := Nat.and_le_right
  have l2 : (tn x / 4) &&& m33 8 ≤ m33 8 := Nat.and_le_right
  rw [tn_add (by omega), e1, e2]
theorem bc_s3 (x : Int64) (h : tn x + tn x / 16 < 2 ^ 64) : tn (bc3 x) = s3 8 (tn x) := by
  unfold bc3 s3
  have e : tn (us x 4) = tn x / 16 := tn_us x (by omega)
  rw [tn_and, tn_add (by omega), e, show tn 1085102592571150095 = m0f 8 from by decide +kernel]
theorem dv {a b : Nat} (h : a < 256) : (a + 256 * b) / 256 = b := by omega
theorem bc_add {x : Int64} {k r : Nat} (hk : k < 64) (h1 : tn x / 2 ^ k = r) (h : tn x + r < 2 ^ 64) : tn (x + us x k) = tn x + r := by
  have e : tn (us x k) = r := (tn_us x hk).trans h1
  rw [tn_add (by rw [e]; exact h), e]
theorem bc_sum {x : Int64} {c0 c1 c2 c3 c4 c5 c6 c7 : Nat} (h : tn x = c0 + 256 * (c1 + 256 * (c2 + 256 * (c3 + 256 * (c4 + 256 * (c5 + 256 * (c6 + 256 * c7))))))) (h0 : c0 ≤ 8) (h1 : c1 ≤ 8) (h2 : c2 ≤ 8) (h3 : c3 ≤ 8) (h4 : c4 ≤ 8) (h5 : c5 ≤ 8) (h6 : c6 ≤ 8) (h7 : c7 ≤ 8) : tn (bc6 (bc5 (bc4 x))) % 128 = c0 + c1 + c2 + c3 + c4 + c5 + c6 + c7 := by
  have f4 : tn (bc4 x) = (c0 + c1) + 256 * ((c1 + c2) + 256 * ((c2 + c3) + 256 * ((c3 + c4) + 256 * ((c4 + c5) + 256 * ((c5 + c6) + 256 * ((c6 + c7) + 256 * c7)))))) := by
    have d : tn x / 2 ^ 8 = c1 + 256 * (c2 + 256 * (c3 + 256 * (c4 + 256 * (c5 + 256 * (c6 + 256 * c7))))) := by rw [h]; exact dv (by omega)
    unfold bc4
    rw [bc_add (by omega) d (by rw [h]; omega), h]
    omega
  have d5 : tn (bc4 x) / 2 ^ 16 = (c2 + c3) + 256 * ((c3 + c4) + 256 * ((c4 + c5) + 256 * ((c5 + c6) + 256 * ((c6 + c7) + 256 * c7)))) := by
    rw [f4, show (2 : Nat) ^ 16 = 256 * 256 from rfl, ← Nat.div_div_eq_div_mul, dv (by omega), dv (by omega)]
  have f5 : tn (bc5 (bc4 x)) = (c0 + c1 + c2 + c3) + 256 * ((c1 + c2 + c3 + c4) + 256 * ((c2 + c3 + c4 + c5) + 256 * ((c3 + c4 + c5 + c6) + 256 * ((c4 + c5 + c6 + c7) + 256 * ((c5 + c6 + c7) + 256 * ((c6 + c7) + 256 * c7)))))) := by
    unfold bc5
    rw [bc_add (by omega) d5 (by rw [f4]; clear d5 f4 h; omega), f4]
    clear d5 f4 h; omega
  have d6 : tn (bc5 (bc4 x)) / 2 ^ 32 = (c4 + c5 + c6 + c7) + 256 * ((c5 + c6 + c7) + 256 * ((c6 + c7) + 256 * c7)) := by
    rw [f5, show (2 : Nat) ^ 32 = 256 * 256 * 256 * 256 from rfl, ← Nat.div_div_eq_div_mul, ← Nat.div_div_eq_div_mul, ← Nat.div_div_eq_div_mul, dv (by omega), dv (by omega), dv (by omega), dv (by omega)]
  have e6 : tn (bc6 (bc5 (bc4 x))) = tn (bc5 (bc4 x)) + ((c4 + c5 + c6 + c7) + 256 * ((c5 + c6 + c7) + 256 * ((c6 + c7) + 256 * c7))) := by
    unfold bc6
    exact bc_add (by omega) d6 (by rw [f5]; clear d6 f5 d5 f4 h; omega)
  have e7 : tn (bc6 (bc5 (bc4 x))) = (c0 + c1 + c2 + c3 + c4 + c5 + c6 + c7) + 128 * (2 * (((c1 + c2 + c3 + c4) + 256 * ((c2 + c3 + c4 + c5) + 256 * ((c3 + c4 + c5 + c6) + 256 * ((c4 + c5 + c6 + c7) + 256 * ((c5 + c6 + c7) + 256 * ((c6 + c7) + 256 * c7)))))) + ((c5 + c6 + c7) + 256 * ((c6 + c7) + 256 * c7)))) := by
    rw [e6, f5]; clear e6 d6 f5 d5 f4 h; omega
  rw [e7, Nat.add_mul_mod_self_left, Nat.mod_eq_of_lt (by clear e7 e6 d6 f5 d5 f4 h; omega)]
theorem bc_all (x : Int64) : tn (bc6 (bc5 (bc4 (bc3 (bc2 (bc1 x)))))) % 128 = cnt (lb x) 64 := by
  have m : m33 8 = 3689348814741910323 := by decide +kernel
  have hb : tn (bc2 (bc1 x)) ≤ 2 * 3689348814741910323 := by
    rw [bc_s2, s2]
    have l1 : tn (bc1 x) &&& m33 8 ≤ m33 8 := Nat.and_le_right
    have l2 : (tn (bc1 x) / 4) &&& m33 8 ≤ m33 8 := Nat.and_le_right
    omega
  have e3 : tn (bc3 (bc2 (bc1 x))) = bs 8 (tn x) := by
    rw [bc_s3 _ (by omega), bc_s2, bc_s1]
    exact s_bs (Nat.lt_of_lt_of_le (tn_lt x) (by decide))
  have hby : ∀ j, b3 (b2 (b1 (tn x / 256 ^ j % 256))) = cnt (fun i => lb x (8 * j + i)) 8 := fun j => (b_cnt _ (Nat.mod_lt _ (by decide))).trans (cnt_byte (tn x) j)
  have e4 : bs 8 (tn x) = cnt (fun i => lb x (8 * 0 + i)) 8 + 256 * (cnt (fun i => lb x (8 * 1 + i)) 8 + 256 * (cnt (fun i => lb x (8 * 2 + i)) 8 + 256 * (cnt (fun i => lb x (8 * 3 + i)) 8 + 256 * (cnt (fun i => lb x (8 * 4 + i)) 8 + 256 * (cnt (fun i => lb x (8 * 5 + i)) 8 + 256 * (cnt (fun i => lb x (8 * 6 + i)) 8 + 256 * cnt (fun i => lb x (8 * 7 + i)) 8)))))) := by
    rw [← hby 0, ← hby 1, ← hby 2, ← hby 3, ← hby 4, ← hby 5, ← hby 6, ← hby 7]
    simp only [bs, Nat.div_div_eq_div_mul, Nat.pow_zero, Nat.div_one, show 256 ^ 1 = 256 from rfl, show 256 ^ 2 = 256 * 256 from rfl, show 256 ^ 3 = 256 * 256 * 256 from rfl, show 256 ^ 4 = 256 * 256 * 256 * 256 from rfl, show 256 ^ 5 = 256 * 256 * 256 * 256 * 256 from rfl, show 256 ^ 6 = 256 * 256 * 256 * 256 * 256 * 256 from rfl, show 256 ^ 7 = 256 * 256 * 256 * 256 * 256 * 256 * 256 from rfl, Nat.mul_zero, Nat.add_zero]
  rw [bc_sum (e3.trans e4) cnt_le cnt_le cnt_le cnt_le cnt_le cnt_le cnt_le cnt_le]
  have e : ∀ a, cnt (lb x) (a + 8) = cnt (lb x) a + cnt (fun i => lb x (a + i)) 8 := fun a => cnt_app
  rw [show (64 : Nat) = 56 + 8 from rfl, e 56, show (56 : Nat) = 48 + 8 from rfl, e 48, show (48 : Nat) = 40 + 8 from rfl, e 40, show (40 : Nat) = 32 + 8 from rfl, e 32, show (32 : Nat) = 24 + 8 from rfl, e 24, show (24 : Nat) = 16 + 8 from rfl, e 16, show (16 : Nat) = 8 + 8 from rfl, e 8]
  simp only [Nat.mul_zero, Nat.zero_add]
theorem and127 (x : Int64) {q : Nat} (h : tn x % 128 = q) : x.toInt32 &&& 127 = nI q := by
  refine Int32.toBitVec_inj.mp (BitVec.eq_of_toNat_eq ?_)
  have e : (x.toInt32 &&& 127).toBitVec = x.toBitVec.signExtend 32 &&& 127#32 := rfl
  have e2 : (x.toBitVec.signExtend 32) = x.toBitVec.setWidth 32 := BitVec.signExtend_eq_setWidth_of_le _ (by decide)
  rw [e, e2, BitVec.toNat_and, BitVec.toNat_setWidth]
  show (tn x % 2 ^ 32) &&& (2 ^ 7 - 1) = (BitVec.ofNat 32 q).toNat
  rw [Nat.and_two_pow_sub_one_eq_mod, BitVec.toNat_ofNat]
  omega
set_option maxHeartbeats 4000000 in
set_option maxRecDepth 20000 in
theorem cBitL (sc : sm_S) (M : sm_M) (x : Int64) : zC 1 sc 253 [.long x] M (zR M (.int (nI (cnt (lb x) 64)))) := by
  refine zc_of hkJ13_bitCount_95d88 rfl ?_
  repeat (refine zw_go rfl rfl (fun _ _ => rfl) ?_)
  refine zw_ret rfl (fun _ _ => rfl) ?_
  refine ⟨rfl, ?_⟩
  rw [← and127 _ (bc_all x)]
  rfl

/-! the JDK's bit count of an int -/
def usI (x : Int32) (k : Nat) : Int32 := (x.toUInt32 >>> ((nI k).toUInt32 &&& Int32.toUInt32 31)).toInt32
def tnI (x : Int32) : Nat := x.toBitVec.toNat
theorem tnI_lt (x : Int32) : tnI x < 2 ^ 32 := x.toBitVec.isLt
theorem sh_ui : ∀ i, i < 32 → (((nI i).toUInt32 &&& Int32.toUInt32 31).toBitVec % 32).toNat = i := by decide +kernel
theorem tnI_us (x : Int32) {k : Nat} (hk : k < 32) : tnI (usI x k) = tnI x / 2 ^ k := by
  unfold tnI usI
  have e : (x.toUInt32 >>> ((nI k).toUInt32 &&& Int32.toUInt32 31)).toInt32.toBitVec = x.toBitVec >>> (((nI k).toUInt32 &&& Int32.toUInt32 31).toBitVec % 32).toNat := UInt32.toBitVec_shiftRight _ _
  rw [e, sh_ui k hk, BitVec.toNat_ushiftRight, Nat.shiftRight_eq_div_pow]
theorem tnI_and (x y : Int32) : tnI (x &&& y) = tnI x &&& tnI y := by unfold tnI; rw [Int32.toBitVec_and, BitVec.toNat_and]
theorem tnI_add {x y : Int32} (h : tnI x + tnI y < 2 ^ 32) : tnI (x + y) = tnI x + tnI y := by
  unfold tnI at h ⊢
  rw [Int32.toBitVec_add, BitVec.toNat_add, Nat.mod_eq_of_lt h]
theorem tnI_sub {x y : Int32} (h : tnI y ≤ tnI x) : tnI (x - y) = tnI x - tnI y := by
  unfold tnI at h ⊢
  rw [Int32.toBitVec_sub, BitVec.toNat_sub_of_le (BitVec.le_def.mpr h)]
def bi1 (x : Int32) : Int32 := x - (usI x 1 &&& 1431655765)
def bi2 (x : Int32) : Int32 := (x &&& 858993459) + (usI x 2 &&& 858993459)
def bi3 (x : Int32) : Int32 := (x + usI x 4) &&& 252645135
def bi4 (x : Int32) : Int32 := x + usI x 8
def bi5 (x : Int32) : Int32 := x + usI x 16
theorem bi_s1 (x : Int32) : tnI (bi1 x) = s1 4 (tnI x) := by
  unfold bi1 s1
  have e : tnI (usI x 1 &&& 1431655765) = (tnI x / 2) &&& m55 4 := by
    rw [tnI_and, tnI_us x (by omega), show tnI 1431655765 = m55 4 from by decide +kernel]
  have l : (tnI x / 2) &&& m55 4 ≤ tnI x / 2 := Nat.and_le_left
  rw [tnI_sub (by omega), e]
theorem bi_s2 (x : Int32) : tnI (bi2 x) = s2 4 (tnI x) := by
  unfold bi2 s2
  have c : tnI 858993459 = m33 4 := by decide +kernel
  have m : m33 4 = 858993459 := by decide +kernel
  have e1 : tnI (x &&& 858993459) = tnI x &&& m33 4 := by rw [tnI_and, c]
  have e2 : tnI (usI x 2 &&& 858993459) = (tnI x / 4) &&& m33 4 := by rw [tnI_and, tnI_us x (by omega), c]
  have l1 : tnI x &&& m33 4 ≤ m33 4 := Nat.and_le_right
  have l2 : (tnI x / 4) &&& m33 4 ≤ m33 4 := Nat.and_le_right
  rw [tnI_add (by omega), e1, e2]
theorem bi_s3 (x : Int32) (h : tnI x + tnI x / 16 < 2 ^ 32) : tnI (bi3 x) = s3 4 (tnI x) := by
  unfold bi3 s3
  have e : tnI (usI x 4) = tnI x / 16 := tnI_us x (by omega)
  rw [tnI_and, tnI_add (by omega), e, show tnI 252645135 = m0f 4 from by decide +kernel]
theorem bi_add {x : Int32} {k r : Nat} (hk : k < 32) (h1 : tnI x / 2 ^ k = r) (h : tnI x + r < 2 ^ 32) : tnI (x + usI x k) = tnI x + r := by
  have e : tnI (usI x k) = r := (tnI_us x hk).trans h1
  rw [tnI_add (by rw [e]; exact h), e]
theorem bi_sum {x : Int32} {c0 c1 c2 c3 : Nat} (h : tnI x = c0 + 256 * (c1 + 256 * (c2 + 256 * c3))) (h0 : c0 ≤ 8) (h1 : c1 ≤ 8) (h2 : c2 ≤ 8) (h3 : c3 ≤ 8) : tnI (bi5 (bi4 x)) % 64 = c0 + c1 + c2 + c3 := by
  have f4 : tnI (bi4 x) = (c0 + c1) + 256 * ((c1 + c2) + 256 * ((c2 + c3) + 256 * c3)) := by
    have d : tnI x / 2 ^ 8 = c1 + 256 * (c2 + 256 * c3) := by rw [h]; exact dv (by omega)
    unfold bi4
    rw [bi_add (by omega) d (by rw [h]; omega), h]
    omega
  have d5 : tnI (bi4 x) / 2 ^ 16 = (c2 + c3) + 256 * c3 := by
    rw [f4, show (2 : Nat) ^ 16 = 256 * 256 from rfl, ← Nat.div_div_eq_div_mul, dv (by omega), dv (by omega)]
  have f5 : tnI (bi5 (bi4 x)) = (c0 + c1 + c2 + c3) + 64 * (4 * ((c1 + c2 + c3) + 256 * ((c2 + c3) + 256 * c3))) := by
    unfold bi5
    rw [bi_add (by omega) d5 (by rw [f4]; clear d5 f4 h; omega), f4]
    clear d5 f4 h; omega
  rw [f5, Nat.add_mul_mod_self_left, Nat.mod_eq_of_lt (by clear f5 d5 f4 h; omega)]
theorem bi_all (x : Int32) : tnI (bi5 (bi4 (bi3 (bi2 (bi1 x))))) % 64 = cnt (ib x) 32 := by
  have m : m33 4 = 858993459 := by decide +kernel
  have hb : tnI (bi2 (bi1 x)) ≤ 2 * 858993459 := by
    rw [bi_s2, s2]
    have l1 : tnI (bi1 x) &&& m33 4 ≤ m33 4 := Nat.and_le_right
    have l2 : (tnI (bi1 x) / 4) &&& m33 4 ≤ m33 4 := Nat.and_le_right
    omega
  have e3 : tnI (bi3 (bi2 (bi1 x))) = bs 4 (tnI x) := by
    rw [bi_s3 _ (by omega), bi_s2, bi_s1]
    exact s_bs (Nat.lt_of_lt_of_le (tnI_lt x) (by decide))
  have hby : ∀ j, b3 (b2 (b1 (tnI x / 256 ^ j % 256))) = cnt (fun i => ib x (8 * j + i)) 8 := fun j => (b_cnt _ (Nat.mod_lt _ (by decide))).trans (cnt_byte (tnI x) j)
  have e4 : bs 4 (tnI x) = cnt (fun i => ib x (8 * 0 + i)) 8 + 256 * (cnt (fun i => ib x (8 * 1 + i)) 8 + 256 * (cnt (fun i => ib x (8 * 2 + i)) 8 + 256 * cnt (fun i => ib x (8 * 3 + i)) 8)) := by
    rw [← hby 0, ← hby 1, ← hby 2, ← hby 3]
    simp only [bs, Nat.div_div_eq_div_mul, Nat.pow_zero, Nat.div_one, show 256 ^ 1 = 256 from rfl, show 256 ^ 2 = 256 * 256 from rfl, show 256 ^ 3 = 256 * 256 * 256 from rfl, Nat.mul_zero, Nat.add_zero]
  rw [bi_sum (e3.trans e4) cnt_le cnt_le cnt_le cnt_le]
  have e : ∀ a, cnt (ib x) (a + 8) = cnt (ib x) a + cnt (fun i => ib x (a + i)) 8 := fun a => cnt_app
  rw [show (32 : Nat) = 24 + 8 from rfl, e 24, show (24 : Nat) = 16 + 8 from rfl, e 16, show (16 : Nat) = 8 + 8 from rfl, e 8]
  simp only [Nat.mul_zero, Nat.zero_add]
theorem and63 (x : Int32) {q : Nat} (h : tnI x % 64 = q) : x &&& 63 = nI q := by
  refine Int32.toBitVec_inj.mp (BitVec.eq_of_toNat_eq ?_)
  have e : (x &&& 63).toBitVec = x.toBitVec &&& 63#32 := rfl
  rw [e, BitVec.toNat_and]
  show tnI x &&& (2 ^ 6 - 1) = (BitVec.ofNat 32 q).toNat
  rw [Nat.and_two_pow_sub_one_eq_mod, BitVec.toNat_ofNat]
  omega
set_option maxHeartbeats 4000000 in
set_option maxRecDepth 20000 in
theorem cBitI (sc : sm_S) (M : sm_M) (x : Int32) : zC 1 sc 251 [.int x] M (zR M (.int (nI (cnt (ib x) 32)))) := by
  refine zc_of hkJ6_bitCount_0f7a4 rfl ?_
  repeat (refine zw_go rfl rfl (fun _ _ => rfl) ?_)
  refine zw_ret rfl (fun _ _ => rfl) ?_
  refine ⟨rfl, ?_⟩
  rw [← and63 _ (bi_all x)]
  rfl
/-! the lowest bit of a word; numbers of trailing zeros; unlike -/
/-- the first place, below n, or n -/
def fst0 (p : Nat → Bool) : Nat → Nat → Nat
  | _, 0 => 0
  | i, k + 1 => if p i then 0 else fst0 p (i + 1) k + 1
theorem sub1_bits {w x z : Nat} (hx : x < 2 ^ w) (hz : x.testBit z = true) (hl : ∀ i, i < z → x.testBit i = false) (i : Nat) : (x - 1).testBit i = if i < z then true else if i = z then false else x.testBit i := by
  have e : x = 2 ^ (z + 1) * (x / 2 ^ (z + 1)) + 2 ^ z := by
    have h1 : x % 2 ^ (z + 1) = 2 ^ z := by
      refine Nat.eq_of_testBit_eq (fun j => ?_)
      rw [Nat.testBit_mod_two_pow, Nat.testBit_two_pow]
      by_cases h1 : j < z
      · rw [hl j h1]; simp; omega
      · by_cases h2 : j = z
        · subst h2; rw [hz]; simp
        · rw [decide_eq_false (show ¬ j < z + 1 by omega), decide_eq_false (show ¬ z = j by omega)]; rfl
    have h2 := Nat.div_add_mod x (2 ^ (z + 1))
    omega
  have hp : 0 < 2 ^ z := Nat.two_pow_pos z
  have hq : 2 ^ z < 2 ^ (z + 1) := by rw [Nat.pow_succ]; omega
  have e2 : x - 1 = 2 ^ (z + 1) * (x / 2 ^ (z + 1)) + (2 ^ z - 1) := by omega
  rw [e2, Nat.testBit_two_pow_mul_add _ (by omega), Nat.testBit_two_pow_sub_one]
  by_cases h1 : i < z
  · rw [if_pos (by omega), if_pos h1]; simp [h1]
  · rw [if_neg h1]
    by_cases h2 : i = z
    · rw [if_pos (by omega), if_pos h2]; simp [h2]
    · rw [if_neg (by omega), if_neg h2, Nat.testBit_div_two_pow]
      congr 1; omega
theorem lb_sub1 {x : Int64} {z : Nat} (hz : lb x z = true) (hl : ∀ i, i < z → lb x i = false) (i : Nat) : lb (x - 1) i = if i < z then true else if i = z then false else lb x i := by
  have hp : 1 ≤ tn x := by
    have := Nat.ge_two_pow_of_testBit (x := tn x) hz
    have := Nat.two_pow_pos z
    omega
  show (tn (x - 1)).testBit i = _
  rw [tn_sub (y := 1) hp]
  exact sub1_bits (tn_lt x) hz hl i
theorem ib_sub1 {x : Int32} {z : Nat} (hz : ib x z = true) (hl : ∀ i, i < z → ib x i = false) (i : Nat) : ib (x - 1) i = if i < z then true else if i = z then false else ib x i := by
  have hp : 1 ≤ tnI x := by
    have := Nat.ge_two_pow_of_testBit (x := tnI x) hz
    have := Nat.two_pow_pos z
    omega
  show (tnI (x - 1)).testBit i = _
  rw [tnI_sub (y := 1) hp]
  exact sub1_bits (tnI_lt x) hz hl i
/-- a word that isn't 0 has a lowest bit -/
theorem low_ex {p : Nat → Bool} : ∀ {n : Nat}, (∃ i, i < n ∧ p i = true) → ∃ z, z < n ∧ p z = true ∧ ∀ i, i < z → p i = false := by
  intro n
  induction n with
  | zero => rintro ⟨i, h, _⟩; omega
  | succ n ih =>
    rintro ⟨i, h, hp⟩
    by_cases h2 : ∃ i, i < n ∧ p i = true
    · obtain ⟨z, h3, h4, h5⟩ := ih h2
      exact ⟨z, by omega, h4, h5⟩
    · have e : i = n := by
        rcases Nat.lt_or_ge i n with h3 | h3
        · exact absurd ⟨i, h3, hp⟩ h2
        · omega
      subst e
      exact ⟨i, by omega, hp, fun j hj => by
        cases hj2 : p j
        · rfl
        · exact absurd ⟨j, hj, hj2⟩ h2⟩
theorem lb_ne0 {x : Int64} (h : ¬ x = 0) : ∃ z, z < 64 ∧ lb x z = true ∧ ∀ i, i < z → lb x i = false := by
  refine low_ex ?_
  by_cases h2 : ∃ i, i < 64 ∧ lb x i = true
  · exact h2
  · exact absurd (lb_ext (fun i hi => by
      rw [lb_0]
      cases h3 : lb x i
      · rfl
      · exact absurd ⟨i, hi, h3⟩ h2)) h
/-- without its lowest bit -/
theorem cnt_drop {p q : Nat → Bool} {z : Nat} (hz : p z = true) (hq : ∀ i, q i = (p i && !decide (i = z))) : ∀ {n : Nat}, z < n → cnt p n = cnt q n + 1 := by
  intro n
  induction n with
  | zero => intro h; omega
  | succ n ih =>
    intro h
    rw [cnt, cnt]
    by_cases h2 : z = n
    · subst h2
      rw [cnt_cong (q := q) (fun i hi => by rw [hq i]; simp; omega), hz, hq z]
      simp
    · rw [ih (by omega), hq n]
      have : ¬ n = z := by omega
      simp [this]
      omega
theorem cnt_clear {x : Int64} (h : ¬ x = 0) : cnt (lb x) 64 = cnt (lb (x &&& (x - 1))) 64 + 1 := by
  obtain ⟨z, h1, h2, h3⟩ := lb_ne0 h
  refine cnt_drop h2 (fun i => ?_) h1
  rw [lb_and, lb_sub1 h2 h3]
  by_cases h4 : i < z
  · rw [h3 i h4]; rfl
  · rw [if_neg h4]
    by_cases h5 : i = z
    · simp [h5]
    · simp [h5]
theorem lg_cmp_0 {x y : Int64} : lg_cmp x y = 0 ↔ x = y := by
  unfold lg_cmp
  by_cases h : x = y
  · subst h; simp
  · simp [h]
    split <;> simp
set_option maxHeartbeats 4000000 in
set_option maxRecDepth 20000 in
theorem mUnlike_loop (sc : sm_S) (M : sm_M) : ∀ (k : Nat) (x : Int64) (c : Nat), cnt (lb x) 64 = k → zW 0 sc miX11_unlike 8 [none, none, none, none, some (.int (nI c)), some (.long x), none] [] M (zR M (.int (nI (c + k)))) := by
  intro k
  induction k with
  | zero =>
    intro x c hx
    have h0 : x = 0 := by
      by_cases h : x = 0
      · exact h
      · have := cnt_clear h; omega
    refine zw_nx rfl (fun _ _ => rfl) ?_
    repeat (refine zw_go rfl rfl (fun _ _ => rfl) ?_)
    first | refine zw_br rfl (fun _ _ => rfl) (fun _ => ?_) (fun h9 => absurd (lg_cmp_0.mpr h0) h9) | refine zw_nx rfl (fun _ _ => rfl) ?_
    repeat (refine zw_go rfl rfl (fun _ _ => rfl) ?_)
    exact zw_ret rfl (fun _ _ => rfl) (⟨rfl, rfl⟩)
  | succ k ih =>
    intro x c hx
    have h0 : ¬ x = 0 := by
      intro h
      subst h
      rw [cnt_0 (fun i _ => lb_0 i)] at hx
      omega
    refine zw_nx rfl (fun _ _ => rfl) ?_
    repeat (refine zw_go rfl rfl (fun _ _ => rfl) ?_)
    first | refine zw_br rfl (fun _ _ => rfl) (fun h9 => absurd h9 (fun z => h0 (lg_cmp_0.mp z))) (fun _ => ?_) | refine zw_nx rfl (fun _ _ => rfl) ?_
    repeat (refine zw_go rfl rfl (fun _ _ => rfl) ?_)
    have h1 := ih (x &&& (x - 1)) (c + 1) (by have := cnt_clear h0; omega)
    rw [nI_succ, show c + 1 + k = c + (k + 1) by omega] at h1
    exact h1
set_option maxHeartbeats 4000000 in
set_option maxRecDepth 20000 in
theorem mUnlike (sc : sm_S) (M : sm_M) (x y : Int64) : zC 1 sc 239 [.long x, .long y] M (zR M (.int (nI (cnt (lb (x ^^^ y)) 64)))) := by
  refine zc_of hkX11_unlike rfl ?_
  repeat (refine zw_go rfl rfl (fun _ _ => rfl) ?_)
  have h := mUnlike_loop sc M _ (x ^^^ y) 0 rfl
  rw [Nat.zero_add] at h
  exact zw_kp h

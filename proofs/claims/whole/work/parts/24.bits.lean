/-! bits of words -/
theorem lb_or (x y : Int64) (i : Nat) : lb (x ||| y) i = (lb x i || lb y i) := by unfold lb; rw [Int64.toBitVec_or, BitVec.getLsbD_or]
theorem lb_and (x y : Int64) (i : Nat) : lb (x &&& y) i = (lb x i && lb y i) := by unfold lb; rw [Int64.toBitVec_and, BitVec.getLsbD_and]
theorem lb_xor (x y : Int64) (i : Nat) : lb (x ^^^ y) i = (lb x i ^^ lb y i) := by unfold lb; rw [Int64.toBitVec_xor, BitVec.getLsbD_xor]
theorem lb_ge (x : Int64) {i : Nat} (h : 64 ≤ i) : lb x i = false := BitVec.getLsbD_of_ge _ _ h
theorem lb_0 (i : Nat) : lb 0 i = false := by
  show (0#64).getLsbD i = false
  exact BitVec.getLsbD_zero
theorem lb_m1 {i : Nat} (h : i < 64) : lb (-1) i = true := by
  show (BitVec.allOnes 64).getLsbD i = true
  rw [BitVec.getLsbD_allOnes]
  exact decide_eq_true h
theorem lb_ext {x y : Int64} (h : ∀ i, i < 64 → lb x i = lb y i) : x = y := Int64.toBitVec_inj.mp (BitVec.eq_of_getLsbD_eq (fun i hi => h i hi))
theorem sh_l : ∀ i, i < 64 → (((nI i).toInt64 &&& 63).toBitVec.smod 64).toNat = i := by decide +kernel
theorem sh_u : ∀ i, i < 64 → (((nI i).toInt64.toUInt64 &&& Int64.toUInt64 63).toBitVec % 64).toNat = i := by decide +kernel
theorem sh_i : ∀ i, i < 32 → ((nI i &&& 31).toBitVec.smod 32).toNat = i := by decide +kernel
theorem lb_shl (x : Int64) {k : Nat} (hk : k < 64) (i : Nat) : lb (x <<< ((nI k).toInt64 &&& 63)) i = (decide (i < 64) && (!decide (i < k) && lb x (i - k))) := by
  unfold lb
  show (x.toBitVec <<< (((nI k).toInt64 &&& 63).toBitVec.smod 64).toNat).getLsbD i = _
  rw [sh_l k hk, BitVec.getLsbD_shiftLeft, Bool.and_assoc]
theorem lb_ushr (x : Int64) {k : Nat} (hk : k < 64) (i : Nat) : lb (x.toUInt64 >>> ((nI k).toInt64.toUInt64 &&& Int64.toUInt64 63)).toInt64 i = lb x (k + i) := by
  unfold lb
  have e : (x.toUInt64 >>> ((nI k).toInt64.toUInt64 &&& Int64.toUInt64 63)).toInt64.toBitVec = x.toBitVec >>> (((nI k).toInt64.toUInt64 &&& Int64.toUInt64 63).toBitVec % 64).toNat := UInt64.toBitVec_shiftRight _ _
  rw [e, sh_u k hk, BitVec.getLsbD_ushiftRight]
theorem lb_sshr (x : Int64) {k : Nat} (hk : k < 64) : lb (x >>> ((nI k).toInt64 &&& 63)) 0 = lb x k := by
  unfold lb
  show (x.toBitVec.sshiftRight (((nI k).toInt64 &&& 63).toBitVec.smod 64).toNat).getLsbD 0 = _
  rw [sh_l k hk, BitVec.getLsbD_sshiftRight]
  simp [hk]
/-- one bit -/
def bitL (i : Nat) : Int64 := (1 : Int64) <<< ((nI i).toInt64 &&& 63)
theorem lb_1 (i : Nat) : lb 1 i = decide (i = 0) := by
  show (1#64).getLsbD i = _
  rw [BitVec.getLsbD_one]
  simp
theorem lb_bit {k : Nat} (hk : k < 64) (i : Nat) : lb (bitL k) i = decide (i = k) := by
  unfold bitL
  rw [lb_shl _ hk, lb_1]
  by_cases h : i = k
  · subst h; simp [hk]
  · by_cases h2 : i < k
    · simp [h, h2]
    · have : ¬ i - k = 0 := by omega
      simp [h, this]
/-- the word of a set of places below n -/
def mk (p : Nat → Bool) : Nat → Int64
  | 0 => 0
  | n + 1 => if p n then mk p n ||| bitL n else mk p n
theorem lb_mk {p : Nat → Bool} : ∀ {n : Nat}, n ≤ 64 → ∀ i, lb (mk p n) i = (decide (i < n) && p i) := by
  intro n
  induction n with
  | zero => intro _ i; rw [mk, lb_0]; simp
  | succ n ih =>
    intro hn i
    unfold mk
    by_cases hp : p n
    · rw [if_pos hp, lb_or, ih (by omega), lb_bit (by omega)]
      by_cases h : i = n
      · subst h; simp [hp]
      · by_cases h2 : i < n
        · simp [h, h2, Nat.lt_succ_of_lt h2]
        · have : ¬ i < n + 1 := by omega
          simp [h, h2, this]
    · rw [if_neg hp, ih (by omega)]
      by_cases h : i = n
      · subst h; simp [hp]
      · by_cases h2 : i < n
        · simp [h2, Nat.lt_succ_of_lt h2]
        · have : ¬ i < n + 1 := by omega
          simp [h2, this]
theorem mk_cong {p q : Nat → Bool} : ∀ {n : Nat}, (∀ i, i < n → p i = q i) → mk p n = mk q n := by
  intro n
  induction n with
  | zero => intro _; rfl
  | succ n ih =>
    intro h
    unfold mk
    rw [h n (by omega), ih (fun i hi => h i (by omega))]
theorem mk_eq {p : Nat → Bool} {n : Nat} (hn : n ≤ 64) {x : Int64} (h : ∀ i, i < 64 → lb x i = (decide (i < n) && p i)) : x = mk p n := lb_ext (fun i hi => by rw [h i hi, lb_mk hn])
/-- bits of ints -/
theorem ib_or (x y : Int32) (i : Nat) : ib (x ||| y) i = (ib x i || ib y i) := by unfold ib; rw [Int32.toBitVec_or, BitVec.getLsbD_or]
theorem ib_and (x y : Int32) (i : Nat) : ib (x &&& y) i = (ib x i && ib y i) := by unfold ib; rw [Int32.toBitVec_and, BitVec.getLsbD_and]
theorem ib_0 (i : Nat) : ib 0 i = false := by
  show (0#32).getLsbD i = false
  exact BitVec.getLsbD_zero
theorem ib_ext {x y : Int32} (h : ∀ i, i < 32 → ib x i = ib y i) : x = y := Int32.toBitVec_inj.mp (BitVec.eq_of_getLsbD_eq (fun i hi => h i hi))
theorem ib_sshr (x : Int32) {k : Nat} (hk : k < 32) : ib (x >>> (nI k &&& 31)) 0 = ib x k := by
  unfold ib
  show (x.toBitVec.sshiftRight ((nI k &&& 31).toBitVec.smod 32).toNat).getLsbD 0 = _
  rw [sh_i k hk, BitVec.getLsbD_sshiftRight]
  simp [hk]
theorem ib_1 (i : Nat) : ib 1 i = decide (i = 0) := by
  show (1#32).getLsbD i = _
  rw [BitVec.getLsbD_one]
  simp
/-- the lowest bit -/
theorem ib_low (x : Int32) : x &&& 1 = if ib x 0 then 1 else 0 := by
  refine ib_ext (fun i hi => ?_)
  rw [ib_and, ib_1]
  by_cases h : i = 0
  · subst h
    cases ib x 0
    · rw [if_neg (by simp), ib_0]; rfl
    · rw [if_pos rfl, ib_1]; rfl
  · cases ib x 0
    · rw [if_neg (by simp), ib_0]; simp [h]
    · rw [if_pos rfl, ib_1]; simp [h]
theorem lb_low (x : Int64) : x &&& 1 = if lb x 0 then 1 else 0 := by
  refine lb_ext (fun i hi => ?_)
  rw [lb_and, lb_1]
  by_cases h : i = 0
  · subst h
    cases lb x 0
    · rw [if_neg (by simp), lb_0]; rfl
    · rw [if_pos rfl, lb_1]; rfl
  · cases lb x 0
    · rw [if_neg (by simp), lb_0]; simp [h]
    · rw [if_pos rfl, lb_1]; simp [h]
/-- an int as a long: its low bits -/
theorem lb_i2l (x : Int32) {i : Nat} (hi : i < 32) : lb x.toInt64 i = ib x i := by
  unfold lb ib
  show (x.toBitVec.signExtend 64).getLsbD i = _
  rw [BitVec.getLsbD_signExtend]
  simp [hi, show i < 64 by omega]
/-- has(s, i) -/
theorem cHasN (sc : sm_S) (M : sm_M) (s : Int64) {i : Nat} (hi : i < 64) : zC 1 sc 150 [.long s, .int (nI i)] M (zR M (.int (if lb s i then 1 else 0))) := by
  refine zc_post (cHas sc M s (nI i)) ?_
  rintro M' r ⟨rfl, rfl⟩
  refine ⟨rfl, ?_⟩
  rw [lb_low, lb_ushr s hi 0, Nat.add_zero]
  cases lb s i <;> rfl
set_option maxHeartbeats 4000000 in
set_option maxRecDepth 20000 in
/-- the JDK's bit count of a long, by bits -/
theorem cFirstBitsN (sc : sm_S) (M : sm_M) {n : Nat} (hn : n < 64) : zC 1 sc 151 [.int (nI n)] M (zR M (.long (bitL n - 1))) := cFirstBits sc M (nI n)
/-- 2^n - 1: the lowest n bits -/
theorem bits_low : ∀ n, n < 64 → bitL n - 1 = mk (fun _ => true) n := by decide +kernel
theorem lb_low_n {n : Nat} (hn : n < 64) (i : Nat) : lb (bitL n - 1) i = decide (i < n) := by
  rw [bits_low n hn, lb_mk (by omega), Bool.and_true]

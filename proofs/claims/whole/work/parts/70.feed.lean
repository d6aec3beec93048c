/-! feed, end, fault; class and reference -/
def byt (x : Int32) (k : Nat) : Nat := tnI x / 2 ^ k % 256
theorem byt_lt {x : Int32} {k : Nat} : byt x k < 256 := Nat.mod_lt _ (by decide)
theorem ib_255 : ∀ i, i < 32 → ib (nI 255) i = decide (i < 8) := by decide +kernel
theorem ib_tn (x : Int32) (i : Nat) : ib x i = (tnI x).testBit i := rfl
theorem byt_bit {x : Int32} {k i : Nat} (hi : i < 32) : ib (nI (byt x k)) i = (decide (i < 8) && ib x (k + i)) := by
  rw [ib_nat hi, ib_tn]
  unfold byt
  rw [show 256 = 2 ^ 8 from rfl, Nat.testBit_mod_two_pow, Nat.testBit_div_two_pow, Nat.add_comm i k]
theorem byt_u {x : Int32} {k : Nat} (hk : k ≤ 24) : usI x k &&& (Int16.ofInt 255).toInt32 = nI (byt x k) := ib_ext (fun i hi => by
  rw [byt_bit hi, ib_and, show (Int16.ofInt 255).toInt32 = nI 255 from rfl, ib_255 i hi, ib_tn, tnI_us x (by omega), Nat.testBit_div_two_pow, Nat.add_comm i k, ← ib_tn, Bool.and_comm])
theorem ib_shr (x : Int32) {k i : Nat} (hk : k ≤ 24) (hi : i < 8) : ib (x >>> (nI k &&& 31)) i = ib x (k + i) := by
  unfold ib
  rw [Int32.toBitVec_shiftRight]
  have : ((nI k &&& 31).toBitVec.smod 32).toNat = k := sh_i k (by omega)
  rw [BitVec.sshiftRight_eq', BitVec.getLsbD_sshiftRight, this]
  have h1 : k + i < 32 := by omega
  simp [h1]
  omega
theorem byt_s {x : Int32} {k : Nat} (hk : k ≤ 24) : (x >>> (nI k &&& 31)) &&& (Int16.ofInt 255).toInt32 = nI (byt x k) := ib_ext (fun i hi => by
  rw [byt_bit hi, ib_and, show (Int16.ofInt 255).toInt32 = nI 255 from rfl, ib_255 i hi]
  by_cases h : i < 8
  · rw [ib_shr x hk h, decide_eq_true h, Bool.and_true, Bool.true_and]
  · rw [decide_eq_false h, Bool.and_false, Bool.false_and])
def ap1 (b : Nat → Nat) (n v : Nat) : Nat → Nat := fun i => if i = n then v else b i
def ap4 (b : Nat → Nat) (n : Nat) (x : Int32) : Nat → Nat := ap1 (ap1 (ap1 (ap1 b n (byt x 24)) (n + 1) (byt x 16)) (n + 2) (byt x 8)) (n + 3) (byt x 0)
def feB (b : Nat → Nat) (n : Nat) (x y z u v : Int32) : Nat → Nat := ap4 (ap4 (ap4 (ap4 (ap4 b n x) (n + 4) y) (n + 8) z) (n + 12) u) (n + 16) v
/-- the reference's tape -/
def TpM (I : Nat → Int32) (A : Nat → Nat → Int32) (b : Nat → Nat) (n : Nat) : Prop := I 5 = nI n ∧ n ≤ 300 ∧ ∀ i, i < n → A 8 i = nI (b i) ∧ b i < 256
theorem tp_1 {g : Nat → Int32} {b : Nat → Nat} {n v : Nat} (hv : v < 256) (h : ∀ i, i < n → g i = nI (b i) ∧ b i < 256) : ∀ i, i < n + 1 → upd g n (nI v) i = nI (ap1 b n v i) ∧ ap1 b n v i < 256 := by
  intro i hi
  unfold upd ap1
  by_cases h1 : i = n
  · rw [if_pos h1, if_pos h1]; exact ⟨rfl, hv⟩
  · rw [if_neg h1, if_neg h1]; exact h i (by omega)
section
variable (sc : sm_S) (I : Nat → Int32) (J : Nat → Int64) (A : Nat → Nat → Int32) (B : Nat → Nat → Int64) (tl : sm_M) (f : Nat → va_E) (n : Nat) (b : Nat → Nat)
set_option maxHeartbeats 4000000 in
set_option maxRecDepth 20000 in
theorem xApp1 (x : Int32) (s : Nat) (hs : s ≤ 24) (hn : n < 300) (h11 : I 11 = nI n) (Post : sm_M → Option Value → Prop) (hK : zW 0 sc miX9_appendWord 3 [some (.ref 14), some (.int x), some (.int (nI s + Int32.ofInt (-8)))] [] (xm (upd I 11 (nI (n + 1))) J (va_up A 6 (upd (A 6) n (nI (byt x s)))) B tl) Post) : zW 0 sc miX9_appendWord 3 [some (.ref 14), some (.int x), some (.int (nI s))] [] (xm I J A B tl) Post := by
  rw [nI_succ, ← byt_u hs, ← h11] at hK
  refine zw_nx rfl (fun _ _ => rfl) ?_
  first | refine zw_br rfl (fun _ _ => rfl) (fun h9 => absurd h9 (nI_neg (show s < 2 ^ 31 by omega))) (fun _ => ?_) | refine zw_nx rfl (fun _ _ => rfl) ?_
  repeat (refine zw_go rfl rfl (fun _ _ => rfl) ?_)
  rw [h11]
  refine zw_br rfl (fun _ _ => rfl) (fun h9 => absurd h9 (nI_ge (a := n) (b := 300) (by omega) (by omega))) (fun _ => ?_)
  repeat (refine zw_go rfl rfl (fun _ _ => rfl) ?_)
  rw [h11]
  refine zw_ix rfl (fun _ _ => rfl) (show vp_in (nI (n)) _ from vp_in_nI (by omega) (by omega)) ?_
  rw [show (nI (n)).toNatClampNeg = n from nI_clamp (by omega)]
  repeat (refine zw_go rfl rfl (fun _ _ => rfl) ?_)
  exact zw_kp hK
set_option maxHeartbeats 4000000 in
set_option maxRecDepth 20000 in
theorem xAppend (x : Int32) (ht : TpX I A b n) (hn : n + 4 ≤ 300) : zC 1 sc 103 [.ref 14, .int x] (xm I J A B tl) (fun M r => r = none ∧ ∃ g, M = xm (upd I 11 (nI (n + 4))) J (va_up A 6 g) B tl ∧ ∀ i, i < n + 4 → g i = nI (ap4 b n x i) ∧ ap4 b n x i < 256) := by
  obtain ⟨h11, _, hb⟩ := ht
  have e1 := tp_1 (v := byt x 24) byt_lt hb
  have e2 := tp_1 (v := byt x 16) byt_lt e1
  have e3 := tp_1 (v := byt x 8) byt_lt e2
  have e4 := tp_1 (v := byt x 0) byt_lt e3
  refine zc_of hkX9_appendWord rfl ?_
  repeat (refine zw_go rfl rfl (fun _ _ => rfl) ?_)
  refine zw_kp (xApp1 sc I J A B tl n x 24 (by omega) (by omega) h11 _ ?_)
  refine zw_kp (xApp1 sc (upd I 11 (nI (n + 1))) J _ B tl (n + 1) x 16 (by omega) (by omega) rfl _ ?_)
  refine zw_kp (xApp1 sc (upd (upd I 11 (nI (n + 1))) 11 (nI (n + 2))) J _ B tl (n + 2) x 8 (by omega) (by omega) rfl _ ?_)
  refine zw_kp (xApp1 sc (upd (upd (upd I 11 (nI (n + 1))) 11 (nI (n + 2))) 11 (nI (n + 3))) J _ B tl (n + 3) x 0 (by omega) (by omega) rfl _ ?_)
  refine zw_nx rfl (fun _ _ => rfl) ?_
  first | refine zw_br rfl (fun _ _ => rfl) (fun _ => ?_) (fun h9 => absurd ((by decide : nI 0 + Int32.ofInt (-8) < 0)) h9) | refine zw_nx rfl (fun _ _ => rfl) ?_
  refine zw_ret rfl (fun _ _ => rfl) ?_
  exact ⟨rfl, upd (upd (upd (upd (A 6) n (nI (byt x 24))) (n + 1) (nI (byt x 16))) (n + 2) (nI (byt x 8))) (n + 3) (nI (byt x 0)), rfl, e4⟩
set_option maxHeartbeats 4000000 in
set_option maxRecDepth 20000 in
theorem mApp1 (x : Int32) (s : Nat) (hs : s ≤ 24) (hn : n < 300) (h5 : I 5 = nI n) (Post : sm_M → Option Value → Prop) (hK : zW 0 sc miX11_four 3 [some (.ref 47), some (.int x), some (.int (nI s + Int32.ofInt (-8)))] [] (mm f (upd I 5 (nI (n + 1))) (va_up A 8 (upd (A 8) n (nI (byt x s)))) B) Post) : zW 0 sc miX11_four 3 [some (.ref 47), some (.int x), some (.int (nI s))] [] (mm f I A B) Post := by
  rw [nI_succ, ← byt_s hs, ← h5] at hK
  refine zw_nx rfl (fun _ _ => rfl) ?_
  first | refine zw_br rfl (fun _ _ => rfl) (fun h9 => absurd h9 (nI_neg (show s < 2 ^ 31 by omega))) (fun _ => ?_) | refine zw_nx rfl (fun _ _ => rfl) ?_
  repeat (refine zw_go rfl rfl (fun _ _ => rfl) ?_)
  rw [h5]
  refine zw_ix rfl (fun _ _ => rfl) (show vp_in (nI (n)) _ from vp_in_nI (by omega) (by omega)) ?_
  rw [show (nI (n)).toNatClampNeg = n from nI_clamp (by omega)]
  repeat (refine zw_go rfl rfl (fun _ _ => rfl) ?_)
  exact zw_kp hK
set_option maxHeartbeats 4000000 in
set_option maxRecDepth 20000 in
theorem mFour (x : Int32) (ht : TpM I A b n) (hn : n + 4 ≤ 300) : zC 1 sc 182 [.ref 47, .int x] (mm f I A B) (fun M r => r = none ∧ ∃ g, M = mm f (upd I 5 (nI (n + 4))) (va_up A 8 g) B ∧ ∀ i, i < n + 4 → g i = nI (ap4 b n x i) ∧ ap4 b n x i < 256) := by
  obtain ⟨h5, _, hb⟩ := ht
  have e1 := tp_1 (v := byt x 24) byt_lt hb
  have e2 := tp_1 (v := byt x 16) byt_lt e1
  have e3 := tp_1 (v := byt x 8) byt_lt e2
  have e4 := tp_1 (v := byt x 0) byt_lt e3
  refine zc_of hkX11_four rfl ?_
  repeat (refine zw_go rfl rfl (fun _ _ => rfl) ?_)
  refine zw_kp (mApp1 sc I A B f n x 24 (by omega) (by omega) h5 _ ?_)
  refine zw_kp (mApp1 sc (upd I 5 (nI (n + 1))) _ B f (n + 1) x 16 (by omega) (by omega) rfl _ ?_)
  refine zw_kp (mApp1 sc (upd (upd I 5 (nI (n + 1))) 5 (nI (n + 2))) _ B f (n + 2) x 8 (by omega) (by omega) rfl _ ?_)
  refine zw_kp (mApp1 sc (upd (upd (upd I 5 (nI (n + 1))) 5 (nI (n + 2))) 5 (nI (n + 3))) _ B f (n + 3) x 0 (by omega) (by omega) rfl _ ?_)
  refine zw_nx rfl (fun _ _ => rfl) ?_
  first | refine zw_br rfl (fun _ _ => rfl) (fun _ => ?_) (fun h9 => absurd ((by decide : nI 0 + Int32.ofInt (-8) < 0)) h9) | refine zw_nx rfl (fun _ _ => rfl) ?_
  refine zw_ret rfl (fun _ _ => rfl) ?_
  exact ⟨rfl, upd (upd (upd (upd (A 8) n (nI (byt x 24))) (n + 1) (nI (byt x 16))) (n + 2) (nI (byt x 8))) (n + 3) (nI (byt x 0)), rfl, e4⟩
set_option maxHeartbeats 4000000 in
set_option maxRecDepth 20000 in
theorem xFeed (x y z u v : Int32) (ht : TpX I A b n) : zC 2 sc 120 [.ref 0, .int x, .int y, .int z, .int u, .int v] (xm I J A B tl) (fun M r => (n + 20 ≤ 300 ∧ r = some (.int (nI (n + 20))) ∧ ∃ g, M = xm (upd I 11 (nI (n + 20))) J (va_up A 6 g) B tl ∧ ∀ i, i < n + 20 → g i = nI (feB b n x y z u v i) ∧ feB b n x y z u v i < 256) ∨ (300 < n + 20 ∧ r = some (.int (-1)) ∧ M = xm I J A B tl)) := by
  have hn := ht.2.1
  refine zc_of hkX10_feed rfl ?_
  repeat (refine zw_go rfl rfl (fun _ _ => rfl) ?_)
  rw [ht.1, show nI n + (Int8.ofInt 20).toInt32 = nI (n + 20) from nI_add n 20]
  by_cases h300 : n + 20 ≤ 300
  · first | refine zw_br rfl (fun _ _ => rfl) (fun _ => ?_) (fun h9 => absurd (nI_le (a := n + 20) (b := 300) h300 (by omega)) h9) | refine zw_nx rfl (fun _ _ => rfl) ?_
    repeat (refine zw_go rfl rfl (fun _ _ => rfl) ?_)
    refine zw_call rfl (fun _ _ => rfl) (xAppend sc I J A B tl n b x ht (by omega)) (by decide) ?_
    rintro M1 r1 ⟨rfl, g1, rfl, t1⟩
    repeat (refine zw_go rfl rfl (fun _ _ => rfl) ?_)
    refine zw_call rfl (fun _ _ => rfl) (xAppend sc _ J _ B tl (n + 4) (ap4 b n x) y ⟨rfl, by omega, t1⟩ (by omega)) (by decide) ?_
    rintro M1 r1 ⟨rfl, g2, rfl, t2⟩
    repeat (refine zw_go rfl rfl (fun _ _ => rfl) ?_)
    refine zw_call rfl (fun _ _ => rfl) (xAppend sc _ J _ B tl (n + 8) (ap4 (ap4 b n x) (n + 4) y) z ⟨rfl, by omega, t2⟩ (by omega)) (by decide) ?_
    rintro M1 r1 ⟨rfl, g3, rfl, t3⟩
    repeat (refine zw_go rfl rfl (fun _ _ => rfl) ?_)
    refine zw_call rfl (fun _ _ => rfl) (xAppend sc _ J _ B tl (n + 12) (ap4 (ap4 (ap4 b n x) (n + 4) y) (n + 8) z) u ⟨rfl, by omega, t3⟩ (by omega)) (by decide) ?_
    rintro M1 r1 ⟨rfl, g4, rfl, t4⟩
    repeat (refine zw_go rfl rfl (fun _ _ => rfl) ?_)
    refine zw_call rfl (fun _ _ => rfl) (xAppend sc _ J _ B tl (n + 16) (ap4 (ap4 (ap4 (ap4 b n x) (n + 4) y) (n + 8) z) (n + 12) u) v ⟨rfl, by omega, t4⟩ (by omega)) (by decide) ?_
    rintro M1 r1 ⟨rfl, g5, rfl, t5⟩
    repeat (refine zw_go rfl rfl (fun _ _ => rfl) ?_)
    refine zw_ret rfl (fun _ _ => rfl) ?_
    exact Or.inl ⟨h300, rfl, g5, rfl, t5⟩
  · first | refine zw_br rfl (fun _ _ => rfl) (fun h9 => absurd h9 (nI_ge (a := 300) (b := n + 20) (by omega) (by omega))) (fun _ => ?_) | refine zw_nx rfl (fun _ _ => rfl) ?_
    repeat (refine zw_go rfl rfl (fun _ _ => rfl) ?_)
    exact zw_ret rfl (fun _ _ => rfl) (Or.inr ⟨by omega, rfl, rfl⟩)
set_option maxHeartbeats 4000000 in
set_option maxRecDepth 20000 in
theorem mFeed (x y z u v : Int32) (ht : TpM I A b n) : zC 2 sc 183 [.ref 47, .int x, .int y, .int z, .int u, .int v] (mm f I A B) (fun M r => (n + 20 ≤ 300 ∧ r = some (.int (nI (n + 20))) ∧ ∃ g, M = mm f (upd I 5 (nI (n + 20))) (va_up A 8 g) B ∧ ∀ i, i < n + 20 → g i = nI (feB b n x y z u v i) ∧ feB b n x y z u v i < 256) ∨ (300 < n + 20 ∧ r = some (.int (-1)) ∧ M = mm f I A B)) := by
  have hn := ht.2.1
  refine zc_of hkX11_feed rfl ?_
  repeat (refine zw_go rfl rfl (fun _ _ => rfl) ?_)
  rw [ht.1, show nI n + (Int8.ofInt 20).toInt32 = nI (n + 20) from nI_add n 20]
  by_cases h300 : n + 20 ≤ 300
  · first | refine zw_br rfl (fun _ _ => rfl) (fun _ => ?_) (fun h9 => absurd (nI_le (a := n + 20) (b := 300) h300 (by omega)) h9) | refine zw_nx rfl (fun _ _ => rfl) ?_
    repeat (refine zw_go rfl rfl (fun _ _ => rfl) ?_)
    refine zw_call rfl (fun _ _ => rfl) (mFour sc I A B f n b x ht (by omega)) (by decide) ?_
    rintro M1 r1 ⟨rfl, g1, rfl, t1⟩
    repeat (refine zw_go rfl rfl (fun _ _ => rfl) ?_)
    refine zw_call rfl (fun _ _ => rfl) (mFour sc _ _ B f (n + 4) (ap4 b n x) y ⟨rfl, by omega, t1⟩ (by omega)) (by decide) ?_
    rintro M1 r1 ⟨rfl, g2, rfl, t2⟩
    repeat (refine zw_go rfl rfl (fun _ _ => rfl) ?_)
    refine zw_call rfl (fun _ _ => rfl) (mFour sc _ _ B f (n + 8) (ap4 (ap4 b n x) (n + 4) y) z ⟨rfl, by omega, t2⟩ (by omega)) (by decide) ?_
    rintro M1 r1 ⟨rfl, g3, rfl, t3⟩
    repeat (refine zw_go rfl rfl (fun _ _ => rfl) ?_)
    refine zw_call rfl (fun _ _ => rfl) (mFour sc _ _ B f (n + 12) (ap4 (ap4 (ap4 b n x) (n + 4) y) (n + 8) z) u ⟨rfl, by omega, t3⟩ (by omega)) (by decide) ?_
    rintro M1 r1 ⟨rfl, g4, rfl, t4⟩
    repeat (refine zw_go rfl rfl (fun _ _ => rfl) ?_)
    refine zw_call rfl (fun _ _ => rfl) (mFour sc _ _ B f (n + 16) (ap4 (ap4 (ap4 (ap4 b n x) (n + 4) y) (n + 8) z) (n + 12) u) v ⟨rfl, by omega, t4⟩ (by omega)) (by decide) ?_
    rintro M1 r1 ⟨rfl, g5, rfl, t5⟩
    repeat (refine zw_go rfl rfl (fun _ _ => rfl) ?_)
    refine zw_ret rfl (fun _ _ => rfl) ?_
    exact Or.inl ⟨h300, rfl, g5, rfl, t5⟩
  · first | refine zw_br rfl (fun _ _ => rfl) (fun h9 => absurd h9 (nI_ge (a := 300) (b := n + 20) (by omega) (by omega))) (fun _ => ?_) | refine zw_nx rfl (fun _ _ => rfl) ?_
    repeat (refine zw_go rfl rfl (fun _ _ => rfl) ?_)
    exact zw_ret rfl (fun _ _ => rfl) (Or.inr ⟨by omega, rfl, rfl⟩)
set_option maxHeartbeats 4000000 in
set_option maxRecDepth 20000 in
theorem xEnd (x : Int32) (h11 : I 11 = nI n) : zC 1 sc 121 [.ref 0, .int x] (xm I J A B tl) (fun M r => ((0 ≤ x ∧ x ≤ nI n) ∧ r = some (.int x) ∧ M = xm (upd I 11 x) J A B tl) ∨ (¬ (0 ≤ x ∧ x ≤ nI n) ∧ r = some (.int (-1)) ∧ M = xm I J A B tl)) := by
  refine zc_of hkX10_end rfl ?_
  refine zw_nx rfl (fun _ _ => rfl) ?_
  refine zw_br rfl (fun _ _ => rfl) (fun (h1 : x < 0) => ?_) (fun (h1 : ¬ (x < 0)) => ?_)
  · repeat (refine zw_go rfl rfl (fun _ _ => rfl) ?_)
    exact zw_ret rfl (fun _ _ => rfl) (Or.inr ⟨fun z => Int32.not_lt.mpr z.1 h1, rfl, rfl⟩)
  · repeat (refine zw_go rfl rfl (fun _ _ => rfl) ?_)
    rw [h11]
    refine zw_br rfl (fun _ _ => rfl) (fun (h2 : x ≤ nI n) => ?_) (fun (h2 : ¬ (x ≤ nI n)) => ?_)
    · repeat (refine zw_go rfl rfl (fun _ _ => rfl) ?_)
      exact zw_ret rfl (fun _ _ => rfl) (Or.inl ⟨⟨Int32.not_lt.mp h1, h2⟩, rfl, rfl⟩)
    · repeat (refine zw_go rfl rfl (fun _ _ => rfl) ?_)
      exact zw_ret rfl (fun _ _ => rfl) (Or.inr ⟨fun z => h2 z.2, rfl, rfl⟩)
set_option maxHeartbeats 4000000 in
set_option maxRecDepth 20000 in
theorem mEnd (x : Int32) (h5 : I 5 = nI n) : zC 2 sc 184 [.ref 47, .int x] (mm f I A B) (fun M r => ((0 ≤ x ∧ x ≤ nI n) ∧ r = some (.int x) ∧ M = mm f (upd I 5 x) A B) ∨ (¬ (0 ≤ x ∧ x ≤ nI n) ∧ r = some (.int (-1)) ∧ M = mm f I A B)) := by
  refine zc_of hkX11_end rfl ?_
  repeat (refine zw_go rfl rfl (fun _ _ => rfl) ?_)
  refine zw_call rfl (fun _ _ => rfl) (mIsIn sc (mm f I A B) x 0 (I 5)) (by decide) ?_
  rintro M1 r1 ⟨rfl, rfl⟩
  rw [h5]
  refine zw_br rfl (fun _ _ => rfl) (fun (h1 : bI (0 ≤ x ∧ x ≤ nI n) = 0) => ?_) (fun (h1 : ¬ (bI (0 ≤ x ∧ x ≤ nI n) = 0)) => ?_)
  · repeat (refine zw_go rfl rfl (fun _ _ => rfl) ?_)
    exact zw_ret rfl (fun _ _ => rfl) (Or.inr ⟨bI_0.mp h1, rfl, rfl⟩)
  · repeat (refine zw_go rfl rfl (fun _ _ => rfl) ?_)
    exact zw_ret rfl (fun _ _ => rfl) (Or.inl ⟨bI_of h1, rfl, rfl⟩)
/-- fault's answer -/
def aFault (a c x : Int32) : Int32 := if x = 0 then a else if x = 1 then c else -1
set_option maxHeartbeats 4000000 in
set_option maxRecDepth 20000 in
theorem xFault (x : Int32) : zC 1 sc 123 [.ref 0, .int x] (xm I J A B tl) (zR (xm I J A B tl) (.int (aFault (I 26) (I 27) x))) := by
  unfold aFault
  refine zc_of hkX10_fault rfl ?_
  refine zw_nx rfl (fun _ _ => rfl) ?_
  refine zw_br rfl (fun _ _ => rfl) (fun (h1 : x = 0) => ?_) (fun (h1 : ¬ (x = 0)) => ?_)
  · repeat (refine zw_go rfl rfl (fun _ _ => rfl) ?_)
    exact zw_ret rfl (fun _ _ => rfl) (⟨rfl, by rw [if_pos h1]⟩)
  · repeat (refine zw_go rfl rfl (fun _ _ => rfl) ?_)
    refine zw_br rfl (fun _ _ => rfl) (fun (h2 : x = 1) => ?_) (fun (h2 : ¬ (x = 1)) => ?_)
    · repeat (refine zw_go rfl rfl (fun _ _ => rfl) ?_)
      exact zw_ret rfl (fun _ _ => rfl) (⟨rfl, by rw [if_neg h1, if_pos h2]⟩)
    · repeat (refine zw_go rfl rfl (fun _ _ => rfl) ?_)
      exact zw_ret rfl (fun _ _ => rfl) (⟨rfl, by rw [if_neg h1, if_neg h2]; rfl⟩)
set_option maxHeartbeats 4000000 in
set_option maxRecDepth 20000 in
theorem mFault (x : Int32) : zC 1 sc 206 [.ref 47, .int x] (mm f I A B) (zR (mm f I A B) (.int (aFault (I 6) (I 7) x))) := by
  unfold aFault
  refine zc_of hkX11_fault rfl ?_
  refine zw_nx rfl (fun _ _ => rfl) ?_
  refine zw_br rfl (fun _ _ => rfl) (fun (h1 : x = 0) => ?_) (fun (h1 : ¬ (x = 0)) => ?_)
  · repeat (refine zw_go rfl rfl (fun _ _ => rfl) ?_)
    exact zw_ret rfl (fun _ _ => rfl) (⟨rfl, by rw [if_pos h1]⟩)
  · repeat (refine zw_go rfl rfl (fun _ _ => rfl) ?_)
    refine zw_br rfl (fun _ _ => rfl) (fun (h2 : x = 1) => ?_) (fun (h2 : ¬ (x = 1)) => ?_)
    · repeat (refine zw_go rfl rfl (fun _ _ => rfl) ?_)
      exact zw_ret rfl (fun _ _ => rfl) (⟨rfl, by rw [if_neg h1, if_pos h2]⟩)
    · repeat (refine zw_go rfl rfl (fun _ _ => rfl) ?_)
      exact zw_ret rfl (fun _ _ => rfl) (⟨rfl, by rw [if_neg h1, if_neg h2]; rfl⟩)
end

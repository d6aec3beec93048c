/-! the reference: isIn, tellings, entryOf, valueOf, look -/
/-- a truth as an int -/
def bI (c : Prop) [Decidable c] : Int32 := if c then 1 else 0
theorem bI_t {c : Prop} [Decidable c] (h : c) : bI c = 1 := if_pos h
theorem bI_f {c : Prop} [Decidable c] (h : ¬ c) : bI c = 0 := if_neg h
theorem bI_0 {c : Prop} [Decidable c] : bI c = 0 ↔ ¬ c := by
  unfold bI
  by_cases h : c
  · rw [if_pos h]; exact ⟨fun z => absurd z (by decide), fun z => absurd h z⟩
  · rw [if_neg h]; exact ⟨fun _ => h, fun _ => rfl⟩
theorem bI_cong {c d : Prop} [Decidable c] [Decidable d] (h : c ↔ d) : bI c = bI d := by
  by_cases hc : c
  · rw [bI_t hc, bI_t (h.mp hc)]
  · rw [bI_f hc, bI_f (fun z => hc (h.mpr z))]
theorem bI_01 (c : Prop) [Decidable c] : bI c = 0 ∨ bI c = 1 := by
  unfold bI
  by_cases h : c
  · rw [if_pos h]; exact Or.inr rfl
  · rw [if_neg h]; exact Or.inl rfl
/-- a place below n -/
def inR (x : Int32) (n : Nat) : Prop := 0 ≤ x ∧ x < nI n
theorem inR_of {x : Int32} {n : Nat} (h : inR x n) (hn : n < 2 ^ 31) : ∃ j, j < n ∧ x = nI j := by
  obtain ⟨j, hj, rfl⟩ := nI_of (Int32.not_lt.mpr h.1)
  exact ⟨j, (nI_ltI hj hn).mp h.2, rfl⟩
theorem inR_nI {j n : Nat} (h : j < n) (hn : n < 2 ^ 31) : inR (nI j) n := ⟨nI_pos' (by omega), nI_lt h hn⟩
set_option maxHeartbeats 4000000 in
set_option maxRecDepth 20000 in
theorem mIsIn (sc : sm_S) (M : sm_M) (v a b : Int32) : zC 1 sc 163 [.int v, .int a, .int b] M (zR M (.int (bI (a ≤ v ∧ v ≤ b)))) := by
  refine zc_of hkX11_isIn rfl ?_
  refine zw_nx rfl (fun _ _ => rfl) ?_
  refine zw_nx rfl (fun _ _ => rfl) ?_
  refine zw_br rfl (fun _ _ => rfl) (fun (hc : v < a) => ?_) (fun (hc : ¬ (v < a)) => ?_)
  · refine zw_nx rfl (fun _ _ => rfl) ?_
    refine zw_ret rfl (fun _ _ => rfl) ?_
    exact ⟨rfl, by rw [bI_f (fun z => Int32.not_lt.mpr z.1 hc)]; rfl⟩
  · refine zw_nx rfl (fun _ _ => rfl) ?_
    refine zw_nx rfl (fun _ _ => rfl) ?_
    refine zw_br rfl (fun _ _ => rfl) (fun (hd : b < v) => ?_) (fun (hd : ¬ (b < v)) => ?_)
    · refine zw_nx rfl (fun _ _ => rfl) ?_
      refine zw_ret rfl (fun _ _ => rfl) ?_
      exact ⟨rfl, by rw [bI_f (fun z => Int32.not_lt.mpr z.2 hd)]; rfl⟩
    · refine zw_nx rfl (fun _ _ => rfl) ?_
      refine zw_nx rfl (fun _ _ => rfl) ?_
      refine zw_ret rfl (fun _ _ => rfl) ?_
      exact ⟨rfl, by rw [bI_t ⟨Int32.not_lt.mp hc, Int32.not_lt.mp hd⟩]; rfl⟩
theorem le_pred {x : Int32} {w : Nat} (h1 : 1 ≤ w) (hw : w < 2 ^ 31) : x ≤ nI w - 1 ↔ x < nI w := by
  obtain ⟨q, rfl⟩ : ∃ q, w = q + 1 := ⟨w - 1, by omega⟩
  rw [nI_pred]
  by_cases hx : x < 0
  · have h0 : x < nI q := Int32.lt_of_lt_of_le hx (nI_pos' (by omega))
    exact ⟨fun _ => Int32.lt_of_lt_of_le hx (nI_pos' (by omega)), fun _ => Int32.le_of_lt h0⟩
  · obtain ⟨j, hj, rfl⟩ := nI_of hx
    rw [nI_leI hj (by omega), nI_ltI hj hw]
    omega
set_option maxHeartbeats 4000000 in
set_option maxRecDepth 20000 in
theorem mIsEnd (sc : sm_S) (f : Nat → va_E) (I : Nat → Int32) (A : Nat → Nat → Int32) (B : Nat → Nat → Int64) (x : Int32) (w : Nat) (hI : I 0 = nI w) (h1 : 1 ≤ w) (hw : w ≤ 48) : zC 2 sc 164 [.ref 47, .int x] (mm f I A B) (zR (mm f I A B) (.int (bI (0 ≤ x ∧ x < nI w)))) := by
  refine zc_of hkX11_isEnd rfl ?_
  refine zw_nx rfl (fun _ _ => rfl) ?_
  refine zw_nx rfl (fun _ _ => rfl) ?_
  refine zw_nx rfl (fun _ _ => rfl) ?_
  refine zw_nx rfl (fun _ _ => rfl) ?_
  refine zw_nx rfl (fun _ _ => rfl) ?_
  refine zw_nx rfl (fun _ _ => rfl) ?_
  refine zw_call rfl (fun _ _ => rfl) (mIsIn sc (mm f I A B) x 0 (I 0 - 1)) (by decide) ?_
  rintro M1 r1 ⟨rfl, rfl⟩
  have e : bI (0 ≤ x ∧ x ≤ I 0 - 1) = bI (0 ≤ x ∧ x < nI w) := bI_cong (by rw [hI, le_pred h1 (by omega)])
  refine zw_bret rfl rfl (bI_01 _) ?_
  exact ⟨rfl, by rw [← e]⟩
set_option maxHeartbeats 4000000 in
set_option maxRecDepth 20000 in
theorem mIsPick (sc : sm_S) (f : Nat → va_E) (I : Nat → Int32) (A : Nat → Nat → Int32) (B : Nat → Nat → Int64) (x : Int32) (w : Nat) (hI : I 1 = nI w) (h1 : 1 ≤ w) (hw : w ≤ 48) : zC 2 sc 165 [.ref 47, .int x] (mm f I A B) (zR (mm f I A B) (.int (bI (0 ≤ x ∧ x < nI w)))) := by
  refine zc_of hkX11_isPick rfl ?_
  refine zw_nx rfl (fun _ _ => rfl) ?_
  refine zw_nx rfl (fun _ _ => rfl) ?_
  refine zw_nx rfl (fun _ _ => rfl) ?_
  refine zw_nx rfl (fun _ _ => rfl) ?_
  refine zw_nx rfl (fun _ _ => rfl) ?_
  refine zw_nx rfl (fun _ _ => rfl) ?_
  refine zw_call rfl (fun _ _ => rfl) (mIsIn sc (mm f I A B) x 0 (I 1 - 1)) (by decide) ?_
  rintro M1 r1 ⟨rfl, rfl⟩
  have e : bI (0 ≤ x ∧ x ≤ I 1 - 1) = bI (0 ≤ x ∧ x < nI w) := bI_cong (by rw [hI, le_pred h1 (by omega)])
  refine zw_bret rfl rfl (bI_01 _) ?_
  exact ⟨rfl, by rw [← e]⟩
/-- n entries, time t, look k of the reference; kinds and places in range -/
def ksz : Nat → Nat
  | 1 => 16
  | _ => 48
def MInv (I : Nat → Int32) (A : Nat → Nat → Int32) (n t k : Nat) : Prop := I 4 = nI n ∧ I 2 = nI t ∧ I 3 = nI k ∧ n ≤ 2000 ∧ t ≤ 400 ∧ k ≤ t ∧ ∀ i, i < n → ∃ a b, a ≤ 4 ∧ b < ksz a ∧ A 0 i = nI a ∧ A 1 i = nI b
def mtI (I : Nat → Int32) (n t : Nat) : Nat → Int32 := upd (upd (upd I 4 (nI (n + 1))) 2 (nI (t + 1))) 3 (nI (t + 1))
def mtA (A : Nat → Nat → Int32) (n : Nat) (a b v t : Int32) : Nat → Nat → Int32 := va_up (va_up (va_up (va_up A 0 (upd (A 0) n a)) 1 (upd (A 1) n b)) 2 (upd (A 2) n v)) 3 (upd (A 3) n t)
set_option maxHeartbeats 4000000 in
set_option maxRecDepth 20000 in
theorem mEnter (sc : sm_S) (f : Nat → va_E) (I : Nat → Int32) (A : Nat → Nat → Int32) (B : Nat → Nat → Int64) (a b v : Int32) (n t : Nat) (hn : I 4 = nI n) (hnb : n < 2000) (ht : I 2 = nI t) : zC 1 sc 166 [.ref 47, .int a, .int b, .int v] (mm f I A B) (fun M r => r = none ∧ M = mm f (upd I 4 (nI (n + 1))) (mtA A n a b v (nI (t + 1))) B) := by
  have hin : vp_in (I 4) 2000 := by rw [hn]; exact vp_in_nI hnb (by decide)
  have ec : (I 4).toNatClampNeg = n := by rw [hn, nI_clamp (by omega)]
  have e4 : I 4 + 1 = nI (n + 1) := by rw [hn, nI_1]
  have e2 : I 2 + 1 = nI (t + 1) := by rw [ht, nI_1]
  refine zc_of hkX11_enter rfl ?_
  repeat (refine zw_nx rfl (fun _ _ => rfl) ?_)
  refine zw_ix rfl (fun _ _ => rfl) (hin) ?_
  repeat (refine zw_nx rfl (fun _ _ => rfl) ?_)
  refine zw_ix rfl (fun _ _ => rfl) (hin) ?_
  repeat (refine zw_nx rfl (fun _ _ => rfl) ?_)
  refine zw_ix rfl (fun _ _ => rfl) (hin) ?_
  repeat (refine zw_nx rfl (fun _ _ => rfl) ?_)
  refine zw_ix rfl (fun _ _ => rfl) (hin) ?_
  repeat (refine zw_nx rfl (fun _ _ => rfl) ?_)
  refine zw_ret rfl (fun _ _ => rfl) ?_
  refine ⟨rfl, ?_⟩
  rw [← e4, ← e2, ← ec]
  rfl
set_option maxHeartbeats 4000000 in
set_option maxRecDepth 20000 in
theorem mPasses (sc : sm_S) (f : Nat → va_E) (I : Nat → Int32) (A : Nat → Nat → Int32) (B : Nat → Nat → Int64) (t : Nat) (ht : I 2 = nI t) : zC 1 sc 168 [.ref 47] (mm f I A B) (fun M r => r = some (.int (nI (t + 1))) ∧ M = mm f (upd (upd I 2 (nI (t + 1))) 3 (nI (t + 1))) A B) := by
  have e2 : I 2 + 1 = nI (t + 1) := by rw [ht, nI_1]
  refine zc_of hkX11_passes rfl ?_
  repeat (refine zw_nx rfl (fun _ _ => rfl) ?_)
  refine zw_ret rfl (fun _ _ => rfl) ?_
  refine ⟨?_, ?_⟩
  · rw [← e2]; rfl
  · rw [← e2]; rfl
/-- what a telling of the reference does -/
def mtPost (f : Nat → va_E) (I : Nat → Int32) (A : Nat → Nat → Int32) (B : Nat → Nat → Int64) (n t : Nat) (g : Prop) (a b v : Int32) : sm_M → Option Value → Prop := fun M r => (g ∧ t < 400 ∧ n < 2000 → r = some (.int (nI (t + 1))) ∧ M = mm f (mtI I n t) (mtA A n a b v (nI (t + 1))) B) ∧ (¬ (g ∧ t < 400 ∧ n < 2000) → r = some (.int (-1)) ∧ M = mm f I A B)
set_option maxHeartbeats 4000000 in
set_option maxRecDepth 20000 in
theorem mTelling (sc : sm_S) (f : Nat → va_E) (I : Nat → Int32) (A : Nat → Nat → Int32) (B : Nat → Nat → Int64) (a b v : Int32) (n t : Nat) (g : Prop) [Decidable g] (hn : I 4 = nI n) (hnb : n ≤ 2000) (ht : I 2 = nI t) (htb : t ≤ 400) : zC 2 sc 167 [.ref 47, .int (bI g), .int a, .int b, .int v] (mm f I A B) (mtPost f I A B n t g a b v) := by
  refine zc_of hkX11_telling rfl ?_
  refine zw_nx rfl (fun _ _ => rfl) ?_
  refine zw_br rfl (fun _ _ => rfl) (fun (hc : bI g = 0) => ?_) (fun (hc : ¬ (bI g = 0)) => ?_)
  · have hg := bI_0.mp hc
    refine zw_nx rfl (fun _ _ => rfl) ?_
    refine zw_ret rfl (fun _ _ => rfl) ?_
    exact ⟨fun z => absurd z.1 hg, fun _ => ⟨rfl, rfl⟩⟩
  · have hg : g := by
      by_cases h : g
      · exact h
      · exact absurd (bI_0.mpr h) hc
    refine zw_nx rfl (fun _ _ => rfl) ?_
    refine zw_nx rfl (fun _ _ => rfl) ?_
    refine zw_nx rfl (fun _ _ => rfl) ?_
    refine zw_br rfl (fun _ _ => rfl) (fun (hd : I 2 = 400) => ?_) (fun (hd : ¬ (I 2 = 400)) => ?_)
    · have h4 : ¬ t < 400 := fun h => by
        rw [ht] at hd
        exact absurd ((nI_eq (a := t) (b := 400) (by omega) (by decide)).mp hd) (by omega)
      refine zw_nx rfl (fun _ _ => rfl) ?_
      refine zw_ret rfl (fun _ _ => rfl) ?_
      exact ⟨fun z => absurd z.2.1 h4, fun _ => ⟨rfl, rfl⟩⟩
    · have h4 : t < 400 := by
        rcases Nat.lt_or_ge t 400 with h | h
        · exact h
        · exact absurd (by rw [ht, show t = 400 by omega]; rfl) hd
      refine zw_nx rfl (fun _ _ => rfl) ?_
      refine zw_nx rfl (fun _ _ => rfl) ?_
      refine zw_nx rfl (fun _ _ => rfl) ?_
      refine zw_br rfl (fun _ _ => rfl) (fun (he : I 4 = 2000) => ?_) (fun (he : ¬ (I 4 = 2000)) => ?_)
      · have h5 : ¬ n < 2000 := fun h => by
          rw [hn] at he
          exact absurd ((nI_eq (a := n) (b := 2000) (by omega) (by decide)).mp he) (by omega)
        refine zw_nx rfl (fun _ _ => rfl) ?_
        refine zw_ret rfl (fun _ _ => rfl) ?_
        exact ⟨fun z => absurd z.2.2 h5, fun _ => ⟨rfl, rfl⟩⟩
      · have h5 : n < 2000 := by
          rcases Nat.lt_or_ge n 2000 with h | h
          · exact h
          · exact absurd (by rw [hn, show n = 2000 by omega]; rfl) he
        refine zw_nx rfl (fun _ _ => rfl) ?_
        refine zw_nx rfl (fun _ _ => rfl) ?_
        refine zw_nx rfl (fun _ _ => rfl) ?_
        refine zw_nx rfl (fun _ _ => rfl) ?_
        refine zw_call rfl (fun _ _ => rfl) (mEnter sc f I A B a b v n t hn h5 ht) (by decide) ?_
        rintro M1 r1 ⟨rfl, rfl⟩
        refine zw_nx rfl (fun _ _ => rfl) ?_
        refine zw_call rfl (fun _ _ => rfl) (mPasses sc f (upd I 4 (nI (n + 1))) (mtA A n a b v (nI (t + 1))) B t ht) (by decide) ?_
        rintro M1 r1 ⟨rfl, rfl⟩
        refine zw_ret rfl (fun _ _ => rfl) ?_
        exact ⟨fun _ => ⟨rfl, rfl⟩, fun z => absurd ⟨hg, h4, h5⟩ z⟩
/-- entryOf: the last entry of a kind and place at or ahead of the look -/
def mEnt (A : Nat → Nat → Int32) (n : Nat) (a b lk : Int32) : Option Nat := zlast (fun j => decide (A 0 j = a ∧ A 1 j = b ∧ A 3 j ≤ lk)) n
def oI : Option Nat → Int32
  | some j => nI j
  | none => -1
set_option maxHeartbeats 4000000 in
set_option maxRecDepth 20000 in
theorem mEntryOf_loop (sc : sm_S) (f : Nat → va_E) (I : Nat → Int32) (A : Nat → Nat → Int32) (B : Nat → Nat → Int64) (a b : Int32) : ∀ (n : Nat), n ≤ 2000 → zW 0 sc miX11_entryOf 7 [some (.ref 47), some (.int a), some (.int b), some (.int (nI n - 1))] [] (mm f I A B) (zR (mm f I A B) (.int (oI (mEnt A n a b (I 3))))) := by
  intro n
  induction n with
  | zero =>
    intro _
    refine zw_nx rfl (fun _ _ => rfl) ?_
    first | refine zw_br rfl (fun _ _ => rfl) (fun _ => ?_) (fun h9 => absurd (show nI 0 - 1 < (0 : Int32) by decide) h9) | refine zw_nx rfl (fun _ _ => rfl) ?_
    refine zw_nx rfl (fun _ _ => rfl) ?_
    refine zw_ret rfl (fun _ _ => rfl) ?_
    exact ⟨rfl, rfl⟩
  | succ n ih =>
    intro hn
    rw [nI_pred]
    have hin : vp_in (nI n) 2000 := vp_in_nI (by omega) (by decide)
    have ec : (nI n).toNatClampNeg = n := nI_clamp (by omega)
    have no : ¬ (A 0 n = a ∧ A 1 n = b ∧ A 3 n ≤ I 3) → mEnt A (n + 1) a b (I 3) = mEnt A n a b (I 3) := by
      intro h
      unfold mEnt
      rw [zlast, if_neg (by simpa using h)]
    have hm : nI n + Int32.ofInt (-1) = nI n - 1 := by
      rw [Int32.sub_eq_add_neg]; rfl
    refine zw_nx rfl (fun _ _ => rfl) ?_
    first | refine zw_br rfl (fun _ _ => rfl) (fun h9 => absurd h9 (show ¬ nI n < (0 : Int32) from nI_pos (by omega))) (fun _ => ?_) | refine zw_nx rfl (fun _ _ => rfl) ?_
    refine zw_nx rfl (fun _ _ => rfl) ?_
    refine zw_nx rfl (fun _ _ => rfl) ?_
    refine zw_nx rfl (fun _ _ => rfl) ?_
    refine zw_ix rfl (fun _ _ => rfl) (hin) ?_
    rw [ec]
    refine zw_nx rfl (fun _ _ => rfl) ?_
    refine zw_br rfl (fun _ _ => rfl) (fun (h0 : A 0 n = a) => ?_) (fun (h0 : ¬ (A 0 n = a)) => ?_)
    · refine zw_nx rfl (fun _ _ => rfl) ?_
      refine zw_nx rfl (fun _ _ => rfl) ?_
      refine zw_nx rfl (fun _ _ => rfl) ?_
      refine zw_ix rfl (fun _ _ => rfl) (hin) ?_
      rw [ec]
      refine zw_nx rfl (fun _ _ => rfl) ?_
      refine zw_br rfl (fun _ _ => rfl) (fun (h1 : A 1 n = b) => ?_) (fun (h1 : ¬ (A 1 n = b)) => ?_)
      · refine zw_nx rfl (fun _ _ => rfl) ?_
        refine zw_nx rfl (fun _ _ => rfl) ?_
        refine zw_nx rfl (fun _ _ => rfl) ?_
        refine zw_ix rfl (fun _ _ => rfl) (hin) ?_
        rw [ec]
        refine zw_nx rfl (fun _ _ => rfl) ?_
        refine zw_nx rfl (fun _ _ => rfl) ?_
        refine zw_br rfl (fun _ _ => rfl) (fun (h3 : I 3 < A 3 n) => ?_) (fun (h3 : ¬ (I 3 < A 3 n)) => ?_)
        · refine zw_nx rfl (fun _ _ => rfl) ?_
          refine zw_nx rfl (fun _ _ => rfl) ?_
          rw [no (fun z => Int32.not_lt.mpr z.2.2 h3), hm]
          exact ih (by omega)
        · refine zw_nx rfl (fun _ _ => rfl) ?_
          refine zw_ret rfl (fun _ _ => rfl) ?_
          refine ⟨rfl, ?_⟩
          have e : mEnt A (n + 1) a b (I 3) = some n := by
            unfold mEnt
            rw [zlast, if_pos (by simp [h0, h1]; exact Int32.not_lt.mp h3)]
          rw [e]
          rfl
      · refine zw_nx rfl (fun _ _ => rfl) ?_
        refine zw_nx rfl (fun _ _ => rfl) ?_
        rw [no (fun z => h1 z.2.1), hm]
        exact ih (by omega)
    · refine zw_nx rfl (fun _ _ => rfl) ?_
      refine zw_nx rfl (fun _ _ => rfl) ?_
      rw [no (fun z => h0 z.1), hm]
      exact ih (by omega)
set_option maxHeartbeats 4000000 in
set_option maxRecDepth 20000 in
theorem mEntryOf (sc : sm_S) (f : Nat → va_E) (I : Nat → Int32) (A : Nat → Nat → Int32) (B : Nat → Nat → Int64) (a b : Int32) (n : Nat) (hn : I 4 = nI n) (hnb : n ≤ 2000) : zC 1 sc 173 [.ref 47, .int a, .int b] (mm f I A B) (zR (mm f I A B) (.int (oI (mEnt A n a b (I 3))))) := by
  refine zc_of hkX11_entryOf rfl ?_
  refine zw_nx rfl (fun _ _ => rfl) ?_
  refine zw_nx rfl (fun _ _ => rfl) ?_
  refine zw_nx rfl (fun _ _ => rfl) ?_
  refine zw_nx rfl (fun _ _ => rfl) ?_
  refine zw_nx rfl (fun _ _ => rfl) ?_
  rw [hn]
  exact mEntryOf_loop sc f I A B a b n hnb
/-- valueOf -/
def mVal (A : Nat → Nat → Int32) (n : Nat) (a b lk : Int32) : Int32 := match mEnt A n a b lk with
  | some j => A 2 j
  | none => if a = 0 then -1 else 0
set_option maxHeartbeats 4000000 in
set_option maxRecDepth 20000 in
theorem mValueOf (sc : sm_S) (f : Nat → va_E) (I : Nat → Int32) (A : Nat → Nat → Int32) (B : Nat → Nat → Int64) (a b : Int32) (n : Nat) (hn : I 4 = nI n) (hnb : n ≤ 2000) : zC 2 sc 174 [.ref 47, .int a, .int b] (mm f I A B) (zR (mm f I A B) (.int (mVal A n a b (I 3)))) := by
  refine zc_of hkX11_valueOf rfl ?_
  refine zw_nx rfl (fun _ _ => rfl) ?_
  refine zw_nx rfl (fun _ _ => rfl) ?_
  refine zw_nx rfl (fun _ _ => rfl) ?_
  refine zw_call rfl (fun _ _ => rfl) (mEntryOf sc f I A B a b n hn hnb) (by decide) ?_
  rintro M1 r1 ⟨rfl, rfl⟩
  unfold mVal
  cases he : mEnt A n a b (I 3) with
  | some j =>
    have hj : j < n := (zlast_some he).1
    refine zw_nx rfl (fun _ _ => rfl) ?_
    refine zw_nx rfl (fun _ _ => rfl) ?_
    first | refine zw_br rfl (fun _ _ => rfl) (fun h9 => absurd h9 (show ¬ nI j < (0 : Int32) from nI_pos (by omega))) (fun _ => ?_) | refine zw_nx rfl (fun _ _ => rfl) ?_
    refine zw_nx rfl (fun _ _ => rfl) ?_
    refine zw_nx rfl (fun _ _ => rfl) ?_
    refine zw_nx rfl (fun _ _ => rfl) ?_
    refine zw_ix rfl (fun _ _ => rfl) (show vp_in (nI j) 2000 from vp_in_nI (by omega) (by decide)) ?_
    refine zw_nx rfl (fun _ _ => rfl) ?_
    refine zw_ret rfl (fun _ _ => rfl) ?_
    exact ⟨rfl, by show some (Value.int (A 2 (nI j).toNatClampNeg)) = _; rw [nI_clamp (by omega)]⟩
  | none =>
    refine zw_nx rfl (fun _ _ => rfl) ?_
    refine zw_nx rfl (fun _ _ => rfl) ?_
    first | refine zw_br rfl (fun _ _ => rfl) (fun _ => ?_) (fun h9 => absurd (show (-1 : Int32) < 0 by decide) h9) | refine zw_nx rfl (fun _ _ => rfl) ?_
    refine zw_nx rfl (fun _ _ => rfl) ?_
    refine zw_br rfl (fun _ _ => rfl) (fun (h0 : a = 0) => ?_) (fun (h0 : ¬ (a = 0)) => ?_)
    · refine zw_nx rfl (fun _ _ => rfl) ?_
      refine zw_nx rfl (fun _ _ => rfl) ?_
      refine zw_ret rfl (fun _ _ => rfl) ?_
      exact ⟨rfl, by rw [if_pos h0]; rfl⟩
    · refine zw_nx rfl (fun _ _ => rfl) ?_
      refine zw_ret rfl (fun _ _ => rfl) ?_
      exact ⟨rfl, by rw [if_neg h0]; rfl⟩
set_option maxHeartbeats 4000000 in
set_option maxRecDepth 20000 in
theorem mLook (sc : sm_S) (f : Nat → va_E) (I : Nat → Int32) (A : Nat → Nat → Int32) (B : Nat → Nat → Int64) (x : Int32) : zC 2 sc 175 [.ref 47, .int x] (mm f I A B) (fun M r => (0 ≤ x ∧ x ≤ I 2 → r = some (.int 1) ∧ M = mm f (upd I 3 x) A B) ∧ (¬ (0 ≤ x ∧ x ≤ I 2) → r = some (.int 0) ∧ M = mm f I A B)) := by
  refine zc_of hkX11_look rfl ?_
  refine zw_nx rfl (fun _ _ => rfl) ?_
  refine zw_nx rfl (fun _ _ => rfl) ?_
  refine zw_nx rfl (fun _ _ => rfl) ?_
  refine zw_nx rfl (fun _ _ => rfl) ?_
  refine zw_call rfl (fun _ _ => rfl) (mIsIn sc (mm f I A B) x 0 (I 2)) (by decide) ?_
  rintro M1 r1 ⟨rfl, rfl⟩
  refine zw_br rfl (fun _ _ => rfl) (fun (hc : bI (0 ≤ x ∧ x ≤ I 2) = 0) => ?_) (fun (hc : ¬ (bI (0 ≤ x ∧ x ≤ I 2) = 0)) => ?_)
  · have h := bI_0.mp hc
    refine zw_nx rfl (fun _ _ => rfl) ?_
    refine zw_ret rfl (fun _ _ => rfl) ?_
    exact ⟨fun z => absurd z h, fun _ => ⟨rfl, rfl⟩⟩
  · have h : 0 ≤ x ∧ x ≤ I 2 := by
      by_cases h : 0 ≤ x ∧ x ≤ I 2
      · exact h
      · exact absurd (bI_0.mpr h) hc
    repeat (refine zw_nx rfl (fun _ _ => rfl) ?_)
    refine zw_ret rfl (fun _ _ => rfl) ?_
    exact ⟨fun _ => ⟨rfl, rfl⟩, fun z => absurd h z⟩

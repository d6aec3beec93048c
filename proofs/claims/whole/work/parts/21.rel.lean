/-! the class against the reference: what was told -/
def sb : Nat → Nat
  | 0 => 0
  | 1 => 48
  | 2 => 64
  | 3 => 112
  | _ => 160
theorem sb_lt {a b : Nat} (ha : a ≤ 4) (hb : b < ksz a) : sb a + b < 208 := by
  rcases (show a = 0 ∨ a = 1 ∨ a = 2 ∨ a = 3 ∨ a = 4 by omega) with rfl | rfl | rfl | rfl | rfl <;> simp only [sb, ksz] at hb ⊢ <;> omega
theorem sb_inj {a b c d : Nat} (ha : a ≤ 4) (hb : b < ksz a) (hc : c ≤ 4) (hd : d < ksz c) (h : sb a + b = sb c + d) : a = c ∧ b = d := by
  rcases (show a = 0 ∨ a = 1 ∨ a = 2 ∨ a = 3 ∨ a = 4 by omega) with rfl | rfl | rfl | rfl | rfl <;> rcases (show c = 0 ∨ c = 1 ∨ c = 2 ∨ c = 3 ∨ c = 4 by omega) with rfl | rfl | rfl | rfl | rfl <;> simp only [sb, ksz] at hb hd h <;> omega
/-- entry by entry: the class's slot, value and time are the reference's kind and place, value and time -/
def RelE (X A : Nat → Nat → Int32) (n : Nat) : Prop := ∀ i, i < n → ∃ a b, a ≤ 4 ∧ b < ksz a ∧ A 0 i = nI a ∧ A 1 i = nI b ∧ X 0 i = nI (sb a + b) ∧ X 1 i = A 2 i ∧ X 2 i = A 3 i
theorem rel_ent {X A : Nat → Nat → Int32} {n : Nat} (h : RelE X A n) {a b : Nat} (ha : a ≤ 4) (hb : b < ksz a) (lk : Int32) : zlast (fun j => decide (X 0 j = nI (sb a + b) ∧ X 2 j ≤ lk)) n = mEnt A n (nI a) (nI b) lk := by
  refine zlast_cong (fun i hi => ?_)
  obtain ⟨c, d, hc, hd, h1, h2, h3, h4, h5⟩ := h i hi
  have l1 := sb_lt ha hb
  have l2 := sb_lt hc hd
  have k1 : b < 2 ^ 31 := by have : b < 48 := Nat.lt_of_lt_of_le hb (by rcases (show a = 1 ∨ a ≠ 1 by omega) with rfl | h <;> simp [ksz]); omega
  have k2 : d < 2 ^ 31 := by have : d < 48 := Nat.lt_of_lt_of_le hd (by rcases (show c = 1 ∨ c ≠ 1 by omega) with rfl | h <;> simp [ksz]); omega
  rw [h1, h2, h3, h5]
  have e : (nI (sb c + d) = nI (sb a + b) ∧ A 3 i ≤ lk) ↔ (nI c = nI a ∧ nI d = nI b ∧ A 3 i ≤ lk) := by
    rw [nI_eq (by omega) (by omega), nI_eq (by omega) (by omega), nI_eq k2 k1]
    constructor
    · rintro ⟨g1, g2⟩
      obtain ⟨g3, g4⟩ := sb_inj hc hd ha hb g1
      exact ⟨g3, g4, g2⟩
    · rintro ⟨g1, g2, g3⟩
      subst g1; subst g2
      exact ⟨rfl, g3⟩
  exact decide_eq_decide.mpr e
/-- the class's value of a slot is the reference's -/
theorem rel_val {I : Nat → Int32} {X A : Nat → Nat → Int32} {n t k : Nat} (hL : LInv I X n t k) (h : RelE X A n) {a b : Nat} (ha : a ≤ 4) (hb : b < ksz a) : X 3 (sb a + b) = mVal A n (nI a) (nI b) (nI k) := by
  obtain ⟨h1, h2, h3, h4, h5, h6, h7, h8, h9, h10⟩ := hL
  rw [(h10 _ (sb_lt ha hb)).1, rel_ent h ha hb]
  unfold mVal
  cases he : mEnt A n (nI a) (nI b) (nI k) with
  | some j =>
    obtain ⟨c, d, hc, hd, g1, g2, g3, g4, g5⟩ := h j (zlast_some he).1
    exact g4
  | none =>
    show (if sb a + b < 48 then (-1 : Int32) else 0) = if nI a = 0 then -1 else 0
    rcases (show a = 0 ∨ a = 1 ∨ a = 2 ∨ a = 3 ∨ a = 4 by omega) with rfl | rfl | rfl | rfl | rfl
    · rw [if_pos (show sb 0 + b < 48 by simp only [sb, ksz] at hb ⊢; omega), if_pos nI_0]
    · rw [if_neg (show ¬ sb 1 + b < 48 by simp only [sb]; omega), if_neg (by decide)]
    · rw [if_neg (show ¬ sb 2 + b < 48 by simp only [sb]; omega), if_neg (by decide)]
    · rw [if_neg (show ¬ sb 3 + b < 48 by simp only [sb]; omega), if_neg (by decide)]
    · rw [if_neg (show ¬ sb 4 + b < 48 by simp only [sb]; omega), if_neg (by decide)]
/-- the time at which a slot was told -/
def mTim (A : Nat → Nat → Int32) (n : Nat) (a b lk : Int32) : Int32 := match mEnt A n a b lk with
  | some j => A 3 j
  | none => -1
theorem rel_tim {I : Nat → Int32} {X A : Nat → Nat → Int32} {n t k : Nat} (hL : LInv I X n t k) (h : RelE X A n) {a b : Nat} (ha : a ≤ 4) (hb : b < ksz a) : X 4 (sb a + b) = mTim A n (nI a) (nI b) (nI k) := by
  obtain ⟨h1, h2, h3, h4, h5, h6, h7, h8, h9, h10⟩ := hL
  rw [(h10 _ (sb_lt ha hb)).2, rel_ent h ha hb]
  unfold mTim
  cases he : mEnt A n (nI a) (nI b) (nI k) with
  | some j =>
    obtain ⟨c, d, hc, hd, g1, g2, g3, g4, g5⟩ := h j (zlast_some he).1
    exact g5
  | none => rfl
theorem rel_add {X X' A : Nat → Nat → Int32} {n t a b : Nat} {v : Int32} (h : RelE X A n) (ha : a ≤ 4) (hb : b < ksz a) (e0 : X' 0 = upd (X 0) n (nI (sb a + b))) (e1 : X' 1 = upd (X 1) n v) (e2 : X' 2 = upd (X 2) n (nI (t + 1))) : RelE X' (mtA A n (nI a) (nI b) v (nI (t + 1))) (n + 1) := by
  intro i hi
  rw [e0, e1, e2]
  by_cases hin : i = n
  · subst hin
    exact ⟨a, b, ha, hb, pk_us, pk_us, pk_us, pk_us.trans pk_us.symm, pk_us.trans pk_us.symm⟩
  · obtain ⟨c, d, hc, hd, g1, g2, g3, g4, g5⟩ := h i (by omega)
    refine ⟨c, d, hc, hd, ?_, ?_, ?_, ?_, ?_⟩
    · show upd (A 0) n _ i = _; rw [pk_un hin]; exact g1
    · show upd (A 1) n _ i = _; rw [pk_un hin]; exact g2
    · rw [pk_un hin]; exact g3
    · rw [pk_un hin]; show _ = upd (A 2) n _ i; rw [pk_un hin]; exact g4
    · rw [pk_un hin]; show _ = upd (A 3) n _ i; rw [pk_un hin]; exact g5
theorem rel_cong {X X' A : Nat → Nat → Int32} {n : Nat} (h : RelE X A n) (e0 : ∀ i, i < n → X' 0 i = X 0 i) (e1 : ∀ i, i < n → X' 1 i = X 1 i) (e2 : ∀ i, i < n → X' 2 i = X 2 i) : RelE X' A n := by
  intro i hi
  rw [e0 i hi, e1 i hi, e2 i hi]
  exact h i hi

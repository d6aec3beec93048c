/-! Ledger: takeStaged, tellOne, lookAt; the invariant of what was told -/
/-- n entries, time t, look k: slots in range, times from 1 on and not falling, at most t; the arrays of now are those at the look -/
def LInv (I : Nat → Int32) (A : Nat → Nat → Int32) (n t k : Nat) : Prop :=
  I 2 = nI n ∧ I 4 = nI t ∧ I 5 = nI k ∧ n ≤ 2000 ∧ t ≤ 400 ∧ k ≤ t ∧ enOk A n ∧ (∀ i, i < n → ∃ q, 1 ≤ q ∧ q ≤ t ∧ A 2 i = nI q) ∧ (∀ i j, i ≤ j → j < n → A 2 i ≤ A 2 j) ∧
  ∀ s, s < 208 → A 3 s = (match zlast (fun j => decide (A 0 j = nI s ∧ A 2 j ≤ nI k)) n with | some j => A 1 j | none => if s < 48 then -1 else 0) ∧ A 4 s = (match zlast (fun j => decide (A 0 j = nI s ∧ A 2 j ≤ nI k)) n with | some j => A 2 j | none => -1)
/-- cut at the look: the first m entries are those at or ahead of it -/
theorem rp_now {A : Nat → Nat → Int32} {n m : Nat} {lk : Int32} (hm : m ≤ n) (hr : rpOk A m) (hle : ∀ j, j < m → A 2 j ≤ lk) (hgt : m = n ∨ lk < A 2 m) (hmono : ∀ i j, i ≤ j → j < n → A 2 i ≤ A 2 j) : ∀ s, s < 208 → A 3 s = (match zlast (fun j => decide (A 0 j = nI s ∧ A 2 j ≤ lk)) n with | some j => A 1 j | none => if s < 48 then -1 else 0) ∧ A 4 s = (match zlast (fun j => decide (A 0 j = nI s ∧ A 2 j ≤ lk)) n with | some j => A 2 j | none => -1) := by
  intro s hs
  have e1 : zlast (fun j => decide (A 0 j = nI s ∧ A 2 j ≤ lk)) n = zlast (fun j => decide (A 0 j = nI s ∧ A 2 j ≤ lk)) m := by
    refine zlast_cut hm (fun i h1 h2 => ?_)
    simp only [decide_eq_false_iff_not, not_and]
    intro _
    rcases hgt with h | h
    · omega
    · exact Int32.not_le.mpr (Int32.lt_of_lt_of_le h (hmono m i h1 h2))
  have e2 : zlast (fun j => decide (A 0 j = nI s ∧ A 2 j ≤ lk)) m = zlast (fun j => decide (A 0 j = nI s)) m := by
    refine zlast_cong (fun i hi => ?_)
    simp [hle i hi]
  rw [e1, e2]
  exact hr s hs
/-- and back: at the latest look all entries count -/
theorem now_rp {A : Nat → Nat → Int32} {n : Nat} {lk : Int32} (hle : ∀ j, j < n → A 2 j ≤ lk) (h : ∀ s, s < 208 → A 3 s = (match zlast (fun j => decide (A 0 j = nI s ∧ A 2 j ≤ lk)) n with | some j => A 1 j | none => if s < 48 then -1 else 0) ∧ A 4 s = (match zlast (fun j => decide (A 0 j = nI s ∧ A 2 j ≤ lk)) n with | some j => A 2 j | none => -1)) : rpOk A n := by
  intro s hs
  have e2 : zlast (fun j => decide (A 0 j = nI s ∧ A 2 j ≤ lk)) n = zlast (fun j => decide (A 0 j = nI s)) n := by
    refine zlast_cong (fun i hi => ?_)
    simp [hle i hi]
  have h1 := h s hs
  rw [e2] at h1
  exact h1
theorem zlast_agree {A A' : Nat → Nat → Int32} (h0 : A' 0 = A 0) (h2 : A' 2 = A 2) {n s : Nat} {lk : Int32} : zlast (fun j => decide (A' 0 j = nI s ∧ A' 2 j ≤ lk)) n = zlast (fun j => decide (A 0 j = nI s ∧ A 2 j ≤ lk)) n := by rw [h0, h2]
set_option maxHeartbeats 4000000 in
set_option maxRecDepth 20000 in
/-- lookAt(k): the look moves, all else stays -/
theorem cLookAt (sc : sm_S) (I : Nat → Int32) (J : Nat → Int64) (A : Nat → Nat → Int32) (B : Nat → Nat → Int64) (tl : sm_M) (n t k0 k : Nat) (hL : LInv I A n t k0) (hk : k ≤ t) : zC 4 sc 38 [.ref 1, .int (nI k)] (xm I J A B tl) (fun M r => r = none ∧ ∃ A', M = xm (upd (upd I 5 (nI k)) 6 (I 6 + 1)) J A' B tl ∧ (∀ a, a ≠ 3 → a ≠ 4 → A' a = A a) ∧ LInv (upd (upd I 5 (nI k)) 6 (I 6 + 1)) A' n t k) := by
  obtain ⟨h1, h2, h3, h4, h5, h6, h7, h8, h9, h10⟩ := hL
  refine zc_of hkX3_lookAt rfl ?_
  refine zw_nx rfl (fun _ _ => rfl) ?_
  refine zw_nx rfl (fun _ _ => rfl) ?_
  refine zw_nx rfl (fun _ _ => rfl) ?_
  refine zw_nx rfl (fun _ _ => rfl) ?_
  refine zw_nx rfl (fun _ _ => rfl) ?_
  refine zw_call rfl (fun _ _ => rfl) (cReplay sc (upd I 5 (nI k)) J A B tl n 0 h4 h1 h7 (Nat.zero_le _) (fun h => absurd h (by omega))) (by decide) ?_
  rintro M1 v ⟨rfl, A', m, rfl, q1, q2, q3, q4, q5, q6⟩
  refine zw_ret rfl (fun _ _ => rfl) ?_
  have e0 : A' 0 = A 0 := q1 0 (by decide) (by decide)
  have e2 : A' 2 = A 2 := q1 2 (by decide) (by decide)
  refine ⟨rfl, A', rfl, q1, h1, h2, rfl, h4, h5, hk, ?_, by rw [e2]; exact h8, by rw [e2]; exact h9, rp_now q3 q4 (fun j hj => by rw [e2]; exact q5 j (by omega) hj) (by rw [e2]; exact q6) (by rw [e2]; exact h9)⟩
  intro i hi
  rw [e0]
  exact h7 i hi
theorem linv_times {I : Nat → Int32} {A : Nat → Nat → Int32} {n t k : Nat} (h : LInv I A n t k) : ∀ j, j < n → A 2 j ≤ nI t := by
  obtain ⟨h1, h2, h3, h4, h5, h6, h7, h8, h9, h10⟩ := h
  intro j hj
  obtain ⟨q, q1, q2, q3⟩ := h8 j hj
  rw [q3]
  exact nI_le q2 (by omega)
/-- staged entries from n to m -/
def StOk (A : Nat → Nat → Int32) (n m t : Nat) : Prop := ∀ i, n ≤ i → i < m → i < 2000 → (∃ q, q < 208 ∧ A 0 i = nI q) ∧ A 2 i = nI (t + 1)
/-- what a telling that is done leaves of the int variables -/
def tkI (I : Nat → Int32) (m t : Nat) : Nat → Int32 := upd (upd (upd (upd I 2 (nI m)) 4 (nI (t + 1))) 5 (nI (t + 1))) 6 (I 6 + 1)
theorem take_inv {I I' : Nat → Int32} {A A' : Nat → Nat → Int32} {n m t k q : Nat} (hL : LInv I A n t k) (hm : m ≤ 2000) (hnm : n ≤ m) (ht : t < 400) (hst : StOk A n m t) (hI2 : I' 2 = nI m) (hI4 : I' 4 = nI (t + 1)) (hI5 : I' 5 = nI (t + 1)) (q1 : ∀ a, a ≠ 3 → a ≠ 4 → A' a = A a) (q3 : q ≤ m) (q4 : rpOk A' q) (q6 : q = m ∨ nI (t + 1) < A 2 q) : LInv I' A' m (t + 1) (t + 1) := by
  obtain ⟨h1, h2, h3, h4, h5, h6, h7, h8, h9, h10⟩ := hL
  have e0 : A' 0 = A 0 := q1 0 (by decide) (by decide)
  have e2 : A' 2 = A 2 := q1 2 (by decide) (by decide)
  have tm : ∀ i, i < m → ∃ z, 1 ≤ z ∧ z ≤ t + 1 ∧ A 2 i = nI z := by
    intro i hi
    by_cases hin : i < n
    · obtain ⟨z, z1, z2, z3⟩ := h8 i hin
      exact ⟨z, z1, by omega, z3⟩
    · exact ⟨t + 1, by omega, Nat.le_refl _, (hst i (by omega) hi (by omega)).2⟩
  have mono : ∀ i j, i ≤ j → j < m → A 2 i ≤ A 2 j := by
    intro i j hij hj
    by_cases hjn : j < n
    · exact h9 i j hij hjn
    · rw [(hst j (by omega) hj (by omega)).2]
      obtain ⟨z, z1, z2, z3⟩ := tm i (by omega)
      rw [z3]
      exact nI_le z2 (by omega)
  refine ⟨hI2, hI4, hI5, hm, by omega, Nat.le_refl _, fun i hi => ?_, by rw [e2]; exact tm, by rw [e2]; exact mono, ?_⟩
  · rw [e0]
    by_cases hin : i < n
    · exact h7 i hin
    · exact (hst i (by omega) hi (by omega)).1
  · refine rp_now q3 q4 (fun j hj => ?_) (by rw [e2]; exact q6) (by rw [e2]; exact mono)
    rw [e2]
    obtain ⟨z, z1, z2, z3⟩ := tm j (by omega)
    rw [z3]
    exact nI_le z2 (by omega)
set_option maxHeartbeats 4000000 in
set_option maxRecDepth 20000 in
theorem cTake (sc : sm_S) (I : Nat → Int32) (J : Nat → Int64) (A : Nat → Nat → Int32) (B : Nat → Nat → Int64) (tl : sm_M) (n t k m : Nat) (hL : LInv I A n t k) (hm3 : I 3 = nI m) (hnm : n ≤ m) (hmb : m < 2 ^ 30) (hst : StOk A n m t) : zC 4 sc 37 [.ref 1] (xm I J A B tl) (fun M r => if t < 400 ∧ m ≤ 2000 then r = some (.int (nI (t + 1))) ∧ ∃ A', M = xm (tkI I m t) J A' B tl ∧ (∀ a, a ≠ 3 → a ≠ 4 → A' a = A a) ∧ LInv (tkI I m t) A' m (t + 1) (t + 1) else r = some (.int (-1)) ∧ M = xm I J A B tl) := by
  have hL0 := hL
  obtain ⟨h1, h2, h3, h4, h5, h6, h7, h8, h9, h10⟩ := hL
  refine zc_of hkX3_takeStaged rfl ?_
  refine zw_nx rfl (fun _ _ => rfl) ?_
  refine zw_nx rfl (fun _ _ => rfl) ?_
  refine zw_nx rfl (fun _ _ => rfl) ?_
  refine zw_br rfl (fun _ _ => rfl) (fun (hc : (400 : Int32) ≤ I 4) => ?_) (fun (hc : ¬ ((400 : Int32) ≤ I 4)) => ?_)
  · have ht : ¬ (t < 400 ∧ m ≤ 2000) := fun h => by
      rw [h2] at hc
      exact nI_ge (a := t) (b := 400) h.1 (by decide) hc
    refine zw_nx rfl (fun _ _ => rfl) ?_
    exact zw_ret rfl (fun _ _ => rfl) (by rw [if_neg ht]; exact ⟨rfl, rfl⟩)
  · have ht : t < 400 := by
      rcases Nat.lt_or_ge t 400 with h | h
      · exact h
      · exact absurd (by rw [h2]; exact nI_le (a := 400) h (by omega)) hc
    refine zw_nx rfl (fun _ _ => rfl) ?_
    refine zw_nx rfl (fun _ _ => rfl) ?_
    refine zw_nx rfl (fun _ _ => rfl) ?_
    refine zw_br rfl (fun _ _ => rfl) (fun (hd : I 3 ≤ (2000 : Int32)) => ?_) (fun (hd : ¬ (I 3 ≤ (2000 : Int32))) => ?_)
    · have hm : m ≤ 2000 := by
        rcases Nat.lt_or_ge 2000 m with h | h
        · rw [hm3] at hd
          exact absurd hd (nI_ge (a := 2000) h (by omega))
        · exact h
      have e4 : I 4 + 1 = nI (t + 1) := by rw [h2, nI_1]
      have heN : enOk A m := by
        intro i hi
        by_cases hin : i < n
        · exact h7 i hin
        · exact (hst i (by omega) hi (by omega)).1
      have eI : ∀ z, upd (upd (upd I 2 (I 3)) 4 (I 4 + 1)) 5 (I 4 + 1) z = upd (upd (upd I 2 (nI m)) 4 (nI (t + 1))) 5 (nI (t + 1)) z := by rw [hm3, e4]; exact fun _ => rfl
      have eI2 : upd (upd (upd I 2 (I 3)) 4 (I 4 + 1)) 5 (I 4 + 1) = upd (upd (upd I 2 (nI m)) 4 (nI (t + 1))) 5 (nI (t + 1)) := funext eI
      refine zw_nx rfl (fun _ _ => rfl) ?_
      refine zw_nx rfl (fun _ _ => rfl) ?_
      refine zw_nx rfl (fun _ _ => rfl) ?_
      refine zw_nx rfl (fun _ _ => rfl) ?_
      refine zw_br rfl (fun _ _ => rfl) (fun (hk : I 5 = I 4) => ?_) (fun (hk : ¬ (I 5 = I 4)) => ?_)
      · have hkt : k = t := by
          rw [h3, h2] at hk
          exact (nI_eq (by omega) (by omega)).mp hk
        refine zw_nx rfl (fun _ _ => rfl) ?_
        refine zw_nx rfl (fun _ _ => rfl) ?_
        refine zw_nx rfl (fun _ _ => rfl) ?_
        refine zw_nx rfl (fun _ _ => rfl) ?_
        refine zw_nx rfl (fun _ _ => rfl) ?_
        refine zw_nx rfl (fun _ _ => rfl) ?_
        refine zw_nx rfl (fun _ _ => rfl) ?_
        refine zw_nx rfl (fun _ _ => rfl) ?_
        refine zw_nx rfl (fun _ _ => rfl) ?_
        refine zw_nx rfl (fun _ _ => rfl) ?_
        refine zw_nx rfl (fun _ _ => rfl) ?_
        refine zw_nx rfl (fun _ _ => rfl) ?_
        refine zw_nx rfl (fun _ _ => rfl) ?_
        refine zw_nx rfl (fun _ _ => rfl) ?_
        refine zw_nx rfl (fun _ _ => rfl) ?_
        refine zw_nx rfl (fun _ _ => rfl) ?_
        refine zw_nx rfl (fun _ _ => rfl) ?_
        refine zw_nx rfl (fun _ _ => rfl) ?_
        refine zw_nx rfl (fun _ _ => rfl) ?_
        refine zw_nx rfl (fun _ _ => rfl) ?_
        have hrp : 0 < n → rpOk A n := fun _ => now_rp (lk := nI k) (by rw [hkt]; exact linv_times hL0) h10
        have hcal := cReplay sc (upd (upd (upd I 2 (nI m)) 4 (nI (t + 1))) 5 (nI (t + 1))) J A B tl m n hm rfl heN hnm hrp
        rw [← h1, ← eI2] at hcal
        refine zw_call rfl (fun _ _ => rfl) (hcal) (by decide) ?_
        rintro M1 v ⟨rfl, A', q, rfl, q1, q2, q3, q4, q5, q6⟩
        refine zw_nx rfl (fun _ _ => rfl) ?_
        refine zw_nx rfl (fun _ _ => rfl) ?_
        refine zw_ret rfl (fun _ _ => rfl) ?_
        rw [if_pos ⟨ht, hm⟩]
        refine ⟨congrArg (fun z => some (Value.int z)) e4, A', by rw [tkI, ← eI2]; rfl, q1, ?_⟩
        refine take_inv hL0 hm hnm ht hst rfl rfl rfl q1 q3 q4 ?_
        rw [← e4]
        exact q6
      · refine zw_nx rfl (fun _ _ => rfl) ?_
        refine zw_nx rfl (fun _ _ => rfl) ?_
        refine zw_nx rfl (fun _ _ => rfl) ?_
        refine zw_nx rfl (fun _ _ => rfl) ?_
        refine zw_nx rfl (fun _ _ => rfl) ?_
        refine zw_nx rfl (fun _ _ => rfl) ?_
        refine zw_nx rfl (fun _ _ => rfl) ?_
        refine zw_nx rfl (fun _ _ => rfl) ?_
        refine zw_nx rfl (fun _ _ => rfl) ?_
        refine zw_nx rfl (fun _ _ => rfl) ?_
        refine zw_nx rfl (fun _ _ => rfl) ?_
        refine zw_nx rfl (fun _ _ => rfl) ?_
        refine zw_nx rfl (fun _ _ => rfl) ?_
        refine zw_nx rfl (fun _ _ => rfl) ?_
        refine zw_nx rfl (fun _ _ => rfl) ?_
        refine zw_nx rfl (fun _ _ => rfl) ?_
        refine zw_nx rfl (fun _ _ => rfl) ?_
        refine zw_nx rfl (fun _ _ => rfl) ?_
        have hcal := cReplay sc (upd (upd (upd I 2 (nI m)) 4 (nI (t + 1))) 5 (nI (t + 1))) J A B tl m 0 hm rfl heN (Nat.zero_le _) (fun h => absurd h (by omega))
        rw [← eI2] at hcal
        refine zw_call rfl (fun _ _ => rfl) (hcal) (by decide) ?_
        rintro M1 v ⟨rfl, A', q, rfl, q1, q2, q3, q4, q5, q6⟩
        refine zw_nx rfl (fun _ _ => rfl) ?_
        refine zw_nx rfl (fun _ _ => rfl) ?_
        refine zw_ret rfl (fun _ _ => rfl) ?_
        rw [if_pos ⟨ht, hm⟩]
        refine ⟨congrArg (fun z => some (Value.int z)) e4, A', by rw [tkI, ← eI2]; rfl, q1, ?_⟩
        refine take_inv hL0 hm hnm ht hst rfl rfl rfl q1 q3 q4 ?_
        rw [← e4]
        exact q6
    · have hm : ¬ (t < 400 ∧ m ≤ 2000) := fun h => hd (by rw [hm3]; exact nI_le (a := m) (b := 2000) h.2 (by decide))
      refine zw_nx rfl (fun _ _ => rfl) ?_
      exact zw_ret rfl (fun _ _ => rfl) (by rw [if_neg hm]; exact ⟨rfl, rfl⟩)
/-- one telling: what is told of a slot -/
theorem stA_ok {A : Nat → Nat → Int32} {n t : Nat} {s v : Int32} (hs : ∃ q, q < 208 ∧ s = nI q) : StOk (stA A n s v (nI (t + 1))) n (n + 1) t := by
  intro i h1 h2 h3
  have e : i = n := by omega
  subst e
  refine ⟨?_, ?_⟩
  · obtain ⟨q, q1, q2⟩ := hs
    exact ⟨q, q1, by show upd (A 0) i s i = nI q; rw [pk_us, q2]⟩
  · show upd (A 2) i (nI (t + 1)) i = nI (t + 1)
    rw [pk_us]
theorem linv_stage {I : Nat → Int32} {A : Nat → Nat → Int32} {n t k : Nat} {s v x : Int32} (h : LInv I A n t k) {I' : Nat → Int32} (e2 : I' 2 = I 2) (e4 : I' 4 = I 4) (e5 : I' 5 = I 5) : LInv I' (stA A n s v x) n t k := by
  obtain ⟨h1, h2, h3, h4, h5, h6, h7, h8, h9, h10⟩ := h
  have f0 : ∀ i, i < n → stA A n s v x 0 i = A 0 i := fun i hi => by show upd (A 0) n s i = A 0 i; exact pk_un (by omega)
  have f1 : ∀ i, i < n → stA A n s v x 1 i = A 1 i := fun i hi => by show upd (A 1) n v i = A 1 i; exact pk_un (by omega)
  have f2 : ∀ i, i < n → stA A n s v x 2 i = A 2 i := fun i hi => by show upd (A 2) n x i = A 2 i; exact pk_un (by omega)
  refine ⟨e2.trans h1, e4.trans h2, e5.trans h3, h4, h5, h6, fun i hi => by rw [f0 i hi]; exact h7 i hi, fun i hi => by rw [f2 i hi]; exact h8 i hi, fun i j hi hj => by rw [f2 i (by omega), f2 j hj]; exact h9 i j hi hj, fun z hz => ?_⟩
  have e : zlast (fun j => decide (stA A n s v x 0 j = nI z ∧ stA A n s v x 2 j ≤ nI k)) n = zlast (fun j => decide (A 0 j = nI z ∧ A 2 j ≤ nI k)) n := zlast_cong (fun i hi => by simp only [f0 i hi, f2 i hi])
  obtain ⟨g1, g2⟩ := h10 z hz
  rw [e]
  refine ⟨?_, ?_⟩
  · show A 3 z = _
    rw [g1]
    cases hl : zlast (fun j => decide (A 0 j = nI z ∧ A 2 j ≤ nI k)) n with
    | none => rfl
    | some j => exact (f1 j (zlast_some hl).1).symm
  · show A 4 z = _
    rw [g2]
    cases hl : zlast (fun j => decide (A 0 j = nI z ∧ A 2 j ≤ nI k)) n with
    | none => rfl
    | some j => exact (f2 j (zlast_some hl).1).symm
set_option maxHeartbeats 4000000 in
set_option maxRecDepth 20000 in
/-- tellOne(slot, value) -/
theorem cTellOne (sc : sm_S) (I : Nat → Int32) (J : Nat → Int64) (A : Nat → Nat → Int32) (B : Nat → Nat → Int64) (tl : sm_M) (n t k q : Nat) (v : Int32) (hL : LInv I A n t k) (hq : q < 208) : zC 5 sc 34 [.ref 1, .int (nI q), .int v] (xm I J A B tl) (fun M r => if t < 400 ∧ n < 2000 then r = some (.int (nI (t + 1))) ∧ ∃ A', M = xm (tkI (upd I 3 (nI (n + 1))) (n + 1) t) J A' B tl ∧ (∀ a, a ≠ 3 → a ≠ 4 → A' a = stA A n (nI q) v (nI (t + 1)) a) ∧ LInv (tkI (upd I 3 (nI (n + 1))) (n + 1) t) A' (n + 1) (t + 1) (t + 1) else r = some (.int (-1)) ∧ ∃ I' A', M = xm I' J A' B tl ∧ (∀ z, z ≠ 3 → I' z = I z) ∧ (∀ a, 2 < a → A' a = A a) ∧ (∀ a i, i < n → A' a i = A a i) ∧ LInv I' A' n t k) := by
  have hL0 := hL
  obtain ⟨h1, h2, h3, h4, h5, h6, h7, h8, h9, h10⟩ := hL
  refine zc_of hkX3_tellOne rfl ?_
  refine zw_nx rfl (fun _ _ => rfl) ?_
  refine zw_call rfl (fun _ _ => rfl) (cDrop sc I J A B tl) (by decide) ?_
  rintro M1 r1 ⟨rfl, rfl⟩
  refine zw_nx rfl (fun _ _ => rfl) ?_
  refine zw_nx rfl (fun _ _ => rfl) ?_
  refine zw_nx rfl (fun _ _ => rfl) ?_
  refine zw_call rfl (fun _ _ => rfl) (cStage sc (upd I 3 (I 2)) J A B tl (nI q) v n h1 (by omega)) (by decide) ?_
  rintro M1 r1 ⟨rfl, rfl⟩
  refine zw_nx rfl (fun _ _ => rfl) ?_
  have eu : upd (upd I 3 (I 2)) 3 (nI (n + 1)) = upd I 3 (nI (n + 1)) := by
    funext z
    unfold upd
    by_cases hz : z = 3
    · rw [if_pos hz, if_pos hz]
    · rw [if_neg hz, if_neg hz, if_neg hz]
  rw [eu]
  have e4 : upd I 3 (I 2) 4 + 1 = nI (t + 1) := by show I 4 + 1 = _; rw [h2, nI_1]
  rw [e4]
  by_cases hn : n < 2000
  · rw [if_pos hn]
    refine zw_call rfl (fun _ _ => rfl) (cTake sc (upd I 3 (nI (n + 1))) J (stA A n (nI q) v (nI (t + 1))) B tl n t k (n + 1) (linv_stage hL0 rfl rfl rfl) rfl (by omega) (by omega) (stA_ok ⟨q, hq, rfl⟩)) (by decide) ?_
    intro M1 r1 hp
    by_cases ht : t < 400
    · rw [if_pos ⟨ht, by omega⟩] at hp
      obtain ⟨rfl, A', rfl, p1, p2⟩ := hp
      refine zw_ret rfl (fun _ _ => rfl) ?_
      rw [if_pos ⟨ht, hn⟩]
      exact ⟨rfl, A', rfl, p1, p2⟩
    · rw [if_neg (fun z => ht z.1)] at hp
      obtain ⟨rfl, rfl⟩ := hp
      refine zw_ret rfl (fun _ _ => rfl) ?_
      rw [if_neg (fun z => ht z.1)]
      refine ⟨rfl, _, _, rfl, fun z hz => by unfold upd; rw [if_neg hz], fun a ha => ?_, fun a i hi => ?_, linv_stage hL0 rfl rfl rfl⟩
      · unfold stA va_up
        rw [if_neg (by omega), if_neg (by omega), if_neg (by omega)]
      · unfold stA va_up
        by_cases a2 : a = 2
        · subst a2; rw [if_pos rfl]; exact pk_un (by omega)
        · rw [if_neg a2]
          by_cases a1 : a = 1
          · subst a1; rw [if_pos rfl]; exact pk_un (by omega)
          · rw [if_neg a1]
            by_cases a0 : a = 0
            · subst a0; rw [if_pos rfl]; exact pk_un (by omega)
            · rw [if_neg a0]
  · rw [if_neg hn]
    have hL1 : LInv (upd I 3 (nI (n + 1))) A n t k := ⟨h1, h2, h3, h4, h5, h6, h7, h8, h9, h10⟩
    refine zw_call rfl (fun _ _ => rfl) (cTake sc (upd I 3 (nI (n + 1))) J A B tl n t k (n + 1) hL1 rfl (by omega) (by omega) (fun i g1 g2 g3 => by omega)) (by decide) ?_
    intro M1 r1 hp
    rw [if_neg (fun z => by omega)] at hp
    obtain ⟨rfl, rfl⟩ := hp
    refine zw_ret rfl (fun _ _ => rfl) ?_
    rw [if_neg (fun z => hn z.2)]
    exact ⟨rfl, _, A, rfl, fun z hz => by unfold upd; rw [if_neg hz], fun _ _ => rfl, fun _ _ _ => rfl, hL1⟩

/-! Ledger: forget, replay -/
/-- the last i below n with p -/
def zlast (p : Nat → Bool) : Nat → Option Nat
  | 0 => none
  | n + 1 => if p n then some n else zlast p n
theorem zlast_some {p : Nat → Bool} : ∀ {n i : Nat}, zlast p n = some i → i < n ∧ p i = true ∧ ∀ j, i < j → j < n → p j = false := by
  intro n
  induction n with
  | zero => intro i h; cases h
  | succ n ih =>
    intro i h
    unfold zlast at h
    split at h
    · rename_i hp
      cases h
      exact ⟨by omega, hp, fun j h1 h2 => by omega⟩
    · rename_i hp
      obtain ⟨h1, h2, h3⟩ := ih h
      refine ⟨by omega, h2, fun j h4 h5 => ?_⟩
      by_cases h6 : j = n
      · subst h6; simpa using hp
      · exact h3 j h4 (by omega)
theorem zlast_none {p : Nat → Bool} : ∀ {n : Nat}, zlast p n = none → ∀ j, j < n → p j = false := by
  intro n
  induction n with
  | zero => intro h j hj; omega
  | succ n ih =>
    intro h j hj
    unfold zlast at h
    split at h
    · cases h
    · rename_i hp
      by_cases h6 : j = n
      · subst h6; simpa using hp
      · exact ih h j (by omega)
theorem zlast_cong {p q : Nat → Bool} : ∀ {n : Nat}, (∀ i, i < n → p i = q i) → zlast p n = zlast q n := by
  intro n
  induction n with
  | zero => intro _; rfl
  | succ n ih =>
    intro h
    unfold zlast
    rw [h n (by omega), ih (fun i hi => h i (by omega))]
theorem zlast_cut {p : Nat → Bool} {m : Nat} : ∀ {n : Nat}, m ≤ n → (∀ i, m ≤ i → i < n → p i = false) → zlast p n = zlast p m := by
  intro n
  induction n with
  | zero => intro h _; rw [show m = 0 by omega]
  | succ n ih =>
    intro h hp
    by_cases hm : m = n + 1
    · rw [hm]
    · rw [show zlast p (n + 1) = zlast p n from by rw [zlast, hp n (by omega) (by omega)]; rfl]
      exact ih (by omega) (fun i h1 h2 => hp i h1 (by omega))
/-- a slot's value and time by the first i entries -/
def nvF (sl vl : Nat → Int32) (i s : Nat) : Int32 := match zlast (fun j => decide (sl j = nI s)) i with
  | some j => vl j
  | none => if s < 48 then -1 else 0
def ntF (sl tm : Nat → Int32) (i s : Nat) : Int32 := match zlast (fun j => decide (sl j = nI s)) i with
  | some j => tm j
  | none => -1
theorem nvF_succ {sl vl : Nat → Int32} {i k : Nat} (hk : sl i = nI k) (hkb : k < 2 ^ 31) {s : Nat} (hs : s < 2 ^ 31) : nvF sl vl (i + 1) s = if s = k then vl i else nvF sl vl i s := by
  unfold nvF
  by_cases h : s = k
  · subst h
    rw [if_pos rfl, zlast, if_pos (by simpa using hk)]
  · rw [if_neg h, zlast, if_neg]
    simp only [decide_eq_true_eq, hk]
    exact fun e => h ((nI_eq hkb hs).mp e).symm
theorem ntF_succ {sl tm : Nat → Int32} {i k : Nat} (hk : sl i = nI k) (hkb : k < 2 ^ 31) {s : Nat} (hs : s < 2 ^ 31) : ntF sl tm (i + 1) s = if s = k then tm i else ntF sl tm i s := by
  unfold ntF
  by_cases h : s = k
  · subst h
    rw [if_pos rfl, zlast, if_pos (by simpa using hk)]
  · rw [if_neg h, zlast, if_neg]
    simp only [decide_eq_true_eq, hk]
    exact fun e => h ((nI_eq hkb hs).mp e).symm
/-- nowValues behind forget -/
def fgV (g : Nat → Int32) (i : Nat) : Nat → Int32 := fun j => if j < i then -1 else if j < 208 then 0 else g j
set_option maxHeartbeats 4000000 in
set_option maxRecDepth 20000 in
theorem cForget_loop (sc : sm_S) (I : Nat → Int32) (J : Nat → Int64) (A : Nat → Nat → Int32) (B : Nat → Nat → Int64) (tl : sm_M) (g h4 : Nat → Int32) : ∀ (k i : Nat), i + k = 48 → zW 1 sc miX3_forget 18 [some (.ref 1), some (.int (nI i))] [] (xm I J (va_up (va_up A 3 (fgV g i)) 4 h4) B tl) (fun M r => M = xm I J (va_up (va_up A 3 (fgV g 48)) 4 h4) B tl ∧ r = none) := by
  intro k
  induction k with
  | zero =>
    intro i hi
    have e : i = 48 := by omega
    subst e
    refine zw_nx rfl (fun _ _ => rfl) ?_
    refine zw_nx rfl (fun _ _ => rfl) ?_
    refine zw_nx rfl (fun _ _ => rfl) ?_
    exact zw_ret rfl (fun _ _ => rfl) (⟨rfl, rfl⟩)
  | succ k ih =>
    intro i hi
    refine zw_nx rfl (fun _ _ => rfl) ?_
    refine zw_nx rfl (fun _ _ => rfl) ?_
    first | refine zw_br rfl (fun _ _ => rfl) (fun h9 => absurd h9 (nI_ge (a := i) (b := 48) (by omega) (by decide))) (fun _ => ?_) | refine zw_nx rfl (fun _ _ => rfl) ?_
    refine zw_nx rfl (fun _ _ => rfl) ?_
    refine zw_nx rfl (fun _ _ => rfl) ?_
    refine zw_nx rfl (fun _ _ => rfl) ?_
    refine zw_nx rfl (fun _ _ => rfl) ?_
    refine zw_nx rfl (fun _ _ => rfl) ?_
    refine zw_nx rfl (fun _ _ => rfl) ?_
    have e0 : (0 : Int32) + nI i = nI i := by rw [show (0 : Int32) = nI 0 from nI_0.symm, nI_add, Nat.zero_add]
    refine zw_ix rfl (fun _ _ => rfl) (show vp_in ((0 : Int32) + nI i) 208 by rw [e0]; exact vp_in_nI (by omega) (by decide)) ?_
    refine zw_nx rfl (fun _ _ => rfl) ?_
    refine zw_nx rfl (fun _ _ => rfl) ?_
    have h := ih (i + 1) (by omega)
    rw [nI_succ] at h
    have e : upd (fgV g i) ((0 : Int32) + nI i).toNatClampNeg (-1) = fgV g (i + 1) := by
      rw [e0, nI_clamp (by omega)]
      funext j
      unfold upd fgV
      by_cases h1 : j = i
      · rw [if_pos h1, if_pos (by omega)]
      · rw [if_neg h1]
        by_cases h2 : j < i
        · rw [if_pos h2, if_pos (show j < i + 1 by omega)]
        · rw [if_neg h2, if_neg (show ¬ j < i + 1 by omega)]
    rw [← e] at h
    exact h
set_option maxHeartbeats 4000000 in
set_option maxRecDepth 20000 in
theorem cForget (sc : sm_S) (I : Nat → Int32) (J : Nat → Int64) (A : Nat → Nat → Int32) (B : Nat → Nat → Int64) (tl : sm_M) : zC 2 sc 39 [.ref 1] (xm I J A B tl) (fun M r => M = xm I J (va_up (va_up A 3 (fgV (A 3) 48)) 4 (fun j => if j < 208 then -1 else A 4 j)) B tl ∧ r = none) := by
  refine zc_of hkX3_forget rfl ?_
  refine zw_nx rfl (fun _ _ => rfl) ?_
  refine zw_nx rfl (fun _ _ => rfl) ?_
  refine zw_nx rfl (fun _ _ => rfl) ?_
  refine zw_call rfl (fun _ _ => rfl) (cFillI sc (xm I J A B tl) 5 208 (A 3) 0 rfl rfl (by decide)) (by decide) ?_
  rintro M1 v ⟨rfl, rfl⟩
  refine zw_nx rfl (fun _ _ => rfl) ?_
  refine zw_nx rfl (fun _ _ => rfl) ?_
  refine zw_nx rfl (fun _ _ => rfl) ?_
  refine zw_call rfl (fun _ _ => rfl) (cFillI sc (xm I J (va_up A 3 (fun j => if j < 208 then 0 else A 3 j)) B tl) 6 208 (A 4) (-1) rfl rfl (by decide)) (by decide) ?_
  rintro M1 v ⟨rfl, rfl⟩
  refine zw_nx rfl (fun _ _ => rfl) ?_
  refine zw_nx rfl (fun _ _ => rfl) ?_
  have h := cForget_loop sc I J A B tl (A 3) (fun j => if j < 208 then -1 else A 4 j) 48 0 (by omega)
  have e : fgV (A 3) 0 = fun j => if j < 208 then 0 else A 3 j := by
    funext j
    unfold fgV
    rw [if_neg (by omega)]
  rw [e] at h
  exact h
theorem fgV_nv (sl vl g : Nat → Int32) {s : Nat} (hs : s < 208) : fgV g 48 s = nvF sl vl 0 s := by
  unfold fgV nvF zlast
  by_cases h : s < 48
  · rw [if_pos h]; simp [h]
  · rw [if_neg h, if_pos hs]; simp [h]
/-- what replay begins with: the first i entries stand in the arrays -/
def rpOk (A : Nat → Nat → Int32) (i : Nat) : Prop := ∀ s, s < 208 → A 3 s = nvF (A 0) (A 1) i s ∧ A 4 s = ntF (A 0) (A 2) i s
/-- the entries: slots in range -/
def enOk (A : Nat → Nat → Int32) (n : Nat) : Prop := ∀ i, i < n → ∃ k, k < 208 ∧ A 0 i = nI k
/-- behind replay -/
def rpPost (I : Nat → Int32) (J : Nat → Int64) (A : Nat → Nat → Int32) (B : Nat → Nat → Int64) (tl : sm_M) (n i : Nat) : sm_M → Option Value → Prop := fun M r => r = none ∧ ∃ A' m, M = xm I J A' B tl ∧ (∀ a, a ≠ 3 → a ≠ 4 → A' a = A a) ∧ i ≤ m ∧ m ≤ n ∧ rpOk A' m ∧ (∀ j, i ≤ j → j < m → A 2 j ≤ I 5) ∧ (m = n ∨ I 5 < A 2 m)
theorem rpOk_step {A : Nat → Nat → Int32} {i k : Nat} (h : rpOk A i) (hk : A 0 i = nI k) (hkb : k < 208) : rpOk (va_up (va_up A 3 (upd (A 3) k (A 1 i))) 4 (upd (A 4) k (A 2 i))) (i + 1) := by
  intro s hs
  obtain ⟨h1, h2⟩ := h s hs
  refine ⟨?_, ?_⟩
  · show upd (A 3) k (A 1 i) s = nvF (A 0) (A 1) (i + 1) s
    rw [nvF_succ hk (by omega) (by omega), ← h1]
    rfl
  · show upd (A 4) k (A 2 i) s = ntF (A 0) (A 2) (i + 1) s
    rw [ntF_succ hk (by omega) (by omega), ← h2]
    rfl
set_option maxHeartbeats 4000000 in
set_option maxRecDepth 20000 in
theorem cReplay_loop (sc : sm_S) (I : Nat → Int32) (J : Nat → Int64) (B : Nat → Nat → Int64) (tl : sm_M) (n : Nat) (hn : n ≤ 2000) (hI : I 2 = nI n) : ∀ (k i : Nat) (A : Nat → Nat → Int32), i + k = n → enOk A n → rpOk A i → zW 2 sc miX3_replay 24 [some (.ref 1), none, some (.int (nI i)), none] [] (xm I J A B tl) (rpPost I J A B tl n i) := by
  intro k
  induction k with
  | zero =>
    intro i A hi he hr
    have e : i = n := by omega
    subst e
    refine zw_nx rfl (fun _ _ => rfl) ?_
    refine zw_nx rfl (fun _ _ => rfl) ?_
    refine zw_nx rfl (fun _ _ => rfl) ?_
    first | refine zw_br rfl (fun _ _ => rfl) (fun _ => ?_) (fun h9 => absurd (show I 2 ≤ nI i by rw [hI]; exact Int32.le_refl _) h9) | refine zw_nx rfl (fun _ _ => rfl) ?_
    exact zw_ret rfl (fun _ _ => rfl) (⟨rfl, A, i, rfl, fun _ _ _ => rfl, Nat.le_refl _, Nat.le_refl _, hr, fun j h1 h2 => by omega, Or.inl rfl⟩)
  | succ k ih =>
    intro i A hi he hr
    have ec : (nI i).toNatClampNeg = i := nI_clamp (by omega)
    have hin : vp_in (nI i) 2000 := vp_in_nI (by omega) (by decide)
    obtain ⟨s, hs, hsl⟩ := he i (by omega)
    have ecs : (nI s).toNatClampNeg = s := nI_clamp (by omega)
    have hins : vp_in (nI s) 208 := vp_in_nI hs (by decide)
    refine zw_nx rfl (fun _ _ => rfl) ?_
    refine zw_nx rfl (fun _ _ => rfl) ?_
    refine zw_nx rfl (fun _ _ => rfl) ?_
    first | refine zw_br rfl (fun _ _ => rfl) (fun h9 => absurd h9 (show ¬ I 2 ≤ nI i by rw [hI]; exact nI_ge (by omega) (by omega))) (fun _ => ?_) | refine zw_nx rfl (fun _ _ => rfl) ?_
    refine zw_nx rfl (fun _ _ => rfl) ?_
    refine zw_nx rfl (fun _ _ => rfl) ?_
    first | refine zw_br rfl (fun _ _ => rfl) (fun h9 => absurd h9 (nI_ge (a := i) (b := 2000) (by omega) (by decide))) (fun _ => ?_) | refine zw_nx rfl (fun _ _ => rfl) ?_
    refine zw_nx rfl (fun _ _ => rfl) ?_
    refine zw_nx rfl (fun _ _ => rfl) ?_
    refine zw_nx rfl (fun _ _ => rfl) ?_
    refine zw_ix rfl (fun _ _ => rfl) (hin) ?_
    rw [ec]
    refine zw_nx rfl (fun _ _ => rfl) ?_
    refine zw_nx rfl (fun _ _ => rfl) ?_
    refine zw_br rfl (fun _ _ => rfl) (fun (hc : I 5 < A 2 i) => ?_) (fun (hc : ¬ (I 5 < A 2 i)) => ?_)
    · exact zw_ret rfl (fun _ _ => rfl) (⟨rfl, A, i, rfl, fun _ _ _ => rfl, Nat.le_refl _, by omega, hr, fun j h1 h2 => by omega, Or.inr hc⟩)
    · refine zw_nx rfl (fun _ _ => rfl) ?_
      refine zw_nx rfl (fun _ _ => rfl) ?_
      refine zw_nx rfl (fun _ _ => rfl) ?_
      refine zw_ix rfl (fun _ _ => rfl) (hin) ?_
      rw [ec, hsl]
      refine zw_nx rfl (fun _ _ => rfl) ?_
      refine zw_nx rfl (fun _ _ => rfl) ?_
      first | refine zw_br rfl (fun _ _ => rfl) (fun h9 => absurd h9 (nI_pos (n := s) (by omega))) (fun _ => ?_) | refine zw_nx rfl (fun _ _ => rfl) ?_
      refine zw_nx rfl (fun _ _ => rfl) ?_
      refine zw_nx rfl (fun _ _ => rfl) ?_
      first | refine zw_br rfl (fun _ _ => rfl) (fun h9 => absurd h9 (nI_ge (a := s) (b := 208) hs (by decide))) (fun _ => ?_) | refine zw_nx rfl (fun _ _ => rfl) ?_
      refine zw_nx rfl (fun _ _ => rfl) ?_
      refine zw_nx rfl (fun _ _ => rfl) ?_
      refine zw_nx rfl (fun _ _ => rfl) ?_
      refine zw_nx rfl (fun _ _ => rfl) ?_
      refine zw_nx rfl (fun _ _ => rfl) ?_
      refine zw_nx rfl (fun _ _ => rfl) ?_
      refine zw_ix rfl (fun _ _ => rfl) (hin) ?_
      rw [ec]
      refine zw_ix rfl (fun _ _ => rfl) (hins) ?_
      rw [ecs]
      refine zw_nx rfl (fun _ _ => rfl) ?_
      refine zw_nx rfl (fun _ _ => rfl) ?_
      refine zw_nx rfl (fun _ _ => rfl) ?_
      refine zw_nx rfl (fun _ _ => rfl) ?_
      refine zw_nx rfl (fun _ _ => rfl) ?_
      refine zw_nx rfl (fun _ _ => rfl) ?_
      refine zw_ix rfl (fun _ _ => rfl) (hin) ?_
      rw [ec]
      refine zw_ix rfl (fun _ _ => rfl) (hins) ?_
      rw [ecs]
      refine zw_nx rfl (fun _ _ => rfl) ?_
      refine zw_nx rfl (fun _ _ => rfl) ?_
      have h := ih (i + 1) (va_up (va_up A 3 (upd (A 3) s (A 1 i))) 4 (upd (A 4) s (A 2 i))) (by omega) he (rpOk_step hr hsl hs)
      rw [nI_succ] at h
      refine zw_kp (zw_post h ?_)
      rintro M r ⟨hr0, A', m, h1, h2, h3, h4, h5, h6, h7⟩
      refine ⟨hr0, A', m, h1, fun a ha hb => ?_, by omega, h4, h5, fun j h8 h9 => ?_, h7⟩
      · rw [h2 a ha hb]
        show va_up (va_up A 3 _) 4 _ a = A a
        unfold va_up
        rw [if_neg hb, if_neg ha]
      · by_cases h10 : j = i
        · subst h10; exact Int32.not_lt.mp hc
        · exact h6 j (by omega) h9
set_option maxHeartbeats 4000000 in
set_option maxRecDepth 20000 in
/-- replay(from): from 0 all anew, else on from the entries that stand there -/
theorem cReplay (sc : sm_S) (I : Nat → Int32) (J : Nat → Int64) (A : Nat → Nat → Int32) (B : Nat → Nat → Int64) (tl : sm_M) (n f : Nat) (hn : n ≤ 2000) (hI : I 2 = nI n) (he : enOk A n) (hf : f ≤ n) (hr : 0 < f → rpOk A f) : zC 3 sc 40 [.ref 1, .int (nI f)] (xm I J A B tl) (rpPost (upd I 6 (I 6 + 1)) J A B tl n f) := by
  refine zc_of hkX3_replay rfl ?_
  refine zw_nx rfl (fun _ _ => rfl) ?_
  refine zw_nx rfl (fun _ _ => rfl) ?_
  refine zw_nx rfl (fun _ _ => rfl) ?_
  refine zw_nx rfl (fun _ _ => rfl) ?_
  refine zw_nx rfl (fun _ _ => rfl) ?_
  refine zw_nx rfl (fun _ _ => rfl) ?_
  refine zw_nx rfl (fun _ _ => rfl) ?_
  have hI2 : upd I 6 (I 6 + 1) 2 = nI n := hI
  refine zw_br rfl (fun _ _ => rfl) (fun (hc : (0 : Int32) < nI f) => ?_) (fun (hc : ¬ ((0 : Int32) < nI f)) => ?_)
  · have hf0 : 0 < f := by
      rcases Nat.eq_zero_or_pos f with h | h
      · subst h; exact absurd hc (by decide)
      · exact h
    have hz : (if (0 : Int32) < nI f then nI f else 0) = nI f := if_pos hc
    refine zw_nx rfl (fun _ _ => rfl) ?_
    refine zw_nx rfl (fun _ _ => rfl) ?_
    refine zw_nx rfl (fun _ _ => rfl) ?_
    rw [show (if (Int32.ofInt 0) < nI f then nI f else Int32.ofInt 0) = nI f from hz]
    refine zw_nx rfl (fun _ _ => rfl) ?_
    have h := cReplay_loop sc (upd I 6 (I 6 + 1)) J B tl n hn hI2 (n - f) f A (by omega) he (hr hf0)
    exact zw_kp h
  · have hf0 : f = 0 := by
      rcases Nat.eq_zero_or_pos f with h | h
      · exact h
      · exact absurd (by rw [← nI_0]; exact nI_lt h (by omega)) hc
    subst hf0
    refine zw_nx rfl (fun _ _ => rfl) ?_
    refine zw_call rfl (fun _ _ => rfl) (cForget sc (upd I 6 (I 6 + 1)) J A B tl) (by decide) ?_
    rintro M1 v ⟨rfl, rfl⟩
    refine zw_nx rfl (fun _ _ => rfl) ?_
    refine zw_nx rfl (fun _ _ => rfl) ?_
    refine zw_nx rfl (fun _ _ => rfl) ?_
    rw [show (if (Int32.ofInt 0) < nI 0 then nI 0 else Int32.ofInt 0) = nI 0 from by decide]
    refine zw_nx rfl (fun _ _ => rfl) ?_
    have h := cReplay_loop sc (upd I 6 (I 6 + 1)) J B tl n hn hI2 n 0 (va_up (va_up A 3 (fgV (A 3) 48)) 4 (fun j => if j < 208 then -1 else A 4 j)) (by omega) he (fun s hs => ⟨fgV_nv (A 0) (A 1) (A 3) hs, by
      show (if s < 208 then (-1 : Int32) else A 4 s) = _
      rw [if_pos hs]; rfl⟩)
    refine zw_kp (zw_post h ?_)
    rintro M r ⟨hr0, A', m, h1, h2, h3, h4, h5, h6, h7⟩
    refine ⟨hr0, A', m, h1, fun a ha hb => ?_, h3, h4, h5, h6, h7⟩
    rw [h2 a ha hb]
    unfold va_up
    rw [if_neg hb, if_neg ha]

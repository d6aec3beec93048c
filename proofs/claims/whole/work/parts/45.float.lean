/-! floats: longest, floats -/
/-- the run that is open at i, the runs that are closed ahead of i -/
def rl (b : Nat → Bool) : Nat → Nat
  | 0 => 0
  | i + 1 => if b i then rl b i + 1 else 0
def rs (b : Nat → Bool) : Nat → List Nat
  | 0 => []
  | i + 1 => if b i then rs b i else if rl b i = 0 then rs b i else rs b i ++ [rl b i]
/-- the runs of a line -/
def lnB (b : Nat → Bool) (n i : Nat) : Bool := decide (i < n) && b i
def rnB (b : Nat → Bool) (n : Nat) : List Nat := rs (lnB b n) (n + 1)
theorem rl_le {b : Nat → Bool} : ∀ {i : Nat}, rl b i ≤ i := by
  intro i
  induction i with
  | zero => exact Nat.le_refl _
  | succ i ih => rw [rl]; split <;> omega
theorem rs_el {b : Nat → Bool} : ∀ {i x : Nat}, x ∈ rs b i → 1 ≤ x ∧ x < i := by
  intro i
  induction i with
  | zero => intro x h; cases h
  | succ i ih =>
    intro x h
    rw [rs] at h
    split at h
    · have := ih h; omega
    · split at h
      · have := ih h; omega
      · rcases List.mem_append.mp h with h | h
        · have := ih h; omega
        · have := List.mem_singleton.mp h
          have := rl_le (b := b) (i := i)
          omega
theorem rs_len {b : Nat → Bool} : ∀ {i : Nat}, 2 * (rs b i).length + (if rl b i = 0 then 0 else 1) ≤ i := by
  intro i
  induction i with
  | zero => simp [rs, rl]
  | succ i ih =>
    rw [rs, rl]
    by_cases h1 : b i = true
    · rw [if_pos h1, if_pos h1, if_neg (by omega)]
      split at ih <;> omega
    · rw [if_neg h1, if_neg h1, if_pos rfl]
      by_cases h2 : rl b i = 0
      · rw [if_pos h2]; omega
      · rw [if_neg h2] at ih ⊢
        rw [List.length_append, List.length_singleton]
        omega
theorem rs_cong {b c : Nat → Bool} : ∀ {i : Nat}, (∀ j, j < i → b j = c j) → rs b i = rs c i ∧ rl b i = rl c i := by
  intro i
  induction i with
  | zero => intro _; exact ⟨rfl, rfl⟩
  | succ i ih =>
    intro h
    obtain ⟨h1, h2⟩ := ih (fun j hj => h j (by omega))
    rw [rs, rs, rl, rl, h1, h2, h i (by omega)]
    exact ⟨rfl, rfl⟩
theorem rnB_cong {b c : Nat → Bool} {n : Nat} (h : ∀ i, i < n → b i = c i) : rnB b n = rnB c n := (rs_cong (fun j hj => by
  unfold lnB
  by_cases h1 : j < n
  · rw [h j h1]
  · rw [decide_eq_false h1]; rfl)).1
theorem rnB_all {b : Nat → Bool} {n : Nat} (hn : 1 ≤ n) (h : ∀ i, i < n → b i = true) : rnB b n = [n] := by
  have key : ∀ i, i ≤ n → rs (lnB b n) i = [] ∧ rl (lnB b n) i = i := by
    intro i
    induction i with
    | zero => intro _; exact ⟨rfl, rfl⟩
    | succ i ih =>
      intro hi
      obtain ⟨h1, h2⟩ := ih (by omega)
      have h3 : lnB b n i = true := by unfold lnB; rw [decide_eq_true (by omega), h i (by omega)]; rfl
      rw [rs, rl, if_pos h3, if_pos h3, h1, h2]
      exact ⟨rfl, rfl⟩
  obtain ⟨h1, h2⟩ := key n (Nat.le_refl n)
  have h3 : ¬ lnB b n n = true := by unfold lnB; rw [decide_eq_false (by omega)]; simp
  unfold rnB
  rw [rs, if_neg h3, h2, if_neg (by omega), h1]
  rfl
/-- how many of a length -/
def cl (r : Nat) : List Nat → Nat
  | [] => 0
  | x :: t => (if x = r then 1 else 0) + cl r t
theorem cl_app {r : Nat} {l k : List Nat} : cl r (l ++ k) = cl r l + cl r k := by
  induction l with
  | nil => show cl r k = 0 + cl r k; omega
  | cons x t ih => show (if x = r then 1 else 0) + cl r (t ++ k) = (if x = r then 1 else 0) + cl r t + cl r k; omega
theorem cl_1 {r x : Nat} : cl r [x] = if x = r then 1 else 0 := by show (if x = r then 1 else 0) + 0 = _; omega
theorem cl_pos {r : Nat} {l : List Nat} : 0 < cl r l ↔ r ∈ l := by
  induction l with
  | nil => exact ⟨fun h => absurd h (Nat.lt_irrefl 0), fun h => by cases h⟩
  | cons x t ih =>
    show 0 < (if x = r then 1 else 0) + cl r t ↔ _
    rw [List.mem_cons, ← ih]
    by_cases h : x = r
    · rw [if_pos h]; exact ⟨fun _ => Or.inl h.symm, fun _ => by omega⟩
    · rw [if_neg h]
      constructor
      · intro h2; exact Or.inr (by omega)
      · rintro (h2 | h2)
        · exact absurd h2.symm h
        · omega
theorem cl_len {r : Nat} {l : List Nat} : cl r l ≤ l.length := by
  induction l with
  | nil => exact Nat.le_refl _
  | cons x t ih => show (if x = r then 1 else 0) + cl r t ≤ t.length + 1; split <;> omega
/-- the greatest; how many are greater -/
def mxL : List Nat → Nat
  | [] => 0
  | x :: t => if mxL t < x then x else mxL t
theorem mxL_ge {l : List Nat} : ∀ {x : Nat}, x ∈ l → x ≤ mxL l := by
  induction l with
  | nil => intro x h; cases h
  | cons y t ih =>
    intro x h
    rw [mxL]
    rcases List.mem_cons.mp h with h | h
    · split <;> omega
    · have := ih h; split <;> omega
theorem mxL_in {l : List Nat} : mxL l = 0 ∨ mxL l ∈ l := by
  induction l with
  | nil => exact Or.inl rfl
  | cons y t ih =>
    rw [mxL]
    split
    · exact Or.inr (List.mem_cons.mpr (Or.inl rfl))
    · rcases ih with h | h
      · exact Or.inl h
      · exact Or.inr (List.mem_cons.mpr (Or.inr h))
theorem mxL_eq {l : List Nat} {r : Nat} (h1 : ∀ x, x ∈ l → x ≤ r) (h2 : r = 0 ∨ r ∈ l) : mxL l = r := by
  have h3 : mxL l ≤ r := by
    rcases mxL_in (l := l) with h | h
    · omega
    · exact h1 _ h
  rcases h2 with h2 | h2
  · omega
  · have := mxL_ge h2; omega
def gtC (n : Int32) : List Nat → Nat
  | [] => 0
  | x :: t => (if n < nI x then 1 else 0) + gtC n t
theorem gtC_app {n : Int32} {l k : List Nat} : gtC n (l ++ k) = gtC n l + gtC n k := by
  induction l with
  | nil => show gtC n k = 0 + gtC n k; omega
  | cons x t ih => show (if n < nI x then 1 else 0) + gtC n (t ++ k) = (if n < nI x then 1 else 0) + gtC n t + gtC n k; omega
theorem sum_one {P : Nat → Prop} [DecidablePred P] {x m : Nat} (h1 : 1 ≤ x) (h2 : x ≤ m) : sumN (fun i => if P (i + 1) then (if x = i + 1 then 1 else 0) else 0) m = if P x then 1 else 0 := by
  have key : ∀ m, sumN (fun i => if P (i + 1) then (if x = i + 1 then 1 else 0) else 0) m = if x ≤ m then (if P x then 1 else 0) else 0 := by
    intro m
    induction m with
    | zero => rw [if_neg (by omega)]; rfl
    | succ m ih =>
      rw [sumN, ih]
      by_cases h3 : x ≤ m
      · rw [if_pos h3, if_pos (show x ≤ m + 1 by omega), if_neg (show ¬ x = m + 1 by omega)]
        split <;> simp
      · rw [if_neg h3]
        by_cases h4 : x = m + 1
        · subst h4
          rw [if_pos (Nat.le_refl _), if_pos rfl]; omega
        · rw [if_neg h4, if_neg (show ¬ x ≤ m + 1 by omega)]
          split <;> rfl
  rw [key, if_pos h2]
theorem gtC_sum {n : Int32} {l : List Nat} (h : ∀ x, x ∈ l → 1 ≤ x ∧ x ≤ 48) : sumN (fun i => if n < nI (i + 1) then cl (i + 1) l else 0) 48 = gtC n l := by
  induction l with
  | nil => exact sumN_0 (fun i _ => by show (if _ then 0 else 0) = 0; split <;> rfl)
  | cons x t ih =>
    have e : sumN (fun i => if n < nI (i + 1) then cl (i + 1) (x :: t) else 0) 48 = sumN (fun i => (if n < nI (i + 1) then (if x = i + 1 then 1 else 0) else 0) + (if n < nI (i + 1) then cl (i + 1) t else 0)) 48 := sumN_cong (fun i _ => by
      show (if n < nI (i + 1) then (if x = i + 1 then 1 else 0) + cl (i + 1) t else 0) = _
      split <;> omega)
    obtain ⟨h1, h2⟩ := h x (List.mem_cons.mpr (Or.inl rfl))
    rw [e, sumN_add, ih (fun y hy => h y (List.mem_cons.mpr (Or.inr hy))), sum_one (P := fun q => n < nI q) h1 h2]
    rfl
/-- the first gap of a line -/
def gpF (b : Nat → Bool) : Nat → Nat → Nat
  | 0, i => i
  | k + 1, i => if b i then gpF b k (i + 1) else i
theorem gpF_le {b : Nat → Bool} : ∀ {k i : Nat}, i ≤ gpF b k i ∧ gpF b k i ≤ i + k := by
  intro k
  induction k with
  | zero => intro i; exact ⟨Nat.le_refl _, Nat.le_refl _⟩
  | succ k ih =>
    intro i
    rw [gpF]
    have := ih (i := i + 1)
    split <;> omega
theorem gpF_up {b : Nat → Bool} : ∀ {k i j : Nat}, i ≤ j → j < gpF b k i → b j = true := by
  intro k
  induction k with
  | zero => intro i j h1 h2; rw [gpF] at h2; omega
  | succ k ih =>
    intro i j h1 h2
    rw [gpF] at h2
    split at h2
    · rename_i h3
      by_cases h4 : j = i
      · subst h4; exact h3
      · exact ih (by omega) h2
    · omega
theorem gpF_no {b : Nat → Bool} : ∀ {k i : Nat}, gpF b k i < i + k → b (gpF b k i) = false := by
  intro k
  induction k with
  | zero => intro i h; rw [gpF] at h; omega
  | succ k ih =>
    intro i h
    rw [gpF] at h ⊢
    split
    · rename_i h3
      rw [if_pos h3] at h
      exact ih (by omega)
    · rename_i h3
      simpa using h3
/-- a line, cut open at its first gap if it goes on over and over -/
def ovB (over : Bool) (b : Nat → Bool) (n k : Nat) : Bool := if over then b ((gpF b n 0 + k) % n) else b k
/-- the lines of THE CLOTH -/
def flB (V : Nat → Int32) (warp over : Bool) (n i k : Nat) : Bool := ovB over (fun k => if warp then vUp V i k else !vUp V k i) n k
/-- all floats -/
def flA (V : Nat → Int32) (warp over : Bool) (n : Nat) : Nat → List Nat
  | 0 => []
  | i + 1 => flA V warp over n i ++ rnB (flB V warp over n i) n
theorem flA_el {V : Nat → Int32} {warp over : Bool} {n : Nat} : ∀ {i x : Nat}, x ∈ flA V warp over n i → 1 ≤ x ∧ x ≤ n := by
  intro i
  induction i with
  | zero => intro x h; cases h
  | succ i ih =>
    intro x h
    rcases List.mem_append.mp h with h | h
    · exact ih h
    · have := rs_el h; omega
theorem flA_len {V : Nat → Int32} {warp over : Bool} {n : Nat} (hn : n ≤ 48) : ∀ {i : Nat}, (flA V warp over n i).length ≤ 24 * i := by
  intro i
  induction i with
  | zero => exact Nat.le_refl _
  | succ i ih =>
    rw [flA, List.length_append]
    have := rs_len (b := lnB (flB V warp over n i) n) (i := n + 1)
    unfold rnB
    split at this <;> omega
theorem cl_le_fl {V : Nat → Int32} {warp over : Bool} {n i r : Nat} (hn : n ≤ 48) (hi : i ≤ 48) : cl r (flA V warp over n i) ≤ 1152 := by
  have h1 := cl_len (r := r) (l := flA V warp over n i)
  have h2 := flA_len (V := V) (warp := warp) (over := over) hn (i := i)
  omega
section
variable (sc : sm_S) (I : Nat → Int32) (J : Nat → Int64) (A : Nat → Nat → Int32) (B : Nat → Nat → Int64) (tl : sm_M) (f : Nat → va_E) (w h n : Nat) (V : Nat → Int32) (S : Nat → Nat → Bool)
set_option maxHeartbeats 4000000 in
set_option maxRecDepth 20000 in
theorem xCountLine (x : Int64) (n : Nat) (hn : n ≤ 48) (g : Nat → Int32) : zC 2 sc 93 [.ref 23, .long x, .int (nI n)] (xm I J (va_up A 13 g) B tl) (fun M r => r = none ∧ M = xm I J (va_up A 13 (fun l => g l + nI (cl l (rnB (lb x) n)))) B tl) := by
  refine zc_of hkX7_countLine rfl ?_
  repeat (refine zw_go rfl rfl (fun _ _ => rfl) ?_)
  have key : ∀ (k i : Nat), i + k = n + 1 → zW 1 sc miX7_countLine 6 [some (.ref 23), some (.long x), none, some (.int (nI n)), some (.int (nI (rl (lnB (lb x) n) i))), some (.int (nI i))] [] (xm I J (va_up A 13 (fun l => g l + nI (cl l (rs (lnB (lb x) n) i)))) B tl) (fun M r => r = none ∧ M = xm I J (va_up A 13 (fun l => g l + nI (cl l (rnB (lb x) n)))) B tl) := by
    intro k
    induction k with
    | zero =>
      intro i hi
      have e1 : i = n + 1 := by omega
      subst e1
      refine zw_nx rfl (fun _ _ => rfl) ?_
      repeat (refine zw_go rfl rfl (fun _ _ => rfl) ?_)
      first | refine zw_br rfl (fun _ _ => rfl) (fun _ => ?_) (fun h9 => absurd (show nI n < nI (n + 1) from nI_lt (by omega) (by omega)) h9) | refine zw_nx rfl (fun _ _ => rfl) ?_
      repeat (refine zw_go rfl rfl (fun _ _ => rfl) ?_)
      exact zw_ret rfl (fun _ _ => rfl) (⟨rfl, rfl⟩)
    | succ k ih =>
      intro i hi
      have hn1 := ih (i + 1) (by omega)
      have hle := rl_le (b := lnB (lb x) n) (i := i)
      rw [nI_succ, rl, rs] at hn1
      refine zw_nx rfl (fun _ _ => rfl) ?_
      repeat (refine zw_go rfl rfl (fun _ _ => rfl) ?_)
      first | refine zw_br rfl (fun _ _ => rfl) (fun h9 => absurd h9 (show ¬ nI n < nI i from nI_nlt (by omega) (by omega))) (fun _ => ?_) | refine zw_nx rfl (fun _ _ => rfl) ?_
      repeat (refine zw_go rfl rfl (fun _ _ => rfl) ?_)
      have close : lnB (lb x) n i = false → zW 1 sc miX7_countLine 33 [some (.ref 23), some (.long x), none, some (.int (nI n)), some (.int (nI (rl (lnB (lb x) n) i))), some (.int (nI i))] [] (xm I J (va_up A 13 (fun l => g l + nI (cl l (rs (lnB (lb x) n) i)))) B tl) (fun M r => r = none ∧ M = xm I J (va_up A 13 (fun l => g l + nI (cl l (rnB (lb x) n)))) B tl) := by
        intro hb
        rw [hb, if_neg (by simp), if_neg (by simp)] at hn1
        by_cases h0 : rl (lnB (lb x) n) i = 0
        · rw [if_pos h0] at hn1
          rw [h0]
          repeat (refine zw_go rfl rfl (fun _ _ => rfl) ?_)
          exact zw_kp hn1
        · rw [if_neg h0] at hn1
          repeat (refine zw_go rfl rfl (fun _ _ => rfl) ?_)
          first | refine zw_br rfl (fun _ _ => rfl) (fun h9 => absurd h9 (show ¬ nI (rl (lnB (lb x) n) i) ≤ 0 from nI_nle (by omega) (by omega))) (fun _ => ?_) | refine zw_nx rfl (fun _ _ => rfl) ?_
          repeat (refine zw_go rfl rfl (fun _ _ => rfl) ?_)
          first | refine zw_br rfl (fun _ _ => rfl) (fun h9 => absurd h9 (show ¬ (48 : Int32) < nI (rl (lnB (lb x) n) i) from nI_nlt (a := 48) (by omega) (by omega))) (fun _ => ?_) | refine zw_nx rfl (fun _ _ => rfl) ?_
          repeat (refine zw_go rfl rfl (fun _ _ => rfl) ?_)
          refine zw_ix rfl (fun _ _ => rfl) (show vp_in (nI ((rl (lnB (lb x) n) i))) _ from vp_in_nI (by omega) (by omega)) ?_
          rw [show (nI ((rl (lnB (lb x) n) i))).toNatClampNeg = (rl (lnB (lb x) n) i) from nI_clamp (by omega)]
          repeat (refine zw_go rfl rfl (fun _ _ => rfl) ?_)
          refine zw_ix rfl (fun _ _ => rfl) (show vp_in (nI ((rl (lnB (lb x) n) i))) _ from vp_in_nI (by omega) (by omega)) ?_
          rw [show (nI ((rl (lnB (lb x) n) i))).toNatClampNeg = (rl (lnB (lb x) n) i) from nI_clamp (by omega)]
          repeat (refine zw_go rfl rfl (fun _ _ => rfl) ?_)
          have e5 : (fun l => g l + nI (cl l (rs (lnB (lb x) n) i ++ [rl (lnB (lb x) n) i]))) = upd (fun l => g l + nI (cl l (rs (lnB (lb x) n) i))) (rl (lnB (lb x) n) i) (g (rl (lnB (lb x) n) i) + nI (cl (rl (lnB (lb x) n) i) (rs (lnB (lb x) n) i)) + 1) := by
            funext l
            rw [cl_app, cl_1]
            unfold upd
            by_cases h6 : l = rl (lnB (lb x) n) i
            · rw [if_pos h6, if_pos h6.symm, h6, ← nI_1, Int32.add_assoc]
            · rw [if_neg h6, if_neg (fun z => h6 z.symm), Nat.add_zero]
          rw [e5] at hn1
          exact zw_kp hn1
      refine zw_br rfl (fun _ _ => rfl) (fun (hc : nI n ≤ nI i) => ?_) (fun (hc : ¬ (nI n ≤ nI i)) => ?_)
      · rw [nI_leI (by omega) (by omega)] at hc
        exact close (by unfold lnB; rw [decide_eq_false (by omega)]; rfl)
      · rw [nI_leI (by omega) (by omega)] at hc
        repeat (refine zw_go rfl rfl (fun _ _ => rfl) ?_)
        refine zw_call rfl (fun _ _ => rfl) (cHasN sc _ x (i := i) (by omega)) (by decide) ?_
        rintro M1 r1 ⟨rfl, rfl⟩
        cases hb : lb x i
        · refine zw_nx rfl (fun _ _ => rfl) ?_
          exact close (by unfold lnB; rw [hb, Bool.and_false])
        · have hb2 : lnB (lb x) n i = true := by unfold lnB; rw [hb, decide_eq_true (by omega)]; rfl
          rw [hb2, if_pos rfl, if_pos rfl, ← nI_1] at hn1
          repeat (refine zw_go rfl rfl (fun _ _ => rfl) ?_)
          exact zw_kp hn1
  have hk := key (n + 1) 0 (by omega)
  rw [show (fun l => g l + nI (cl l (rs (lnB (lb x) n) 0))) = g from by funext l; exact Int32.add_zero _] at hk
  exact zw_kp hk
set_option maxHeartbeats 4000000 in
set_option maxRecDepth 20000 in
theorem xCutOpen (M : sm_M) (p : Nat → Bool) (n : Nat) (hn1 : 1 ≤ n) (hn : n ≤ 48) : zC 3 sc 92 [.long (mk p n), .int (nI n)] M (zR M (.long (mk (fun k => p ((gpF p n 0 + k) % n)) n))) := by
  refine zc_of hkX7_cutOpen rfl ?_
  obtain ⟨g1, g2⟩ := gpF_le (b := p) (k := n) (i := 0)
  have hb : ∀ i, i < 64 → lb (mk p n ^^^ (-1)) i = !(decide (i < n) && p i) := fun i hi => by rw [lb_xor, lb_mk (by omega), lb_m1 hi, Bool.xor_true]
  have hz1 : lb (mk p n ^^^ (-1)) (gpF p n 0) = true := by
    rw [hb _ (by omega)]
    by_cases h1 : gpF p n 0 < n
    · rw [gpF_no (b := p) (k := n) (i := 0) (by omega), Bool.and_false]; rfl
    · rw [decide_eq_false h1]; rfl
  have hz2 : ∀ i, i < gpF p n 0 → lb (mk p n ^^^ (-1)) i = false := fun i hi => by rw [hb i (by omega), decide_eq_true (by omega), gpF_up (Nat.zero_le i) hi]; rfl
  repeat (refine zw_go rfl rfl (fun _ _ => rfl) ?_)
  refine zw_call rfl (fun _ _ => rfl) (cNtzL sc M (mk p n ^^^ (-1)) (z := gpF p n 0) (by omega) hz1 hz2) (by decide) ?_
  rintro M1 r1 ⟨rfl, rfl⟩
  repeat (refine zw_go rfl rfl (fun _ _ => rfl) ?_)
  refine zw_br rfl (fun _ _ => rfl) (fun (hc : nI n ≤ nI (gpF p n 0)) => ?_) (fun (hc : ¬ (nI n ≤ nI (gpF p n 0))) => ?_)
  · rw [nI_leI (by omega) (by omega)] at hc
    repeat (refine zw_go rfl rfl (fun _ _ => rfl) ?_)
    refine zw_ret rfl (fun _ _ => rfl) ?_
    rw [mk_cong (p := fun k => p ((gpF p n 0 + k) % n)) (q := p) (n := n) (fun i hi => by rw [show gpF p n 0 = n by omega, add_mod1 (by omega) (by omega), Nat.add_sub_cancel_left])]
    exact ⟨rfl, rfl⟩
  · rw [nI_leI (by omega) (by omega)] at hc
    repeat (refine zw_go rfl rfl (fun _ _ => rfl) ?_)
    rw [nI_sub (by omega)]
    refine zw_call rfl (fun _ _ => rfl) (cMoved sc M1 (mk p n) (nI n) (nI (n - gpF p n 0))) (by decide) ?_
    rintro M2 r2 ⟨rfl, rfl⟩
    rw [moved_mk hn (by omega)]
    repeat (refine zw_go rfl rfl (fun _ _ => rfl) ?_)
    refine zw_ret rfl (fun _ _ => rfl) ?_
    rw [mk_cong (p := fun k => p ((gpF p n 0 + k) % n)) (q := fun k => p (bk n (n - gpF p n 0) k)) (n := n) (fun i hi => by
      congr 1
      unfold bk
      by_cases h5 : gpF p n 0 + i < n
      · rw [Nat.mod_eq_of_lt h5, if_neg (by omega)]; omega
      · rw [add_mod1 (by omega) (by omega), if_pos (by omega)]; omega)]
    exact ⟨rfl, rfl⟩
/-- how many lines, how long -/
def flM (warp : Bool) (w h : Nat) : Nat := if warp then w else h
def flN (warp : Bool) (w h : Nat) : Nat := if warp then h else w
theorem ml_not {p : Nat → Bool} {n : Nat} (hn : n ≤ 64) : (mk p n ^^^ (-1)) &&& mk (fun _ => true) n = mk (fun i => !p i) n := mk_eq hn (fun i hi => by
  rw [lb_and, lb_xor, lb_mk hn, lb_mk hn, lb_m1 hi]
  cases decide (i < n) <;> simp)
set_option maxHeartbeats 4000000 in
set_option maxRecDepth 20000 in
theorem xCountFloats (warp over : Bool) (h7 : I 7 = nI w) (h8 : I 8 = nI h) (hw1 : 1 ≤ w) (hw : w ≤ 48) (hh1 : 1 ≤ h) (hh : h ≤ 48) (hJ : J 0 = mk (fun _ => true) w) (hC : CV I A B w h V) : zC 4 sc 91 [.ref 23, .int (bb warp), .int (bb over)] (xm I J A B tl) (fun M r => r = none ∧ ∃ g, M = xm I J (va_up A 13 g) B tl ∧ ∀ l, l < 49 → g l = nI (cl l (flA V warp over (flN warp w h) (flM warp w h)))) := by
  have hm : flM warp w h ≤ 48 := by unfold flM; split <;> omega
  have hn : flN warp w h ≤ 48 := by unfold flN; split <;> omega
  have hn1 : 1 ≤ flN warp w h := by unfold flN; split <;> omega
  refine zc_of hkX7_countFloats rfl ?_
  repeat (refine zw_go rfl rfl (fun _ _ => rfl) ?_)
  refine zw_call rfl (fun _ _ => rfl) (cFillI sc (xm I J A B tl) 24 49 (A 13) 0 rfl rfl (by decide)) (by decide) ?_
  rintro M1 v ⟨rfl, rfl⟩
  have key : ∀ (k i : Nat) (g : Nat → Int32), i + k = flM warp w h → (∀ l, l < 49 → g l = nI (cl l (flA V warp over (flN warp w h) i))) → zW 3 sc miX7_countFloats 56 [some (.ref 23), some (.int (bb warp)), some (.int (bb over)), some (.int (nI (flM warp w h))), some (.int (nI (flN warp w h))), some (.int (nI i)), none, none] [] (xm I J (va_up A 13 g) B tl) (fun M r => r = none ∧ ∃ g, M = xm I J (va_up A 13 g) B tl ∧ ∀ l, l < 49 → g l = nI (cl l (flA V warp over (flN warp w h) (flM warp w h)))) := by
    intro k
    induction k with
    | zero =>
      intro i g hi hg
      have e1 : i = flM warp w h := by omega
      refine zw_nx rfl (fun _ _ => rfl) ?_
      repeat (refine zw_go rfl rfl (fun _ _ => rfl) ?_)
      first | refine zw_br rfl (fun _ _ => rfl) (fun _ => ?_) (fun h9 => absurd (show nI (flM warp w h) ≤ nI i from nI_le (by omega) (by omega)) h9) | refine zw_nx rfl (fun _ _ => rfl) ?_
      repeat (refine zw_go rfl rfl (fun _ _ => rfl) ?_)
      exact zw_ret rfl (fun _ _ => rfl) (⟨rfl, g, rfl, by rw [← e1]; exact hg⟩)
    | succ k ih =>
      intro i g hi hg
      have step : ∀ x : Int64, (∀ q, q < flN warp w h → lb x q = flB V warp over (flN warp w h) i q) → zC 2 sc 93 [.ref 23, .long x, .int (nI (flN warp w h))] (xm I J (va_up A 13 g) B tl) (fun M r => r = none ∧ ∃ g', M = xm I J (va_up A 13 g') B tl ∧ ∀ l, l < 49 → g' l = nI (cl l (flA V warp over (flN warp w h) (i + 1)))) := by
        intro x hx
        refine zc_post (xCountLine sc I J A B tl x (flN warp w h) hn g) ?_
        rintro M r ⟨rfl, rfl⟩
        refine ⟨rfl, _, rfl, fun l hl => ?_⟩
        rw [flA, cl_app, ← nI_add, hg l hl, rnB_cong hx]
      refine zw_nx rfl (fun _ _ => rfl) ?_
      repeat (refine zw_go rfl rfl (fun _ _ => rfl) ?_)
      refine zw_br rfl (fun _ _ => rfl) (fun h9 => absurd h9 (nI_ge (a := i) (b := (flM warp w h)) (by omega) (by omega))) (fun _ => ?_)
      repeat (refine zw_go rfl rfl (fun _ _ => rfl) ?_)
      refine zw_br rfl (fun _ _ => rfl) (fun h9 => absurd h9 (nI_ge (a := i) (b := 48) (by omega) (by omega))) (fun _ => ?_)
      repeat (refine zw_go rfl rfl (fun _ _ => rfl) ?_)
      cases warp
      · have ho : i < h := by show i < flM false w h; omega
        rw [show flN false w h = w from rfl] at step ⊢
        repeat (refine zw_go rfl rfl (fun _ _ => rfl) ?_)
        refine zw_ix rfl (fun _ _ => rfl) (show vp_in (nI (i)) _ from vp_in_nI (by omega) (by omega)) ?_
        rw [show (nI (i)).toNatClampNeg = i from nI_clamp (by omega)]
        repeat (refine zw_go rfl rfl (fun _ _ => rfl) ?_)
        rw [hC.2.1 i ho, hJ, ml_not (by omega)]
        cases over
        · repeat (refine zw_go rfl rfl (fun _ _ => rfl) ?_)
          refine zw_call rfl (fun _ _ => rfl) (step _ (fun q hq => lb_mk_in (by omega) hq)) (by decide) ?_
          rintro M1 r1 ⟨rfl, g', rfl, hg'⟩
          have hn2 := ih (i + 1) g' (by omega) hg'
          rw [nI_succ] at hn2
          repeat (refine zw_go rfl rfl (fun _ _ => rfl) ?_)
          exact zw_kp hn2
        · repeat (refine zw_go rfl rfl (fun _ _ => rfl) ?_)
          refine zw_call rfl (fun _ _ => rfl) (xCutOpen sc _ (fun e => !vUp V e i) w hw1 hw) (by decide) ?_
          rintro M1 r1 ⟨rfl, rfl⟩
          repeat (refine zw_go rfl rfl (fun _ _ => rfl) ?_)
          refine zw_call rfl (fun _ _ => rfl) (step _ (fun q hq => lb_mk_in (by omega) hq)) (by decide) ?_
          rintro M1 r1 ⟨rfl, g', rfl, hg'⟩
          have hn2 := ih (i + 1) g' (by omega) hg'
          rw [nI_succ] at hn2
          repeat (refine zw_go rfl rfl (fun _ _ => rfl) ?_)
          exact zw_kp hn2
      · have ho : i < w := by show i < flM true w h; omega
        rw [show flN true w h = h from rfl] at step ⊢
        repeat (refine zw_go rfl rfl (fun _ _ => rfl) ?_)
        refine zw_ix rfl (fun _ _ => rfl) (show vp_in (nI (i)) _ from vp_in_nI (by omega) (by omega)) ?_
        rw [show (nI (i)).toNatClampNeg = i from nI_clamp (by omega)]
        repeat (refine zw_go rfl rfl (fun _ _ => rfl) ?_)
        rw [hC.2.2.1 i ho]
        cases over
        · repeat (refine zw_go rfl rfl (fun _ _ => rfl) ?_)
          refine zw_call rfl (fun _ _ => rfl) (step _ (fun q hq => lb_mk_in (by omega) hq)) (by decide) ?_
          rintro M1 r1 ⟨rfl, g', rfl, hg'⟩
          have hn2 := ih (i + 1) g' (by omega) hg'
          rw [nI_succ] at hn2
          repeat (refine zw_go rfl rfl (fun _ _ => rfl) ?_)
          exact zw_kp hn2
        · repeat (refine zw_go rfl rfl (fun _ _ => rfl) ?_)
          refine zw_call rfl (fun _ _ => rfl) (xCutOpen sc _ (fun p => vUp V i p) h hh1 hh) (by decide) ?_
          rintro M1 r1 ⟨rfl, rfl⟩
          repeat (refine zw_go rfl rfl (fun _ _ => rfl) ?_)
          refine zw_call rfl (fun _ _ => rfl) (step _ (fun q hq => lb_mk_in (by omega) hq)) (by decide) ?_
          rintro M1 r1 ⟨rfl, g', rfl, hg'⟩
          have hn2 := ih (i + 1) g' (by omega) hg'
          rw [nI_succ] at hn2
          repeat (refine zw_go rfl rfl (fun _ _ => rfl) ?_)
          exact zw_kp hn2
  have hk := key (flM warp w h) 0 (fun j => if j < 49 then 0 else A 13 j) (by omega) (fun l hl => by
    show (if l < 49 then (0 : Int32) else A 13 l) = _
    rw [if_pos hl]; rfl)
  cases warp
  · repeat (refine zw_go rfl rfl (fun _ _ => rfl) ?_)
    rw [h7, h8]
    exact zw_kp hk
  · repeat (refine zw_go rfl rfl (fun _ _ => rfl) ?_)
    rw [h7, h8]
    exact zw_kp hk
set_option maxHeartbeats 4000000 in
set_option maxRecDepth 20000 in
theorem xLongestOne (l : List Nat) (hg : ∀ q, q < 49 → A 13 q = nI (cl q l)) (hl : ∀ x, x ∈ l → 1 ≤ x ∧ x ≤ 48) (hs : l.length < 2 ^ 30) : zC 1 sc 94 [.ref 23] (xm I J A B tl) (zR (xm I J A B tl) (.int (nI (mxL l)))) := by
  refine zc_of hkX7_longestOne rfl ?_
  repeat (refine zw_go rfl rfl (fun _ _ => rfl) ?_)
  have key : ∀ i, i ≤ 48 → (∀ x, x ∈ l → x ≤ i) → zW 0 sc miX7_longestOne 3 [some (.ref 23), some (.int (nI i))] [] (xm I J A B tl) (zR (xm I J A B tl) (.int (nI (mxL l)))) := by
    intro i
    induction i with
    | zero =>
      intro _ h1
      refine zw_nx rfl (fun _ _ => rfl) ?_
      repeat (refine zw_go rfl rfl (fun _ _ => rfl) ?_)
      exact zw_ret rfl (fun _ _ => rfl) (⟨rfl, by rw [mxL_eq h1 (Or.inl rfl)]; rfl⟩)
    | succ i ih =>
      intro hi h1
      have hcl := cl_len (r := i + 1) (l := l)
      refine zw_nx rfl (fun _ _ => rfl) ?_
      repeat (refine zw_go rfl rfl (fun _ _ => rfl) ?_)
      first | refine zw_br rfl (fun _ _ => rfl) (fun h9 => absurd h9 (show ¬ nI (i + 1) ≤ 0 from nI_nle (by omega) (by omega))) (fun _ => ?_) | refine zw_nx rfl (fun _ _ => rfl) ?_
      repeat (refine zw_go rfl rfl (fun _ _ => rfl) ?_)
      refine zw_ix rfl (fun _ _ => rfl) (show vp_in (nI ((i + 1))) _ from vp_in_nI (by omega) (by omega)) ?_
      rw [show (nI ((i + 1))).toNatClampNeg = (i + 1) from nI_clamp (by omega)]
      repeat (refine zw_go rfl rfl (fun _ _ => rfl) ?_)
      rw [hg (i + 1) (by omega)]
      refine zw_br rfl (fun _ _ => rfl) (fun (hc : nI (cl (i + 1) l) ≤ 0) => ?_) (fun (hc : ¬ (nI (cl (i + 1) l) ≤ 0)) => ?_)
      · have h0 : cl (i + 1) l = 0 := by
          rcases Nat.eq_zero_or_pos (cl (i + 1) l) with h | h
          · exact h
          · exact absurd hc (nI_nle h (by omega))
        repeat (refine zw_go rfl rfl (fun _ _ => rfl) ?_)
        rw [show nI (i + 1) + Int32.ofInt (-1) = nI i from by rw [← nI_pred i, Int32.sub_eq_add_neg]; rfl]
        exact zw_kp (ih (by omega) (fun x hx => by
          have := h1 x hx
          by_cases h5 : x = i + 1
          · subst h5
            have := cl_pos.mpr hx
            omega
          · omega))
      · have h0 : 0 < cl (i + 1) l := by
          rcases Nat.eq_zero_or_pos (cl (i + 1) l) with h | h
          · rw [h] at hc; exact absurd (by decide) hc
          · exact h
        repeat (refine zw_go rfl rfl (fun _ _ => rfl) ?_)
        exact zw_ret rfl (fun _ _ => rfl) (⟨rfl, by rw [mxL_eq h1 (Or.inr (cl_pos.mp h0))]⟩)
  exact zw_kp (key 48 (by omega) (fun x hx => (hl x hx).2))
set_option maxHeartbeats 4000000 in
set_option maxRecDepth 20000 in
theorem xLongerThan (l : List Nat) (m : Int32) (hg : ∀ q, q < 49 → A 13 q = nI (cl q l)) (hl : ∀ x, x ∈ l → 1 ≤ x ∧ x ≤ 48) : zC 1 sc 95 [.ref 23, .int m] (xm I J A B tl) (zR (xm I J A B tl) (.int (nI (gtC m l)))) := by
  refine zc_of hkX7_longerThan rfl ?_
  repeat (refine zw_go rfl rfl (fun _ _ => rfl) ?_)
  rw [← gtC_sum hl]
  have key : ∀ (k i : Nat), i + k = 48 → zW 0 sc miX7_longerThan 4 [some (.ref 23), some (.int m), some (.int (nI (sumN (fun i => if m < nI (i + 1) then cl (i + 1) l else 0) i))), some (.int (nI (i + 1)))] [] (xm I J A B tl) (zR (xm I J A B tl) (.int (nI (sumN (fun i => if m < nI (i + 1) then cl (i + 1) l else 0) 48)))) := by
    intro k
    induction k with
    | zero =>
      intro i hi
      have e1 : i = 48 := by omega
      subst e1
      refine zw_nx rfl (fun _ _ => rfl) ?_
      repeat (refine zw_go rfl rfl (fun _ _ => rfl) ?_)
      exact zw_ret rfl (fun _ _ => rfl) (⟨rfl, rfl⟩)
    | succ k ih =>
      intro i hi
      have hn1 := ih (i + 1) (by omega)
      rw [nI_succ (i + 1), sumN] at hn1
      refine zw_nx rfl (fun _ _ => rfl) ?_
      repeat (refine zw_go rfl rfl (fun _ _ => rfl) ?_)
      first | refine zw_br rfl (fun _ _ => rfl) (fun h9 => absurd h9 (show ¬ (48 : Int32) < nI (i + 1) from nI_nlt (a := 48) (by omega) (by omega))) (fun _ => ?_) | refine zw_nx rfl (fun _ _ => rfl) ?_
      repeat (refine zw_go rfl rfl (fun _ _ => rfl) ?_)
      refine zw_br rfl (fun _ _ => rfl) (fun (hc : nI (i + 1) ≤ m) => ?_) (fun (hc : ¬ (nI (i + 1) ≤ m)) => ?_)
      · rw [if_neg (Int32.not_lt.mpr hc), Nat.add_zero] at hn1
        repeat (refine zw_go rfl rfl (fun _ _ => rfl) ?_)
        exact zw_kp hn1
      · rw [if_pos (Int32.not_le.mp hc), ← nI_add] at hn1
        repeat (refine zw_go rfl rfl (fun _ _ => rfl) ?_)
        refine zw_ix rfl (fun _ _ => rfl) (show vp_in (nI ((i + 1))) _ from vp_in_nI (by omega) (by omega)) ?_
        rw [show (nI ((i + 1))).toNatClampNeg = (i + 1) from nI_clamp (by omega)]
        repeat (refine zw_go rfl rfl (fun _ _ => rfl) ?_)
        rw [hg (i + 1) (by omega)]
        exact zw_kp hn1
  exact zw_kp (key 48 0 (by omega))
theorem cv_13 {I : Nat → Int32} {A : Nat → Nat → Int32} {B : Nat → Nat → Int64} {w h : Nat} {V : Nat → Int32} {J : Nat → Int64} (g : Nat → Int32) (hW : WH w h I J A B) : WH w h I J (va_up A 13 g) B := hW
set_option maxHeartbeats 4000000 in
set_option maxRecDepth 20000 in
theorem xLongest (warp over : Bool) (hW : WH w h I J A B) : zC 5 sc 129 [.ref 0, .int (bb warp), .int (bb over)] (xm I J A B tl) (fun M r => r = some (.int (nI (mxL (flA (A 3) warp over (flN warp w h) (flM warp w h))))) ∧ XQ tl w h I J A B M) := by
  refine zc_of hkX10_longest rfl ?_
  repeat (refine zw_go rfl rfl (fun _ _ => rfl) ?_)
  refine zw_call rfl (fun _ _ => rfl) (xWv sc I J A B tl w h hW) (by decide) ?_
  rintro M1 r1 ⟨rfl, I', A', B', rfl, hW2, hC, hK⟩
  have hW3 := hW2
  obtain ⟨h0, h1, h7, h8, hw1, hw, hh1, hh, hJ, hV, hC', hR⟩ := hW2
  have hn : flN warp w h ≤ 48 := by unfold flN; split <;> omega
  have hm : flM warp w h ≤ 48 := by unfold flM; split <;> omega
  have hlen := flA_len (V := A 3) (warp := warp) (over := over) hn (i := flM warp w h)
  repeat (refine zw_go rfl rfl (fun _ _ => rfl) ?_)
  refine zw_call rfl (fun _ _ => rfl) (xCountFloats sc I' J A' B' tl w h (A 3) warp over h7 h8 hw1 hw hh1 hh hJ hC) (by decide) ?_
  rintro M1 r1 ⟨rfl, g, rfl, hg⟩
  repeat (refine zw_go rfl rfl (fun _ _ => rfl) ?_)
  refine zw_call rfl (fun _ _ => rfl) (xLongestOne sc I' J (va_up A' 13 g) B' tl (flA (A 3) warp over (flN warp w h) (flM warp w h)) hg (fun x hx => by have := flA_el hx; omega) (by omega)) (by decide) ?_
  rintro M1 r1 ⟨rfl, rfl⟩
  repeat (refine zw_go rfl rfl (fun _ _ => rfl) ?_)
  refine zw_ret rfl (fun _ _ => rfl) ?_
  refine ⟨rfl, I', va_up A' 13 g, B', rfl, cv_13 (V := A 3) g hW3, (wk_xk hK).1, fun a ha hb => ?_, (wk_xk hK).2.2⟩
  show va_up A' 13 g a = A a
  unfold va_up
  rw [if_neg hb]
  exact (wk_xk hK).2.1 a ha hb
set_option maxHeartbeats 4000000 in
set_option maxRecDepth 20000 in
theorem xFloats (warp over : Bool) (m : Int32) (hW : WH w h I J A B) : zC 5 sc 130 [.ref 0, .int (bb warp), .int (bb over), .int m] (xm I J A B tl) (fun M r => r = some (.int (nI (gtC m (flA (A 3) warp over (flN warp w h) (flM warp w h))))) ∧ XQ tl w h I J A B M) := by
  refine zc_of hkX10_floats rfl ?_
  repeat (refine zw_go rfl rfl (fun _ _ => rfl) ?_)
  refine zw_call rfl (fun _ _ => rfl) (xWv sc I J A B tl w h hW) (by decide) ?_
  rintro M1 r1 ⟨rfl, I', A', B', rfl, hW2, hC, hK⟩
  have hW3 := hW2
  obtain ⟨h0, h1, h7, h8, hw1, hw, hh1, hh, hJ, hV, hC', hR⟩ := hW2
  have hn : flN warp w h ≤ 48 := by unfold flN; split <;> omega
  repeat (refine zw_go rfl rfl (fun _ _ => rfl) ?_)
  refine zw_call rfl (fun _ _ => rfl) (xCountFloats sc I' J A' B' tl w h (A 3) warp over h7 h8 hw1 hw hh1 hh hJ hC) (by decide) ?_
  rintro M1 r1 ⟨rfl, g, rfl, hg⟩
  repeat (refine zw_go rfl rfl (fun _ _ => rfl) ?_)
  refine zw_call rfl (fun _ _ => rfl) (xLongerThan sc I' J (va_up A' 13 g) B' tl (flA (A 3) warp over (flN warp w h) (flM warp w h)) m hg (fun x hx => by have := flA_el hx; omega)) (by decide) ?_
  rintro M1 r1 ⟨rfl, rfl⟩
  repeat (refine zw_go rfl rfl (fun _ _ => rfl) ?_)
  refine zw_ret rfl (fun _ _ => rfl) ?_
  refine ⟨rfl, I', va_up A' 13 g, B', rfl, cv_13 (V := A 3) g hW3, (wk_xk hK).1, fun a ha hb => ?_, (wk_xk hK).2.2⟩
  show va_up A' 13 g a = A a
  unfold va_up
  rw [if_neg hb]
  exact (wk_xk hK).2.1 a ha hb
end

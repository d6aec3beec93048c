/-! TEXTS: their TOKENS -/
def isBl (c : Nat) : Bool := decide (c = 32 ∨ c = 10)
def isDg (c : Nat) : Bool := decide (48 ≤ c ∧ c ≤ 57)
def isAl (c : Nat) : Bool := decide ((97 ≤ c ∧ c ≤ 122) ∨ (65 ≤ c ∧ c ≤ 90))
def isSg (c : Nat) : Bool := decide (c = 61 ∨ c = 44 ∨ c = 59 ∨ c = 42 ∨ c = 40 ∨ c = 41)
/-- how far those of a kind go on -/
def spn (P : Nat → Bool) (b : Nat → Nat) : Nat → Nat → Nat
  | 0, p => p
  | k + 1, p => if P (b p) then spn P b k (p + 1) else p
def spN (P : Nat → Bool) (b : Nat → Nat) (n p : Nat) : Nat := spn P b (n - p) p
theorem spn_b {P : Nat → Bool} {b : Nat → Nat} : ∀ {k p : Nat}, p ≤ spn P b k p ∧ spn P b k p ≤ p + k ∧ (∀ i, p ≤ i → i < spn P b k p → P (b i) = true) := by
  intro k
  induction k with
  | zero => intro p; exact ⟨Nat.le_refl _, Nat.le_refl _, fun i h1 h2 => by rw [spn] at h2; omega⟩
  | succ k ih =>
    intro p
    rw [spn]
    split
    · rename_i h1
      obtain ⟨h2, h3, h4⟩ := ih (p := p + 1)
      refine ⟨by omega, by omega, fun i h5 h6 => ?_⟩
      by_cases h7 : i = p
      · subst h7; exact h1
      · exact h4 i (by omega) h6
    · exact ⟨Nat.le_refl _, by omega, fun i h5 h6 => by omega⟩
theorem spN_ge {P : Nat → Bool} {b : Nat → Nat} {n p : Nat} : p ≤ spN P b n p := spn_b.1
theorem spN_le {P : Nat → Bool} {b : Nat → Nat} {n p : Nat} (h : p ≤ n) : spN P b n p ≤ n := by
  have := (spn_b (P := P) (b := b) (k := n - p) (p := p)).2.1
  unfold spN
  omega
theorem spN_in {P : Nat → Bool} {b : Nat → Nat} {n p i : Nat} (h1 : p ≤ i) (h2 : i < spN P b n p) : P (b i) = true := spn_b.2.2 i h1 h2
theorem spN_go {P : Nat → Bool} {b : Nat → Nat} {n p : Nat} (h1 : p < n) (h2 : P (b p) = true) : spN P b n p = spN P b n (p + 1) := by
  unfold spN
  rw [show n - p = (n - (p + 1)) + 1 by omega, spn, if_pos h2]
theorem spN_no {P : Nat → Bool} {b : Nat → Nat} {n p : Nat} (h2 : P (b p) = false) : spN P b n p = p := by
  unfold spN
  cases h : n - p with
  | zero => rfl
  | succ k => rw [spn, h2, if_neg (by decide)]
theorem spN_end {P : Nat → Bool} {b : Nat → Nat} {n p : Nat} (h : n ≤ p) : spN P b n p = p := by
  unfold spN
  rw [show n - p = 0 by omega, spn]
/-- a NUMBER, 999 at most -/
def nmV (b : Nat → Nat) (q : Nat) : Nat → Nat
  | 0 => 0
  | k + 1 => min 999 (nmV b q k * 10 + (b (q + k) - 48))
theorem nmV_le {b : Nat → Nat} {q : Nat} : ∀ {k : Nat}, nmV b q k ≤ 999 := by
  intro k
  cases k with
  | zero => exact Nat.zero_le _
  | succ k => rw [nmV]; omega
def wrd (b : Nat → Nat) (q : Nat) : Nat → List Nat
  | 0 => []
  | k + 1 => wrd b q k ++ [b (q + k)]
theorem wrd_len {b : Nat → Nat} {q : Nat} : ∀ {k : Nat}, (wrd b q k).length = k := by
  intro k
  induction k with
  | zero => rfl
  | succ k ih => rw [wrd, List.length_append, ih]; rfl
theorem wrd_get {b : Nat → Nat} {q : Nat} : ∀ {k i : Nat}, i < k → (wrd b q k)[i]? = some (b (q + i)) := by
  intro k
  induction k with
  | zero => intro i h; omega
  | succ k ih =>
    intro i h
    rw [wrd]
    by_cases h1 : i = k
    · subst h1
      rw [List.getElem?_append_right (by rw [wrd_len]; exact Nat.le_refl _), wrd_len, Nat.sub_self]; rfl
    · rw [List.getElem?_append_left (by rw [wrd_len]; omega)]; exact ih (by omega)
theorem wrd_eq {b : Nat → Nat} {q k : Nat} {l : List Nat} : wrd b q k = l ↔ k = l.length ∧ ∀ i, i < k → l[i]? = some (b (q + i)) := by
  constructor
  · intro h
    subst h
    exact ⟨wrd_len.symm, fun i hi => wrd_get hi⟩
  · rintro ⟨h1, h2⟩
    apply List.ext_getElem?
    intro i
    rcases Nat.lt_or_ge i k with h3 | h3
    · rw [wrd_get h3, h2 i h3]
    · rw [List.getElem?_eq_none (by rw [wrd_len]; exact h3), List.getElem?_eq_none (by omega)]
def wBlock : List Nat := [98, 108, 111, 99, 107]
def wThread : List Nat := [116, 104, 114, 101, 97, 100]
def wTread : List Nat := [116, 114, 101, 97, 100]
def wTie : List Nat := [116, 105, 101]
def wTo : List Nat := [116, 111]
def wMirror : List Nat := [109, 105, 114, 114, 111, 114]
def wBack : List Nat := [98, 97, 99, 107]
def wPlus : List Nat := [112, 108, 117, 115]
def kdW (l : List Nat) : Nat := if l = wBlock then 4 else if l = wThread then 5 else if l = wTread then 6 else if l = wTie then 7 else if l = wTo then 8 else if l = wMirror then 9 else if l = wBack then 10 else if l = wPlus then 11 else 1
/-- of the TOKEN from p on: its place, kind, number, and where the next begins -/
def tkP (b : Nat → Nat) (n p : Nat) : Nat := spN isBl b n p
def kAt (b : Nat → Nat) (n q : Nat) : Nat := if n ≤ q then 0 else if isDg (b q) then 2 else if isAl (b q) then (if spN isAl b n q = q + 1 ∧ 65 ≤ b q ∧ b q ≤ 72 then 3 else kdW (wrd b q (spN isAl b n q - q))) else if isSg (b q) then b q else 1
def xAt (b : Nat → Nat) (n q : Nat) : Nat := if n ≤ q then q else if isDg (b q) then spN isDg b n q else if isAl (b q) then spN isAl b n q else q + 1
def nAt (b : Nat → Nat) (n q : Nat) : Nat := if isDg (b q) then nmV b q (spN isDg b n q - q) else b q - 65
def tkK (b : Nat → Nat) (n p : Nat) : Nat := kAt b n (tkP b n p)
def tkX (b : Nat → Nat) (n p : Nat) : Nat := xAt b n (tkP b n p)
def tkN (b : Nat → Nat) (n p : Nat) : Nat := nAt b n (tkP b n p)
theorem kdW_le {l : List Nat} : 1 ≤ kdW l ∧ kdW l ≤ 11 := by
  unfold kdW
  repeat (first | (split; (omega)) | omega)
theorem tkP_le {b : Nat → Nat} {n p : Nat} (h : p ≤ n) : tkP b n p ≤ n := spN_le h
theorem tkX_le {b : Nat → Nat} {n p : Nat} (h : p ≤ n) : tkX b n p ≤ n := by
  have h1 := tkP_le (b := b) h
  unfold tkX xAt
  split
  · exact h1
  · split
    · exact spN_le h1
    · split
      · exact spN_le h1
      · omega
theorem dg_al {c : Nat} (h : isDg c = true) : isAl c = false := by
  unfold isDg at h
  unfold isAl
  rw [decide_eq_true_eq] at h
  exact decide_eq_false (by omega)
theorem kAt_pos {b : Nat → Nat} {n q : Nat} (h : q < n) : 1 ≤ kAt b n q := by
  unfold kAt
  rw [if_neg (by omega)]
  split
  · omega
  · split
    · split
      · omega
      · exact kdW_le.1
    · split
      · rename_i h1
        unfold isSg at h1
        rw [decide_eq_true_eq] at h1
        omega
      · omega
theorem tk_0 {b : Nat → Nat} {n p : Nat} : tkK b n p = 0 ↔ n ≤ tkP b n p := by
  constructor
  · intro h
    rcases Nat.lt_or_ge (tkP b n p) n with h1 | h1
    · have := kAt_pos (b := b) h1
      unfold tkK at h
      omega
    · exact h1
  · intro h
    unfold tkK kAt
    rw [if_pos h]
/-- each TOKEN takes a byte at least -/
theorem tkX_gt {b : Nat → Nat} {n p : Nat} (h : tkK b n p ≠ 0) : p < tkX b n p ∧ p < n := by
  have h1 : tkP b n p < n := by
    rcases Nat.lt_or_ge (tkP b n p) n with h1 | h1
    · exact h1
    · exact absurd (tk_0.mpr h1) h
  have h2 : p ≤ tkP b n p := spN_ge
  refine ⟨?_, by omega⟩
  unfold tkX xAt
  rw [if_neg (by omega)]
  split
  · rename_i h3
    rw [spN_go h1 h3]
    have := spN_ge (P := isDg) (b := b) (n := n) (p := tkP b n p + 1)
    omega
  · split
    · rename_i h3
      rw [spN_go h1 h3]
      have := spN_ge (P := isAl) (b := b) (n := n) (p := tkP b n p + 1)
      omega
    · omega
theorem kAt_3 {b : Nat → Nat} {n q : Nat} (h : kAt b n q = 3) : nAt b n q < 8 := by
  unfold kAt at h
  split at h
  · omega
  · split at h
    · omega
    · rename_i h2
      split at h
      · split at h
        · rename_i h3
          unfold nAt
          rw [if_neg h2]
          omega
        · have := kdW_le (l := wrd b q (spN isAl b n q - q))
          unfold kdW at h
          exfalso
          revert h
          repeat (first | (split; (omega)) | omega)
      · split at h
        · rename_i h1
          unfold isSg at h1
          rw [decide_eq_true_eq] at h1
          omega
        · omega
theorem tk_num {b : Nat → Nat} {n p : Nat} (h : tkK b n p = 2 ∨ tkK b n p = 3) : tkN b n p ≤ 999 := by
  rcases h with h | h
  · unfold tkN nAt
    split
    · exact nmV_le
    · rename_i h1
      exfalso
      unfold tkK kAt at h
      rw [if_neg h1] at h
      split at h
      · omega
      · split at h
        · split at h
          · omega
          · have : kdW (wrd b (tkP b n p) (spN isAl b n (tkP b n p) - tkP b n p)) = 2 := h
            unfold kdW at this
            revert this
            repeat (first | (split; (omega)) | omega)
        · split at h
          · rename_i h2
            unfold isSg at h2
            rw [decide_eq_true_eq] at h2
            omega
          · omega
  · have := kAt_3 h
    unfold tkN
    omega
theorem tk_let {b : Nat → Nat} {n p : Nat} (h : tkK b n p = 3) : tkN b n p < 8 := kAt_3 h

/-! MENDED: what it is -/
theorem cnt_z {p : Nat → Bool} : ∀ {n : Nat}, cnt p n = 0 → ∀ i, i < n → p i = false := by
  intro n
  induction n with
  | zero => intro _ i hi; omega
  | succ n ih =>
    intro h i hi
    rw [cnt] at h
    by_cases h1 : i = n
    · subst h1
      cases h2 : p i
      · rfl
      · rw [h2, if_pos rfl] at h; omega
    · exact ih (by omega) i (by omega)
theorem dK_0 {lf : Nat → Int32} {S : Nat → Nat → Bool} {h e k : Nat} (hh : h ≤ 48) : dK lf S h e k = 0 ↔ mk (fun p => S e p) h = mk (fun p => colK lf k p) h := by
  rw [mk_inj (by omega)]
  constructor
  · intro h1 p hp
    have := cnt_z h1 p hp
    cases h2 : S e p <;> cases h3 : colK lf k p <;> simp [h2, h3] at this ⊢
  · intro h1
    refine cnt_0 (fun p hp => ?_)
    rw [h1 p hp]
    simp
/-- an END fits a SHAFT -/
def fit (lf : Nat → Int32) (S : Nat → Nat → Bool) (h k e : Nat) : Bool := decide (dK lf S h e k = 0)
theorem nrF_min {d : Nat → Nat} {b : Nat} : ∀ {n : Nat}, d (nrF d b n) ≤ d b ∧ ∀ k, k < n → d (nrF d b n) ≤ d k := by
  intro n
  induction n with
  | zero => exact ⟨Nat.le_refl _, fun k hk => by omega⟩
  | succ n ih =>
    rw [nrF]
    split
    · rename_i h1
      refine ⟨by omega, fun k hk => ?_⟩
      by_cases h2 : k = n
      · rw [h2]; exact Nat.le_refl _
      · have := ih.2 k (by omega); omega
    · rename_i h1
      refine ⟨ih.1, fun k hk => ?_⟩
      by_cases h2 : k = n
      · subst h2; omega
      · exact ih.2 k (by omega)
theorem nrF_own {d : Nat → Nat} {b : Nat} (h : d b = 0) : ∀ {n : Nat}, nrF d b n = b := by
  intro n
  induction n with
  | zero => rfl
  | succ n ih => rw [nrF, ih, if_neg (by omega)]
/-- the first that fits -/
theorem nrF_fst {d : Nat → Nat} {b k : Nat} (hb : ¬ d b = 0) (h1 : d k = 0) (h2 : ∀ j, j < k → ¬ d j = 0) : ∀ {n : Nat}, k < n → nrF d b n = k := by
  have h3 : ∀ m, m ≤ k → ¬ d (nrF d b m) = 0 := by
    intro m
    induction m with
    | zero => intro _; exact hb
    | succ m ih =>
      intro hm
      rw [nrF]
      split
      · exact h2 m (by omega)
      · exact ih (by omega)
  have h4 : nrF d b (k + 1) = k := by
    have := h3 k (Nat.le_refl _)
    rw [nrF, if_pos (by omega)]
  intro n
  induction n with
  | zero => intro h; omega
  | succ n ih =>
    intro h
    by_cases h5 : k = n
    · subst h5; exact h4
    · rw [nrF, ih (by omega), if_neg (by omega)]
/-- some fits; two fit -/
def sB (F : Nat → Nat → Bool) : Nat → Nat → Bool
  | 0, _ => false
  | n + 1, e => sB F n e || F n e
def eB (F : Nat → Nat → Bool) : Nat → Nat → Bool
  | 0, _ => false
  | n + 1, e => eB F n e || (sB F n e && F n e)
theorem sB_iff {F : Nat → Nat → Bool} {e : Nat} : ∀ {n : Nat}, sB F n e = true ↔ ∃ k, k < n ∧ F k e = true := by
  intro n
  induction n with
  | zero => exact ⟨fun h => (by cases h), fun ⟨k, h, _⟩ => by omega⟩
  | succ n ih =>
    rw [sB, Bool.or_eq_true, ih]
    constructor
    · rintro (⟨k, h1, h2⟩ | h)
      · exact ⟨k, by omega, h2⟩
      · exact ⟨n, by omega, h⟩
    · rintro ⟨k, h1, h2⟩
      by_cases h3 : k = n
      · subst h3; exact Or.inr h2
      · exact Or.inl ⟨k, by omega, h2⟩
theorem eB_iff {F : Nat → Nat → Bool} {e : Nat} : ∀ {n : Nat}, eB F n e = true ↔ ∃ i j, i < j ∧ j < n ∧ F i e = true ∧ F j e = true := by
  intro n
  induction n with
  | zero => exact ⟨fun h => (by cases h), fun ⟨i, j, _, h, _⟩ => by omega⟩
  | succ n ih =>
    rw [eB, Bool.or_eq_true, ih, Bool.and_eq_true, sB_iff]
    constructor
    · rintro (⟨i, j, h1, h2, h3, h4⟩ | ⟨⟨k, h1, h2⟩, h⟩)
      · exact ⟨i, j, h1, by omega, h3, h4⟩
      · exact ⟨k, n, h1, by omega, h2, h⟩
    · rintro ⟨i, j, h1, h2, h3, h4⟩
      by_cases h5 : j = n
      · subst h5; exact Or.inr ⟨⟨i, h1, h3⟩, h4⟩
      · exact Or.inl ⟨i, j, h1, by omega, h3, h4⟩
/-- the cost of the threading -/
def cst (lf : Nat → Int32) (S : Nat → Nat → Bool) (o : Nat → Nat) (w h : Nat) : Option Nat := if ∀ e, e < w → sB (fit lf S h) 17 e = true then some (cnt (fun e => !fit lf S h (o e) e) w) else none
/-- a TIE with one SHAFT more or less -/
def tgT (ti : Nat → Int32) (t s : Nat) : Nat → Int32 := fun a => if a = t then ti a ^^^ ((1 : Int32) <<< (nI s &&& 31)) else ti a
def lfT (V : Nat → Int32) (t s : Nat) : Nat → Int32 := liF (tgT (fun a => V (48 + a)) t s) (fun p => V (64 + p))
theorem ib_orI {p : Nat → Bool} {g : Nat → Int32} {i : Nat} : ∀ {n : Nat}, ib (orI p g n) i = true ↔ ∃ s, s < n ∧ p s = true ∧ ib (g s) i = true := by
  intro n
  induction n with
  | zero =>
    unfold orI
    rw [ib_0]
    exact ⟨fun h => absurd h (by simp), fun ⟨s, h, _⟩ => by omega⟩
  | succ n ih =>
    unfold orI
    by_cases hp : p n = true
    · rw [if_pos hp, ib_or, Bool.or_eq_true, ih]
      constructor
      · rintro (⟨s, h1, h2, h3⟩ | h)
        · exact ⟨s, by omega, h2, h3⟩
        · exact ⟨n, by omega, hp, h⟩
      · rintro ⟨s, h1, h2, h3⟩
        by_cases hs : s = n
        · subst hs; exact Or.inr h3
        · exact Or.inl ⟨s, by omega, h2, h3⟩
    · rw [if_neg hp, ih]
      constructor
      · rintro ⟨s, h1, h2, h3⟩
        exact ⟨s, by omega, h2, h3⟩
      · rintro ⟨s, h1, h2, h3⟩
        by_cases hs : s = n
        · subst hs; exact absurd h2 hp
        · exact ⟨s, by omega, h2, h3⟩
theorem tg_bit {ti : Nat → Int32} {t s a i : Nat} (hs : s < 16) (hi : i < 32) : ib (tgT ti t s a) i = (ib (ti a) i ^^ (decide (a = t) && decide (i = s))) := by
  unfold tgT
  by_cases h : a = t
  · rw [if_pos h, ib_xor, shl_bit s hs i hi, decide_eq_true h, Bool.true_and]
  · rw [if_neg h, decide_eq_false h, Bool.false_and, Bool.xor_false]
theorem tg_other {ti tr : Nat → Int32} {t s p i : Nat} (hs : s < 16) (hi : i < 32) (h : ¬ i = s) : ib (liF (tgT ti t s) tr p) i = ib (liF ti tr p) i := by
  rw [Bool.eq_iff_iff]
  unfold liF
  rw [ib_orI, ib_orI]
  have e : ∀ a, ib (tgT ti t s a) i = ib (ti a) i := fun a => by rw [tg_bit hs hi, decide_eq_false h, Bool.and_false, Bool.xor_false]
  constructor
  · rintro ⟨a, h1, h2, h3⟩; exact ⟨a, h1, h2, by rw [← e a]; exact h3⟩
  · rintro ⟨a, h1, h2, h3⟩; exact ⟨a, h1, h2, by rw [e a]; exact h3⟩
theorem colK_other {V : Nat → Int32} {t s k p : Nat} (hs : s < 16) (hk : k ≤ 16) (h : ¬ k = s + 1) : colK (lfT V t s) k p = colK (vLi V) k p := by
  unfold colK
  by_cases h1 : 1 ≤ k
  · rw [decide_eq_true h1, Bool.true_and, Bool.true_and]
    exact tg_other hs (by omega) (by omega)
  · rw [decide_eq_false h1]; rfl
theorem dK_cong {lf lg : Nat → Int32} {S : Nat → Nat → Bool} {h e k : Nat} (hc : ∀ p, p < h → colK lf k p = colK lg k p) : dK lf S h e k = dK lg S h e k := cnt_cong (fun p hp => by rw [hc p hp])
theorem fit_other {V : Nat → Int32} {S : Nat → Nat → Bool} {h t s k e : Nat} (hs : s < 16) (hk : k ≤ 16) (hne : ¬ k = s + 1) : fit (lfT V t s) S h k e = fit (vLi V) S h k e := by
  unfold fit
  rw [dK_cong (fun p _ => colK_other hs hk hne)]
/-- who fits none behind the change -/
theorem cst_T {V : Nat → Int32} {S : Nat → Nat → Bool} {o : Nat → Nat} {w h t s : Nat} (hs : s < 16) (ho : ∀ e, e < w → o e ≤ 16) : cst (lfT V t s) S o w h = if ∀ e, e < w → ((!sB (fit (vLi V) S h) 17 e || (fit (vLi V) S h (s + 1) e && !eB (fit (vLi V) S h) 17 e)) && !fit (lfT V t s) S h (s + 1) e) = false then some (cnt (fun e => (!fit (vLi V) S h (o e) e && !decide (o e = s + 1)) || (decide (o e = s + 1) && !fit (lfT V t s) S h (s + 1) e)) w) else none := by
  have fo : ∀ k e, k ≤ 16 → ¬ k = s + 1 → fit (lfT V t s) S h k e = fit (vLi V) S h k e := fun k e h1 h2 => fit_other hs h1 h2
  have key : ∀ e, sB (fit (lfT V t s) S h) 17 e = true ↔ ((!sB (fit (vLi V) S h) 17 e || (fit (vLi V) S h (s + 1) e && !eB (fit (vLi V) S h) 17 e)) && !fit (lfT V t s) S h (s + 1) e) = false := by
    intro e
    constructor
    · intro h1
      obtain ⟨k, hk, h2⟩ := sB_iff.mp h1
      by_cases h3 : k = s + 1
      · subst h3; rw [h2]; simp
      · rw [fo k e (by omega) h3] at h2
        have h4 : sB (fit (vLi V) S h) 17 e = true := sB_iff.mpr ⟨k, hk, h2⟩
        have h5 : fit (vLi V) S h (s + 1) e = true → eB (fit (vLi V) S h) 17 e = true := fun h6 => by
          rcases Nat.lt_or_ge k (s + 1) with h7 | h7
          · exact eB_iff.mpr ⟨k, s + 1, h7, by omega, h2, h6⟩
          · exact eB_iff.mpr ⟨s + 1, k, by omega, hk, h6, h2⟩
        rw [h4]
        cases h6 : fit (vLi V) S h (s + 1) e
        · simp
        · rw [h5 h6]; simp
    · intro h1
      cases h2 : fit (lfT V t s) S h (s + 1) e with
      | true => exact sB_iff.mpr ⟨s + 1, by omega, h2⟩
      | false =>
        rw [h2] at h1
        simp only [Bool.not_false, Bool.and_true, Bool.or_eq_false_iff, Bool.not_eq_false'] at h1
        obtain ⟨h3, h4⟩ := h1
        obtain ⟨k, hk, h5⟩ := sB_iff.mp h3
        by_cases h6 : k = s + 1
        · subst h6
          rw [h5, Bool.true_and, Bool.not_eq_false'] at h4
          obtain ⟨i, j, h7, h8, h9, h10⟩ := eB_iff.mp h4
          by_cases h11 : i = s + 1
          · exact sB_iff.mpr ⟨j, h8, by rw [fo j e (by omega) (by omega)]; exact h10⟩
          · exact sB_iff.mpr ⟨i, by omega, by rw [fo i e (by omega) h11]; exact h9⟩
        · exact sB_iff.mpr ⟨k, hk, by rw [fo k e (by omega) h6]; exact h5⟩
  unfold cst
  have e1 : (∀ e, e < w → sB (fit (lfT V t s) S h) 17 e = true) ↔ (∀ e, e < w → ((!sB (fit (vLi V) S h) 17 e || (fit (vLi V) S h (s + 1) e && !eB (fit (vLi V) S h) 17 e)) && !fit (lfT V t s) S h (s + 1) e) = false) := ⟨fun z e he => (key e).mp (z e he), fun z e he => (key e).mpr (z e he)⟩
  by_cases h1 : ∀ e, e < w → sB (fit (lfT V t s) S h) 17 e = true
  · rw [if_pos h1, if_pos (e1.mp h1)]
    congr 1
    refine cnt_cong (fun e he => ?_)
    by_cases h2 : o e = s + 1
    · rw [decide_eq_true h2, h2]; simp
    · rw [decide_eq_false h2, fo (o e) e (ho e he) h2]; simp
  · rw [if_neg h1, if_neg (fun z => h1 (e1.mpr z))]
/-- the search: cost, TREADLE, SHAFT -/
abbrev mSt : Type := Option Nat × Int32 × Int32
def mNx (c : Option Nat) (t s : Nat) (q : mSt) : mSt := match c with
  | none => q
  | some v => match q.1 with
    | none => (some (v + 1), nI t, nI s)
    | some b => if v + 1 < b then (some (v + 1), nI t, nI s) else q
def mFo (V : Nat → Int32) (S : Nat → Nat → Bool) (w h : Nat) : Nat → mSt
  | 0 => (cst (vLi V) S (fun e => idx (V e)) w h, -1, -1)
  | q + 1 => mNx (cst (lfT V (q / 16) (q % 16)) S (fun e => idx (V e)) w h) (q / 16) (q % 16) (mFo V S w h q)
/-- the state is in its bounds -/
def mOk (q : mSt) : Prop := (∀ c, q.1 = some c → c ≤ 49) ∧ ((q.2.1 = -1 ∧ q.2.2 = -1) ∨ ∃ t s, t < 16 ∧ s < 16 ∧ q.2.1 = nI t ∧ q.2.2 = nI s)
theorem cst_le {lf : Nat → Int32} {S : Nat → Nat → Bool} {o : Nat → Nat} {w h v : Nat} (hc : cst lf S o w h = some v) : v ≤ w := by
  unfold cst at hc
  split at hc
  · cases hc; exact cnt_le
  · cases hc
theorem mNx_ok {V : Nat → Int32} {S : Nat → Nat → Bool} {o : Nat → Nat} {lf : Nat → Int32} {w h t s : Nat} {q : mSt} (hw : w ≤ 48) (ht : t < 16) (hs : s < 16) (hq : mOk q) : mOk (mNx (cst lf S o w h) t s q) := by
  unfold mNx
  cases hc : cst lf S o w h with
  | none => exact hq
  | some v =>
    have hv := cst_le hc
    have new : mOk (some (v + 1), nI t, nI s) := ⟨fun c h => by cases h; omega, Or.inr ⟨t, s, ht, hs, rfl, rfl⟩⟩
    show mOk (match q.1 with | none => (some (v + 1), nI t, nI s) | some b => if v + 1 < b then (some (v + 1), nI t, nI s) else q)
    cases h1 : q.1 with
    | none => exact new
    | some b =>
      show mOk (if v + 1 < b then (some (v + 1), nI t, nI s) else q)
      by_cases h5 : v + 1 < b
      · rw [if_pos h5]; exact new
      · rw [if_neg h5]; exact hq
theorem mFo_ok {V : Nat → Int32} {S : Nat → Nat → Bool} {w h : Nat} (hw : w ≤ 48) : ∀ {q : Nat}, q ≤ 256 → mOk (mFo V S w h q) := by
  intro q
  induction q with
  | zero => intro _; exact ⟨fun c hc => by have := cst_le hc; omega, Or.inl ⟨rfl, rfl⟩⟩
  | succ q ih => intro hq; exact mNx_ok (V := V) hw (by omega) (by omega) (ih (by omega))
/-- the LIFTS as mended -/
def mLf (V : Nat → Int32) (q : mSt) : Nat → Int32 := if q.2.1 = -1 then vLi V else lfT V q.2.1.toNatClampNeg q.2.2.toNatClampNeg
def aMended (V : Nat → Int32) (S : Nat → Nat → Bool) (w h : Nat) (z : Int32) : Int32 := if 0 ≤ z ∧ z ≤ nI 2 then (match (mFo V S w h 256).1 with | none => -2 | some c => (match z.toNatClampNeg with | 0 => nI c | 1 => (mFo V S w h 256).2.1 | _ => (mFo V S w h 256).2.2)) else -2
def aMendS (V : Nat → Int32) (S : Nat → Nat → Bool) (w h : Nat) (x : Int32) : Int32 := if 0 ≤ x ∧ x < nI w then (match (mFo V S w h 256).1 with | none => -2 | some _ => kI (nrF (dK (mLf V (mFo V S w h 256)) S h x.toNatClampNeg) (idx (V x.toNatClampNeg)) 17)) else -2
/-- where the cost is some, each END fits some -/
theorem mFo_some {V : Nat → Int32} {S : Nat → Nat → Bool} {w h : Nat} : ∀ {q : Nat}, q ≤ 256 → (mFo V S w h q).1 ≠ none → ∀ e, e < w → sB (fit (mLf V (mFo V S w h q)) S h) 17 e = true := by
  have cs : ∀ lf : Nat → Int32, cst lf S (fun e => idx (V e)) w h ≠ none → ∀ e, e < w → sB (fit lf S h) 17 e = true := by
    intro lf hc
    unfold cst at hc
    split at hc
    · rename_i h1; exact h1
    · exact absurd rfl hc
  intro q
  induction q with
  | zero => intro _ h1; exact cs _ h1
  | succ q ih =>
    intro hq h1
    rw [mFo] at h1 ⊢
    unfold mNx at h1 ⊢
    cases hc : cst (lfT V (q / 16) (q % 16)) S (fun e => idx (V e)) w h with
    | none => rw [hc] at h1; exact ih (by omega) h1
    | some v =>
      have new : ∀ e, e < w → sB (fit (mLf V (some (v + 1), nI (q / 16), nI (q % 16))) S h) 17 e = true := by
        have e1 : mLf V (some (v + 1), nI (q / 16), nI (q % 16)) = lfT V (q / 16) (q % 16) := by
          unfold mLf
          rw [if_neg (fun z => by
            have : (0 : Int32) ≤ nI (q / 16) := nI_pos' (by omega)
            rw [show nI (q / 16) = -1 from z] at this
            exact absurd this (by decide))]
          show lfT V (nI (q / 16)).toNatClampNeg (nI (q % 16)).toNatClampNeg = _
          rw [nI_clamp (by omega), nI_clamp (by omega)]
        rw [e1]
        exact cs _ (by rw [hc]; simp)
      rw [hc] at h1
      revert h1
      show (match (mFo V S w h q).1 with | none => (some (v + 1), nI (q / 16), nI (q % 16)) | some b => if v + 1 < b then (some (v + 1), nI (q / 16), nI (q % 16)) else mFo V S w h q : mSt).1 ≠ none → ∀ e, e < w → sB (fit (mLf V (match (mFo V S w h q).1 with | none => (some (v + 1), nI (q / 16), nI (q % 16)) | some b => if v + 1 < b then (some (v + 1), nI (q / 16), nI (q % 16)) else mFo V S w h q)) S h) 17 e = true
      cases h2 : (mFo V S w h q).1 with
      | none => intro _; exact new
      | some b =>
        show (if v + 1 < b then (some (v + 1), nI (q / 16), nI (q % 16)) else mFo V S w h q : mSt).1 ≠ none → ∀ e, e < w → sB (fit (mLf V (if v + 1 < b then (some (v + 1), nI (q / 16), nI (q % 16)) else mFo V S w h q)) S h) 17 e = true
        by_cases h5 : v + 1 < b
        · rw [if_pos h5]; intro _; exact new
        · rw [if_neg h5]; intro h3; exact ih (by omega) h3

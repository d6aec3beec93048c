/-! LAYERS: what they are -/
def inP (a b c d s : Nat) : Bool := if s < 48 then decide (a ≤ s ∧ s ≤ b) else decide (c ≤ s - 48 ∧ s - 48 ≤ d)
/-- directly above, in the part -/
def rel (V : Nat → Int32) (a b c d s t : Nat) : Bool := inP a b c d s && inP a b c d t && (if s < 48 then decide (48 ≤ t) && vUp V s (t - 48) else decide (t < 48) && !vUp V t (s - 48))
abbrev tg (r : Nat → Nat → Bool) : Nat → Nat → Prop := Relation.TransGen (fun s t => r s t = true)
theorem tg_trans {r : Nat → Nat → Bool} {s t u : Nat} (h1 : tg r s t) (h2 : tg r t u) : tg r s u := by
  induction h2 with
  | single h => exact Relation.TransGen.tail h1 h
  | tail _ h ih => exact Relation.TransGen.tail ih h
def wsh (T : Nat → Nat → Bool) (m s t : Nat) : Bool := T s t || (T s m && T m t)
/-- on the way to all chains: through those of P -/
def WI (r T : Nat → Nat → Bool) (P : Nat → Prop) : Prop := (∀ s t, T s t = true → tg r s t) ∧ (∀ s t, r s t = true → T s t = true) ∧ (∀ m, P m → ∀ s t, T s m = true → T m t = true → T s t = true)
theorem ws_step {r T : Nat → Nat → Bool} {P : Nat → Prop} {m : Nat} (h : WI r T P) : WI r (wsh T m) (fun q => P q ∨ q = m) := by
  obtain ⟨h1, h2, h3⟩ := h
  have ex : ∀ s t, wsh T m s t = true ↔ (T s t = true ∨ (T s m = true ∧ T m t = true)) := fun s t => by unfold wsh; rw [Bool.or_eq_true, Bool.and_eq_true]
  refine ⟨fun s t h => ?_, fun s t h => (ex s t).mpr (Or.inl (h2 s t h)), fun q hq s t ha hb => ?_⟩
  · rcases (ex s t).mp h with h | ⟨h4, h5⟩
    · exact h1 s t h
    · exact tg_trans (h1 _ _ h4) (h1 _ _ h5)
  · rw [ex] at ha hb ⊢
    rcases hq with hq | hq
    · rcases ha with ha | ⟨ha, hc⟩
      · rcases hb with hb | ⟨hb, hd⟩
        · exact Or.inl (h3 q hq s t ha hb)
        · exact Or.inr ⟨h3 q hq s m ha hb, hd⟩
      · rcases hb with hb | ⟨hb, hd⟩
        · exact Or.inr ⟨ha, h3 q hq m t hc hb⟩
        · exact Or.inr ⟨ha, hd⟩
    · subst hq
      rcases ha with ha | ⟨ha, hc⟩
      · rcases hb with hb | ⟨hb, hd⟩
        · exact Or.inr ⟨ha, hb⟩
        · exact Or.inr ⟨ha, hd⟩
      · rcases hb with hb | ⟨hb, hd⟩
        · exact Or.inr ⟨ha, hb⟩
        · exact Or.inr ⟨ha, hd⟩
theorem ws_cong {r T : Nat → Nat → Bool} {P Q : Nat → Prop} (h : WI r T P) (hQ : ∀ m, Q m → P m) : WI r T Q := ⟨h.1, h.2.1, fun m hm => h.2.2 m (hQ m hm)⟩
theorem ws_fin {r T : Nat → Nat → Bool} {P : Nat → Prop} (h : WI r T P) (hP : ∀ m t, r m t = true → P m) {s t : Nat} : T s t = true ↔ tg r s t := by
  refine ⟨h.1 s t, fun h1 => ?_⟩
  induction h1 with
  | single h2 => exact h.2.1 _ _ h2
  | tail _ h2 ih => exact h.2.2 _ (hP _ _ h2) _ _ ih (h.2.1 _ _ h2)
/-- both ways round -/
theorem tg_rev {r : Nat → Nat → Bool} {s t : Nat} (h : tg (fun s t => r t s) s t) : tg r t s := by
  induction h with
  | single h2 => exact Relation.TransGen.single h2
  | tail _ h2 ih => exact tg_trans (Relation.TransGen.single h2) ih
theorem rel_in {V : Nat → Int32} {a b c d s t : Nat} (h : rel V a b c d s t = true) : inP a b c d s = true ∧ inP a b c d t = true := by
  unfold rel at h
  rw [Bool.and_eq_true, Bool.and_eq_true] at h
  exact h.1
theorem tg_in {V : Nat → Int32} {a b c d s t : Nat} (h : tg (rel V a b c d) s t) : inP a b c d s = true ∧ inP a b c d t = true := by
  induction h with
  | single h2 => exact rel_in h2
  | tail _ h2 ih => exact ⟨ih.1, (rel_in h2).2⟩
theorem inP_lt {a b c d s : Nat} (hd : d < 48) (h : inP a b c d s = true) : s < 96 := by
  unfold inP at h
  split at h
  · omega
  · have := of_decide_eq_true h; omega
/-- the chains, as a table -/
def Cl (V : Nat → Int32) (a b c d : Nat) (T : Nat → Nat → Bool) : Prop := ∀ s t, T s t = true ↔ tg (rel V a b c d) s t
/-- rows of a table, as words -/
def RwOk (P : Nat → Bool) (T : Nat → Nat → Bool) (n : Nat) (g0 g1 : Nat → Int64) : Prop := ∀ s, P s = true → s < n → g0 s = mk (fun e => T s e) 48 ∧ g1 s = mk (fun p => T s (48 + p)) 48
/-- numbering -/
def scc (T : Nat → Nat → Bool) (s t : Nat) : Bool := (T t s && T s t) || decide (t = s)
def top (T : Nat → Nat → Bool) (O : Nat → Bool) (s : Nat) : Bool := decide (cnt (fun t => O t && T t s && !T s t) 96 = 0)
theorem top_iff {T : Nat → Nat → Bool} {O : Nat → Bool} {s : Nat} : top T O s = true ↔ ∀ t, t < 96 → O t = true → T t s = true → T s t = true := by
  unfold top
  rw [decide_eq_true_eq]
  constructor
  · intro h t h1 h2 h3
    have := cnt_z h t h1
    rw [h2, h3] at this
    simpa using this
  · intro h
    refine cnt_0 (fun t h1 => ?_)
    cases h2 : O t
    · rfl
    · cases h3 : T t s
      · rfl
      · rw [h t h1 h2 h3]; rfl
def fO (p : Nat → Bool) : Nat → Nat → Option Nat
  | 0, _ => none
  | k + 1, i => if p i then some i else fO p k (i + 1)
theorem fO_some {p : Nat → Bool} : ∀ {k i s : Nat}, fO p k i = some s → p s = true ∧ i ≤ s ∧ s < i + k := by
  intro k
  induction k with
  | zero => intro i s h; cases h
  | succ k ih =>
    intro i s h
    rw [fO] at h
    split at h
    · cases h; rename_i h1; exact ⟨h1, Nat.le_refl _, by omega⟩
    · have := ih h; exact ⟨this.1, by omega, by omega⟩
theorem fO_none {p : Nat → Bool} : ∀ {k i : Nat}, fO p k i = none → ∀ j, i ≤ j → j < i + k → p j = false := by
  intro k
  induction k with
  | zero => intro i _ j h1 h2; omega
  | succ k ih =>
    intro i h j h1 h2
    rw [fO] at h
    split at h
    · cases h
    · rename_i h3
      by_cases h4 : j = i
      · subst h4; simpa using h3
      · exact ih h j (by omega) (by omega)
abbrev lSt : Type := (Nat → Bool) × (Nat → Nat) × Nat
def lGo (T : Nat → Nat → Bool) (q : lSt) (s : Nat) : lSt := (fun t => q.1 t && !scc T s t, fun t => if scc T s t then q.2.2 else q.2.1 t, q.2.2 + 1)
def lBest (T : Nat → Nat → Bool) (O : Nat → Bool) : Option Nat := fO (fun s => O s && top T O s) 96 0
def lNx (T : Nat → Nat → Bool) (q : lSt) : lSt := match lBest T q.1 with
  | none => q
  | some s => lGo T q s
def lFo (T : Nat → Nat → Bool) (P : Nat → Bool) : Nat → lSt
  | 0 => (P, fun _ => 0, 0)
  | k + 1 => lNx T (lFo T P k)
theorem cnt_mono {p q : Nat → Bool} : ∀ {n : Nat}, (∀ i, i < n → p i = true → q i = true) → cnt p n ≤ cnt q n := by
  intro n
  induction n with
  | zero => intro _; exact Nat.le_refl _
  | succ n ih =>
    intro h
    rw [cnt, cnt]
    have := ih (fun i hi => h i (by omega))
    by_cases h1 : p n = true
    · rw [if_pos h1, if_pos (h n (by omega) h1)]; omega
    · rw [if_neg h1]; omega
theorem cnt_less {p q : Nat → Bool} : ∀ {n : Nat}, (∀ i, i < n → p i = true → q i = true) → (∃ i, i < n ∧ q i = true ∧ p i = false) → cnt p n < cnt q n := by
  intro n
  induction n with
  | zero => rintro _ ⟨i, hi, _⟩; omega
  | succ n ih =>
    rintro h ⟨i, hi, h1, h2⟩
    rw [cnt, cnt]
    have hm := cnt_mono (p := p) (q := q) (n := n) (fun i hi => h i (by omega))
    by_cases h3 : i = n
    · subst h3
      rw [h1, h2, if_neg (by simp), if_pos rfl]; omega
    · have := ih (fun i hi => h i (by omega)) ⟨i, by omega, h1, h2⟩
      by_cases h4 : p n = true
      · rw [if_pos h4, if_pos (h n (by omega) h4)]; omega
      · rw [if_neg h4]; omega
theorem scc_self (T : Nat → Nat → Bool) (s : Nat) : scc T s s = true := by unfold scc; simp
/-- where something is open, something open is on top -/
theorem top_ex {T : Nat → Nat → Bool} (ht : ∀ s t u, T s t = true → T t u = true → T s u = true) {O : Nat → Bool} : ∀ (n s : Nat), cnt (fun u => O u && (T u s || decide (u = s))) 96 ≤ n → s < 96 → O s = true → ∃ t, t < 96 ∧ O t = true ∧ top T O t = true := by
  intro n
  induction n with
  | zero =>
    intro s h hs ho
    have := cnt_z (Nat.le_zero.mp h) s hs
    rw [ho] at this
    simp at this
  | succ n ih =>
    intro s h hs ho
    by_cases h1 : top T O s = true
    · exact ⟨s, hs, ho, h1⟩
    · have h2 : ¬ ∀ t, t < 96 → O t = true → T t s = true → T s t = true := fun z => h1 (top_iff.mpr z)
      have h3 : ∃ t, t < 96 ∧ O t = true ∧ T t s = true ∧ ¬ T s t = true := by
        refine Classical.byContradiction (fun hn => h2 (fun t a1 a2 a3 => ?_))
        exact Classical.byContradiction (fun a4 => hn ⟨t, a1, a2, a3, a4⟩)
      obtain ⟨t, h4, h5, h6, h7⟩ := h3
      have hne : ¬ s = t := fun z => by subst z; exact h7 h6
      refine ih t ?_ h4 h5
      have := cnt_less (p := fun u => O u && (T u t || decide (u = t))) (q := fun u => O u && (T u s || decide (u = s))) (n := 96) (fun i _ hi => by
        rw [Bool.and_eq_true, Bool.or_eq_true] at hi ⊢
        refine ⟨hi.1, Or.inl ?_⟩
        rcases hi.2 with h8 | h8
        · exact ht _ _ _ h8 h6
        · rw [of_decide_eq_true h8]; exact h6) ⟨s, hs, by simp [ho], by
          have h9 : T s t = false := by simpa using h7
          rw [h9, decide_eq_false hne]
          simp⟩
      omega
theorem lGo_less {T : Nat → Nat → Bool} {q : lSt} {s : Nat} (hs : s < 96) (ho : q.1 s = true) : cnt (lGo T q s).1 96 < cnt q.1 96 := cnt_less (fun i _ hi => by
  have : (q.1 i && !scc T s i) = true := hi
  rw [Bool.and_eq_true] at this
  exact this.1) ⟨s, hs, ho, by
    show (q.1 s && !scc T s s) = false
    rw [scc_self]
    simp⟩
theorem best_in {T : Nat → Nat → Bool} {O : Nat → Bool} {s : Nat} (h : lBest T O = some s) : s < 96 ∧ O s = true ∧ top T O s = true := by
  have := fO_some h
  rw [Bool.and_eq_true] at this
  exact ⟨by omega, this.1.1, this.1.2⟩
theorem lFo_cnt {T : Nat → Nat → Bool} {P : Nat → Bool} (ht : ∀ s t u, T s t = true → T t u = true → T s u = true) : ∀ {k : Nat}, k ≤ 96 → cnt (lFo T P k).1 96 ≤ 96 - k := by
  intro k
  induction k with
  | zero => intro _; exact cnt_le
  | succ k ih =>
    intro hk
    have h1 := ih (by omega)
    rw [lFo]
    unfold lNx
    cases hb : lBest T (lFo T P k).1 with
    | none =>
      show cnt (lFo T P k).1 96 ≤ _
      have h2 : cnt (lFo T P k).1 96 = 0 := cnt_0 (fun i hi => by
        cases h3 : (lFo T P k).1 i
        · rfl
        · obtain ⟨t, h4, h5, h6⟩ := top_ex ht 96 i cnt_le hi h3
          have := fO_none hb t (Nat.zero_le _) (by omega)
          rw [h5, h6] at this
          cases this)
      omega
    | some s =>
      obtain ⟨h2, h3, h4⟩ := best_in hb
      show cnt (lGo T (lFo T P k) s).1 96 ≤ _
      have := lGo_less (T := T) (q := lFo T P k) h2 h3
      omega
theorem lFo_empty {T : Nat → Nat → Bool} {P : Nat → Bool} (ht : ∀ s t u, T s t = true → T t u = true → T s u = true) : ∀ s, s < 96 → (lFo T P 96).1 s = false := cnt_z (Nat.le_zero.mp (by have := lFo_cnt (P := P) ht (k := 96) (by omega); simpa using this))
theorem lFo_stop {T : Nat → Nat → Bool} {P : Nat → Bool} {k : Nat} (h : lBest T (lFo T P k).1 = none) : ∀ j, lFo T P (k + j) = lFo T P k := by
  intro j
  induction j with
  | zero => rfl
  | succ j ih =>
    rw [← Nat.add_assoc, lFo, ih]
    unfold lNx
    rw [h]
/-- what is open is in P -/
theorem lFo_sub {T : Nat → Nat → Bool} {P : Nat → Bool} : ∀ {k s : Nat}, (lFo T P k).1 s = true → P s = true := by
  intro k
  induction k with
  | zero => intro s h; exact h
  | succ k ih =>
    intro s h
    rw [lFo] at h
    unfold lNx at h
    cases hb : lBest T (lFo T P k).1 with
    | none => rw [hb] at h; exact ih h
    | some q =>
      rw [hb] at h
      have h1 : ((lFo T P k).1 s && !scc T q s) = true := h
      rw [Bool.and_eq_true] at h1
      exact ih h1.1
theorem lFo_le {T : Nat → Nat → Bool} {P : Nat → Bool} : ∀ {k : Nat}, (lFo T P k).2.2 ≤ k := by
  intro k
  induction k with
  | zero => exact Nat.le_refl _
  | succ k ih =>
    rw [lFo]
    unfold lNx
    cases hb : lBest T (lFo T P k).1 with
    | none => show (lFo T P k).2.2 ≤ _; omega
    | some q => show (lFo T P k).2.2 + 1 ≤ _; omega
/-- one table of chains is like another -/
theorem cl_uniq {V : Nat → Int32} {a b c d : Nat} {T U : Nat → Nat → Bool} (h1 : Cl V a b c d T) (h2 : Cl V a b c d U) : T = U := by
  funext s t
  rw [Bool.eq_iff_iff, h1 s t, h2 s t]
theorem cl_trans {V : Nat → Int32} {a b c d : Nat} {T : Nat → Nat → Bool} (h : Cl V a b c d T) : ∀ s t u, T s t = true → T t u = true → T s u = true := fun s t u h1 h2 => (h s u).mpr (tg_trans ((h s t).mp h1) ((h t u).mp h2))
/-- the answers -/
def aLay (V : Nat → Int32) (a b c d : Nat) (T : Nat → Nat → Bool) : lSt := lFo T (inP a b c d) 96
def gPart (w h : Nat) (a b c d : Int32) : Prop := (0 ≤ a ∧ a < nI w) ∧ (0 ≤ b ∧ b < nI w) ∧ a ≤ b ∧ (0 ≤ c ∧ c < nI h) ∧ (0 ≤ d ∧ d < nI h) ∧ c ≤ d
theorem gPart_of {w h : Nat} {a b c d : Int32} (hw : w ≤ 48) (hh : h ≤ 48) (hg : gPart w h a b c d) : ∃ i j k l, i ≤ j ∧ j < w ∧ k ≤ l ∧ l < h ∧ a = nI i ∧ b = nI j ∧ c = nI k ∧ d = nI l := by
  obtain ⟨h1, h2, h3, h4, h5, h6⟩ := hg
  obtain ⟨i, hi, rfl⟩ := inR_of h1 (by omega)
  obtain ⟨j, hj, rfl⟩ := inR_of h2 (by omega)
  obtain ⟨k, hk, rfl⟩ := inR_of h4 (by omega)
  obtain ⟨l, hl, rfl⟩ := inR_of h5 (by omega)
  rw [nI_leI (by omega) (by omega)] at h3 h6
  exact ⟨i, j, k, l, h3, hj, h6, hl, rfl, rfl, rfl, rfl⟩
/-- some table of chains is there -/
theorem cl_ex (V : Nat → Int32) (a b c d : Nat) : ∃ T, Cl V a b c d T := by
  refine ⟨fun s t => @decide (tg (rel V a b c d) s t) (Classical.propDecidable _), fun s t => ?_⟩
  exact @decide_eq_true_iff _ (Classical.propDecidable _)

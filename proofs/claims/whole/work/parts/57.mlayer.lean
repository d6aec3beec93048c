/-! the reference: isStrand, isAbove, reach -/
theorem bI_dec {c : Prop} [Decidable c] {p : Bool} (h : c ↔ p = true) : bI c = if p then 1 else 0 := by
  unfold bI
  by_cases hc : c
  · rw [if_pos hc, if_pos (h.mp hc)]
  · rw [if_neg hc, if_neg (fun z => hc (h.mpr z))]
theorem rwk_add {P : Nat → Bool} {T : Nat → Nat → Bool} {n : Nat} {g0 g1 : Nat → Int64} {x0 x1 : Int64} (h : RwOk P T n g0 g1) (h0 : x0 = mk (fun e => T n e) 48) (h1 : x1 = mk (fun p => T n (48 + p)) 48) : RwOk P T (n + 1) (vp_updL g0 n x0) (vp_updL g1 n x1) := by
  intro s hs hn
  unfold vp_updL
  by_cases h2 : s = n
  · subst h2; rw [if_pos rfl, if_pos rfl]; exact ⟨h0, h1⟩
  · rw [if_neg h2, if_neg h2]; exact h s hs (by omega)
theorem rwk_skip {P : Nat → Bool} {T : Nat → Nat → Bool} {n k : Nat} {g0 g1 : Nat → Int64} (h : RwOk P T n g0 g1) (hk : ∀ s, n ≤ s → s < k → P s = false) : RwOk P T k g0 g1 := by
  intro s hs h1
  rcases Nat.lt_or_ge s n with h2 | h2
  · exact h s hs h2
  · rw [hk s h2 h1] at hs; cases hs
/-- below, each below itself -/
def r0 (V : Nat → Int32) (a b c d s t : Nat) : Bool := rel V a b c d s t || (decide (s = t) && inP a b c d s)
theorem r0_in {V : Nat → Int32} {a b c d s t : Nat} (h : r0 V a b c d s t = true) : inP a b c d s = true ∧ inP a b c d t = true := by
  unfold r0 at h
  rw [Bool.or_eq_true, Bool.and_eq_true, decide_eq_true_eq] at h
  rcases h with h | ⟨rfl, h⟩
  · exact rel_in h
  · exact ⟨h, h⟩
theorem tg0_in {V : Nat → Int32} {a b c d s t : Nat} (h : tg (r0 V a b c d) s t) : inP a b c d s = true ∧ inP a b c d t = true := by
  induction h with
  | single h2 => exact r0_in h2
  | tail _ h2 ih => exact ⟨ih.1, (r0_in h2).2⟩
theorem tg0_iff {V : Nat → Int32} {a b c d s t : Nat} {T : Nat → Nat → Bool} (hT : Cl V a b c d T) : tg (r0 V a b c d) s t ↔ (T s t || (decide (s = t) && inP a b c d s)) = true := by
  rw [Bool.or_eq_true, Bool.and_eq_true, decide_eq_true_eq, hT]
  constructor
  · intro h
    have step : ∀ u v, r0 V a b c d u v = true → rel V a b c d u v = true ∨ (u = v ∧ inP a b c d u = true) := fun u v huv => by
      unfold r0 at huv
      rw [Bool.or_eq_true, Bool.and_eq_true, decide_eq_true_eq] at huv
      exact huv
    induction h with
    | single h2 =>
      rcases step _ _ h2 with h3 | h3
      · exact Or.inl (Relation.TransGen.single h3)
      · exact Or.inr h3
    | tail _ h2 ih =>
      rcases step _ _ h2 with h3 | ⟨h3, h4⟩
      · rcases ih with ih | ⟨rfl, ih⟩
        · exact Or.inl (Relation.TransGen.tail ih h3)
        · exact Or.inl (Relation.TransGen.single h3)
      · subst h3; exact ih
  · have mono : ∀ u v, rel V a b c d u v = true → r0 V a b c d u v = true := fun u v huv => by
      unfold r0
      rw [huv]; rfl
    rintro (h | ⟨rfl, h⟩)
    · induction h with
      | single h2 => exact Relation.TransGen.single (mono _ _ h2)
      | tail _ h2 ih => exact Relation.TransGen.tail ih (mono _ _ h2)
    · refine Relation.TransGen.single ?_
      unfold r0
      rw [h, decide_eq_true rfl]
      simp
/-- some below n -/
def anyB (p : Nat → Bool) : Nat → Bool
  | 0 => false
  | n + 1 => anyB p n || p n
theorem anyB_iff {p : Nat → Bool} : ∀ {n : Nat}, anyB p n = true ↔ ∃ m, m < n ∧ p m = true := by
  intro n
  induction n with
  | zero => exact ⟨fun h => (by cases h), fun ⟨m, h, _⟩ => (by omega)⟩
  | succ n ih =>
    rw [anyB, Bool.or_eq_true, ih]
    constructor
    · rintro (⟨m, h1, h2⟩ | h)
      · exact ⟨m, by omega, h2⟩
      · exact ⟨n, by omega, h⟩
    · rintro ⟨m, h1, h2⟩
      by_cases h3 : m = n
      · subst h3; exact Or.inr h2
      · exact Or.inl ⟨m, by omega, h2⟩
theorem anyB_skip {p : Nat → Bool} {n : Nat} : ∀ {k : Nat}, n ≤ k → (∀ m, n ≤ m → m < k → p m = false) → anyB p n = anyB p k := by
  intro k hk h
  rw [Bool.eq_iff_iff, anyB_iff, anyB_iff]
  constructor
  · rintro ⟨m, h1, h2⟩; exact ⟨m, by omega, h2⟩
  · rintro ⟨m, h1, h2⟩
    rcases Nat.lt_or_ge m n with h3 | h3
    · exact ⟨m, h3, h2⟩
    · rw [h m h3 h1] at h2; cases h2
/-- a row with those through the first n -/
def acT (T : Nat → Nat → Bool) (s n e : Nat) : Bool := T s e || anyB (fun m => T s m && T m e) n
theorem acT_skip {T : Nat → Nat → Bool} {s n k e : Nat} (hk : n ≤ k) (h : ∀ m, n ≤ m → m < k → T s m = false) : acT T s n e = acT T s k e := by
  unfold acT
  rw [anyB_skip hk (fun m h1 h2 => by rw [h m h1 h2]; rfl)]
theorem acT_no {T : Nat → Nat → Bool} {s n e : Nat} (h : T s n = false) : acT T s (n + 1) e = acT T s n e := by
  unfold acT
  rw [anyB, h, Bool.false_and, Bool.or_false]
theorem acT_yes {T : Nat → Nat → Bool} {s n e : Nat} (h : T s n = true) : acT T s (n + 1) e = (acT T s n e || T n e) := by
  unfold acT
  rw [anyB, h, Bool.true_and, Bool.or_assoc]
theorem acT_iff {T : Nat → Nat → Bool} {s n e : Nat} : acT T s n e = true ↔ T s e = true ∨ ∃ m, m < n ∧ T s m = true ∧ T m e = true := by
  unfold acT
  rw [Bool.or_eq_true, anyB_iff]
  constructor
  · rintro (h | ⟨m, h1, h2⟩)
    · exact Or.inl h
    · rw [Bool.and_eq_true] at h2; exact Or.inr ⟨m, h1, h2⟩
  · rintro (h | ⟨m, h1, h2⟩)
    · exact Or.inl h
    · exact Or.inr ⟨m, h1, by rw [Bool.and_eq_true]; exact h2⟩
def roS (T : Nat → Nat → Bool) (i s t : Nat) : Bool := if s = i then acT T i 96 t else T s t
theorem roS_up {T : Nat → Nat → Bool} {i s t : Nat} (h : T s t = true) : roS T i s t = true := by
  unfold roS
  split
  · rename_i h1; subst h1; exact acT_iff.mpr (Or.inl h)
  · exact h
/-- what is not set yet -/
def szT (T : Nat → Nat → Bool) : Nat → Nat
  | 0 => 0
  | n + 1 => szT T n + cnt (fun t => !T n t) 96
theorem szT_le {T U : Nat → Nat → Bool} (h : ∀ s t, T s t = true → U s t = true) : ∀ {n : Nat}, szT U n ≤ szT T n := by
  intro n
  induction n with
  | zero => exact Nat.le_refl _
  | succ n ih =>
    rw [szT, szT]
    have := cnt_mono (p := fun t => !U n t) (q := fun t => !T n t) (n := 96) (fun i _ hi => by
      cases h1 : T n i
      · rfl
      · rw [h n i h1] at hi; cases hi)
    omega
theorem szT_lt {T U : Nat → Nat → Bool} (h : ∀ s t, T s t = true → U s t = true) {s t : Nat} (ht : t < 96) (h1 : U s t = true) (h2 : T s t = false) : ∀ {n : Nat}, s < n → szT U n < szT T n := by
  intro n
  induction n with
  | zero => intro h; omega
  | succ n ih =>
    intro hs
    rw [szT, szT]
    have hm := cnt_mono (p := fun t => !U n t) (q := fun t => !T n t) (n := 96) (fun i _ hi => by
      cases h1 : T n i
      · rfl
      · rw [h n i h1] at hi; cases hi)
    by_cases h3 : s = n
    · subst h3
      have := cnt_less (p := fun t => !U s t) (q := fun t => !T s t) (n := 96) (fun i _ hi => by
        cases h1 : T s i
        · rfl
        · rw [h s i h1] at hi; cases hi) ⟨t, ht, by rw [h2]; rfl, by rw [h1]; rfl⟩
      have := szT_le h (n := s)
      omega
    · have := ih (by omega)
      omega
/-- on the way to all chains -/
def RI (r T : Nat → Nat → Bool) : Prop := (∀ s t, T s t = true → tg r s t) ∧ (∀ s t, r s t = true → T s t = true)
theorem ri_step {r T : Nat → Nat → Bool} {i : Nat} (h : RI r T) : RI r (roS T i) := by
  refine ⟨fun s t h1 => ?_, fun s t h1 => roS_up (h.2 s t h1)⟩
  unfold roS at h1
  split at h1
  · rename_i h2
    subst h2
    rcases acT_iff.mp h1 with h3 | ⟨m, _, h4, h5⟩
    · exact h.1 _ _ h3
    · exact tg_trans (h.1 _ _ h4) (h.1 _ _ h5)
  · exact h.1 _ _ h1
theorem ri_fin {r T : Nat → Nat → Bool} (h : RI r T) (ht : ∀ s m t, T s m = true → T m t = true → T s t = true) {s t : Nat} : T s t = true ↔ tg r s t := by
  refine ⟨h.1 s t, fun h1 => ?_⟩
  induction h1 with
  | single h2 => exact h.2 _ _ h2
  | tail _ h2 ih => exact ht _ _ _ ih (h.2 _ _ h2)
/-- a row of the table, written -/
theorem rwk_row {P : Nat → Bool} {T : Nat → Nat → Bool} {i : Nat} {g0 g1 : Nat → Int64} {x0 x1 : Int64} (h : RwOk P T 96 g0 g1) (h0 : x0 = mk (fun e => acT T i 96 e) 48) (h1 : x1 = mk (fun p => acT T i 96 (48 + p)) 48) : RwOk P (roS T i) 96 (vp_updL g0 i x0) (vp_updL g1 i x1) := by
  intro s hs hn
  unfold vp_updL
  by_cases h2 : s = i
  · subst h2
    rw [if_pos rfl, if_pos rfl]
    refine ⟨h0.trans (mk_cong (fun e _ => ?_)), h1.trans (mk_cong (fun e _ => ?_))⟩
    · unfold roS; rw [if_pos rfl]
    · unfold roS; rw [if_pos rfl]
  · rw [if_neg h2, if_neg h2]
    obtain ⟨h3, h4⟩ := h s hs hn
    refine ⟨h3.trans (mk_cong (fun e _ => ?_)), h4.trans (mk_cong (fun e _ => ?_))⟩
    · unfold roS; rw [if_neg h2]
    · unfold roS; rw [if_neg h2]
section
variable (sc : sm_S) (I : Nat → Int32) (A : Nat → Nat → Int32) (B : Nat → Nat → Int64) (f : Nat → va_E) (w h n : Nat) (V : Nat → Int32) (a b c d : Nat)
set_option maxHeartbeats 4000000 in
set_option maxRecDepth 20000 in
theorem mIsStrand (M : sm_M) (s : Nat) (hs : s < 96) (hb : b < 48) (hd : d < 48) (hab : a ≤ b) (hcd : c ≤ d) : zC 2 sc 214 [.int (nI s), .int (nI a), .int (nI b), .int (nI c), .int (nI d)] M (zR M (.int (if inP a b c d s then 1 else 0))) := by
  refine zc_of hkX11_isStrand rfl ?_
  by_cases h48 : s < 48
  · repeat (refine zw_go rfl rfl (fun _ _ => rfl) ?_)
    refine zw_br rfl (fun _ _ => rfl) (fun h9 => absurd h9 (nI_ge (a := s) (b := 48) (by omega) (by omega))) (fun _ => ?_)
    repeat (refine zw_go rfl rfl (fun _ _ => rfl) ?_)
    refine zw_call rfl (fun _ _ => rfl) (mIsIn sc M (nI s) (nI a) (nI b)) (by decide) ?_
    rintro M1 r1 ⟨rfl, rfl⟩
    repeat (refine zw_go rfl rfl (fun _ _ => rfl) ?_)
    refine zw_bret rfl rfl (bI_01 _) ?_
    refine ⟨rfl, ?_⟩
    rw [bI_dec (p := inP a b c d s) (by rw [inP_e h48, decide_eq_true_eq, nI_leI (by omega) (by omega), nI_leI (by omega) (by omega)])]
  · obtain ⟨m, rfl⟩ : ∃ m, s = 48 + m := ⟨s - 48, by omega⟩
    repeat (refine zw_go rfl rfl (fun _ _ => rfl) ?_)
    refine zw_br rfl (fun _ _ => rfl) (fun _ => ?_) (fun h9 => absurd (nI_le (a := 48) (b := (48 + m)) (by omega) (by omega)) h9)
    repeat (refine zw_go rfl rfl (fun _ _ => rfl) ?_)
    rw [show nI (48 + m) - (Int8.ofInt 48).toInt32 = nI m from by rw [show (Int8.ofInt 48).toInt32 = nI 48 from rfl, nI_sub (by omega), Nat.add_sub_cancel_left]]
    refine zw_call rfl (fun _ _ => rfl) (mIsIn sc M (nI m) (nI c) (nI d)) (by decide) ?_
    rintro M1 r1 ⟨rfl, rfl⟩
    repeat (refine zw_go rfl rfl (fun _ _ => rfl) ?_)
    refine zw_bret rfl rfl (bI_01 _) ?_
    refine ⟨rfl, ?_⟩
    rw [bI_dec (p := inP a b c d (48 + m)) (by rw [inP_p, decide_eq_true_eq, nI_leI (by omega) (by omega), nI_leI (by omega) (by omega)])]
set_option maxHeartbeats 4000000 in
set_option maxRecDepth 20000 in
theorem mIsAbove (T : Nat → Nat → Bool) (s t : Nat) (hs : s < 96) (ht : t < 96) (r2 : B 2 s = mk (fun e => T s e) 48) (r3 : B 3 s = mk (fun p => T s (48 + p)) 48) : zC 1 sc 215 [.ref 47, .int (nI s), .int (nI t)] (mm f I A B) (zR (mm f I A B) (.int (if T s t then 1 else 0))) := by
  refine zc_of hkX11_isAbove rfl ?_
  by_cases h48 : t < 48
  · have e : lg_cmp ((B 2 s >>> ((nI t).toInt64 &&& 63)) &&& 1) 1 = 0 ↔ T s t = true := by rw [lcb1 _ (by omega), r2, lb_mk_in (by omega) h48]
    repeat (refine zw_go rfl rfl (fun _ _ => rfl) ?_)
    refine zw_br rfl (fun _ _ => rfl) (fun h9 => absurd h9 (nI_ge (a := t) (b := 48) (by omega) (by omega))) (fun _ => ?_)
    repeat (refine zw_go rfl rfl (fun _ _ => rfl) ?_)
    refine zw_ix rfl (fun _ _ => rfl) (show vp_in (nI (s)) _ from vp_in_nI (by omega) (by omega)) ?_
    rw [show (nI (s)).toNatClampNeg = s from nI_clamp (by omega)]
    repeat (refine zw_go rfl rfl (fun _ _ => rfl) ?_)
    refine zw_br rfl (fun _ _ => rfl) (fun (hc : lg_cmp ((B 2 s >>> ((nI t).toInt64 &&& 63)) &&& 1) 1 = 0) => ?_) (fun (hc : ¬ (lg_cmp ((B 2 s >>> ((nI t).toInt64 &&& 63)) &&& 1) 1 = 0)) => ?_)
    · repeat (refine zw_go rfl rfl (fun _ _ => rfl) ?_)
      exact zw_ret rfl (fun _ _ => rfl) (⟨rfl, by rw [e.mp hc]; rfl⟩)
    · repeat (refine zw_go rfl rfl (fun _ _ => rfl) ?_)
      exact zw_ret rfl (fun _ _ => rfl) (⟨rfl, by rw [if_neg (fun z => hc (e.mpr z))]; rfl⟩)
  · obtain ⟨m, rfl⟩ : ∃ m, t = 48 + m := ⟨t - 48, by omega⟩
    have e : lg_cmp ((B 3 s >>> ((nI m).toInt64 &&& 63)) &&& 1) 1 = 0 ↔ T s (48 + m) = true := by rw [lcb1 _ (by omega), r3, lb_mk_in (n := 48) (by omega) (by omega)]
    repeat (refine zw_go rfl rfl (fun _ _ => rfl) ?_)
    refine zw_br rfl (fun _ _ => rfl) (fun _ => ?_) (fun h9 => absurd (nI_le (a := 48) (b := (48 + m)) (by omega) (by omega)) h9)
    repeat (refine zw_go rfl rfl (fun _ _ => rfl) ?_)
    refine zw_ix rfl (fun _ _ => rfl) (show vp_in (nI (s)) _ from vp_in_nI (by omega) (by omega)) ?_
    rw [show (nI (s)).toNatClampNeg = s from nI_clamp (by omega)]
    repeat (refine zw_go rfl rfl (fun _ _ => rfl) ?_)
    rw [show nI (48 + m) - (Int8.ofInt 48).toInt32 = nI m from by rw [show (Int8.ofInt 48).toInt32 = nI 48 from rfl, nI_sub (by omega), Nat.add_sub_cancel_left]]
    refine zw_br rfl (fun _ _ => rfl) (fun (hc : lg_cmp ((B 3 s >>> ((nI m).toInt64 &&& 63)) &&& 1) 1 = 0) => ?_) (fun (hc : ¬ (lg_cmp ((B 3 s >>> ((nI m).toInt64 &&& 63)) &&& 1) 1 = 0)) => ?_)
    · repeat (refine zw_go rfl rfl (fun _ _ => rfl) ?_)
      exact zw_ret rfl (fun _ _ => rfl) (⟨rfl, by rw [e.mp hc]; rfl⟩)
    · repeat (refine zw_go rfl rfl (fun _ _ => rfl) ?_)
      exact zw_ret rfl (fun _ _ => rfl) (⟨rfl, by rw [if_neg (fun z => hc (e.mpr z))]; rfl⟩)
def bR2 (B : Nat → Nat → Int64) (g2 g3 : Nat → Int64) : Nat → Nat → Int64 := va_up (va_up B 2 g2) 3 g3
set_option maxHeartbeats 4000000 in
set_option maxRecDepth 20000 in
theorem mReach (hab : a ≤ b) (hbw : b < w) (hw : w ≤ 48) (hcd : c ≤ d) (hdh : d < h) (hh : h ≤ 48) (hB0 : ∀ p, p < h → B 0 p = mk (fun e => vUp V e p) w) (hB1 : ∀ e, e < w → B 1 e = mk (fun p => vUp V e p) h) : zC 3 sc 213 [.ref 47, .int (nI a), .int (nI b), .int (nI c), .int (nI d)] (mm f I A B) (fun M r => r = none ∧ ∃ g2 g3 T, M = mm f I A (bR2 B g2 g3) ∧ RwOk (inP a b c d) T 96 g2 g3 ∧ ∀ s t, T s t = true ↔ tg (r0 V a b c d) s t) := by
  have hT96 : ∀ {T : Nat → Nat → Bool}, RI (r0 V a b c d) T → ∀ s t, T s t = true → inP a b c d s = true ∧ inP a b c d t = true ∧ t < 96 := fun hT s t hst => ⟨(tg0_in (hT.1 s t hst)).1, (tg0_in (hT.1 s t hst)).2, inP_lt (by omega) (tg0_in (hT.1 s t hst)).2⟩
  -- through the PICKS
  have picks : ∀ (T : Nat → Nat → Bool) (g2 g3 : Nat → Int64) (i : Nat) (mo : Int32) (Post : sm_M → Option Value → Prop), i < 96 → inP a b c d i = true → RwOk (inP a b c d) T 96 g2 g3 → RI (r0 V a b c d) T → zW 2 sc miX11_reach 284 [some (.ref 47), some (.int (nI a)), some (.int (nI b)), some (.int (nI c)), some (.int (nI d)), some (.int mo), some (.int (nI i)), some (.long (mk (fun e => acT T i 96 e) 48)), none, some (.long (mk (fun p => acT T i 96 (48 + p)) 48)), none, some (.int (nI (d + 1)))] [] (mm f I A (bR2 B g2 g3)) Post → ∀ (k y : Nat), y + k = d + 1 → c ≤ y → zW 2 sc miX11_reach 221 [some (.ref 47), some (.int (nI a)), some (.int (nI b)), some (.int (nI c)), some (.int (nI d)), some (.int mo), some (.int (nI i)), some (.long (mk (fun e => acT T i (48 + y) e) 48)), none, some (.long (mk (fun p => acT T i (48 + y) (48 + p)) 48)), none, some (.int (nI y))] [] (mm f I A (bR2 B g2 g3)) Post := by
    intro T g2 g3 i mo Post hi hin hR hT hend k
    obtain ⟨r2, r3⟩ := hR i hin hi
    induction k with
    | zero =>
      intro y hy hcy
      have hyd : y = d + 1 := by omega
      subst hyd
      have sk : ∀ e, acT T i (48 + (d + 1)) e = acT T i 96 e := fun e => acT_skip (by omega) (fun m h1 h2 => by
        cases h3 : T i m
        · rfl
        · have h4 := (hT96 hT i m h3).2.1
          rw [show m = 48 + (m - 48) by omega, inP_p] at h4
          have := of_decide_eq_true h4
          omega)
      rw [show (fun e => acT T i (48 + (d + 1)) e) = fun e => acT T i 96 e from funext sk, show (fun p => acT T i (48 + (d + 1)) (48 + p)) = fun p => acT T i 96 (48 + p) from funext (fun p => sk (48 + p))]
      refine zw_nx rfl (fun _ _ => rfl) ?_
      repeat (refine zw_go rfl rfl (fun _ _ => rfl) ?_)
      first | refine zw_br rfl (fun _ _ => rfl) (fun _ => ?_) (fun h9 => absurd (show nI d < nI (d + 1) from nI_lt (by omega) (by omega)) h9) | refine zw_nx rfl (fun _ _ => rfl) ?_
      exact hend
    | succ k ih =>
      intro y hy hcy
      have hin2 : inP a b c d (48 + y) = true := by rw [inP_p]; exact decide_eq_true ⟨hcy, by omega⟩
      obtain ⟨q2, q3⟩ := hR (48 + y) hin2 (by omega)
      have hn := ih (y + 1) (by omega) (by omega)
      rw [nI_succ, ← Nat.add_assoc] at hn
      have e : lg_cmp ((g3 i >>> ((nI y).toInt64 &&& 63)) &&& 1) 0 = 0 ↔ T i (48 + y) = false := by rw [lcb0 _ (by omega), r3, lb_mk_in (n := 48) (by omega) (by omega)]
      refine zw_nx rfl (fun _ _ => rfl) ?_
      repeat (refine zw_go rfl rfl (fun _ _ => rfl) ?_)
      first | refine zw_br rfl (fun _ _ => rfl) (fun h9 => absurd h9 (show ¬ nI d < nI y from nI_nlt (by omega) (by omega))) (fun _ => ?_) | refine zw_nx rfl (fun _ _ => rfl) ?_
      repeat (refine zw_go rfl rfl (fun _ _ => rfl) ?_)
      refine zw_ix rfl (fun _ _ => rfl) (show vp_in (nI (i)) _ from vp_in_nI (by omega) (by omega)) ?_
      rw [show (nI (i)).toNatClampNeg = i from nI_clamp (by omega)]
      repeat (refine zw_go rfl rfl (fun _ _ => rfl) ?_)
      refine zw_br rfl (fun _ _ => rfl) (fun (hc : lg_cmp ((g3 i >>> ((nI y).toInt64 &&& 63)) &&& 1) 0 = 0) => ?_) (fun (hc : ¬ (lg_cmp ((g3 i >>> ((nI y).toInt64 &&& 63)) &&& 1) 0 = 0)) => ?_)
      · rw [show (fun e => acT T i (48 + y + 1) e) = fun e => acT T i (48 + y) e from funext (fun e' => acT_no (e.mp hc)), show (fun p => acT T i (48 + y + 1) (48 + p)) = fun p => acT T i (48 + y) (48 + p) from funext (fun p => acT_no (e.mp hc))] at hn
        repeat (refine zw_go rfl rfl (fun _ _ => rfl) ?_)
        exact zw_kp hn
      · have ht : T i (48 + y) = true := by
          cases hh : T i (48 + y)
          · exact absurd (e.mpr hh) hc
          · rfl
        rw [show mk (fun e => acT T i (48 + y + 1) e) 48 = mk (fun e => acT T i (48 + y) e) 48 ||| g2 (48 + y) from by rw [q2, mk_or (by omega)]; exact mk_cong (fun e' _ => acT_yes ht), show mk (fun p => acT T i (48 + y + 1) (48 + p)) 48 = mk (fun p => acT T i (48 + y) (48 + p)) 48 ||| g3 (48 + y) from by rw [q3, mk_or (by omega)]; exact mk_cong (fun e' _ => acT_yes ht)] at hn
        repeat (refine zw_go rfl rfl (fun _ _ => rfl) ?_)
        rw [show (Int8.ofInt 48).toInt32 + nI y = nI (48 + y) from nI_add 48 y]
        refine zw_ix rfl (fun _ _ => rfl) (show vp_in (nI ((48 + y))) _ from vp_in_nI (by omega) (by omega)) ?_
        rw [show (nI ((48 + y))).toNatClampNeg = (48 + y) from nI_clamp (by omega)]
        repeat (refine zw_go rfl rfl (fun _ _ => rfl) ?_)
        rw [show (Int8.ofInt 48).toInt32 + nI y = nI (48 + y) from nI_add 48 y]
        refine zw_ix rfl (fun _ _ => rfl) (show vp_in (nI ((48 + y))) _ from vp_in_nI (by omega) (by omega)) ?_
        rw [show (nI ((48 + y))).toNatClampNeg = (48 + y) from nI_clamp (by omega)]
        repeat (refine zw_go rfl rfl (fun _ _ => rfl) ?_)
        exact zw_kp hn
  -- through the ENDS
  have ends : ∀ (T : Nat → Nat → Bool) (g2 g3 : Nat → Int64) (i : Nat) (mo : Int32) (Post : sm_M → Option Value → Prop), i < 96 → inP a b c d i = true → RwOk (inP a b c d) T 96 g2 g3 → RI (r0 V a b c d) T → zW 2 sc miX11_reach 284 [some (.ref 47), some (.int (nI a)), some (.int (nI b)), some (.int (nI c)), some (.int (nI d)), some (.int mo), some (.int (nI i)), some (.long (mk (fun e => acT T i 96 e) 48)), none, some (.long (mk (fun p => acT T i 96 (48 + p)) 48)), none, some (.int (nI (d + 1)))] [] (mm f I A (bR2 B g2 g3)) Post → ∀ (k x : Nat), x + k = b + 1 → a ≤ x → zW 2 sc miX11_reach 162 [some (.ref 47), some (.int (nI a)), some (.int (nI b)), some (.int (nI c)), some (.int (nI d)), some (.int mo), some (.int (nI i)), some (.long (mk (fun e => acT T i x e) 48)), none, some (.long (mk (fun p => acT T i x (48 + p)) 48)), none, some (.int (nI x))] [] (mm f I A (bR2 B g2 g3)) Post := by
    intro T g2 g3 i mo Post hi hin hR hT hend k
    obtain ⟨r2, r3⟩ := hR i hin hi
    induction k with
    | zero =>
      intro x hx hax
      have sk : ∀ e, acT T i x e = acT T i (48 + c) e := fun e => acT_skip (by omega) (fun m h1 h2 => by
        cases h3 : T i m
        · rfl
        · have h4 := (hT96 hT i m h3).2.1
          by_cases h5 : m < 48
          · rw [inP_e h5] at h4
            have := of_decide_eq_true h4
            omega
          · rw [show m = 48 + (m - 48) by omega, inP_p] at h4
            have := of_decide_eq_true h4
            omega)
      rw [show (fun e => acT T i x e) = fun e => acT T i (48 + c) e from funext sk, show (fun p => acT T i x (48 + p)) = fun p => acT T i (48 + c) (48 + p) from funext (fun p => sk (48 + p))]
      refine zw_nx rfl (fun _ _ => rfl) ?_
      repeat (refine zw_go rfl rfl (fun _ _ => rfl) ?_)
      first | refine zw_br rfl (fun _ _ => rfl) (fun _ => ?_) (fun h9 => absurd (show nI b < nI x from nI_lt (by omega) (by omega)) h9) | refine zw_nx rfl (fun _ _ => rfl) ?_
      repeat (refine zw_go rfl rfl (fun _ _ => rfl) ?_)
      exact zw_kp (picks T g2 g3 i mo Post hi hin hR hT hend (d + 1 - c) c (by omega) (Nat.le_refl c))
    | succ k ih =>
      intro x hx hax
      have hin2 : inP a b c d x = true := by rw [inP_e (by omega)]; exact decide_eq_true ⟨hax, by omega⟩
      obtain ⟨q2, q3⟩ := hR x hin2 (by omega)
      have hn := ih (x + 1) (by omega) (by omega)
      rw [nI_succ] at hn
      have e : lg_cmp ((g2 i >>> ((nI x).toInt64 &&& 63)) &&& 1) 0 = 0 ↔ T i x = false := by rw [lcb0 _ (by omega), r2, lb_mk_in (n := 48) (by omega) (by omega)]
      refine zw_nx rfl (fun _ _ => rfl) ?_
      repeat (refine zw_go rfl rfl (fun _ _ => rfl) ?_)
      first | refine zw_br rfl (fun _ _ => rfl) (fun h9 => absurd h9 (show ¬ nI b < nI x from nI_nlt (by omega) (by omega))) (fun _ => ?_) | refine zw_nx rfl (fun _ _ => rfl) ?_
      repeat (refine zw_go rfl rfl (fun _ _ => rfl) ?_)
      refine zw_ix rfl (fun _ _ => rfl) (show vp_in (nI (i)) _ from vp_in_nI (by omega) (by omega)) ?_
      rw [show (nI (i)).toNatClampNeg = i from nI_clamp (by omega)]
      repeat (refine zw_go rfl rfl (fun _ _ => rfl) ?_)
      refine zw_br rfl (fun _ _ => rfl) (fun (hc : lg_cmp ((g2 i >>> ((nI x).toInt64 &&& 63)) &&& 1) 0 = 0) => ?_) (fun (hc : ¬ (lg_cmp ((g2 i >>> ((nI x).toInt64 &&& 63)) &&& 1) 0 = 0)) => ?_)
      · rw [show (fun e => acT T i (x + 1) e) = fun e => acT T i x e from funext (fun e' => acT_no (e.mp hc)), show (fun p => acT T i (x + 1) (48 + p)) = fun p => acT T i x (48 + p) from funext (fun p => acT_no (e.mp hc))] at hn
        repeat (refine zw_go rfl rfl (fun _ _ => rfl) ?_)
        exact zw_kp hn
      · have ht : T i x = true := by
          cases hh : T i x
          · exact absurd (e.mpr hh) hc
          · rfl
        rw [show mk (fun e => acT T i (x + 1) e) 48 = mk (fun e => acT T i x e) 48 ||| g2 x from by rw [q2, mk_or (by omega)]; exact mk_cong (fun e' _ => acT_yes ht), show mk (fun p => acT T i (x + 1) (48 + p)) 48 = mk (fun p => acT T i x (48 + p)) 48 ||| g3 x from by rw [q3, mk_or (by omega)]; exact mk_cong (fun e' _ => acT_yes ht)] at hn
        repeat (refine zw_go rfl rfl (fun _ _ => rfl) ?_)
        refine zw_ix rfl (fun _ _ => rfl) (show vp_in (nI (x)) _ from vp_in_nI (by omega) (by omega)) ?_
        rw [show (nI (x)).toNatClampNeg = x from nI_clamp (by omega)]
        repeat (refine zw_go rfl rfl (fun _ _ => rfl) ?_)
        refine zw_ix rfl (fun _ _ => rfl) (show vp_in (nI (x)) _ from vp_in_nI (by omega) (by omega)) ?_
        rw [show (nI (x)).toNatClampNeg = x from nI_clamp (by omega)]
        repeat (refine zw_go rfl rfl (fun _ _ => rfl) ?_)
        exact zw_kp hn
  -- one pass, and the passes
  have pass : ∀ (m : Nat) (T : Nat → Nat → Bool) (g2 g3 : Nat → Int64), szT T 96 ≤ m → RwOk (inP a b c d) T 96 g2 g3 → RI (r0 V a b c d) T → zW 2 sc miX11_reach 107 [some (.ref 47), some (.int (nI a)), some (.int (nI b)), some (.int (nI c)), some (.int (nI d)), some (.int 1), none, none, none, none, none, none] [] (mm f I A (bR2 B g2 g3)) (fun M r => r = none ∧ ∃ g2 g3 T, M = mm f I A (bR2 B g2 g3) ∧ RwOk (inP a b c d) T 96 g2 g3 ∧ ∀ s t, T s t = true ↔ tg (r0 V a b c d) s t) := by
    intro m
    induction m using Nat.strongRecOn with
    | _ m ihm =>
      intro T0 g2 g3 hm hR hT
      have rows : ∀ (k i : Nat) (T : Nat → Nat → Bool) (g2 g3 : Nat → Int64) (mo : Bool), i + k = 96 → RwOk (inP a b c d) T 96 g2 g3 → RI (r0 V a b c d) T → szT T 96 ≤ m → (mo = true → szT T 96 < m) → (mo = false → ∀ s u t, s < i → T s u = true → T u t = true → T s t = true) → zW 2 sc miX11_reach 118 [some (.ref 47), some (.int (nI a)), some (.int (nI b)), some (.int (nI c)), some (.int (nI d)), some (.int (bb mo)), some (.int (nI i)), none, none, none, none, none] [] (mm f I A (bR2 B g2 g3)) (fun M r => r = none ∧ ∃ g2 g3 T, M = mm f I A (bR2 B g2 g3) ∧ RwOk (inP a b c d) T 96 g2 g3 ∧ ∀ s t, T s t = true ↔ tg (r0 V a b c d) s t) := by
        intro k
        induction k with
        | zero =>
          intro i T g2 g3 mo hi hR hT h1 h2 h3
          have hi96 : i = 96 := by omega
          subst hi96
          cases mo with
          | true =>
            refine zw_nx rfl (fun _ _ => rfl) ?_
            repeat (refine zw_go rfl rfl (fun _ _ => rfl) ?_)
            exact zw_kp (ihm (szT T 96) (h2 rfl) T g2 g3 (Nat.le_refl _) hR hT)
          | false =>
            refine zw_nx rfl (fun _ _ => rfl) ?_
            repeat (refine zw_go rfl rfl (fun _ _ => rfl) ?_)
            refine zw_nx rfl (fun _ _ => rfl) ?_
            repeat (refine zw_go rfl rfl (fun _ _ => rfl) ?_)
            exact zw_ret rfl (fun _ _ => rfl) (⟨rfl, g2, g3, T, rfl, hR, fun s t => ri_fin hT (fun s u t h4 h5 => h3 rfl s u t (inP_lt (by omega) (hT96 hT s u h4).1) h4 h5)⟩)
        | succ k ih =>
          intro i T g2 g3 mo hi hR hT h1 h2 h3
          refine zw_nx rfl (fun _ _ => rfl) ?_
          repeat (refine zw_go rfl rfl (fun _ _ => rfl) ?_)
          refine zw_br rfl (fun _ _ => rfl) (fun h9 => absurd h9 (nI_ge (a := i) (b := 96) (by omega) (by omega))) (fun _ => ?_)
          repeat (refine zw_go rfl rfl (fun _ _ => rfl) ?_)
          refine zw_call rfl (fun _ _ => rfl) (mIsStrand sc a b c d (mm f I A (bR2 B g2 g3)) i (by omega) (by omega) (by omega) hab hcd) (by decide) ?_
          rintro M1 r1 ⟨rfl, rfl⟩
          cases hin : inP a b c d i
          · have hn := ih (i + 1) T g2 g3 mo (by omega) hR hT h1 h2 (fun hmo s u t hs h4 h5 => by
              by_cases h6 : s = i
              · subst h6
                have := (hT96 hT s u h4).1
                rw [hin] at this; cases this
              · exact h3 hmo s u t (by omega) h4 h5)
            rw [nI_succ] at hn
            repeat (refine zw_go rfl rfl (fun _ _ => rfl) ?_)
            exact zw_kp hn
          · obtain ⟨r2, r3⟩ := hR i hin (by omega)
            have up : ∀ s t, T s t = true → roS T i s t = true := fun s t => roS_up
            have hR2 := rwk_row (i := i) hR rfl rfl
            have hT2 := ri_step (i := i) hT
            have sz2 := szT_le up (n := 96)
            have fin : ∀ mo2 : Bool, (mo2 = true → szT (roS T i) 96 < m) → (mo2 = false → mo = false ∧ mk (fun e => acT T i 96 e) 48 = g2 i ∧ mk (fun p => acT T i 96 (48 + p)) 48 = g3 i) → zW 2 sc miX11_reach 118 [some (.ref 47), some (.int (nI a)), some (.int (nI b)), some (.int (nI c)), some (.int (nI d)), some (.int (bb mo2)), some (.int (nI i + 1)), none, none, none, none, none] [] (mm f I A (bR2 B (vp_updL g2 i (mk (fun e => acT T i 96 e) 48)) (vp_updL g3 i (mk (fun p => acT T i 96 (48 + p)) 48)))) (fun M r => r = none ∧ ∃ g2 g3 T, M = mm f I A (bR2 B g2 g3) ∧ RwOk (inP a b c d) T 96 g2 g3 ∧ ∀ s t, T s t = true ↔ tg (r0 V a b c d) s t) := by
              intro mo2 f1 f2
              rw [← nI_succ]
              refine ih (i + 1) (roS T i) _ _ mo2 (by omega) hR2 hT2 (by omega) f1 (fun hmo s u t hs h4 h5 => ?_)
              obtain ⟨f3, f4, f5⟩ := f2 hmo
              rw [r2, mk_inj (by omega)] at f4
              rw [r3, mk_inj (by omega)] at f5
              have same : ∀ t, acT T i 96 t = T i t := fun t => by
                by_cases h48 : t < 48
                · exact f4 t h48
                · by_cases h96 : t < 96
                  · have := f5 (t - 48) (by omega)
                    rw [show 48 + (t - 48) = t by omega] at this
                    exact this
                  · have h6 : T i t = false := by
                      cases h7 : T i t
                      · rfl
                      · have := (hT96 hT i t h7).2.2; omega
                    rw [h6]
                    cases h7 : acT T i 96 t
                    · rfl
                    · rcases acT_iff.mp h7 with h8 | ⟨q, _, _, h8⟩
                      · rw [h6] at h8; cases h8
                      · have := (hT96 hT q t h8).2.2; omega
              have sameT : roS T i = T := by
                funext s t
                unfold roS
                split
                · rename_i h6; subst h6; exact same t
                · rfl
              rw [sameT] at h4 h5 ⊢
              by_cases h6 : s = i
              · subst h6
                rw [← same t]
                exact acT_iff.mpr (Or.inr ⟨u, (hT96 hT s u h4).2.2, h4, h5⟩)
              · exact h3 f3 s u t (by omega) h4 h5
            repeat (refine zw_go rfl rfl (fun _ _ => rfl) ?_)
            refine zw_ix rfl (fun _ _ => rfl) (show vp_in (nI (i)) _ from vp_in_nI (by omega) (by omega)) ?_
            rw [show (nI (i)).toNatClampNeg = i from nI_clamp (by omega)]
            repeat (refine zw_go rfl rfl (fun _ _ => rfl) ?_)
            refine zw_ix rfl (fun _ _ => rfl) (show vp_in (nI (i)) _ from vp_in_nI (by omega) (by omega)) ?_
            rw [show (nI (i)).toNatClampNeg = i from nI_clamp (by omega)]
            repeat (refine zw_go rfl rfl (fun _ _ => rfl) ?_)
            rw [show (bR2 B g2 g3) 2 i = g2 i from rfl, show (bR2 B g2 g3) 3 i = g3 i from rfl]
            have start := ends T g2 g3 i (bb mo) (fun M r => r = none ∧ ∃ g2 g3 T, M = mm f I A (bR2 B g2 g3) ∧ RwOk (inP a b c d) T 96 g2 g3 ∧ ∀ s t, T s t = true ↔ tg (r0 V a b c d) s t) (by omega) hin hR hT (by
              cases mo with
              | true =>
                have hn := fin true (fun _ => by have := h2 rfl; omega) (fun z => by cases z)
                repeat (refine zw_go rfl rfl (fun _ _ => rfl) ?_)
                refine zw_ix rfl (fun _ _ => rfl) (show vp_in (nI (i)) _ from vp_in_nI (by omega) (by omega)) ?_
                rw [show (nI (i)).toNatClampNeg = i from nI_clamp (by omega)]
                repeat (refine zw_go rfl rfl (fun _ _ => rfl) ?_)
                refine zw_ix rfl (fun _ _ => rfl) (show vp_in (nI (i)) _ from vp_in_nI (by omega) (by omega)) ?_
                rw [show (nI (i)).toNatClampNeg = i from nI_clamp (by omega)]
                repeat (refine zw_go rfl rfl (fun _ _ => rfl) ?_)
                exact zw_kp hn
              | false =>
                repeat (refine zw_go rfl rfl (fun _ _ => rfl) ?_)
                refine zw_ix rfl (fun _ _ => rfl) (show vp_in (nI (i)) _ from vp_in_nI (by omega) (by omega)) ?_
                rw [show (nI (i)).toNatClampNeg = i from nI_clamp (by omega)]
                repeat (refine zw_go rfl rfl (fun _ _ => rfl) ?_)
                refine zw_br rfl (fun _ _ => rfl) (fun (hc : lg_cmp (mk (fun e => acT T i 96 e) 48) (g2 i) = 0) => ?_) (fun (hc : ¬ (lg_cmp (mk (fun e => acT T i 96 e) 48) (g2 i) = 0)) => ?_)
                · repeat (refine zw_go rfl rfl (fun _ _ => rfl) ?_)
                  refine zw_ix rfl (fun _ _ => rfl) (show vp_in (nI (i)) _ from vp_in_nI (by omega) (by omega)) ?_
                  rw [show (nI (i)).toNatClampNeg = i from nI_clamp (by omega)]
                  repeat (refine zw_go rfl rfl (fun _ _ => rfl) ?_)
                  refine zw_br rfl (fun _ _ => rfl) (fun (hd : lg_cmp (mk (fun p => acT T i 96 (48 + p)) 48) (g3 i) = 0) => ?_) (fun (hd : ¬ (lg_cmp (mk (fun p => acT T i 96 (48 + p)) 48) (g3 i) = 0)) => ?_)
                  · have hn := fin false (fun z => by cases z) (fun _ => ⟨rfl, lg_cmp_0.mp hc, lg_cmp_0.mp hd⟩)
                    repeat (refine zw_go rfl rfl (fun _ _ => rfl) ?_)
                    refine zw_ix rfl (fun _ _ => rfl) (show vp_in (nI (i)) _ from vp_in_nI (by omega) (by omega)) ?_
                    rw [show (nI (i)).toNatClampNeg = i from nI_clamp (by omega)]
                    repeat (refine zw_go rfl rfl (fun _ _ => rfl) ?_)
                    refine zw_ix rfl (fun _ _ => rfl) (show vp_in (nI (i)) _ from vp_in_nI (by omega) (by omega)) ?_
                    rw [show (nI (i)).toNatClampNeg = i from nI_clamp (by omega)]
                    repeat (refine zw_go rfl rfl (fun _ _ => rfl) ?_)
                    exact zw_kp hn
                  · have hn := fin true (fun _ => by
                      have hne : ∃ t, t < 48 ∧ acT T i 96 (48 + t) = true ∧ T i (48 + t) = false := by
                        refine Classical.byContradiction (fun hno => hd ?_)
                        rw [lg_cmp_0, r3, mk_inj (by omega)]
                        intro t ht
                        cases h6 : T i (48 + t)
                        · cases h7 : acT T i 96 (48 + t)
                          · rfl
                          · exact absurd ⟨t, ht, h7, h6⟩ hno
                        · exact acT_iff.mpr (Or.inl h6)
                      obtain ⟨t, t1, t2, t3⟩ := hne
                      have := szT_lt up (s := i) (t := 48 + t) (by omega) (by unfold roS; rw [if_pos rfl]; exact t2) t3 (n := 96) (by omega)
                      omega) (fun z => by cases z)
                    repeat (refine zw_go rfl rfl (fun _ _ => rfl) ?_)
                    refine zw_ix rfl (fun _ _ => rfl) (show vp_in (nI (i)) _ from vp_in_nI (by omega) (by omega)) ?_
                    rw [show (nI (i)).toNatClampNeg = i from nI_clamp (by omega)]
                    repeat (refine zw_go rfl rfl (fun _ _ => rfl) ?_)
                    refine zw_ix rfl (fun _ _ => rfl) (show vp_in (nI (i)) _ from vp_in_nI (by omega) (by omega)) ?_
                    rw [show (nI (i)).toNatClampNeg = i from nI_clamp (by omega)]
                    repeat (refine zw_go rfl rfl (fun _ _ => rfl) ?_)
                    exact zw_kp hn
                · have hn := fin true (fun _ => by
                    have hne : ∃ t, t < 48 ∧ acT T i 96 t = true ∧ T i t = false := by
                      refine Classical.byContradiction (fun hno => hc ?_)
                      rw [lg_cmp_0, r2, mk_inj (by omega)]
                      intro t ht
                      cases h6 : T i t
                      · cases h7 : acT T i 96 t
                        · rfl
                        · exact absurd ⟨t, ht, h7, h6⟩ hno
                      · exact acT_iff.mpr (Or.inl h6)
                    obtain ⟨t, t1, t2, t3⟩ := hne
                    have := szT_lt up (s := i) (t := t) (by omega) (by unfold roS; rw [if_pos rfl]; exact t2) t3 (n := 96) (by omega)
                    omega) (fun z => by cases z)
                  repeat (refine zw_go rfl rfl (fun _ _ => rfl) ?_)
                  refine zw_ix rfl (fun _ _ => rfl) (show vp_in (nI (i)) _ from vp_in_nI (by omega) (by omega)) ?_
                  rw [show (nI (i)).toNatClampNeg = i from nI_clamp (by omega)]
                  repeat (refine zw_go rfl rfl (fun _ _ => rfl) ?_)
                  refine zw_ix rfl (fun _ _ => rfl) (show vp_in (nI (i)) _ from vp_in_nI (by omega) (by omega)) ?_
                  rw [show (nI (i)).toNatClampNeg = i from nI_clamp (by omega)]
                  repeat (refine zw_go rfl rfl (fun _ _ => rfl) ?_)
                  exact zw_kp hn) (b + 1 - a) a (by omega) (Nat.le_refl a)
            rw [show mk (fun e => acT T i a e) 48 = g2 i from by
              rw [r2]
              exact mk_cong (fun e _ => by
                rw [← acT_skip (n := 0) (k := a) (by omega) (fun m _ h7 => by
                  cases h8 : T i m
                  · rfl
                  · have h9 := (hT96 hT i m h8).2.1
                    rw [inP_e (by omega)] at h9
                    have := of_decide_eq_true h9
                    omega)]
                unfold acT
                rw [anyB, Bool.or_false]), show mk (fun p => acT T i a (48 + p)) 48 = g3 i from by
              rw [r3]
              exact mk_cong (fun e _ => by
                rw [← acT_skip (n := 0) (k := a) (by omega) (fun m _ h7 => by
                  cases h8 : T i m
                  · rfl
                  · have h9 := (hT96 hT i m h8).2.1
                    rw [inP_e (by omega)] at h9
                    have := of_decide_eq_true h9
                    omega)]
                unfold acT
                rw [anyB, Bool.or_false])] at start
            exact zw_kp start
      have st := rows 96 0 T0 g2 g3 false (by omega) hR hT hm (fun z => by cases z) (fun _ s u t hs => by omega)
      refine zw_nx rfl (fun _ _ => rfl) ?_
      repeat (refine zw_go rfl rfl (fun _ _ => rfl) ?_)
      exact zw_kp st
  -- the beginning
  have hr0e : ∀ e, e < 48 → inP a b c d e = true → ∀ t, t < 48 → r0 V a b c d e t = decide (e = t) := fun e he hin t ht => by
    unfold r0
    rw [rel_ee he ht, hin, Bool.false_or, Bool.and_true]
  have hr0p : ∀ p, inP a b c d (48 + p) = true → ∀ t, r0 V a b c d (48 + p) (48 + t) = decide (p = t) := fun p hin t => by
    unfold r0
    rw [rel_pp, hin, Bool.false_or, Bool.and_true, Bool.eq_iff_iff, decide_eq_true_eq, decide_eq_true_eq]
    omega
  have ip : ∀ (k y : Nat) (g2 g3 : Nat → Int64), y + k = d + 1 → c ≤ y → RwOk (inP a b c d) (r0 V a b c d) (48 + y) g2 g3 → zW 2 sc miX11_reach 50 [some (.ref 47), some (.int (nI a)), some (.int (nI b)), some (.int (nI c)), some (.int (nI d)), some (.int (nI y)), none, none, none, none, none, none] [] (mm f I A (bR2 B g2 g3)) (fun M r => r = none ∧ ∃ g2 g3 T, M = mm f I A (bR2 B g2 g3) ∧ RwOk (inP a b c d) T 96 g2 g3 ∧ ∀ s t, T s t = true ↔ tg (r0 V a b c d) s t) := by
    intro k
    induction k with
    | zero =>
      intro y g2 g3 hy hcy hR
      refine zw_nx rfl (fun _ _ => rfl) ?_
      repeat (refine zw_go rfl rfl (fun _ _ => rfl) ?_)
      first | refine zw_br rfl (fun _ _ => rfl) (fun _ => ?_) (fun h9 => absurd (show nI d < nI y from nI_lt (by omega) (by omega)) h9) | refine zw_nx rfl (fun _ _ => rfl) ?_
      repeat (refine zw_go rfl rfl (fun _ _ => rfl) ?_)
      refine zw_kp (pass (szT (r0 V a b c d) 96) (r0 V a b c d) g2 g3 (Nat.le_refl _) (rwk_skip hR (fun s h1 h2 => ?_)) ⟨fun s t h => Relation.TransGen.single h, fun s t h => h⟩)
      rw [show s = 48 + (s - 48) by omega, inP_p]
      exact decide_eq_false (by omega)
    | succ k ih =>
      intro y g2 g3 hy hcy hR
      have hin : inP a b c d (48 + y) = true := by rw [inP_p]; exact decide_eq_true ⟨hcy, by omega⟩
      have e2 : (B 0 y ^^^ (-1)) &&& mk (fun i => decide (a ≤ i)) (b + 1) = mk (fun e => r0 V a b c d (48 + y) e) 48 := mk_eq (by omega) (fun i hi => by
        rw [hB0 y (by omega), lb_and, lb_xor, lb_m1 hi, lb_mk (by omega), lb_mk (by omega)]
        by_cases h48 : i < 48
        · unfold r0
          rw [rel_pe h48, hin, inP_e h48, decide_eq_false (p := 48 + y = i) (by omega), Bool.false_and, Bool.or_false, Bool.true_and, decide_eq_true h48, Bool.true_and]
          by_cases h5 : a ≤ i ∧ i ≤ b
          · have h6 : i < w := by omega
            have h7 : i < b + 1 := by omega
            simp [h5, h6, h7]
          · rw [decide_eq_false h5]
            by_cases h6 : i < b + 1
            · have h7 : ¬ a ≤ i := by omega
              simp [h7]
            · simp [h6]
        · have h5 : ¬ i < b + 1 := by omega
          simp [h48, h5])
      have e3 : bitL y = mk (fun p => r0 V a b c d (48 + y) (48 + p)) 48 := mk_eq (by omega) (fun i hi => by
        rw [lb_bit (by omega), hr0p y hin]
        by_cases h48 : i < 48
        · rw [decide_eq_true h48, Bool.true_and, Bool.eq_iff_iff, decide_eq_true_eq, decide_eq_true_eq]; omega
        · rw [decide_eq_false h48, decide_eq_false (by omega)]; rfl)
      have hn := ih (y + 1) _ _ (by omega) (by omega) (rwk_add hR e2 e3)
      rw [nI_succ] at hn
      refine zw_nx rfl (fun _ _ => rfl) ?_
      repeat (refine zw_go rfl rfl (fun _ _ => rfl) ?_)
      first | refine zw_br rfl (fun _ _ => rfl) (fun h9 => absurd h9 (show ¬ nI d < nI y from nI_nlt (by omega) (by omega))) (fun _ => ?_) | refine zw_nx rfl (fun _ _ => rfl) ?_
      repeat (refine zw_go rfl rfl (fun _ _ => rfl) ?_)
      refine zw_ix rfl (fun _ _ => rfl) (show vp_in (nI (y)) _ from vp_in_nI (by omega) (by omega)) ?_
      rw [show (nI (y)).toNatClampNeg = y from nI_clamp (by omega)]
      repeat (refine zw_go rfl rfl (fun _ _ => rfl) ?_)
      refine zw_call rfl (fun _ _ => rfl) (mSpan sc (mm f I A (bR2 B g2 g3)) a b hab (by omega)) (by decide) ?_
      rintro M1 r1 ⟨rfl, rfl⟩
      repeat (refine zw_go rfl rfl (fun _ _ => rfl) ?_)
      rw [show (Int8.ofInt 48).toInt32 + nI y = nI (48 + y) from nI_add 48 y]
      refine zw_ix rfl (fun _ _ => rfl) (show vp_in (nI ((48 + y))) _ from vp_in_nI (by omega) (by omega)) ?_
      rw [show (nI ((48 + y))).toNatClampNeg = (48 + y) from nI_clamp (by omega)]
      repeat (refine zw_go rfl rfl (fun _ _ => rfl) ?_)
      rw [show (Int8.ofInt 48).toInt32 + nI y = nI (48 + y) from nI_add 48 y]
      refine zw_ix rfl (fun _ _ => rfl) (show vp_in (nI ((48 + y))) _ from vp_in_nI (by omega) (by omega)) ?_
      rw [show (nI ((48 + y))).toNatClampNeg = (48 + y) from nI_clamp (by omega)]
      repeat (refine zw_go rfl rfl (fun _ _ => rfl) ?_)
      exact zw_kp hn
  have ie : ∀ (k x : Nat) (g2 g3 : Nat → Int64), x + k = b + 1 → a ≤ x → RwOk (inP a b c d) (r0 V a b c d) x g2 g3 → zW 2 sc miX11_reach 3 [some (.ref 47), some (.int (nI a)), some (.int (nI b)), some (.int (nI c)), some (.int (nI d)), some (.int (nI x)), none, none, none, none, none, none] [] (mm f I A (bR2 B g2 g3)) (fun M r => r = none ∧ ∃ g2 g3 T, M = mm f I A (bR2 B g2 g3) ∧ RwOk (inP a b c d) T 96 g2 g3 ∧ ∀ s t, T s t = true ↔ tg (r0 V a b c d) s t) := by
    intro k
    induction k with
    | zero =>
      intro x g2 g3 hx hax hR
      refine zw_nx rfl (fun _ _ => rfl) ?_
      repeat (refine zw_go rfl rfl (fun _ _ => rfl) ?_)
      first | refine zw_br rfl (fun _ _ => rfl) (fun _ => ?_) (fun h9 => absurd (show nI b < nI x from nI_lt (by omega) (by omega)) h9) | refine zw_nx rfl (fun _ _ => rfl) ?_
      repeat (refine zw_go rfl rfl (fun _ _ => rfl) ?_)
      refine zw_kp (ip (d + 1 - c) c g2 g3 (by omega) (Nat.le_refl c) (rwk_skip hR (fun s h1 h2 => ?_)))
      by_cases h3 : s < 48
      · rw [inP_e h3]; exact decide_eq_false (by omega)
      · rw [show s = 48 + (s - 48) by omega, inP_p]; exact decide_eq_false (by omega)
    | succ k ih =>
      intro x g2 g3 hx hax hR
      have hin : inP a b c d x = true := by rw [inP_e (by omega)]; exact decide_eq_true ⟨hax, by omega⟩
      have e2 : bitL x = mk (fun e => r0 V a b c d x e) 48 := mk_eq (by omega) (fun i hi => by
        rw [lb_bit (by omega)]
        by_cases h48 : i < 48
        · rw [hr0e x (by omega) hin i h48, decide_eq_true h48, Bool.true_and, Bool.eq_iff_iff, decide_eq_true_eq, decide_eq_true_eq]; omega
        · rw [decide_eq_false h48, decide_eq_false (by omega)]; rfl)
      have e3 : B 1 x &&& mk (fun i => decide (c ≤ i)) (d + 1) = mk (fun p => r0 V a b c d x (48 + p)) 48 := mk_eq (by omega) (fun i hi => by
        rw [hB1 x (by omega), lb_and, lb_mk (by omega), lb_mk (by omega)]
        unfold r0
        rw [rel_ep (by omega), hin, inP_p, decide_eq_false (p := x = 48 + i) (by omega), Bool.false_and, Bool.or_false, Bool.true_and]
        by_cases h5 : c ≤ i ∧ i ≤ d
        · have h6 : i < h := by omega
          have h7 : i < d + 1 := by omega
          have h8 : i < 48 := by omega
          simp [h5, h6, h7, h8]
        · rw [decide_eq_false h5]
          by_cases h6 : i < d + 1
          · have h7 : ¬ c ≤ i := by omega
            simp [h7]
          · simp [h6])
      have hn := ih (x + 1) _ _ (by omega) (by omega) (rwk_add hR e2 e3)
      rw [nI_succ] at hn
      refine zw_nx rfl (fun _ _ => rfl) ?_
      repeat (refine zw_go rfl rfl (fun _ _ => rfl) ?_)
      first | refine zw_br rfl (fun _ _ => rfl) (fun h9 => absurd h9 (show ¬ nI b < nI x from nI_nlt (by omega) (by omega))) (fun _ => ?_) | refine zw_nx rfl (fun _ _ => rfl) ?_
      repeat (refine zw_go rfl rfl (fun _ _ => rfl) ?_)
      refine zw_ix rfl (fun _ _ => rfl) (show vp_in (nI (x)) _ from vp_in_nI (by omega) (by omega)) ?_
      rw [show (nI (x)).toNatClampNeg = x from nI_clamp (by omega)]
      repeat (refine zw_go rfl rfl (fun _ _ => rfl) ?_)
      refine zw_ix rfl (fun _ _ => rfl) (show vp_in (nI (x)) _ from vp_in_nI (by omega) (by omega)) ?_
      rw [show (nI (x)).toNatClampNeg = x from nI_clamp (by omega)]
      repeat (refine zw_go rfl rfl (fun _ _ => rfl) ?_)
      refine zw_call rfl (fun _ _ => rfl) (mSpan sc _ c d hcd (by omega)) (by decide) ?_
      rintro M1 r1 ⟨rfl, rfl⟩
      repeat (refine zw_go rfl rfl (fun _ _ => rfl) ?_)
      refine zw_ix rfl (fun _ _ => rfl) (show vp_in (nI (x)) _ from vp_in_nI (by omega) (by omega)) ?_
      rw [show (nI (x)).toNatClampNeg = x from nI_clamp (by omega)]
      repeat (refine zw_go rfl rfl (fun _ _ => rfl) ?_)
      exact zw_kp hn
  refine zc_of hkX11_reach rfl ?_
  repeat (refine zw_go rfl rfl (fun _ _ => rfl) ?_)
  have st := ie (b + 1 - a) a (B 2) (B 3) (by omega) (Nat.le_refl a) (fun s hs hsa => by
    rw [inP_e (by omega)] at hs
    have := of_decide_eq_true hs
    omega)
  rw [show bR2 B (B 2) (B 3) = B from by unfold bR2; rw [va_up_id]; exact va_up_id B 3] at st
  exact zw_kp st
end

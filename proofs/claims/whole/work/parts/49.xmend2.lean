/-! the class: settle, find, mended, mendedShaft -/
/-- the first of n from k on -/
def ffK (P : Nat → Bool) : Nat → Nat → Nat
  | 0, _ => 0
  | n + 1, k => if P k then k else ffK P n (k + 1)
theorem ffK_first {P : Nat → Bool} : ∀ {n k : Nat}, (∃ j, k ≤ j ∧ j < k + n ∧ P j = true) → P (ffK P n k) = true ∧ k ≤ ffK P n k ∧ ffK P n k < k + n ∧ ∀ j, k ≤ j → j < ffK P n k → P j = false := by
  intro n
  induction n with
  | zero => rintro k ⟨j, h1, h2, _⟩; omega
  | succ n ih =>
    rintro k ⟨j, h1, h2, h3⟩
    rw [ffK]
    by_cases h4 : P k = true
    · rw [if_pos h4]
      exact ⟨h4, Nat.le_refl _, by omega, fun j h5 h6 => by omega⟩
    · rw [if_neg h4]
      obtain ⟨a1, a2, a3, a4⟩ := ih (k := k + 1) ⟨j, by
        by_cases h5 : j = k
        · subst h5; exact absurd h3 h4
        · omega, by omega, h3⟩
      refine ⟨a1, by omega, by omega, fun j h5 h6 => ?_⟩
      by_cases h7 : j = k
      · subst h7; simpa using h4
      · exact a4 j (by omega) h6
theorem ffK_le {P : Nat → Bool} : ∀ {n k : Nat}, k + n ≤ 17 → ffK P n k ≤ 16 := by
  intro n
  induction n with
  | zero => intro k _; exact Nat.zero_le _
  | succ n ih =>
    intro k h
    rw [ffK]
    split
    · omega
    · exact ih (by omega)
/-- the SHAFT that settle gives -/
def stK (lf : Nat → Int32) (S : Nat → Nat → Bool) (h : Nat) (o : Nat → Nat) (e : Nat) : Nat := if fit lf S h (o e) e then o e else ffK (fun k => fit lf S h k e) 17 0
theorem stK_nr {lf : Nat → Int32} {S : Nat → Nat → Bool} {h : Nat} {o : Nat → Nat} {e : Nat} (hs : sB (fit lf S h) 17 e = true) : stK lf S h o e = nrF (dK lf S h e) (o e) 17 := by
  unfold stK
  by_cases h1 : fit lf S h (o e) e = true
  · rw [if_pos h1, nrF_own (of_decide_eq_true h1)]
  · rw [if_neg h1]
    obtain ⟨k, hk, h2⟩ := sB_iff.mp hs
    obtain ⟨a1, a2, a3, a4⟩ := ffK_first (P := fun k => fit lf S h k e) (n := 17) (k := 0) ⟨k, Nat.zero_le _, by omega, h2⟩
    exact (nrF_fst (fun z => h1 (decide_eq_true z)) (of_decide_eq_true a1) (fun j hj z => by
      have := a4 j (Nat.zero_le _) hj
      have h5 : fit lf S h j e = true := decide_eq_true z
      rw [h5] at this
      cases this) (by omega)).symm
/-- what is known of MENDED -/
def MdC (I : Nat → Int32) (A : Nat → Nat → Int32) (V : Nat → Int32) (S : Nat → Nat → Bool) (w h : Nat) : Prop := MdS I (mFo V S w h 256) ∧ ((mFo V S w h 256).1 ≠ none → ∀ e, e < w → A 19 e = kI (nrF (dK (mLf V (mFo V S w h 256)) S h e) (idx (V e)) 17))
section
variable (sc : sm_S) (I : Nat → Int32) (J : Nat → Int64) (A : Nat → Nat → Int32) (B : Nat → Nat → Int64) (tl : sm_M) (f : Nat → va_E) (w h n : Nat) (V : Nat → Int32) (S : Nat → Nat → Bool)
set_option maxHeartbeats 4000000 in
set_option maxRecDepth 20000 in
theorem xFits (F : Nat → Nat → Bool) (e k : Nat) (he : e < w) (hw : w ≤ 48) (hk : k ≤ 16) (h3 : J 3 = mk (fun e => F 0 e) w) (hB : ∀ c, c < 16 → B 15 c = mk (fun e => F (c + 1) e) w) : zC 2 sc 48 [.ref 44, .int (nI e), .int (kI k)] (xm I J A B tl) (zR (xm I J A B tl) (.int (if F k e then 1 else 0))) := by
  refine zc_of hkX4_fits rfl ?_
  cases k with
  | zero =>
    repeat (refine zw_go rfl rfl (fun _ _ => rfl) ?_)
    refine zw_call rfl (fun _ _ => rfl) (cHasN sc (xm I J A B tl) (J 3) (i := e) (by omega)) (by decide) ?_
    rintro M1 r1 ⟨rfl, rfl⟩
    rw [h3, lb_mk_in (by omega) he]
    cases hF : F 0 e
    · refine zw_bret rfl rfl (Or.inl rfl) ?_
      exact ⟨rfl, rfl⟩
    · refine zw_bret rfl rfl (Or.inr rfl) ?_
      exact ⟨rfl, rfl⟩
  | succ k =>
    rw [kI_s]
    repeat (refine zw_go rfl rfl (fun _ _ => rfl) ?_)
    first | refine zw_br rfl (fun _ _ => rfl) (fun h9 => absurd h9 (show ¬ nI k < (0 : Int32) from nI_pos (by omega))) (fun _ => ?_) | refine zw_nx rfl (fun _ _ => rfl) ?_
    repeat (refine zw_go rfl rfl (fun _ _ => rfl) ?_)
    refine zw_br rfl (fun _ _ => rfl) (fun h9 => absurd h9 (nI_ge (a := k) (b := 16) (by omega) (by omega))) (fun _ => ?_)
    repeat (refine zw_go rfl rfl (fun _ _ => rfl) ?_)
    refine zw_ix rfl (fun _ _ => rfl) (show vp_in (nI (k)) _ from vp_in_nI (by omega) (by omega)) ?_
    rw [show (nI (k)).toNatClampNeg = k from nI_clamp (by omega)]
    repeat (refine zw_go rfl rfl (fun _ _ => rfl) ?_)
    refine zw_call rfl (fun _ _ => rfl) (cHasN sc (xm I J A B tl) (B 15 k) (i := e) (by omega)) (by decide) ?_
    rintro M1 r1 ⟨rfl, rfl⟩
    rw [hB k (by omega), lb_mk_in (by omega) he]
    cases hF : F (k + 1) e
    · refine zw_bret rfl rfl (Or.inl rfl) ?_
      exact ⟨rfl, rfl⟩
    · refine zw_bret rfl rfl (Or.inr rfl) ?_
      exact ⟨rfl, rfl⟩
set_option maxHeartbeats 4000000 in
set_option maxRecDepth 20000 in
theorem xFirstFit (F : Nat → Nat → Bool) (e : Nat) (he : e < w) (hw : w ≤ 48) (h3 : J 3 = mk (fun e => F 0 e) w) (hB : ∀ c, c < 16 → B 15 c = mk (fun e => F (c + 1) e) w) : zC 3 sc 49 [.ref 44, .int (nI e)] (xm I J A B tl) (zR (xm I J A B tl) (.int (kI (ffK (fun k => F k e) 17 0)))) := by
  refine zc_of hkX4_firstFitting rfl ?_
  repeat (refine zw_go rfl rfl (fun _ _ => rfl) ?_)
  have key : ∀ (k c : Nat), c + k = 17 → zW 2 sc miX4_firstFitting 2 [some (.ref 44), some (.int (nI e)), some (.int (kI c))] [] (xm I J A B tl) (zR (xm I J A B tl) (.int (kI (ffK (fun k => F k e) k c)))) := by
    intro k
    induction k with
    | zero =>
      intro c hc
      have e1 : c = 17 := by omega
      subst e1
      refine zw_nx rfl (fun _ _ => rfl) ?_
      repeat (refine zw_go rfl rfl (fun _ _ => rfl) ?_)
      exact zw_ret rfl (fun _ _ => rfl) (⟨rfl, rfl⟩)
    | succ k ih =>
      intro c hc
      have hn := ih (c + 1) (by omega)
      rw [← kI_inc] at hn
      rw [ffK]
      refine zw_nx rfl (fun _ _ => rfl) ?_
      repeat (refine zw_go rfl rfl (fun _ _ => rfl) ?_)
      first | refine zw_br rfl (fun _ _ => rfl) (fun h9 => absurd h9 (kI_lt16 c (by omega))) (fun _ => ?_) | refine zw_nx rfl (fun _ _ => rfl) ?_
      repeat (refine zw_go rfl rfl (fun _ _ => rfl) ?_)
      refine zw_call rfl (fun _ _ => rfl) (xFits sc I J A B tl w F e c he hw (by omega) h3 hB) (by decide) ?_
      rintro M1 r1 ⟨rfl, rfl⟩
      cases hF : F c e
      · rw [if_neg (by simp)]
        repeat (refine zw_go rfl rfl (fun _ _ => rfl) ?_)
        exact zw_kp hn
      · rw [if_pos rfl]
        repeat (refine zw_go rfl rfl (fun _ _ => rfl) ?_)
        exact zw_ret rfl (fun _ _ => rfl) (⟨rfl, rfl⟩)
  exact zw_kp (key 17 0 (by omega))
set_option maxHeartbeats 4000000 in
set_option maxRecDepth 20000 in
theorem xSettle (q : mSt) (h7 : I 7 = nI w) (hw : w ≤ 48) (hh : h ≤ 48) (hV : VOk V) (h3 : A 3 = V) (hB4 : ∀ a, a < 16 → B 4 a = mk (fun p => ib (V (64 + p)) a) h) (hS : ∀ e, e < w → B 14 e = mk (fun p => S e p) h) (hF : MdF V S w h J B) (hq : MdS I q) (hk : mOk q) : zC 4 sc 47 [.ref 44] (xm I J A B tl) (fun M r => r = none ∧ ∃ A' B', M = xm I J A' B' tl ∧ (∀ e, e < w → A' 19 e = kI (stK (mLf V q) S h (fun e => idx (V e)) e)) ∧ (∀ a, a ≠ 19 → A' a = A a) ∧ (∀ b, b ≠ 15 → B' b = B b)) := by
  obtain ⟨f3, f4, f5, f6, f15⟩ := hF
  obtain ⟨q1, q2, q3, q4⟩ := hq
  have loop : ∀ (B' : Nat → Nat → Int64), (∀ b, b ≠ 15 → B' b = B b) → (∀ c, c < 16 → B' 15 c = mk (fun e => fit (mLf V q) S h (c + 1) e) w) → ∀ (k e : Nat), e + k = w → zW 3 sc miX4_settle 46 [some (.ref 44), some (.int (nI e)), none] [] (xm I J (va_up A 19 (wr (fun e => kI (stK (mLf V q) S h (fun e => idx (V e)) e)) (A 19) e)) B' tl) (fun M r => r = none ∧ ∃ A' B', M = xm I J A' B' tl ∧ (∀ e, e < w → A' 19 e = kI (stK (mLf V q) S h (fun e => idx (V e)) e)) ∧ (∀ a, a ≠ 19 → A' a = A a) ∧ (∀ b, b ≠ 15 → B' b = B b)) := by
    intro B' hB' h15 k
    have f0 : J 3 = mk (fun e => fit (mLf V q) S h 0 e) w := f3
    induction k with
    | zero =>
      intro e he
      have e1 : e = w := by omega
      refine zw_nx rfl (fun _ _ => rfl) ?_
      repeat (refine zw_go rfl rfl (fun _ _ => rfl) ?_)
      first | refine zw_br rfl (fun _ _ => rfl) (fun _ => ?_) (fun h9 => absurd (show I 7 ≤ nI e by rw [h7]; exact nI_le (by omega) (by omega)) h9) | refine zw_nx rfl (fun _ _ => rfl) ?_
      repeat (refine zw_go rfl rfl (fun _ _ => rfl) ?_)
      refine zw_ret rfl (fun _ _ => rfl) ?_
      refine ⟨rfl, _, B', rfl, fun e2 he2 => wr_in (F := fun e => kI (stK (mLf V q) S h (fun e => idx (V e)) e)) (g := A 19) (show e2 < e by omega), fun a ha => ?_, hB'⟩
      show va_up A 19 _ a = A a
      unfold va_up
      rw [if_neg ha]
    | succ k ih =>
      intro e he
      have hn := ih (e + 1) (by omega)
      rw [nI_succ, ← wr_s] at hn
      have hix := idx_k (hV.1 e (by omega))
      have eV : va_up A 19 (wr (fun e => kI (stK (mLf V q) S h (fun e => idx (V e)) e)) (A 19) e) 3 e = kI (idx (V e)) := by
        show A 3 e = _
        rw [h3]
        exact hix.1
      refine zw_nx rfl (fun _ _ => rfl) ?_
      repeat (refine zw_go rfl rfl (fun _ _ => rfl) ?_)
      first | refine zw_br rfl (fun _ _ => rfl) (fun h9 => absurd h9 (show ¬ I 7 ≤ nI e by rw [h7]; exact nI_ge (by omega) (by omega))) (fun _ => ?_) | refine zw_nx rfl (fun _ _ => rfl) ?_
      repeat (refine zw_go rfl rfl (fun _ _ => rfl) ?_)
      refine zw_br rfl (fun _ _ => rfl) (fun h9 => absurd h9 (nI_ge (a := e) (b := 48) (by omega) (by omega))) (fun _ => ?_)
      repeat (refine zw_go rfl rfl (fun _ _ => rfl) ?_)
      rw [show (Int32.ofInt 0) + nI e = nI e from by rw [show (Int32.ofInt 0) = nI 0 from rfl, nI_add, Nat.zero_add]]
      refine zw_call rfl (fun _ _ => rfl) (cValueOf sc I J (va_up A 19 (wr (fun e => kI (stK (mLf V q) S h (fun e => idx (V e)) e)) (A 19) e)) B' tl e (by omega)) (by decide) ?_
      rintro M1 r1 ⟨rfl, rfl⟩
      rw [eV]
      repeat (refine zw_go rfl rfl (fun _ _ => rfl) ?_)
      refine zw_call rfl (fun _ _ => rfl) (xFits sc I J (va_up A 19 (wr (fun e => kI (stK (mLf V q) S h (fun e => idx (V e)) e)) (A 19) e)) B' tl w (fit (mLf V q) S h) e (idx (V e)) (by omega) hw hix.2 f0 h15) (by decide) ?_
      rintro M1 r1 ⟨rfl, rfl⟩
      cases hf : fit (mLf V q) S h (idx (V e)) e
      · have e5 : stK (mLf V q) S h (fun e => idx (V e)) e = ffK (fun k => fit (mLf V q) S h k e) 17 0 := by
          unfold stK
          rw [if_neg (by simp [hf])]
        repeat (refine zw_go rfl rfl (fun _ _ => rfl) ?_)
        refine zw_call rfl (fun _ _ => rfl) (xFirstFit sc I J (va_up A 19 (wr (fun e => kI (stK (mLf V q) S h (fun e => idx (V e)) e)) (A 19) e)) B' tl w (fit (mLf V q) S h) e (by omega) hw f0 h15) (by decide) ?_
        rintro M1 r1 ⟨rfl, rfl⟩
        rw [← e5]
        repeat (refine zw_go rfl rfl (fun _ _ => rfl) ?_)
        refine zw_ix rfl (fun _ _ => rfl) (show vp_in (nI (e)) _ from vp_in_nI (by omega) (by omega)) ?_
        rw [show (nI (e)).toNatClampNeg = e from nI_clamp (by omega)]
        repeat (refine zw_go rfl rfl (fun _ _ => rfl) ?_)
        exact zw_kp hn
      · have e5 : stK (mLf V q) S h (fun e => idx (V e)) e = idx (V e) := by
          unfold stK
          rw [if_pos hf]
        repeat (refine zw_go rfl rfl (fun _ _ => rfl) ?_)
        rw [← e5]
        refine zw_ix rfl (fun _ _ => rfl) (show vp_in (nI (e)) _ from vp_in_nI (by omega) (by omega)) ?_
        rw [show (nI (e)).toNatClampNeg = e from nI_clamp (by omega)]
        repeat (refine zw_go rfl rfl (fun _ _ => rfl) ?_)
        exact zw_kp hn
  refine zc_of hkX4_settle rfl ?_
  repeat (refine zw_go rfl rfl (fun _ _ => rfl) ?_)
  rcases hk.2 with ⟨k1, k2⟩ | ⟨t, s, ht, hs, k1, k2⟩
  · have em : mLf V q = vLi V := by unfold mLf; rw [if_pos k1]
    first | refine zw_br rfl (fun _ _ => rfl) (fun _ => ?_) (fun h9 => absurd (show I 44 < 0 by rw [q4, k2]; decide) h9) | refine zw_nx rfl (fun _ _ => rfl) ?_
    repeat (refine zw_go rfl rfl (fun _ _ => rfl) ?_)
    have h5 := loop B (fun _ _ => rfl) (by rw [em]; exact f15) w 0 (by omega)
    rw [wr_0] at h5
    exact zw_kp h5
  · have em : mLf V q = lfT V t s := by
      unfold mLf
      rw [if_neg (fun z => by
        have : (0 : Int32) ≤ nI t := nI_pos' (by omega)
        rw [← k1, z] at this
        exact absurd this (by decide)), k1, k2, nI_clamp (by omega), nI_clamp (by omega)]
    have e44 : I 44 = nI s := q4.trans k2
    have e43 : I 43 = nI t := q3.trans k1
    first | refine zw_br rfl (fun _ _ => rfl) (fun h9 => absurd h9 (show ¬ I 44 < 0 by rw [e44]; exact nI_pos (by omega))) (fun _ => ?_) | refine zw_nx rfl (fun _ _ => rfl) ?_
    repeat (refine zw_go rfl rfl (fun _ _ => rfl) ?_)
    first | refine zw_br rfl (fun _ _ => rfl) (fun h9 => absurd h9 (show ¬ (16 : Int32) ≤ I 44 by rw [e44]; exact nI_ge (b := 16) hs (by decide))) (fun _ => ?_) | refine zw_nx rfl (fun _ _ => rfl) ?_
    repeat (refine zw_go rfl rfl (fun _ _ => rfl) ?_)
    rw [e43, e44]
    refine zw_call rfl (fun _ _ => rfl) (xPicksAfter sc I J A B tl h V t s ht hs hh h3 hB4) (by decide) ?_
    rintro M1 r1 ⟨rfl, rfl⟩
    repeat (refine zw_go rfl rfl (fun _ _ => rfl) ?_)
    refine zw_call rfl (fun _ _ => rfl) (xEndsLike sc I J A B tl w h S (lfT V t s) (s + 1) _ rfl h7 hw hh hS) (by decide) ?_
    rintro M1 r1 ⟨rfl, rfl⟩
    repeat (refine zw_go rfl rfl (fun _ _ => rfl) ?_)
    refine zw_ix rfl (fun _ _ => rfl) (show vp_in (nI (s)) _ from vp_in_nI (by omega) (by omega)) ?_
    rw [show (nI (s)).toNatClampNeg = s from nI_clamp (by omega)]
    repeat (refine zw_go rfl rfl (fun _ _ => rfl) ?_)
    have h5 := loop (va_up B 15 (vp_updL (B 15) s (mk (fun e => fit (lfT V t s) S h (s + 1) e) w))) (fun b hb => by unfold va_up; rw [if_neg hb]) (fun c hc => by
      show vp_updL (B 15) s _ c = _
      rw [em]
      unfold vp_updL
      by_cases h6 : c = s
      · rw [if_pos h6, h6]
      · rw [if_neg h6, f15 c hc]
        exact mk_cong (fun e _ => (fit_other hs (by omega) (by omega)).symm)) w 0 (by omega)
    rw [wr_0] at h5
    exact zw_kp h5
/-- what find leaves -/
def MdP (tl : sm_M) (I : Nat → Int32) (J : Nat → Int64) (A : Nat → Nat → Int32) (B : Nat → Nat → Int64) (V : Nat → Int32) (S : Nat → Nat → Bool) (w h : Nat) (M : sm_M) : Prop := ∃ I' J' A' B', M = xm I' J' A' B' tl ∧ MdC I' A' V S w h ∧ I' 45 = I 10 ∧ I' 46 = I 40 ∧ (∀ z, z < 41 → I' z = I z) ∧ (∀ z, z ≠ 3 → z ≠ 4 → z ≠ 5 → z ≠ 6 → J' z = J z) ∧ (∀ a, a ≠ 19 → A' a = A a) ∧ (∀ b, b ≠ 15 → B' b = B b)
set_option maxHeartbeats 4000000 in
set_option maxRecDepth 20000 in
theorem xFind (h7 : I 7 = nI w) (hw : w ≤ 48) (hh : h ≤ 48) (hJ : J 0 = mk (fun _ => true) w) (hV : VOk V) (h3 : A 3 = V) (hC : CV I A B w h V) (hS : ∀ e, e < w → B 14 e = mk (fun p => S e p) h) (hc : I 45 = I 10 → I 46 = I 40 → MdC I A V S w h) : zC 5 sc 42 [.ref 44] (xm I J A B tl) (fun M r => r = none ∧ MdP tl I J A B V S w h M) := by
  have main : zW 4 sc miX4_find 29 [some (.ref 44), none, none] [] (xm I J A B tl) (fun M r => r = none ∧ MdP tl I J A B V S w h M) := by
    repeat (refine zw_go rfl rfl (fun _ _ => rfl) ?_)
    refine zw_call rfl (fun _ _ => rfl) (xFitEnds sc (upd (upd I 45 (I 10)) 46 (I 40)) J A B tl w h V S h7 hw hh hJ hV hC hS) (by decide) ?_
    rintro M1 r1 ⟨rfl, J', B', rfl, hF, jK, bK⟩
    repeat (refine zw_go rfl rfl (fun _ _ => rfl) ?_)
    refine zw_call rfl (fun _ _ => rfl) (xWeighThr sc (upd (upd I 45 (I 10)) 46 (I 40)) J' A B' tl w h V S hw hF) (by decide) ?_
    rintro M1 r1 ⟨rfl, I1, rfl, hq0, iK0⟩
    repeat (refine zw_go rfl rfl (fun _ _ => rfl) ?_)
    have hC' : ∀ I2 : Nat → Int32, (∀ z, z < 41 → I2 z = I z) → CV I2 A B' w h V := fun I2 h2 => by
      obtain ⟨c1, c2, c3, c4, c5, c6, c7⟩ := hC
      unfold CV
      rw [bK 0 (by decide), bK 1 (by decide), bK 2 (by decide), bK 3 (by decide), bK 4 (by decide), h2 9 (by decide)]
      exact ⟨c1, c2, c3, c4, c5, c6, c7⟩
    have hS' : ∀ e, e < w → B' 14 e = mk (fun p => S e p) h := by rw [bK 14 (by decide)]; exact hS
    have fin : ∀ I2 : Nat → Int32, MdS I2 (mFo V S w h 256) → (∀ z, z < 41 ∨ 44 < z → I2 z = upd (upd I 45 (I 10)) 46 (I 40) z) → zW 4 sc miX4_find 93 [some (.ref 44), some (.int (nI 16)), none] [] (xm I2 J' A B' tl) (fun M r => r = none ∧ MdP tl I J A B V S w h M) := by
      intro I2 hq2 iK2
      have lo : ∀ z, z < 41 → I2 z = I z := fun z hz => by
        rw [iK2 z (Or.inl hz)]
        unfold upd
        rw [if_neg (by omega), if_neg (by omega)]
      repeat (refine zw_go rfl rfl (fun _ _ => rfl) ?_)
      refine zw_call rfl (fun _ _ => rfl) (xSettle sc I2 J' A B' tl w h V S (mFo V S w h 256) (by rw [lo 7 (by decide)]; exact h7) hw hh hV h3 (hC' I2 lo).2.2.2.2.2.1 hS' hF hq2 (mFo_ok hw (by omega))) (by decide) ?_
      rintro M1 r1 ⟨rfl, A3, B3, rfl, hA3, aK3, bK3⟩
      refine zw_ret rfl (fun _ _ => rfl) ?_
      refine ⟨rfl, I2, J', A3, B3, rfl, ⟨hq2, fun hne e he => ?_⟩, iK2 45 (Or.inr (by decide)), iK2 46 (Or.inr (by decide)), lo, jK, aK3, fun b hb => by rw [bK3 b hb, bK b hb]⟩
      rw [hA3 e he, stK_nr (mFo_some (by omega) hne e he)]
    have outer : ∀ (k t : Nat) (I2 : Nat → Int32), t + k = 16 → MdS I2 (mFo V S w h (16 * t)) → (∀ z, z < 41 ∨ 44 < z → I2 z = upd (upd I 45 (I 10)) 46 (I 40) z) → zW 4 sc miX4_find 61 [some (.ref 44), some (.int (nI t)), none] [] (xm I2 J' A B' tl) (fun M r => r = none ∧ MdP tl I J A B V S w h M) := by
      intro k
      induction k with
      | zero =>
        intro t I2 ht hq2 iK2
        have e1 : t = 16 := by omega
        subst e1
        refine zw_nx rfl (fun _ _ => rfl) ?_
        refine zw_nx rfl (fun _ _ => rfl) ?_
        refine zw_nx rfl (fun _ _ => rfl) ?_
        exact fin I2 hq2 iK2
      | succ k ih =>
        intro t I2 ht hq2 iK2
        refine zw_nx rfl (fun _ _ => rfl) ?_
        repeat (refine zw_go rfl rfl (fun _ _ => rfl) ?_)
        refine zw_br rfl (fun _ _ => rfl) (fun h9 => absurd h9 (nI_ge (a := t) (b := 16) (by omega) (by omega))) (fun _ => ?_)
        repeat (refine zw_go rfl rfl (fun _ _ => rfl) ?_)
        have inner : ∀ (k s : Nat) (I2 : Nat → Int32), s + k = 16 → MdS I2 (mFo V S w h (16 * t + s)) → (∀ z, z < 41 ∨ 44 < z → I2 z = upd (upd I 45 (I 10)) 46 (I 40) z) → zW 4 sc miX4_find 69 [some (.ref 44), some (.int (nI t)), some (.int (nI s))] [] (xm I2 J' A B' tl) (fun M r => r = none ∧ MdP tl I J A B V S w h M) := by
          intro k
          induction k with
          | zero =>
            intro s I2 hs hq2 iK2
            have e1 : s = 16 := by omega
            subst e1
            have hn := ih (t + 1) I2 (by omega) (by rw [show 16 * (t + 1) = 16 * t + 16 by omega]; exact hq2) iK2
            rw [nI_succ] at hn
            refine zw_nx rfl (fun _ _ => rfl) ?_
            repeat (refine zw_go rfl rfl (fun _ _ => rfl) ?_)
            exact zw_kp hn
          | succ k ih2 =>
            intro s I2 hs hq2 iK2
            have lo : ∀ z, z < 41 → I2 z = I z := fun z hz => by
              rw [iK2 z (Or.inl hz)]
              unfold upd
              rw [if_neg (by omega), if_neg (by omega)]
            refine zw_nx rfl (fun _ _ => rfl) ?_
            repeat (refine zw_go rfl rfl (fun _ _ => rfl) ?_)
            refine zw_br rfl (fun _ _ => rfl) (fun h9 => absurd h9 (nI_ge (a := s) (b := 16) (by omega) (by omega))) (fun _ => ?_)
            repeat (refine zw_go rfl rfl (fun _ _ => rfl) ?_)
            refine zw_call rfl (fun _ _ => rfl) (xWeighTie sc I2 J' A B' tl w h V S t s (mFo V S w h (16 * t + s)) (by omega) (by omega) (by rw [lo 7 (by decide)]; exact h7) hw hh hV h3 (hC' I2 lo) hS' hF hq2 (mFo_ok hw (by omega))) (by decide) ?_
            rintro M1 r1 ⟨rfl, I3, rfl, hq3, iK3⟩
            have e6 : (16 * t + s) / 16 = t := by omega
            have e7 : (16 * t + s) % 16 = s := by omega
            have hn := ih2 (s + 1) I3 (by omega) (by
              rw [show 16 * t + (s + 1) = (16 * t + s) + 1 by omega, mFo, e6, e7]
              exact hq3) (fun z hz => by rw [iK3 z hz, iK2 z hz])
            rw [nI_succ] at hn
            repeat (refine zw_go rfl rfl (fun _ _ => rfl) ?_)
            exact zw_kp hn
        exact zw_kp (inner 16 0 I2 (by omega) hq2 iK2)
    exact zw_kp (outer 16 0 I1 (by omega) hq0 iK0)
  refine zc_of hkX4_find rfl ?_
  repeat (refine zw_go rfl rfl (fun _ _ => rfl) ?_)
  refine zw_br rfl (fun _ _ => rfl) (fun (h5 : I 45 = I 10) => ?_) (fun (h5 : ¬ (I 45 = I 10)) => ?_)
  · repeat (refine zw_go rfl rfl (fun _ _ => rfl) ?_)
    refine zw_br rfl (fun _ _ => rfl) (fun (h6 : I 46 = I 40) => ?_) (fun (h6 : ¬ (I 46 = I 40)) => ?_)
    · repeat (refine zw_go rfl rfl (fun _ _ => rfl) ?_)
      exact zw_ret rfl (fun _ _ => rfl) (⟨rfl, I, J, A, B, rfl, hc h5 h6, h5, h6, fun _ _ => rfl, fun _ _ _ _ _ => rfl, fun _ _ => rfl, fun _ _ => rfl⟩)
    · exact main
  · exact main
/-- what a call of mended leaves -/
def MdQ (tl : sm_M) (w h : Nat) (S : Nat → Nat → Bool) (I : Nat → Int32) (J : Nat → Int64) (A : Nat → Nat → Int32) (B : Nat → Nat → Int64) (M : sm_M) : Prop := ∃ I' J' A' B', M = xm I' J' A' B' tl ∧ WH w h I' J' A' B' ∧ (I' 45 = I' 6 → I' 46 = I' 40 → MdC I' A' (A 3) S w h) ∧ (∀ z, z ≠ 9 → z ≠ 10 → z < 41 → I' z = I z) ∧ (I' 45 = I 45 ∨ I' 45 = I 6) ∧ (I' 46 = I 46 ∨ I' 46 = I 40) ∧ (∀ z, z ≠ 3 → z ≠ 4 → z ≠ 5 → z ≠ 6 → J' z = J z) ∧ (∀ a, a ≠ 5 → a ≠ 19 → A' a = A a) ∧ (∀ b, 4 < b → b ≠ 15 → B' b = B b) ∧ (I' 10 = I 10 ∨ I' 10 = I 6)
theorem md_q {tl : sm_M} {w h : Nat} {S : Nat → Nat → Bool} {I I' : Nat → Int32} {J : Nat → Int64} {A A' : Nat → Nat → Int32} {B B' : Nat → Nat → Int64} {M : sm_M} (hW : WH w h I' J A' B') (hK : WK I A B I' A' B') (hP : MdP tl I' J A' B' (A 3) S w h M) : ∃ I2 J2 A2 B2, M = xm I2 J2 A2 B2 tl ∧ MdC I2 A2 (A 3) S w h ∧ MdQ tl w h S I J A B M := by
  obtain ⟨I2, J2, A2, B2, rfl, c, e45, e46, iK, jK, aK, bK⟩ := hP
  have i6 : I' 6 = I 6 := hK.1 6 (by decide) (by decide)
  refine ⟨I2, J2, A2, B2, rfl, c, I2, J2, A2, B2, rfl, wh_cong hW (fun z hz => iK z (by omega)) (jK 0 (by decide) (by decide) (by decide) (by decide)) (fun a ha => aK a (by omega)) (fun b hb => bK b (by omega)), fun _ _ => c, fun z h9 h10 hz => ?_, Or.inr ?_, Or.inr ?_, jK, fun a h5 h19 => ?_, fun b h4 h15 => ?_, Or.inr ?_⟩
  · rw [iK z hz, hK.1 z h9 h10]
  · rw [e45, hK.2.1, i6]
  · rw [e46, hK.1 40 (by decide) (by decide)]
  · rw [aK a h19, hK.2.2.1 a h5]
  · rw [bK b h15, hK.2.2.2 b h4]
  · rw [iK 10 (by decide), hK.2.1, i6]
set_option maxHeartbeats 4000000 in
set_option maxRecDepth 20000 in
theorem xMended (z : Int32) (hW : WH w h I J A B) (hS : SOk B w h S) (hc : I 45 = I 6 → I 46 = I 40 → MdC I A (A 3) S w h) : zC 6 sc 142 [.ref 0, .int z] (xm I J A B tl) (fun M r => r = some (.int (aMended (A 3) S w h z)) ∧ MdQ tl w h S I J A B M) := by
  refine zc_of hkX10_mended rfl ?_
  repeat (refine zw_go rfl rfl (fun _ _ => rfl) ?_)
  refine zw_call rfl (fun _ _ => rfl) (xWv sc I J A B tl w h hW) (by decide) ?_
  rintro M1 r1 ⟨rfl, I', A', B', rfl, hW2, hC, hK⟩
  have hW3 := hW2
  obtain ⟨h0, h1, h7, h8, hw1, hw, hh1, hh, hJ, hV, hC', hR⟩ := hW2
  have e3 : A' 3 = A 3 := hK.2.2.1 3 (by decide)
  rw [e3] at hV
  have i6 : I' 6 = I 6 := hK.1 6 (by decide) (by decide)
  have hcc : I' 45 = I' 10 → I' 46 = I' 40 → MdC I' A' (A 3) S w h := fun a b => by
    obtain ⟨⟨c1, c2, c3, c4⟩, c5⟩ := hc (by rw [← hK.1 45 (by decide) (by decide), a, hK.2.1, i6]) (by rw [← hK.1 46 (by decide) (by decide), b, hK.1 40 (by decide) (by decide)])
    exact ⟨⟨by rw [hK.1 41 (by decide) (by decide)]; exact c1, by rw [hK.1 42 (by decide) (by decide)]; exact c2, by rw [hK.1 43 (by decide) (by decide)]; exact c3, by rw [hK.1 44 (by decide) (by decide)]; exact c4⟩, by rw [hK.2.2.1 19 (by decide)]; exact c5⟩
  repeat (refine zw_go rfl rfl (fun _ _ => rfl) ?_)
  refine zw_call rfl (fun _ _ => rfl) (xFind sc I' J A' B' tl w h (A 3) S h7 hw hh hJ hV e3 hC (fun e he => by rw [hK.2.2.2 14 (by decide)]; exact hS.2.2 e he) hcc) (by decide) ?_
  rintro M1 r1 ⟨rfl, hP⟩
  obtain ⟨I2, J2, A2, B2, rfl, ⟨⟨c1, c2, c3, c4⟩, c5⟩, hQ⟩ := md_q hW3 hK hP
  have hok := mFo_ok (V := A 3) (S := S) (w := w) (h := h) hw (q := 256) (by omega)
  repeat (refine zw_go rfl rfl (fun _ _ => rfl) ?_)
  unfold aMended
  cases hm : (mFo (A 3) S w h 256).1 with
  | none =>
    rw [hm] at c1
    first | refine zw_br rfl (fun _ _ => rfl) (fun _ => ?_) (fun h9 => absurd (c1) h9) | refine zw_nx rfl (fun _ _ => rfl) ?_
    repeat (refine zw_go rfl rfl (fun _ _ => rfl) ?_)
    refine zw_ret rfl (fun _ _ => rfl) ?_
    refine ⟨?_, hQ⟩
    by_cases hz : 0 ≤ z ∧ z ≤ nI 2
    · rw [if_pos hz]; rfl
    · rw [if_neg hz]; rfl
  | some c =>
    rw [hm] at c1
    first | refine zw_br rfl (fun _ _ => rfl) (fun h9 => absurd h9 (show ¬ I2 41 = 0 by rw [c1]; exact (by decide : ¬ (1 : Int32) = 0))) (fun _ => ?_) | refine zw_nx rfl (fun _ _ => rfl) ?_
    repeat (refine zw_go rfl rfl (fun _ _ => rfl) ?_)
    by_cases hz : 0 ≤ z ∧ z ≤ nI 2
    · rw [if_pos hz]
      obtain ⟨j, hj, rfl⟩ := inR_of (n := 3) ⟨hz.1, Int32.lt_of_le_of_lt hz.2 (by decide)⟩ (by decide)
      rw [nI_clamp (by omega)]
      rcases (show j = 0 ∨ j = 1 ∨ j = 2 by omega) with rfl | rfl | rfl
      · repeat (refine zw_go rfl rfl (fun _ _ => rfl) ?_)
        exact zw_ret rfl (fun _ _ => rfl) (⟨by rw [c2 c hm]; rfl, hQ⟩)
      · repeat (refine zw_go rfl rfl (fun _ _ => rfl) ?_)
        exact zw_ret rfl (fun _ _ => rfl) (⟨by rw [c3]; rfl, hQ⟩)
      · repeat (refine zw_go rfl rfl (fun _ _ => rfl) ?_)
        exact zw_ret rfl (fun _ _ => rfl) (⟨by rw [c4]; rfl, hQ⟩)
    · rw [if_neg hz]
      refine zw_tsd 80 rfl rfl (i32_out (by decide) hz) ?_
      repeat (refine zw_go rfl rfl (fun _ _ => rfl) ?_)
      exact zw_ret rfl (fun _ _ => rfl) (⟨rfl, hQ⟩)
set_option maxHeartbeats 4000000 in
set_option maxRecDepth 20000 in
theorem xMendedShaft (x : Int32) (hW : WH w h I J A B) (hS : SOk B w h S) (hc : I 45 = I 6 → I 46 = I 40 → MdC I A (A 3) S w h) : zC 6 sc 143 [.ref 0, .int x] (xm I J A B tl) (fun M r => r = some (.int (aMendS (A 3) S w h x)) ∧ MdQ tl w h S I J A B M) := by
  have hWW := hW
  unfold aMendS
  refine zc_of hkX10_mendedShaft rfl ?_
  repeat (refine zw_go rfl rfl (fun _ _ => rfl) ?_)
  refine zw_call rfl (fun _ _ => rfl) (xIsEnd sc I J A B tl x w hW.1) (by decide) ?_
  rintro M1 r1 ⟨rfl, rfl⟩
  repeat (refine zw_go rfl rfl (fun _ _ => rfl) ?_)
  refine zw_br rfl (fun _ _ => rfl) (fun (hd : bI (0 ≤ x ∧ x < nI w) = 0) => ?_) (fun (hd : ¬ (bI (0 ≤ x ∧ x < nI w) = 0)) => ?_)
  · repeat (refine zw_go rfl rfl (fun _ _ => rfl) ?_)
    exact zw_ret rfl (fun _ _ => rfl) (⟨by rw [if_neg (bI_0.mp hd)]; rfl, I, J, A, B, rfl, hWW, hc, fun _ _ _ _ => rfl, Or.inl rfl, Or.inl rfl, fun _ _ _ _ _ => rfl, fun _ _ _ => rfl, fun _ _ _ => rfl, Or.inl rfl⟩)
  · have he := bI_of hd
    rw [if_pos he]
    repeat (refine zw_go rfl rfl (fun _ _ => rfl) ?_)
    refine zw_call rfl (fun _ _ => rfl) (xWv sc I J A B tl w h hW) (by decide) ?_
    rintro M1 r1 ⟨rfl, I', A', B', rfl, hW2, hC, hK⟩
    have hW3 := hW2
    obtain ⟨h0, h1, h7, h8, hw1, hw, hh1, hh, hJ, hV, hC', hR⟩ := hW2
    obtain ⟨e, hew, rfl⟩ := inR_of he (by omega)
    rw [nI_clamp (n := e) (by omega)]
    have e3 : A' 3 = A 3 := hK.2.2.1 3 (by decide)
    rw [e3] at hV
    have i6 : I' 6 = I 6 := hK.1 6 (by decide) (by decide)
    have hcc : I' 45 = I' 10 → I' 46 = I' 40 → MdC I' A' (A 3) S w h := fun a b => by
      obtain ⟨⟨c1, c2, c3, c4⟩, c5⟩ := hc (by rw [← hK.1 45 (by decide) (by decide), a, hK.2.1, i6]) (by rw [← hK.1 46 (by decide) (by decide), b, hK.1 40 (by decide) (by decide)])
      exact ⟨⟨by rw [hK.1 41 (by decide) (by decide)]; exact c1, by rw [hK.1 42 (by decide) (by decide)]; exact c2, by rw [hK.1 43 (by decide) (by decide)]; exact c3, by rw [hK.1 44 (by decide) (by decide)]; exact c4⟩, by rw [hK.2.2.1 19 (by decide)]; exact c5⟩
    repeat (refine zw_go rfl rfl (fun _ _ => rfl) ?_)
    refine zw_call rfl (fun _ _ => rfl) (xFind sc I' J A' B' tl w h (A 3) S h7 hw hh hJ hV e3 hC (fun e he => by rw [hK.2.2.2 14 (by decide)]; exact hS.2.2 e he) hcc) (by decide) ?_
    rintro M1 r1 ⟨rfl, hP⟩
    obtain ⟨I2, J2, A2, B2, rfl, ⟨⟨c1, c2, c3, c4⟩, c5⟩, hQ⟩ := md_q hW3 hK hP
    repeat (refine zw_go rfl rfl (fun _ _ => rfl) ?_)
    cases hm : (mFo (A 3) S w h 256).1 with
    | none =>
      rw [hm] at c1
      first | refine zw_br rfl (fun _ _ => rfl) (fun _ => ?_) (fun h9 => absurd (c1) h9) | refine zw_nx rfl (fun _ _ => rfl) ?_
      repeat (refine zw_go rfl rfl (fun _ _ => rfl) ?_)
      exact zw_ret rfl (fun _ _ => rfl) (⟨rfl, hQ⟩)
    | some c =>
      rw [hm] at c1
      first | refine zw_br rfl (fun _ _ => rfl) (fun h9 => absurd h9 (show ¬ I2 41 = 0 by rw [c1]; exact (by decide : ¬ (1 : Int32) = 0))) (fun _ => ?_) | refine zw_nx rfl (fun _ _ => rfl) ?_
      repeat (refine zw_go rfl rfl (fun _ _ => rfl) ?_)
      refine zw_ix rfl (fun _ _ => rfl) (show vp_in (nI (e)) _ from vp_in_nI (by omega) (by omega)) ?_
      rw [show (nI (e)).toNatClampNeg = e from nI_clamp (by omega)]
      repeat (refine zw_go rfl rfl (fun _ _ => rfl) ?_)
      exact zw_ret rfl (fun _ _ => rfl) (⟨by rw [c5 (by rw [hm]; simp) e hew], hQ⟩)
end

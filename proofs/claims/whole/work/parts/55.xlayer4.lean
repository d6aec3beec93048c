/-! the class: isOnTop, lowestOnTop, numberLayerOf, numberAll -/
theorem ot_ {p q o : Nat → Bool} : lg_cmp ((mk p 48 &&& (mk q 48 ^^^ (-1))) &&& mk o 48) 0 = 0 ↔ ∀ e, e < 48 → o e = true → p e = true → q e = true := by
  rw [lg_cmp_0, mk_andn (by omega), mk_and (by omega), mk_zero (by omega)]
  constructor
  · intro h e he h1 h2
    have := h e he
    rw [h1, h2] at this
    simpa using this
  · intro h e he
    cases h1 : o e
    · simp
    · cases h2 : p e
      · simp
      · rw [h e he h1 h2]; rfl
theorem top_2 {T : Nat → Nat → Bool} {O : Nat → Bool} {s : Nat} : top T O s = true ↔ (∀ e, e < 48 → O e = true → T e s = true → T s e = true) ∧ ∀ e, e < 48 → O (48 + e) = true → T (48 + e) s = true → T s (48 + e) = true := by
  rw [top_iff]
  constructor
  · intro h; exact ⟨fun e he => h e (by omega), fun e he => h (48 + e) (by omega)⟩
  · rintro ⟨h1, h2⟩ t ht
    by_cases h3 : t < 48
    · exact h1 t h3
    · have := h2 (t - 48) (by omega)
      rw [show 48 + (t - 48) = t by omega] at this
      exact this
theorem fO_s {p : Nat → Bool} {i : Nat} (h : i < 96) : fO p (96 - i) i = if p i then some i else fO p (96 - (i + 1)) (i + 1) := by
  rw [show 96 - i = (96 - (i + 1)) + 1 by omega, fO]
theorem fO_go {p : Nat → Bool} : ∀ (k : Nat) {i : Nat}, i + k ≤ 96 → (∀ q, i ≤ q → q < i + k → p q = false) → fO p (96 - i) i = fO p (96 - (i + k)) (i + k) := by
  intro k
  induction k with
  | zero => intro i _ _; rfl
  | succ k ih =>
    intro i hi h
    have := ih (i := i + 1) (by omega) (fun q h1 h2 => h q (by omega) (by omega))
    rw [fO_s (by omega), h i (Nat.le_refl _) (by omega), if_neg (by simp), this, show i + 1 + k = i + (k + 1) by omega]
theorem fO_to {p : Nat → Bool} {i j : Nat} (hij : i ≤ j) (hj : j ≤ 96) (h : ∀ q, i ≤ q → q < j → p q = false) : fO p (96 - i) i = fO p (96 - j) j := by
  have := fO_go (p := p) (j - i) (i := i) (by omega) (fun q h1 h2 => h q h1 (by omega))
  rw [show i + (j - i) = j by omega] at this
  exact this
theorem fO_all {p : Nat → Bool} : ∀ {k i : Nat}, (∀ q, i ≤ q → q < i + k → p q = false) → fO p k i = none := by
  intro k
  induction k with
  | zero => intro i _; rfl
  | succ k ih =>
    intro i h
    rw [fO, h i (Nat.le_refl _) (by omega), if_neg (by simp)]
    exact ih (fun q h1 h2 => h q (by omega) (by omega))
/-- the strand, or none -/
def oJ : Option Nat → Int32
  | none => -1
  | some s => nI s
/-- numbers given up to n -/
def nuG (T : Nat → Nat → Bool) (P : Nat → Bool) (s n : Nat) (x : Int32) (g : Nat → Int32) : Nat → Int32 := fun t => if t < n ∧ P t = true ∧ scc T s t = true then x else g t
theorem nu_skip {T : Nat → Nat → Bool} {P : Nat → Bool} {s n k : Nat} {x : Int32} {g : Nat → Int32} (hnk : n ≤ k) (h : ∀ t, n ≤ t → t < k → P t = false) : nuG T P s n x g = nuG T P s k x g := by
  funext t
  unfold nuG
  by_cases h1 : t < n
  · have h2 : t < k := by omega
    simp [h1, h2]
  · by_cases h2 : t < k
    · rw [h t (by omega) h2]; simp
    · simp [h1, h2]
theorem nu_yes {T : Nat → Nat → Bool} {P : Nat → Bool} {s n : Nat} {x : Int32} {g : Nat → Int32} (h1 : P n = true) (h2 : scc T s n = true) : upd (nuG T P s n x g) n x = nuG T P s (n + 1) x g := by
  funext t
  unfold nuG upd
  by_cases h3 : t = n
  · subst h3
    rw [if_pos rfl, if_pos ⟨by omega, h1, h2⟩]
  · rw [if_neg h3]
    by_cases h4 : t < n
    · have h5 : t < n + 1 := by omega
      simp [h4, h5]
    · have h5 : ¬ t < n + 1 := by omega
      simp [h4, h5]
theorem nu_no {T : Nat → Nat → Bool} {P : Nat → Bool} {s n : Nat} {x : Int32} {g : Nat → Int32} (h : scc T s n = false) : nuG T P s n x g = nuG T P s (n + 1) x g := by
  funext t
  unfold nuG
  by_cases h3 : t = n
  · subst h3
    rw [h]; simp
  · by_cases h4 : t < n
    · have h5 : t < n + 1 := by omega
      simp [h4, h5]
    · have h5 : ¬ t < n + 1 := by omega
      simp [h4, h5]
theorem nu_0 {T : Nat → Nat → Bool} {P : Nat → Bool} {s : Nat} {x : Int32} {g : Nat → Int32} : nuG T P s 0 x g = g := by
  funext t
  unfold nuG
  rw [if_neg (by omega)]
section
variable (sc : sm_S) (I : Nat → Int32) (J : Nat → Int64) (A : Nat → Nat → Int32) (B : Nat → Nat → Int64) (tl : sm_M) (f : Nat → va_E) (w h n : Nat) (V : Nat → Int32) (a b c d : Nat)
set_option maxHeartbeats 4000000 in
set_option maxRecDepth 20000 in
theorem xIsOnTop (T : Nat → Nat → Bool) (O : Nat → Bool) (s : Nat) (hs : s < 96) (r6 : B 6 s = mk (fun e => T s e) 48) (r7 : B 7 s = mk (fun p => T s (48 + p)) 48) (r8 : B 8 s = mk (fun e => T e s) 48) (r9 : B 9 s = mk (fun p => T (48 + p) s) 48) (hJ1 : J 1 = mk (fun e => O e) 48) (hJ2 : J 2 = mk (fun p => O (48 + p)) 48) : zC 1 sc 29 [.ref 27, .int (nI s)] (xm I J A B tl) (zR (xm I J A B tl) (.int (if top T O s then 1 else 0))) := by
  have e1 : lg_cmp (B 8 s &&& (B 6 s ^^^ (-1)) &&& J 1) 0 = 0 ↔ ∀ e, e < 48 → O e = true → T e s = true → T s e = true := by rw [r8, r6, hJ1]; exact ot_
  have e2 : lg_cmp (B 9 s &&& (B 7 s ^^^ (-1)) &&& J 2) 0 = 0 ↔ ∀ e, e < 48 → O (48 + e) = true → T (48 + e) s = true → T s (48 + e) = true := by rw [r9, r7, hJ2]; exact ot_
  refine zc_of hkX2_isOnTop rfl ?_
  repeat (refine zw_go rfl rfl (fun _ _ => rfl) ?_)
  refine zw_ix rfl (fun _ _ => rfl) (show vp_in (nI (s)) _ from vp_in_nI (by omega) (by omega)) ?_
  rw [show (nI (s)).toNatClampNeg = s from nI_clamp (by omega)]
  repeat (refine zw_go rfl rfl (fun _ _ => rfl) ?_)
  refine zw_ix rfl (fun _ _ => rfl) (show vp_in (nI (s)) _ from vp_in_nI (by omega) (by omega)) ?_
  rw [show (nI (s)).toNatClampNeg = s from nI_clamp (by omega)]
  repeat (refine zw_go rfl rfl (fun _ _ => rfl) ?_)
  refine zw_br rfl (fun _ _ => rfl) (fun (hc : lg_cmp (B 8 s &&& (B 6 s ^^^ (-1)) &&& J 1) 0 = 0) => ?_) (fun (hc : ¬ (lg_cmp (B 8 s &&& (B 6 s ^^^ (-1)) &&& J 1) 0 = 0)) => ?_)
  · repeat (refine zw_go rfl rfl (fun _ _ => rfl) ?_)
    refine zw_ix rfl (fun _ _ => rfl) (show vp_in (nI (s)) _ from vp_in_nI (by omega) (by omega)) ?_
    rw [show (nI (s)).toNatClampNeg = s from nI_clamp (by omega)]
    repeat (refine zw_go rfl rfl (fun _ _ => rfl) ?_)
    refine zw_ix rfl (fun _ _ => rfl) (show vp_in (nI (s)) _ from vp_in_nI (by omega) (by omega)) ?_
    rw [show (nI (s)).toNatClampNeg = s from nI_clamp (by omega)]
    repeat (refine zw_go rfl rfl (fun _ _ => rfl) ?_)
    refine zw_br rfl (fun _ _ => rfl) (fun (hd : lg_cmp (B 9 s &&& (B 7 s ^^^ (-1)) &&& J 2) 0 = 0) => ?_) (fun (hd : ¬ (lg_cmp (B 9 s &&& (B 7 s ^^^ (-1)) &&& J 2) 0 = 0)) => ?_)
    · repeat (refine zw_go rfl rfl (fun _ _ => rfl) ?_)
      exact zw_ret rfl (fun _ _ => rfl) (⟨rfl, by rw [top_2.mpr ⟨e1.mp hc, e2.mp hd⟩]; rfl⟩)
    · repeat (refine zw_go rfl rfl (fun _ _ => rfl) ?_)
      exact zw_ret rfl (fun _ _ => rfl) (⟨rfl, by rw [if_neg (fun z => hd (e2.mpr (top_2.mp z).2))]; rfl⟩)
  · repeat (refine zw_go rfl rfl (fun _ _ => rfl) ?_)
    exact zw_ret rfl (fun _ _ => rfl) (⟨rfl, by rw [if_neg (fun z => hc (e1.mpr (top_2.mp z).1))]; rfl⟩)
set_option maxHeartbeats 4000000 in
set_option maxRecDepth 20000 in
theorem xLowTop (T : Nat → Nat → Bool) (O : Nat → Bool) (h30 : I 30 = nI a) (h31 : I 31 = nI b) (h32 : I 32 = nI c) (h33 : I 33 = nI d) (hab : a ≤ b) (hb : b < 48) (hcd : c ≤ d) (hd : d < 48) (hO : ∀ s, O s = true → inP a b c d s = true) (R : RwOk (inP a b c d) T 96 (B 6) (B 7)) (U : RwOk (inP a b c d) (fun s t => T t s) 96 (B 8) (B 9)) (hJ1 : J 1 = mk (fun e => O e) 48) (hJ2 : J 2 = mk (fun p => O (48 + p)) 48) : zC 2 sc 28 [.ref 27] (xm I J A B tl) (zR (xm I J A B tl) (.int (oJ (lBest T O)))) := by
  have out : ∀ q, inP a b c d q = false → (O q && top T O q) = false := fun q hq => by
    cases h1 : O q
    · rfl
    · rw [hO q h1] at hq; cases hq
  have picks : ∀ (k i : Nat), i + k = d + 1 → c ≤ i → lBest T O = fO (fun s => O s && top T O s) (96 - (48 + i)) (48 + i) → zW 1 sc miX2_lowestOnTop 45 [some (.ref 27), some (.int (nI i))] [] (xm I J A B tl) (zR (xm I J A B tl) (.int (oJ (lBest T O)))) := by
    intro k
    induction k with
    | zero =>
      intro i hi hci hq
      refine zw_nx rfl (fun _ _ => rfl) ?_
      repeat (refine zw_go rfl rfl (fun _ _ => rfl) ?_)
      first | refine zw_br rfl (fun _ _ => rfl) (fun _ => ?_) (fun h9 => absurd (show I 33 < nI i by rw [h33]; exact nI_lt (by omega) (by omega)) h9) | refine zw_nx rfl (fun _ _ => rfl) ?_
      repeat (refine zw_go rfl rfl (fun _ _ => rfl) ?_)
      refine zw_ret rfl (fun _ _ => rfl) ?_
      refine ⟨rfl, ?_⟩
      rw [hq, fO_all (fun q h1 h2 => out q ?_)]
      · rfl
      · rw [show q = 48 + (q - 48) by omega, inP_p]; exact decide_eq_false (by omega)
    | succ k ih =>
      intro i hi hci hq
      have hin : inP a b c d (48 + i) = true := by rw [inP_p]; exact decide_eq_true ⟨hci, by omega⟩
      obtain ⟨r6, r7⟩ := R (48 + i) hin (by omega)
      obtain ⟨r8, r9⟩ := U (48 + i) hin (by omega)
      rw [fO_s (by omega)] at hq
      refine zw_nx rfl (fun _ _ => rfl) ?_
      repeat (refine zw_go rfl rfl (fun _ _ => rfl) ?_)
      first | refine zw_br rfl (fun _ _ => rfl) (fun h9 => absurd h9 (show ¬ I 33 < nI i by rw [h33]; exact nI_nlt (by omega) (by omega))) (fun _ => ?_) | refine zw_nx rfl (fun _ _ => rfl) ?_
      repeat (refine zw_go rfl rfl (fun _ _ => rfl) ?_)
      refine zw_call rfl (fun _ _ => rfl) (cHasN sc (xm I J A B tl) (J 2) (i := i) (by omega)) (by decide) ?_
      rintro M1 r1 ⟨rfl, rfl⟩
      rw [hJ2, lb_mk_in (by omega) (by omega)]
      cases hc : O (48 + i)
      · have hn := ih (i + 1) (by omega) (by omega) (by rw [hq, hc]; rfl)
        rw [nI_succ] at hn
        repeat (refine zw_go rfl rfl (fun _ _ => rfl) ?_)
        exact zw_kp hn
      · repeat (refine zw_go rfl rfl (fun _ _ => rfl) ?_)
        rw [show (Int8.ofInt 48).toInt32 + nI i = nI (48 + i) from nI_add 48 i]
        refine zw_call rfl (fun _ _ => rfl) (xIsOnTop sc I J A B tl T O (48 + i) (by omega) r6 r7 r8 r9 hJ1 hJ2) (by decide) ?_
        rintro M1 r1 ⟨rfl, rfl⟩
        cases ht : top T O (48 + i)
        · have hn := ih (i + 1) (by omega) (by omega) (by rw [hq, hc, ht]; rfl)
          rw [nI_succ] at hn
          repeat (refine zw_go rfl rfl (fun _ _ => rfl) ?_)
          exact zw_kp hn
        · repeat (refine zw_go rfl rfl (fun _ _ => rfl) ?_)
          refine zw_ret rfl (fun _ _ => rfl) ?_
          refine ⟨rfl, ?_⟩
          rw [hq, hc, ht]
          exact congrArg (fun z => some (Value.int z)) (nI_add 48 i)
  have ends : ∀ (k i : Nat), i + k = b + 1 → a ≤ i → lBest T O = fO (fun s => O s && top T O s) (96 - i) i → zW 1 sc miX2_lowestOnTop 5 [some (.ref 27), some (.int (nI i))] [] (xm I J A B tl) (zR (xm I J A B tl) (.int (oJ (lBest T O)))) := by
    intro k
    induction k with
    | zero =>
      intro i hi hai hq
      refine zw_nx rfl (fun _ _ => rfl) ?_
      repeat (refine zw_go rfl rfl (fun _ _ => rfl) ?_)
      first | refine zw_br rfl (fun _ _ => rfl) (fun _ => ?_) (fun h9 => absurd (show I 31 < nI i by rw [h31]; exact nI_lt (by omega) (by omega)) h9) | refine zw_nx rfl (fun _ _ => rfl) ?_
      repeat (refine zw_go rfl rfl (fun _ _ => rfl) ?_)
      rw [h32]
      refine zw_kp (picks (d + 1 - c) c (by omega) (Nat.le_refl c) ?_)
      rw [hq]
      refine fO_to (by omega) (by omega) (fun q h1 h2 => out q ?_)
      by_cases h3 : q < 48
      · rw [inP_e h3]; exact decide_eq_false (by omega)
      · rw [show q = 48 + (q - 48) by omega, inP_p]; exact decide_eq_false (by omega)
    | succ k ih =>
      intro i hi hai hq
      have hin : inP a b c d i = true := by rw [inP_e (by omega)]; exact decide_eq_true ⟨hai, by omega⟩
      obtain ⟨r6, r7⟩ := R i hin (by omega)
      obtain ⟨r8, r9⟩ := U i hin (by omega)
      rw [fO_s (by omega)] at hq
      refine zw_nx rfl (fun _ _ => rfl) ?_
      repeat (refine zw_go rfl rfl (fun _ _ => rfl) ?_)
      first | refine zw_br rfl (fun _ _ => rfl) (fun h9 => absurd h9 (show ¬ I 31 < nI i by rw [h31]; exact nI_nlt (by omega) (by omega))) (fun _ => ?_) | refine zw_nx rfl (fun _ _ => rfl) ?_
      repeat (refine zw_go rfl rfl (fun _ _ => rfl) ?_)
      refine zw_call rfl (fun _ _ => rfl) (cHasN sc (xm I J A B tl) (J 1) (i := i) (by omega)) (by decide) ?_
      rintro M1 r1 ⟨rfl, rfl⟩
      rw [hJ1, lb_mk_in (by omega) (by omega)]
      cases hc : O i
      · have hn := ih (i + 1) (by omega) (by omega) (by rw [hq, hc]; rfl)
        rw [nI_succ] at hn
        repeat (refine zw_go rfl rfl (fun _ _ => rfl) ?_)
        exact zw_kp hn
      · repeat (refine zw_go rfl rfl (fun _ _ => rfl) ?_)
        refine zw_call rfl (fun _ _ => rfl) (xIsOnTop sc I J A B tl T O i (by omega) r6 r7 r8 r9 hJ1 hJ2) (by decide) ?_
        rintro M1 r1 ⟨rfl, rfl⟩
        cases ht : top T O i
        · have hn := ih (i + 1) (by omega) (by omega) (by rw [hq, hc, ht]; rfl)
          rw [nI_succ] at hn
          repeat (refine zw_go rfl rfl (fun _ _ => rfl) ?_)
          exact zw_kp hn
        · repeat (refine zw_go rfl rfl (fun _ _ => rfl) ?_)
          refine zw_ret rfl (fun _ _ => rfl) ?_
          refine ⟨rfl, ?_⟩
          rw [hq, hc, ht]
          rfl
  refine zc_of hkX2_lowestOnTop rfl ?_
  repeat (refine zw_go rfl rfl (fun _ _ => rfl) ?_)
  rw [h30]
  refine zw_kp (ends (b + 1 - a) a (by omega) (Nat.le_refl a) ?_)
  refine (fO_to (p := fun s => O s && top T O s) (i := 0) (j := a) (Nat.zero_le _) (by omega) (fun q h1 h2 => out q ?_))
  rw [inP_e (by omega)]; exact decide_eq_false (by omega)
set_option maxHeartbeats 4000000 in
set_option maxRecDepth 20000 in
theorem xNumLay (T : Nat → Nat → Bool) (O : Nat → Bool) (s : Nat) (hin : inP a b c d s = true) (h30 : I 30 = nI a) (h31 : I 31 = nI b) (h32 : I 32 = nI c) (h33 : I 33 = nI d) (hab : a ≤ b) (hb : b < 48) (hcd : c ≤ d) (hd : d < 48) (R : RwOk (inP a b c d) T 96 (B 6) (B 7)) (U : RwOk (inP a b c d) (fun s t => T t s) 96 (B 8) (B 9)) (hJ1 : J 1 = mk (fun e => O e) 48) (hJ2 : J 2 = mk (fun p => O (48 + p)) 48) : zC 2 sc 30 [.ref 27, .int (nI s)] (xm I J A B tl) (fun M r => r = none ∧ ∃ x1 x2, M = xm (upd I 29 (I 29 + 1)) (vp_updL (vp_updL J 1 x1) 2 x2) (va_up A 14 (nuG T (inP a b c d) s 96 (I 29) (A 14))) B tl ∧ x1 = mk (fun e => O e && !scc T s e) 48 ∧ x2 = mk (fun p => O (48 + p) && !scc T s (48 + p)) 48) := by
  have hs := inP_lt hd hin
  obtain ⟨r6, r7⟩ := R s hin hs
  obtain ⟨r8, r9⟩ := U s hin hs
  have picks : ∀ (E P : Int64), E = mk (fun e => scc T s e) 48 → P = mk (fun p => scc T s (48 + p)) 48 → ∀ (k i : Nat), i + k = d + 1 → c ≤ i → zW 1 sc miX2_numberLayerOf 115 [some (.ref 27), none, none, some (.long E), none, some (.long P), none, some (.int (nI i))] [] (xm I J (va_up A 14 (nuG T (inP a b c d) s (48 + i) (I 29) (A 14))) B tl) (fun M r => r = none ∧ ∃ x1 x2, M = xm (upd I 29 (I 29 + 1)) (vp_updL (vp_updL J 1 x1) 2 x2) (va_up A 14 (nuG T (inP a b c d) s 96 (I 29) (A 14))) B tl ∧ x1 = mk (fun e => O e && !scc T s e) 48 ∧ x2 = mk (fun p => O (48 + p) && !scc T s (48 + p)) 48) := by
    intro E P hE hP k
    induction k with
    | zero =>
      intro i hi hci
      rw [nu_skip (n := 48 + i) (k := 96) (by omega) (fun t h1 h2 => by
        rw [show t = 48 + (t - 48) by omega, inP_p]; exact decide_eq_false (by omega))]
      refine zw_nx rfl (fun _ _ => rfl) ?_
      repeat (refine zw_go rfl rfl (fun _ _ => rfl) ?_)
      first | refine zw_br rfl (fun _ _ => rfl) (fun _ => ?_) (fun h9 => absurd (show I 33 < nI i by rw [h33]; exact nI_lt (by omega) (by omega)) h9) | refine zw_nx rfl (fun _ _ => rfl) ?_
      repeat (refine zw_go rfl rfl (fun _ _ => rfl) ?_)
      refine zw_ret rfl (fun _ _ => rfl) ?_
      exact ⟨rfl, _, _, rfl, by rw [hE, hJ1, mk_andn (by omega)], by rw [hP, hJ2, mk_andn (by omega)]⟩
    | succ k ih =>
      intro i hi hci
      have hin2 : inP a b c d (48 + i) = true := by rw [inP_p]; exact decide_eq_true ⟨hci, by omega⟩
      have hn := ih (i + 1) (by omega) (by omega)
      rw [nI_succ, ← Nat.add_assoc] at hn
      refine zw_nx rfl (fun _ _ => rfl) ?_
      repeat (refine zw_go rfl rfl (fun _ _ => rfl) ?_)
      first | refine zw_br rfl (fun _ _ => rfl) (fun h9 => absurd h9 (show ¬ I 33 < nI i by rw [h33]; exact nI_nlt (by omega) (by omega))) (fun _ => ?_) | refine zw_nx rfl (fun _ _ => rfl) ?_
      repeat (refine zw_go rfl rfl (fun _ _ => rfl) ?_)
      refine zw_call rfl (fun _ _ => rfl) (cHasN sc (xm I J (va_up A 14 (nuG T (inP a b c d) s (48 + i) (I 29) (A 14))) B tl) P (i := i) (by omega)) (by decide) ?_
      rintro M1 r1 ⟨rfl, rfl⟩
      rw [show lb P i = scc T s (48 + i) by rw [hP, lb_mk_in (by omega) (by omega)]]
      cases hc : scc T s (48 + i)
      · rw [← nu_no hc] at hn
        repeat (refine zw_go rfl rfl (fun _ _ => rfl) ?_)
        exact zw_kp hn
      · rw [← nu_yes hin2 hc] at hn
        repeat (refine zw_go rfl rfl (fun _ _ => rfl) ?_)
        rw [show (Int8.ofInt 48).toInt32 + nI i = nI (48 + i) from nI_add 48 i]
        refine zw_ix rfl (fun _ _ => rfl) (show vp_in (nI ((48 + i))) _ from vp_in_nI (by omega) (by omega)) ?_
        rw [show (nI ((48 + i))).toNatClampNeg = (48 + i) from nI_clamp (by omega)]
        repeat (refine zw_go rfl rfl (fun _ _ => rfl) ?_)
        exact zw_kp hn
  have ends : ∀ (E P : Int64), E = mk (fun e => scc T s e) 48 → P = mk (fun p => scc T s (48 + p)) 48 → ∀ (k i : Nat), i + k = b + 1 → a ≤ i → zW 1 sc miX2_numberLayerOf 74 [some (.ref 27), none, none, some (.long E), none, some (.long P), none, some (.int (nI i))] [] (xm I J (va_up A 14 (nuG T (inP a b c d) s i (I 29) (A 14))) B tl) (fun M r => r = none ∧ ∃ x1 x2, M = xm (upd I 29 (I 29 + 1)) (vp_updL (vp_updL J 1 x1) 2 x2) (va_up A 14 (nuG T (inP a b c d) s 96 (I 29) (A 14))) B tl ∧ x1 = mk (fun e => O e && !scc T s e) 48 ∧ x2 = mk (fun p => O (48 + p) && !scc T s (48 + p)) 48) := by
    intro E P hE hP k
    induction k with
    | zero =>
      intro i hi hai
      rw [nu_skip (n := i) (k := 48 + c) (by omega) (fun t h1 h2 => by
        by_cases h3 : t < 48
        · rw [inP_e h3]; exact decide_eq_false (by omega)
        · rw [show t = 48 + (t - 48) by omega, inP_p]; exact decide_eq_false (by omega))]
      refine zw_nx rfl (fun _ _ => rfl) ?_
      repeat (refine zw_go rfl rfl (fun _ _ => rfl) ?_)
      first | refine zw_br rfl (fun _ _ => rfl) (fun _ => ?_) (fun h9 => absurd (show I 31 < nI i by rw [h31]; exact nI_lt (by omega) (by omega)) h9) | refine zw_nx rfl (fun _ _ => rfl) ?_
      repeat (refine zw_go rfl rfl (fun _ _ => rfl) ?_)
      rw [show (xm I J (va_up A 14 (nuG T (inP a b c d) s (48 + c) (I 29) (A 14))) B tl) = (xm I J (va_up A 14 (nuG T (inP a b c d) s (48 + c) (I 29) (A 14))) B tl) from rfl]
      rw [h32]
      exact zw_kp (picks E P hE hP (d + 1 - c) c (by omega) (Nat.le_refl c))
    | succ k ih =>
      intro i hi hai
      have hin2 : inP a b c d i = true := by rw [inP_e (by omega)]; exact decide_eq_true ⟨hai, by omega⟩
      have hn := ih (i + 1) (by omega) (by omega)
      rw [nI_succ] at hn
      refine zw_nx rfl (fun _ _ => rfl) ?_
      repeat (refine zw_go rfl rfl (fun _ _ => rfl) ?_)
      first | refine zw_br rfl (fun _ _ => rfl) (fun h9 => absurd h9 (show ¬ I 31 < nI i by rw [h31]; exact nI_nlt (by omega) (by omega))) (fun _ => ?_) | refine zw_nx rfl (fun _ _ => rfl) ?_
      repeat (refine zw_go rfl rfl (fun _ _ => rfl) ?_)
      refine zw_call rfl (fun _ _ => rfl) (cHasN sc (xm I J (va_up A 14 (nuG T (inP a b c d) s i (I 29) (A 14))) B tl) E (i := i) (by omega)) (by decide) ?_
      rintro M1 r1 ⟨rfl, rfl⟩
      rw [show lb E i = scc T s i by rw [hE, lb_mk_in (by omega) (by omega)]]
      cases hc : scc T s i
      · rw [← nu_no hc] at hn
        repeat (refine zw_go rfl rfl (fun _ _ => rfl) ?_)
        exact zw_kp hn
      · rw [← nu_yes hin2 hc] at hn
        repeat (refine zw_go rfl rfl (fun _ _ => rfl) ?_)
        refine zw_ix rfl (fun _ _ => rfl) (show vp_in (nI (i)) _ from vp_in_nI (by omega) (by omega)) ?_
        rw [show (nI (i)).toNatClampNeg = i from nI_clamp (by omega)]
        repeat (refine zw_go rfl rfl (fun _ _ => rfl) ?_)
        exact zw_kp hn
  have start : ∀ (E P : Int64), E = mk (fun e => scc T s e) 48 → P = mk (fun p => scc T s (48 + p)) 48 → zW 1 sc miX2_numberLayerOf 74 [some (.ref 27), none, none, some (.long E), none, some (.long P), none, some (.int (nI a))] [] (xm I J A B tl) (fun M r => r = none ∧ ∃ x1 x2, M = xm (upd I 29 (I 29 + 1)) (vp_updL (vp_updL J 1 x1) 2 x2) (va_up A 14 (nuG T (inP a b c d) s 96 (I 29) (A 14))) B tl ∧ x1 = mk (fun e => O e && !scc T s e) 48 ∧ x2 = mk (fun p => O (48 + p) && !scc T s (48 + p)) 48) := by
    intro E P hE hP
    have := ends E P hE hP (b + 1 - a) a (by omega) (Nat.le_refl a)
    rw [← nu_skip (n := 0) (k := a) (by omega) (fun t h1 h2 => by
      rw [inP_e (by omega)]; exact decide_eq_false (by omega)), nu_0, va_up_id] at this
    exact this
  have both : ∀ i, i < 64 → ∀ (k : Nat) (x : Int64) (m : Nat), (lb x i = decide (i = m)) → lb (mk (fun e => T (k + e) s) 48 &&& mk (fun e => T s (k + e)) 48 ||| x) i = ((decide (i < 48) && (T (k + i) s && T s (k + i))) || decide (i = m)) := fun i hi k x m hx => by
    rw [lb_or, lb_and, lb_mk (by omega), lb_mk (by omega), hx]
    cases decide (i < 48) <;> rfl
  refine zc_of hkX2_numberLayerOf rfl ?_
  by_cases h48 : s < 48
  · have eE : (B 8 s &&& B 6 s) ||| bitL s = mk (fun e => scc T s e) 48 := mk_eq (by omega) (fun i hi => by
      rw [r8, r6, lb_or, lb_and, lb_mk (by omega), lb_mk (by omega), lb_bit (by omega)]
      unfold scc
      by_cases h1 : i < 48
      · simp [h1]
      · have h2 : ¬ i = s := by omega
        simp [h1, h2])
    have eP : (B 9 s &&& B 7 s) ||| 0 = mk (fun p => scc T s (48 + p)) 48 := mk_eq (by omega) (fun i hi => by
      rw [r9, r7, lb_or, lb_and, lb_mk (by omega), lb_mk (by omega), lb_0]
      unfold scc
      have h2 : ¬ 48 + i = s := by omega
      by_cases h1 : i < 48
      · simp [h1, h2]
      · simp [h1])
    repeat (refine zw_go rfl rfl (fun _ _ => rfl) ?_)
    refine zw_br rfl (fun _ _ => rfl) (fun h9 => absurd h9 (nI_ge (a := s) (b := 48) (by omega) (by omega))) (fun _ => ?_)
    repeat (refine zw_go rfl rfl (fun _ _ => rfl) ?_)
    refine zw_ix rfl (fun _ _ => rfl) (show vp_in (nI (s)) _ from vp_in_nI (by omega) (by omega)) ?_
    rw [show (nI (s)).toNatClampNeg = s from nI_clamp (by omega)]
    repeat (refine zw_go rfl rfl (fun _ _ => rfl) ?_)
    refine zw_ix rfl (fun _ _ => rfl) (show vp_in (nI (s)) _ from vp_in_nI (by omega) (by omega)) ?_
    rw [show (nI (s)).toNatClampNeg = s from nI_clamp (by omega)]
    repeat (refine zw_go rfl rfl (fun _ _ => rfl) ?_)
    refine zw_ix rfl (fun _ _ => rfl) (show vp_in (nI (s)) _ from vp_in_nI (by omega) (by omega)) ?_
    rw [show (nI (s)).toNatClampNeg = s from nI_clamp (by omega)]
    repeat (refine zw_go rfl rfl (fun _ _ => rfl) ?_)
    refine zw_ix rfl (fun _ _ => rfl) (show vp_in (nI (s)) _ from vp_in_nI (by omega) (by omega)) ?_
    rw [show (nI (s)).toNatClampNeg = s from nI_clamp (by omega)]
    repeat (refine zw_go rfl rfl (fun _ _ => rfl) ?_)
    rw [h30]
    exact zw_kp (start _ _ eE eP)
  · obtain ⟨m, rfl⟩ : ∃ m, s = 48 + m := ⟨s - 48, by omega⟩
    have eE : (B 8 (48 + m) &&& B 6 (48 + m)) ||| 0 = mk (fun e => scc T (48 + m) e) 48 := mk_eq (by omega) (fun i hi => by
      rw [r8, r6, lb_or, lb_and, lb_mk (by omega), lb_mk (by omega), lb_0]
      unfold scc
      by_cases h1 : i < 48
      · have h2 : ¬ i = 48 + m := by omega
        simp [h1, h2]
      · simp [h1])
    have eP : (B 9 (48 + m) &&& B 7 (48 + m)) ||| bitL m = mk (fun p => scc T (48 + m) (48 + p)) 48 := mk_eq (by omega) (fun i hi => by
      rw [r9, r7, lb_or, lb_and, lb_mk (by omega), lb_mk (by omega), lb_bit (by omega)]
      unfold scc
      by_cases h1 : i < 48
      · simp [h1]
      · have h2 : ¬ i = m := by omega
        simp [h1, h2])
    repeat (refine zw_go rfl rfl (fun _ _ => rfl) ?_)
    refine zw_br rfl (fun _ _ => rfl) (fun _ => ?_) (fun h9 => absurd (nI_le (a := 48) (b := (48 + m)) (by omega) (by omega)) h9)
    repeat (refine zw_go rfl rfl (fun _ _ => rfl) ?_)
    refine zw_ix rfl (fun _ _ => rfl) (show vp_in (nI ((48 + m))) _ from vp_in_nI (by omega) (by omega)) ?_
    rw [show (nI ((48 + m))).toNatClampNeg = (48 + m) from nI_clamp (by omega)]
    repeat (refine zw_go rfl rfl (fun _ _ => rfl) ?_)
    refine zw_ix rfl (fun _ _ => rfl) (show vp_in (nI ((48 + m))) _ from vp_in_nI (by omega) (by omega)) ?_
    rw [show (nI ((48 + m))).toNatClampNeg = (48 + m) from nI_clamp (by omega)]
    repeat (refine zw_go rfl rfl (fun _ _ => rfl) ?_)
    refine zw_ix rfl (fun _ _ => rfl) (show vp_in (nI ((48 + m))) _ from vp_in_nI (by omega) (by omega)) ?_
    rw [show (nI ((48 + m))).toNatClampNeg = (48 + m) from nI_clamp (by omega)]
    repeat (refine zw_go rfl rfl (fun _ _ => rfl) ?_)
    refine zw_ix rfl (fun _ _ => rfl) (show vp_in (nI ((48 + m))) _ from vp_in_nI (by omega) (by omega)) ?_
    rw [show (nI ((48 + m))).toNatClampNeg = (48 + m) from nI_clamp (by omega)]
    repeat (refine zw_go rfl rfl (fun _ _ => rfl) ?_)
    rw [show nI (48 + m) - (Int8.ofInt 48).toInt32 = nI m from by rw [show (Int8.ofInt 48).toInt32 = nI 48 from rfl, nI_sub (by omega), Nat.add_sub_cancel_left], h30]
    exact zw_kp (start _ _ eE eP)
/-- where the numbering stands -/
def LyS (T : Nat → Nat → Bool) (P : Nat → Bool) (q : lSt) (I : Nat → Int32) (J : Nat → Int64) (g : Nat → Int32) : Prop := I 29 = nI q.2.2 ∧ J 1 = mk (fun e => q.1 e) 48 ∧ J 2 = mk (fun p => q.1 (48 + p)) 48 ∧ ∀ s, s < 96 → P s = true → q.1 s = false → g s = nI (q.2.1 s)
set_option maxHeartbeats 4000000 in
set_option maxRecDepth 20000 in
theorem xNumAll (T : Nat → Nat → Bool) (h30 : I 30 = nI a) (h31 : I 31 = nI b) (h32 : I 32 = nI c) (h33 : I 33 = nI d) (hab : a ≤ b) (hb : b < 48) (hcd : c ≤ d) (hd : d < 48) (R : RwOk (inP a b c d) T 96 (B 6) (B 7)) (U : RwOk (inP a b c d) (fun s t => T t s) 96 (B 8) (B 9)) (hJ1 : J 1 = mk (fun e => inP a b c d e) 48) (hJ2 : J 2 = mk (fun p => inP a b c d (48 + p)) 48) (ht : ∀ s t u, T s t = true → T t u = true → T s u = true) : zC 3 sc 27 [.ref 27] (xm I J A B tl) (fun M r => r = none ∧ ∃ I' J' g, M = xm I' J' (va_up A 14 g) B tl ∧ LyS T (inP a b c d) (lFo T (inP a b c d) 96) I' J' g ∧ (∀ z, z ≠ 29 → I' z = I z) ∧ (∀ z, z ≠ 1 → z ≠ 2 → J' z = J z)) := by
  have key : ∀ (m k : Nat) (I' : Nat → Int32) (J' : Nat → Int64) (g : Nat → Int32), k + m = 96 → LyS T (inP a b c d) (lFo T (inP a b c d) k) I' J' g → (∀ z, z ≠ 29 → I' z = I z) → (∀ z, z ≠ 1 → z ≠ 2 → J' z = J z) → zW 2 sc miX2_numberAll 7 [some (.ref 27), some (.int (nI k)), none] [] (xm I' J' (va_up A 14 g) B tl) (fun M r => r = none ∧ ∃ I' J' g, M = xm I' J' (va_up A 14 g) B tl ∧ LyS T (inP a b c d) (lFo T (inP a b c d) 96) I' J' g ∧ (∀ z, z ≠ 29 → I' z = I z) ∧ (∀ z, z ≠ 1 → z ≠ 2 → J' z = J z)) := by
    intro m
    induction m with
    | zero =>
      intro k I' J' g hk hL hI hJ
      have hk : k = 96 := by omega
      subst hk
      refine zw_nx rfl (fun _ _ => rfl) ?_
      repeat (refine zw_go rfl rfl (fun _ _ => rfl) ?_)
      exact zw_ret rfl (fun _ _ => rfl) (⟨rfl, I', J', g, rfl, hL, hI, hJ⟩)
    | succ m ih =>
      intro k I' J' g hk hL hI hJ
      have hLL := hL
      obtain ⟨e29, e1, e2, eg⟩ := hL
      refine zw_nx rfl (fun _ _ => rfl) ?_
      repeat (refine zw_go rfl rfl (fun _ _ => rfl) ?_)
      refine zw_br rfl (fun _ _ => rfl) (fun h9 => absurd h9 (nI_ge (a := k) (b := 96) (by omega) (by omega))) (fun _ => ?_)
      repeat (refine zw_go rfl rfl (fun _ _ => rfl) ?_)
      refine zw_br rfl (fun _ _ => rfl) (fun (hc : lg_cmp (J' 1 ||| J' 2) 0 = 0) => ?_) (fun (hc : ¬ (lg_cmp (J' 1 ||| J' 2) 0 = 0)) => ?_)
      · have hcl : ∀ s, s < 96 → (lFo T (inP a b c d) k).1 s = false := fun s hs => by
          rw [lg_cmp_0] at hc
          by_cases h1 : s < 48
          · have h2 : lb (J' 1 ||| J' 2) s = false := by rw [hc, lb_0]
            rw [lb_or, e1, lb_mk_in (by omega) h1] at h2
            cases h3 : (lFo T (inP a b c d) k).1 s
            · rfl
            · rw [h3] at h2; cases h2
          · have h2 : lb (J' 1 ||| J' 2) (s - 48) = false := by rw [hc, lb_0]
            rw [lb_or, e2, lb_mk_in (n := 48) (by omega) (by omega), show 48 + (s - 48) = s by omega] at h2
            cases h3 : (lFo T (inP a b c d) k).1 s
            · rfl
            · rw [h3, Bool.or_true] at h2; cases h2
        have hbest : lBest T (lFo T (inP a b c d) k).1 = none := fO_all (fun q _ h2 => by rw [hcl q (by omega)]; rfl)
        have h96 : lFo T (inP a b c d) 96 = lFo T (inP a b c d) k := by
          have := lFo_stop hbest (96 - k)
          rw [show k + (96 - k) = 96 by omega] at this
          exact this
        repeat (refine zw_go rfl rfl (fun _ _ => rfl) ?_)
        exact zw_ret rfl (fun _ _ => rfl) (⟨rfl, I', J', g, rfl, by rw [h96]; exact hLL, hI, hJ⟩)
      · repeat (refine zw_go rfl rfl (fun _ _ => rfl) ?_)
        refine zw_call rfl (fun _ _ => rfl) (xLowTop sc I' J' (va_up A 14 g) B tl a b c d T (lFo T (inP a b c d) k).1 (by rw [hI 30 (by decide)]; exact h30) (by rw [hI 31 (by decide)]; exact h31) (by rw [hI 32 (by decide)]; exact h32) (by rw [hI 33 (by decide)]; exact h33) hab hb hcd hd (fun s hs => lFo_sub hs) R U e1 e2) (by decide) ?_
        rintro M1 r1 ⟨rfl, rfl⟩
        cases hbst : lBest T (lFo T (inP a b c d) k).1 with
        | none =>
          have hn := ih (k + 1) I' J' g (by omega) (by rw [lFo]; unfold lNx; rw [hbst]; exact hLL) hI hJ
          rw [nI_succ] at hn
          refine zw_nx rfl (fun _ _ => rfl) ?_
          refine zw_nx rfl (fun _ _ => rfl) ?_
          first | refine zw_br rfl (fun _ _ => rfl) (fun _ => ?_) (fun h9 => absurd ((by decide : (-1 : Int32) < 0)) h9) | refine zw_nx rfl (fun _ _ => rfl) ?_
          repeat (refine zw_go rfl rfl (fun _ _ => rfl) ?_)
          exact zw_kp hn
        | some s =>
          obtain ⟨b1, b2, b3⟩ := best_in hbst
          have hin := lFo_sub b2
          refine zw_nx rfl (fun _ _ => rfl) ?_
          refine zw_nx rfl (fun _ _ => rfl) ?_
          first | refine zw_br rfl (fun _ _ => rfl) (fun h9 => absurd h9 (nI_neg (show s < 2 ^ 31 by omega))) (fun _ => ?_) | refine zw_nx rfl (fun _ _ => rfl) ?_
          repeat (refine zw_go rfl rfl (fun _ _ => rfl) ?_)
          refine zw_br rfl (fun _ _ => rfl) (fun h9 => absurd h9 (nI_ge (a := s) (b := 96) (by omega) (by omega))) (fun _ => ?_)
          repeat (refine zw_go rfl rfl (fun _ _ => rfl) ?_)
          refine zw_call rfl (fun _ _ => rfl) (xNumLay sc I' J' (va_up A 14 g) B tl a b c d T (lFo T (inP a b c d) k).1 s hin (by rw [hI 30 (by decide)]; exact h30) (by rw [hI 31 (by decide)]; exact h31) (by rw [hI 32 (by decide)]; exact h32) (by rw [hI 33 (by decide)]; exact h33) hab hb hcd hd R U e1 e2) (by decide) ?_
          rintro M1 r1 ⟨rfl, x1, x2, rfl, q1, q2⟩
          rw [va_up_up]
          have hn := ih (k + 1) (upd I' 29 (I' 29 + 1)) (vp_updL (vp_updL J' 1 x1) 2 x2) (nuG T (inP a b c d) s 96 (I' 29) g) (by omega) (by
            rw [lFo]
            unfold lNx
            rw [hbst]
            refine ⟨?_, q1, q2, fun t h1 h2 h3 => ?_⟩
            · show I' 29 + 1 = nI ((lFo T (inP a b c d) k).2.2 + 1)
              rw [e29, nI_succ]
            · show (if t < 96 ∧ inP a b c d t = true ∧ scc T s t = true then I' 29 else g t) = nI (if scc T s t then (lFo T (inP a b c d) k).2.2 else (lFo T (inP a b c d) k).2.1 t)
              have h4 : ((lFo T (inP a b c d) k).1 t && !scc T s t) = false := h3
              cases h5 : scc T s t
              · rw [h5] at h4
                rw [if_neg (by simp), if_neg (by simp)]
                exact eg t h1 h2 (by simpa using h4)
              · rw [if_pos ⟨h1, h2, rfl⟩, if_pos rfl, e29]) (fun z hz => by
                unfold upd; rw [if_neg hz]; exact hI z hz) (fun z h1 h2 => by
                unfold vp_updL; rw [if_neg h2, if_neg h1]; exact hJ z h1 h2)
          rw [nI_succ] at hn
          repeat (refine zw_go rfl rfl (fun _ _ => rfl) ?_)
          exact zw_kp hn
  refine zc_of hkX2_numberAll rfl ?_
  repeat (refine zw_go rfl rfl (fun _ _ => rfl) ?_)
  have st := key 96 0 (upd I 29 0) J (A 14) rfl ⟨rfl, hJ1, hJ2, fun s h1 h2 h3 => by
    have h4 : inP a b c d s = false := h3
    rw [h4] at h2; cases h2⟩ (fun z hz => by unfold upd; rw [if_neg hz]) (fun _ _ _ => rfl)
  rw [va_up_id] at st
  exact zw_kp st
end

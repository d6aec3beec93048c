/-! the class: likeAlongEnds, likeAlongPicks, period -/
/-- no place of a word below n -/
theorem mk_zero {p : Nat → Bool} {n : Nat} (hn : n ≤ 64) : mk p n = 0 ↔ ∀ i, i < n → p i = false := by
  constructor
  · intro h i hi
    have := lb_mk_in (p := p) hn hi
    rw [h, lb_0] at this
    exact this.symm
  · intro h
    rw [mk_cong (q := fun _ => false) h, mk_false]
theorem mk_inj {p q : Nat → Bool} {n : Nat} (hn : n ≤ 64) : mk p n = mk q n ↔ ∀ i, i < n → p i = q i := by
  constructor
  · intro h i hi
    rw [← lb_mk_in (p := p) hn hi, h, lb_mk_in hn hi]
  · intro h
    exact mk_cong h
theorem mk_ushr {p : Nat → Bool} {n k : Nat} (hn : n ≤ 48) (hk : k ≤ n) : us (mk p n) k = mk (fun i => p (i + k)) (n - k) := mk_eq (by omega) (fun i hi => by
  unfold us
  rw [lb_ushr _ (by omega), lb_mk (by omega), Nat.add_comm k i]
  by_cases h : i < n - k
  · rw [decide_eq_true h, decide_eq_true (show i + k < n by omega)]
  · rw [decide_eq_false h, decide_eq_false (show ¬ i + k < n by omega)])
theorem like_end {p : Nat → Bool} {n k : Nat} (hn : n ≤ 48) (hk : k ≤ n) : (mk p n ^^^ us (mk p n) k) &&& us (mk (fun _ => true) n) k = 0 ↔ ∀ e, e + k < n → p e = p (e + k) := by
  have e1 : (mk p n ^^^ us (mk p n) k) &&& us (mk (fun _ => true) n) k = mk (fun i => p i ^^ p (i + k)) (n - k) := mk_eq (by omega) (fun i hi => by
    rw [mk_ushr hn hk, mk_ushr hn hk, lb_and, lb_xor, lb_mk (by omega), lb_mk (by omega), lb_mk (by omega)]
    by_cases h : i < n - k
    · rw [decide_eq_true h, decide_eq_true (show i < n by omega)]
      simp
    · rw [decide_eq_false h]
      simp)
  rw [e1, mk_zero (by omega)]
  constructor
  · intro h e he
    have := h e (by omega)
    cases h1 : p e <;> cases h2 : p (e + k) <;> simp [h1, h2] at this ⊢
  · intro h i hi
    rw [h i (by omega)]
    simp
section
variable (sc : sm_S) (I : Nat → Int32) (J : Nat → Int64) (A : Nat → Nat → Int32) (B : Nat → Nat → Int64) (tl : sm_M) (f : Nat → va_E) (w h n : Nat) (V : Nat → Int32)
set_option maxHeartbeats 4000000 in
set_option maxRecDepth 20000 in
theorem xLikeEnds_f (c : Nat) (h28 : I 28 = nI c) (hc : c ≤ 4) (x : Int32) (y : Int64) (P : Prop) (hP : ¬ P) : ∀ (k i : Nat), i + k = c → zW 1 sc miX5_likeAlongEnds 16 [some (.ref 25), some (.int x), some (.long y), none, some (.int 0), some (.int (nI i)), none, none, none] [] (xm I J A B tl) (fun M r => M = xm I J A B tl ∧ ((P ∧ r = some (.int 1)) ∨ (¬ P ∧ r = some (.int 0)))) := by
  intro k
  induction k with
  | zero =>
    intro i hi
    have e1 : i = c := by omega
    subst e1
    refine zw_nx rfl (fun _ _ => rfl) ?_
    repeat (refine zw_go rfl rfl (fun _ _ => rfl) ?_)
    first | refine zw_br rfl (fun _ _ => rfl) (fun _ => ?_) (fun h9 => absurd (show I 28 ≤ nI i by rw [h28]; exact Int32.le_refl _) h9) | refine zw_nx rfl (fun _ _ => rfl) ?_
    repeat (refine zw_go rfl rfl (fun _ _ => rfl) ?_)
    exact zw_ret rfl (fun _ _ => rfl) (⟨rfl, Or.inr ⟨hP, rfl⟩⟩)
  | succ k ih =>
    intro i hi
    have hn := ih (i + 1) (by omega)
    rw [nI_succ] at hn
    refine zw_nx rfl (fun _ _ => rfl) ?_
    repeat (refine zw_go rfl rfl (fun _ _ => rfl) ?_)
    first | refine zw_br rfl (fun _ _ => rfl) (fun h9 => absurd h9 (show ¬ I 28 ≤ nI i by rw [h28]; exact nI_ge (by omega) (by omega))) (fun _ => ?_) | refine zw_nx rfl (fun _ _ => rfl) ?_
    repeat (refine zw_go rfl rfl (fun _ _ => rfl) ?_)
    refine zw_nx rfl (fun _ _ => rfl) ?_
    repeat (refine zw_go rfl rfl (fun _ _ => rfl) ?_)
    refine zw_br rfl (fun _ _ => rfl) (fun (h5 : I 8 ≤ Int32.ofInt 0) => ?_) (fun (h5 : ¬ (I 8 ≤ Int32.ofInt 0)) => ?_)
    · repeat (refine zw_go rfl rfl (fun _ _ => rfl) ?_)
      exact zw_kp hn
    · repeat (refine zw_go rfl rfl (fun _ _ => rfl) ?_)
      exact zw_kp hn
set_option maxHeartbeats 4000000 in
set_option maxRecDepth 20000 in
theorem xLikeEnds (c m : Nat) (R : Nat → Nat → Nat → Bool) (h28 : I 28 = nI c) (hc : c ≤ 4) (h8 : I 8 = nI h) (hw : w ≤ 48) (hh : h ≤ 48) (hJ : J 0 = mk (fun _ => true) w) (hm : m < w) (hR : ∀ i p, i < c → p < h → B 5 (48 * i + p) = mk (fun e => R i e p) w) : zC 2 sc 53 [.ref 25, .int (nI m)] (xm I J A B tl) (fun M r => M = xm I J A B tl ∧ (((∀ i p, i < c → p < h → ∀ e, e + m < w → R i e p = R i (e + m) p) ∧ r = some (.int 1)) ∨ (¬ (∀ i p, i < c → p < h → ∀ e, e + m < w → R i e p = R i (e + m) p) ∧ r = some (.int 0)))) := by
  refine zc_of hkX5_likeAlongEnds rfl ?_
  repeat (refine zw_go rfl rfl (fun _ _ => rfl) ?_)
  have key : ∀ (k i : Nat), i + k = c → (∀ j p, j < i → p < h → ∀ e, e + m < w → R j e p = R j (e + m) p) → zW 1 sc miX5_likeAlongEnds 16 [some (.ref 25), some (.int (nI m)), some (.long (us (J 0) m)), none, some (.int 1), some (.int (nI i)), none, none, none] [] (xm I J A B tl) (fun M r => M = xm I J A B tl ∧ (((∀ i p, i < c → p < h → ∀ e, e + m < w → R i e p = R i (e + m) p) ∧ r = some (.int 1)) ∨ (¬ (∀ i p, i < c → p < h → ∀ e, e + m < w → R i e p = R i (e + m) p) ∧ r = some (.int 0)))) := by
    intro k
    induction k with
    | zero =>
      intro i hi hl
      have e1 : i = c := by omega
      subst e1
      refine zw_nx rfl (fun _ _ => rfl) ?_
      repeat (refine zw_go rfl rfl (fun _ _ => rfl) ?_)
      first | refine zw_br rfl (fun _ _ => rfl) (fun _ => ?_) (fun h9 => absurd (show I 28 ≤ nI i by rw [h28]; exact Int32.le_refl _) h9) | refine zw_nx rfl (fun _ _ => rfl) ?_
      repeat (refine zw_go rfl rfl (fun _ _ => rfl) ?_)
      exact zw_ret rfl (fun _ _ => rfl) (⟨rfl, Or.inl ⟨hl, rfl⟩⟩)
    | succ k ih =>
      intro i hi hl
      refine zw_nx rfl (fun _ _ => rfl) ?_
      repeat (refine zw_go rfl rfl (fun _ _ => rfl) ?_)
      first | refine zw_br rfl (fun _ _ => rfl) (fun h9 => absurd h9 (show ¬ I 28 ≤ nI i by rw [h28]; exact nI_ge (by omega) (by omega))) (fun _ => ?_) | refine zw_nx rfl (fun _ _ => rfl) ?_
      repeat (refine zw_go rfl rfl (fun _ _ => rfl) ?_)
      have inner : ∀ (k p : Nat), p + k = h → (∀ q, q < p → ∀ e, e + m < w → R i e q = R i (e + m) q) → zW 1 sc miX5_likeAlongEnds 28 [some (.ref 25), some (.int (nI m)), some (.long (us (J 0) m)), none, some (.int 1), some (.int (nI i)), some (.int (nI p)), none, none] [] (xm I J A B tl) (fun M r => M = xm I J A B tl ∧ (((∀ i p, i < c → p < h → ∀ e, e + m < w → R i e p = R i (e + m) p) ∧ r = some (.int 1)) ∨ (¬ (∀ i p, i < c → p < h → ∀ e, e + m < w → R i e p = R i (e + m) p) ∧ r = some (.int 0)))) := by
        intro k
        induction k with
        | zero =>
          intro p hp hl2
          have e1 : p = h := by omega
          subst e1
          refine zw_nx rfl (fun _ _ => rfl) ?_
          repeat (refine zw_go rfl rfl (fun _ _ => rfl) ?_)
          first | refine zw_br rfl (fun _ _ => rfl) (fun _ => ?_) (fun h9 => absurd (show I 8 ≤ nI p by rw [h8]; exact Int32.le_refl _) h9) | refine zw_nx rfl (fun _ _ => rfl) ?_
          repeat (refine zw_go rfl rfl (fun _ _ => rfl) ?_)
          have hn := ih (i + 1) (by omega) (fun j q hj hq => by
            by_cases h5 : j = i
            · subst h5; exact hl2 q hq
            · exact hl j q (by omega) hq)
          rw [nI_succ] at hn
          exact zw_kp hn
        | succ k ih2 =>
          intro p hp hl2
          have hrow := hR i p (by omega) (by omega)
          refine zw_nx rfl (fun _ _ => rfl) ?_
          repeat (refine zw_go rfl rfl (fun _ _ => rfl) ?_)
          first | refine zw_br rfl (fun _ _ => rfl) (fun h9 => absurd h9 (show ¬ I 8 ≤ nI p by rw [h8]; exact nI_ge (by omega) (by omega))) (fun _ => ?_) | refine zw_nx rfl (fun _ _ => rfl) ?_
          repeat (refine zw_go rfl rfl (fun _ _ => rfl) ?_)
          refine zw_call rfl (fun _ _ => rfl) (xRowAt5 sc I J A B tl i p (by omega) (by omega)) (by decide) ?_
          rintro M1 r1 ⟨rfl, rfl⟩
          rw [hrow]
          repeat (refine zw_go rfl rfl (fun _ _ => rfl) ?_)
          have hle := like_end (p := fun e => R i e p) (n := w) (k := m) (by omega) (by omega)
          refine zw_br rfl (fun _ _ => rfl) (fun (h5 : lg_cmp ((mk (fun e => R i e p) w ^^^ us (mk (fun e => R i e p) w) m) &&& us (J 0) m) 0 = 0) => ?_) (fun (h5 : ¬ (lg_cmp ((mk (fun e => R i e p) w ^^^ us (mk (fun e => R i e p) w) m) &&& us (J 0) m) 0 = 0)) => ?_)
          · rw [hJ] at h5
            have h6 := hle.mp (lg_cmp_0.mp h5)
            repeat (refine zw_go rfl rfl (fun _ _ => rfl) ?_)
            have hn2 := ih2 (p + 1) (by omega) (fun q hq => by
              by_cases h7 : q = p
              · subst h7; exact h6
              · exact hl2 q (by omega))
            rw [nI_succ] at hn2
            exact zw_kp hn2
          · rw [hJ] at h5
            have h6 : ¬ (∀ i p, i < c → p < h → ∀ e, e + m < w → R i e p = R i (e + m) p) := fun z => h5 (lg_cmp_0.mpr (hle.mpr (z i p (by omega) (by omega))))
            repeat (refine zw_go rfl rfl (fun _ _ => rfl) ?_)
            refine zw_nx rfl (fun _ _ => rfl) ?_
            repeat (refine zw_go rfl rfl (fun _ _ => rfl) ?_)
            have hn3 := xLikeEnds_f sc I J A B tl c h28 hc (nI m) (us (J 0) m) _ h6 (c - (i + 1)) (i + 1) (by omega)
            rw [nI_succ] at hn3
            refine zw_br rfl (fun _ _ => rfl) (fun (h7 : I 8 ≤ nI p + 1) => ?_) (fun (h7 : ¬ (I 8 ≤ nI p + 1)) => ?_)
            · repeat (refine zw_go rfl rfl (fun _ _ => rfl) ?_)
              exact zw_kp hn3
            · repeat (refine zw_go rfl rfl (fun _ _ => rfl) ?_)
              exact zw_kp hn3
      exact zw_kp (inner h 0 (by omega) (fun q hq => by omega))
  exact zw_kp (key c 0 (by omega) (fun j p hj => by omega))
set_option maxHeartbeats 4000000 in
set_option maxRecDepth 20000 in
theorem xLikePicks_f (c : Nat) (h28 : I 28 = nI c) (hc : c ≤ 4) (x : Int32) (P : Prop) (hP : ¬ P) : ∀ (k i : Nat), i + k = c → zW 1 sc miX5_likeAlongPicks 4 [some (.ref 25), some (.int x), some (.int 0), some (.int (nI i)), none] [] (xm I J A B tl) (fun M r => M = xm I J A B tl ∧ ((P ∧ r = some (.int 1)) ∨ (¬ P ∧ r = some (.int 0)))) := by
  intro k
  induction k with
  | zero =>
    intro i hi
    have e1 : i = c := by omega
    subst e1
    refine zw_nx rfl (fun _ _ => rfl) ?_
    repeat (refine zw_go rfl rfl (fun _ _ => rfl) ?_)
    first | refine zw_br rfl (fun _ _ => rfl) (fun _ => ?_) (fun h9 => absurd (show I 28 ≤ nI i by rw [h28]; exact Int32.le_refl _) h9) | refine zw_nx rfl (fun _ _ => rfl) ?_
    repeat (refine zw_go rfl rfl (fun _ _ => rfl) ?_)
    exact zw_ret rfl (fun _ _ => rfl) (⟨rfl, Or.inr ⟨hP, rfl⟩⟩)
  | succ k ih =>
    intro i hi
    have hn := ih (i + 1) (by omega)
    rw [nI_succ] at hn
    refine zw_nx rfl (fun _ _ => rfl) ?_
    repeat (refine zw_go rfl rfl (fun _ _ => rfl) ?_)
    first | refine zw_br rfl (fun _ _ => rfl) (fun h9 => absurd h9 (show ¬ I 28 ≤ nI i by rw [h28]; exact nI_ge (by omega) (by omega))) (fun _ => ?_) | refine zw_nx rfl (fun _ _ => rfl) ?_
    repeat (refine zw_go rfl rfl (fun _ _ => rfl) ?_)
    refine zw_nx rfl (fun _ _ => rfl) ?_
    repeat (refine zw_go rfl rfl (fun _ _ => rfl) ?_)
    refine zw_br rfl (fun _ _ => rfl) (fun (h5 : I 8 - x ≤ Int32.ofInt 0) => ?_) (fun (h5 : ¬ (I 8 - x ≤ Int32.ofInt 0)) => ?_)
    · repeat (refine zw_go rfl rfl (fun _ _ => rfl) ?_)
      exact zw_kp hn
    · repeat (refine zw_go rfl rfl (fun _ _ => rfl) ?_)
      exact zw_kp hn
set_option maxHeartbeats 4000000 in
set_option maxRecDepth 20000 in
theorem xLikePicks (c m : Nat) (R : Nat → Nat → Nat → Bool) (h28 : I 28 = nI c) (hc : c ≤ 4) (h8 : I 8 = nI h) (hw : w ≤ 48) (hh : h ≤ 48) (hm : m < h) (hR : ∀ i p, i < c → p < h → B 5 (48 * i + p) = mk (fun e => R i e p) w) : zC 2 sc 54 [.ref 25, .int (nI m)] (xm I J A B tl) (fun M r => M = xm I J A B tl ∧ (((∀ i p, i < c → p + m < h → ∀ e, e < w → R i e p = R i e (p + m)) ∧ r = some (.int 1)) ∨ (¬ (∀ i p, i < c → p + m < h → ∀ e, e < w → R i e p = R i e (p + m)) ∧ r = some (.int 0)))) := by
  refine zc_of hkX5_likeAlongPicks rfl ?_
  repeat (refine zw_go rfl rfl (fun _ _ => rfl) ?_)
  have key : ∀ (k i : Nat), i + k = c → (∀ j p, j < i → p + m < h → ∀ e, e < w → R j e p = R j e (p + m)) → zW 1 sc miX5_likeAlongPicks 4 [some (.ref 25), some (.int (nI m)), some (.int 1), some (.int (nI i)), none] [] (xm I J A B tl) (fun M r => M = xm I J A B tl ∧ (((∀ i p, i < c → p + m < h → ∀ e, e < w → R i e p = R i e (p + m)) ∧ r = some (.int 1)) ∨ (¬ (∀ i p, i < c → p + m < h → ∀ e, e < w → R i e p = R i e (p + m)) ∧ r = some (.int 0)))) := by
    intro k
    induction k with
    | zero =>
      intro i hi hl
      have e1 : i = c := by omega
      subst e1
      refine zw_nx rfl (fun _ _ => rfl) ?_
      repeat (refine zw_go rfl rfl (fun _ _ => rfl) ?_)
      first | refine zw_br rfl (fun _ _ => rfl) (fun _ => ?_) (fun h9 => absurd (show I 28 ≤ nI i by rw [h28]; exact Int32.le_refl _) h9) | refine zw_nx rfl (fun _ _ => rfl) ?_
      repeat (refine zw_go rfl rfl (fun _ _ => rfl) ?_)
      exact zw_ret rfl (fun _ _ => rfl) (⟨rfl, Or.inl ⟨hl, rfl⟩⟩)
    | succ k ih =>
      intro i hi hl
      refine zw_nx rfl (fun _ _ => rfl) ?_
      repeat (refine zw_go rfl rfl (fun _ _ => rfl) ?_)
      first | refine zw_br rfl (fun _ _ => rfl) (fun h9 => absurd h9 (show ¬ I 28 ≤ nI i by rw [h28]; exact nI_ge (by omega) (by omega))) (fun _ => ?_) | refine zw_nx rfl (fun _ _ => rfl) ?_
      repeat (refine zw_go rfl rfl (fun _ _ => rfl) ?_)
      have inner : ∀ (k p : Nat), p + k = h - m → (∀ q, q < p → ∀ e, e < w → R i e q = R i e (q + m)) → zW 1 sc miX5_likeAlongPicks 15 [some (.ref 25), some (.int (nI m)), some (.int 1), some (.int (nI i)), some (.int (nI p))] [] (xm I J A B tl) (fun M r => M = xm I J A B tl ∧ (((∀ i p, i < c → p + m < h → ∀ e, e < w → R i e p = R i e (p + m)) ∧ r = some (.int 1)) ∨ (¬ (∀ i p, i < c → p + m < h → ∀ e, e < w → R i e p = R i e (p + m)) ∧ r = some (.int 0)))) := by
        intro k
        induction k with
        | zero =>
          intro p hp hl2
          refine zw_nx rfl (fun _ _ => rfl) ?_
          repeat (refine zw_go rfl rfl (fun _ _ => rfl) ?_)
          first | refine zw_br rfl (fun _ _ => rfl) (fun _ => ?_) (fun h9 => absurd (show I 8 - nI m ≤ nI p by rw [h8, nI_sub (by omega)]; exact nI_le (by omega) (by omega)) h9) | refine zw_nx rfl (fun _ _ => rfl) ?_
          repeat (refine zw_go rfl rfl (fun _ _ => rfl) ?_)
          have hn := ih (i + 1) (by omega) (fun j q hj hq => by
            by_cases h5 : j = i
            · subst h5; exact hl2 q (by omega)
            · exact hl j q (by omega) hq)
          rw [nI_succ] at hn
          exact zw_kp hn
        | succ k ih2 =>
          intro p hp hl2
          refine zw_nx rfl (fun _ _ => rfl) ?_
          repeat (refine zw_go rfl rfl (fun _ _ => rfl) ?_)
          first | refine zw_br rfl (fun _ _ => rfl) (fun h9 => absurd h9 (show ¬ I 8 - nI m ≤ nI p by rw [h8, nI_sub (by omega)]; exact nI_ge (by omega) (by omega))) (fun _ => ?_) | refine zw_nx rfl (fun _ _ => rfl) ?_
          repeat (refine zw_go rfl rfl (fun _ _ => rfl) ?_)
          refine zw_call rfl (fun _ _ => rfl) (xRowAt5 sc I J A B tl i p (by omega) (by omega)) (by decide) ?_
          rintro M1 r1 ⟨rfl, rfl⟩
          rw [hR i p (by omega) (by omega)]
          repeat (refine zw_go rfl rfl (fun _ _ => rfl) ?_)
          rw [nI_add p m]
          refine zw_call rfl (fun _ _ => rfl) (xRowAt5 sc I J A B tl i (p + m) (by omega) (by omega)) (by decide) ?_
          rintro M1 r1 ⟨rfl, rfl⟩
          rw [hR i (p + m) (by omega) (by omega)]
          repeat (refine zw_go rfl rfl (fun _ _ => rfl) ?_)
          have hle := mk_inj (p := fun e => R i e p) (q := fun e => R i e (p + m)) (n := w) (by omega)
          refine zw_br rfl (fun _ _ => rfl) (fun (h5 : lg_cmp (mk (fun e => R i e p) w) (mk (fun e => R i e (p + m)) w) = 0) => ?_) (fun (h5 : ¬ (lg_cmp (mk (fun e => R i e p) w) (mk (fun e => R i e (p + m)) w) = 0)) => ?_)
          · have h6 := hle.mp (lg_cmp_0.mp h5)
            repeat (refine zw_go rfl rfl (fun _ _ => rfl) ?_)
            have hn2 := ih2 (p + 1) (by omega) (fun q hq => by
              by_cases h7 : q = p
              · subst h7; exact h6
              · exact hl2 q (by omega))
            rw [nI_succ] at hn2
            exact zw_kp hn2
          · have h6 : ¬ (∀ i p, i < c → p + m < h → ∀ e, e < w → R i e p = R i e (p + m)) := fun z => h5 (lg_cmp_0.mpr (hle.mpr (z i p (by omega) (by omega))))
            repeat (refine zw_go rfl rfl (fun _ _ => rfl) ?_)
            refine zw_nx rfl (fun _ _ => rfl) ?_
            repeat (refine zw_go rfl rfl (fun _ _ => rfl) ?_)
            have hn3 := xLikePicks_f sc I J A B tl c h28 hc (nI m) _ h6 (c - (i + 1)) (i + 1) (by omega)
            rw [nI_succ] at hn3
            refine zw_br rfl (fun _ _ => rfl) (fun (h7 : I 8 - nI m ≤ nI p + 1) => ?_) (fun (h7 : ¬ (I 8 - nI m ≤ nI p + 1)) => ?_)
            · repeat (refine zw_go rfl rfl (fun _ _ => rfl) ?_)
              exact zw_kp hn3
            · repeat (refine zw_go rfl rfl (fun _ _ => rfl) ?_)
              exact zw_kp hn3
      exact zw_kp (inner (h - m) 0 (by omega) (fun q hq => by omega))
  exact zw_kp (key c 0 (by omega) (fun j p hj => by omega))
/-- bits alike, colours alike -/
theorem pb_alk_e {V : Nat → Int32} (hV : VOk V) {c : Bool} {w h m : Nat} (hw : w ≤ 48) (hh : h ≤ 48) : (∀ i p, i < nPl c → p < h → ∀ e, e + m < w → PB V c i e p = PB V c i (e + m) p) ↔ alk V c true w h m := by
  unfold alk
  simp only [if_true]
  constructor
  · intro z e p he hp hc
    exact (pb_eq hV (by omega) (by omega) (by omega) (by omega)).mpr (fun i hi => z i p hi hp e hc)
  · intro z i p hi hp e he
    exact (pb_eq hV (by omega) (by omega) (by omega) (by omega)).mp (z e p (by omega) hp he) i hi
theorem pb_alk_p {V : Nat → Int32} (hV : VOk V) {c : Bool} {w h m : Nat} (hw : w ≤ 48) (hh : h ≤ 48) : (∀ i p, i < nPl c → p + m < h → ∀ e, e < w → PB V c i e p = PB V c i e (p + m)) ↔ alk V c false w h m := by
  unfold alk
  simp only [Bool.false_eq_true, if_false]
  constructor
  · intro z e p he hp hc
    exact (pb_eq hV (by omega) (by omega) (by omega) (by omega)).mpr (fun i hi => z i p hi hc e he)
  · intro z i p hi hp e he
    exact (pb_eq hV (by omega) (by omega) (by omega) (by omega)).mp (z e p he (by omega) hp) i hi
theorem nPl_le (c : Bool) : nPl c ≤ 4 := by cases c <;> decide
set_option maxHeartbeats 4000000 in
set_option maxRecDepth 20000 in
theorem xPeriod_l (c ends : Bool) (Q : sm_M → Prop) (hQ : Q (xm I J A B tl)) (h0 : I 0 = nI w) (h1 : I 1 = nI h) (h8 : I 8 = nI h) (hw1 : 1 ≤ w) (hw : w ≤ 48) (hh1 : 1 ≤ h) (hh : h ≤ 48) (hJ : J 0 = mk (fun _ => true) w) (hV : VOk V) (h28 : I 28 = nI (nPl c)) (hR : ∀ i p, i < nPl c → p < h → B 5 (48 * i + p) = mk (fun e => PB V c i e p) w) (y : Option Value) : zW 4 sc miX10_period 28 [some (.ref 0), some (.int (bb ends)), y, none, none] [] (xm I J A B tl) (fun M r => (∃ m, r = some (.int (nI m)) ∧ Per (alk V c ends w h) (if ends then w else h) m) ∧ Q M) := by
  have key : ∀ (k m : Nat), 1 ≤ m → m + k = (if ends then w else h) → (∀ i, 1 ≤ i → i < m → ¬ alk V c ends w h i) → zW 4 sc miX10_period 47 [some (.ref 0), some (.int (bb ends)), none, some (.int (nI (if ends then w else h))), some (.int (nI m))] [] (xm I J A B tl) (fun M r => (∃ m, r = some (.int (nI m)) ∧ Per (alk V c ends w h) (if ends then w else h) m) ∧ Q M) := by
    have hmost : (if ends then w else h) ≤ 48 := by split <;> omega
    intro k
    induction k with
    | zero =>
      intro m hm1 hm hl
      refine zw_nx rfl (fun _ _ => rfl) ?_
      repeat (refine zw_go rfl rfl (fun _ _ => rfl) ?_)
      first | refine zw_br rfl (fun _ _ => rfl) (fun _ => ?_) (fun h9 => absurd (show nI (if ends then w else h) ≤ nI m from nI_le (by omega) (by omega)) h9) | refine zw_nx rfl (fun _ _ => rfl) ?_
      repeat (refine zw_go rfl rfl (fun _ _ => rfl) ?_)
      refine zw_ret rfl (fun _ _ => rfl) ?_
      rw [← show m = (if ends then w else h) from by omega]
      exact ⟨⟨m, rfl, hm1, by omega, fun z => by omega, hl⟩, hQ⟩
    | succ k ih =>
      intro m hm1 hm hl
      have hn1 := ih (m + 1) (by omega) (by omega)
      rw [nI_succ] at hn1
      refine zw_nx rfl (fun _ _ => rfl) ?_
      repeat (refine zw_go rfl rfl (fun _ _ => rfl) ?_)
      first | refine zw_br rfl (fun _ _ => rfl) (fun h9 => absurd h9 (show ¬ nI (if ends then w else h) ≤ nI m from nI_ge (by omega) (by omega))) (fun _ => ?_) | refine zw_nx rfl (fun _ _ => rfl) ?_
      cases ends
      · simp at hm
        repeat (refine zw_go rfl rfl (fun _ _ => rfl) ?_)
        refine zw_call rfl (fun _ _ => rfl) (xLikePicks sc I J A B tl w h (nPl c) m (PB V c) h28 (nPl_le c) h8 hw hh (by omega) hR) (by decide) ?_
        rw [pb_alk_p hV hw hh]
        rintro M1 r1 ⟨rfl, ⟨ha, rfl⟩ | ⟨ha, rfl⟩⟩
        · repeat (refine zw_go rfl rfl (fun _ _ => rfl) ?_)
          refine zw_ret rfl (fun _ _ => rfl) ?_
          exact ⟨⟨m, rfl, hm1, by simp; omega, fun _ => ha, hl⟩, hQ⟩
        · repeat (refine zw_go rfl rfl (fun _ _ => rfl) ?_)
          exact zw_kp (hn1 (fun i hi hi2 => by
            by_cases h5 : i = m
            · subst h5; exact ha
            · exact hl i hi (by omega)))
      · simp at hm
        repeat (refine zw_go rfl rfl (fun _ _ => rfl) ?_)
        refine zw_call rfl (fun _ _ => rfl) (xLikeEnds sc I J A B tl w h (nPl c) m (PB V c) h28 (nPl_le c) h8 hw hh hJ (by omega) hR) (by decide) ?_
        rw [pb_alk_e hV hw hh]
        rintro M1 r1 ⟨rfl, ⟨ha, rfl⟩ | ⟨ha, rfl⟩⟩
        · repeat (refine zw_go rfl rfl (fun _ _ => rfl) ?_)
          refine zw_ret rfl (fun _ _ => rfl) ?_
          exact ⟨⟨m, rfl, hm1, by simp; omega, fun _ => ha, hl⟩, hQ⟩
        · repeat (refine zw_go rfl rfl (fun _ _ => rfl) ?_)
          exact zw_kp (hn1 (fun i hi hi2 => by
            by_cases h5 : i = m
            · subst h5; exact ha
            · exact hl i hi (by omega)))
  cases ends
  · repeat (refine zw_go rfl rfl (fun _ _ => rfl) ?_)
    rw [h1]
    exact zw_kp (key (h - 1) 1 (by omega) (by simp; omega) (fun i h5 h6 => by omega))
  · repeat (refine zw_go rfl rfl (fun _ _ => rfl) ?_)
    rw [h0]
    exact zw_kp (key (w - 1) 1 (by omega) (by simp; omega) (fun i h5 h6 => by omega))
set_option maxHeartbeats 4000000 in
set_option maxRecDepth 20000 in
theorem xPeriod (c ends : Bool) (hW : WH w h I J A B) : zC 5 sc 135 [.ref 0, .int (bb ends), .int (bb c)] (xm I J A B tl) (fun M r => (∃ m, r = some (.int (nI m)) ∧ Per (alk (A 3) c ends w h) (if ends then w else h) m) ∧ XQ tl w h I J A B M) := by
  refine zc_of hkX10_period rfl ?_
  repeat (refine zw_go rfl rfl (fun _ _ => rfl) ?_)
  refine zw_call rfl (fun _ _ => rfl) (xWv sc I J A B tl w h hW) (by decide) ?_
  rintro M1 r1 ⟨rfl, I', A', B', rfl, hW2, hC, hK⟩
  have e3 : A' 3 = A 3 := hK.2.2.1 3 (by decide)
  have hW3 := hW2
  obtain ⟨h0, h1, h7, h8, hw1, hw, hh1, hh, hJ, hV, hC', hR⟩ := hW2
  have hq : ∀ (q : Int32) (g : Nat → Int64), XQ tl w h I J A B (xm (upd I' 28 q) J A' (va_up B' 5 g) tl) := fun q g => by
    refine ⟨_, _, _, rfl, ⟨h0, h1, h7, h8, hw1, hw, hh1, hh, hJ, hV, hC', hR⟩, fun z h9 h10 h28 => ?_, fun a h5 h13 => hK.2.2.1 a h5, fun b hb => ?_, Or.inr (by show I' 10 = I 6; rw [hK.2.1, hK.1 6 (by decide) (by decide)])⟩
    · show upd I' 28 q z = I z
      rw [pk_un h28]
      exact hK.1 z h9 h10
    · show va_up B' 5 g b = B b
      unfold va_up
      rw [if_neg (by omega)]
      exact hK.2.2.2 b (by omega)
  cases c
  · repeat (refine zw_go rfl rfl (fun _ _ => rfl) ?_)
    refine zw_call rfl (fun _ _ => rfl) (xShowCells sc I' J A' B' tl w h hW3) (by decide) ?_
    rintro M1 r1 ⟨rfl, g, rfl, hg⟩
    refine xPeriod_l sc (upd I' 28 (nI 1)) J A' (va_up B' 5 g) tl w h (A 3) false ends _ (hq _ g) h0 h1 h8 hw1 hw hh1 hh hJ (by rw [← e3]; exact hV) rfl (fun i p hi hp => ?_) _
    have e : i = 0 := by have : nPl false = 1 := rfl; omega
    subst e
    rw [Nat.mul_zero, Nat.zero_add]
    exact (hg p hp).trans (hC.2.1 p hp)
  · repeat (refine zw_go rfl rfl (fun _ _ => rfl) ?_)
    refine zw_call rfl (fun _ _ => rfl) (xShowColours sc I' J A' B' tl w h hW3 (by rw [e3]; exact hC)) (by decide) ?_
    rintro M1 r1 ⟨rfl, g, rfl, hg⟩
    refine zw_nx rfl (fun _ _ => rfl) ?_
    refine xPeriod_l sc (upd I' 28 (nI 4)) J A' (va_up B' 5 g) tl w h (A 3) true ends _ (hq _ g) h0 h1 h8 hw1 hw hh1 hh hJ (by rw [← e3]; exact hV) rfl (fun i p hi hp => ?_) _
    rw [← e3]
    exact hg i p hi hp
end

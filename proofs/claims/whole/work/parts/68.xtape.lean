/-! the class: its tape -/
/-- the tape has n bytes, b -/
def TpX (I : Nat → Int32) (A : Nat → Nat → Int32) (b : Nat → Nat) (n : Nat) : Prop := I 11 = nI n ∧ n ≤ 300 ∧ ∀ i, i < n → A 6 i = nI (b i) ∧ b i < 256
theorem if_bool {p : Prop} [Decidable p] {c : Bool} (h : p ↔ c = true) : (if p then (1 : Int32) else 0) = if c then 1 else 0 := by
  by_cases hp : p
  · rw [if_pos hp, if_pos (h.mp hp)]
  · rw [if_neg hp, if_neg (fun z => hp (h.mpr z))]
theorem min999 {y : Nat} (hy : y < 20000) : (if nI y < (Int16.ofInt 999).toInt32 then nI y else (Int16.ofInt 999).toInt32) = nI (min 999 y) := by
  by_cases h : nI y < (Int16.ofInt 999).toInt32
  · rw [if_pos h]
    have : nI y < nI 999 := h
    rw [nI_ltI (by omega) (by omega)] at this
    rw [Nat.min_eq_right (by omega)]
  · rw [if_neg h]
    have : ¬ nI y < nI 999 := h
    rw [nI_ltI (by omega) (by omega)] at this
    rw [Nat.min_eq_left (by omega)]
    rfl
set_option maxHeartbeats 4000000 in
set_option maxRecDepth 20000 in
theorem cLen (sc : sm_S) (M : sm_M) {w : Nat} (h1 : 1001 ≤ w) (h2 : w ≤ 1008) : zC 5 sc 900 [.ref w] M (zR M (.int (nI (sm_wd w).length))) := by
  refine ⟨M, _, ⟨rfl, rfl⟩, 0, fun N d _ hd => ?_⟩
  obtain ⟨d, rfl⟩ : ∃ q, d = q + 1 := ⟨d - 1, by omega⟩
  simp only [sm_sim, show sm_fd sm_pg 900 = none from rfl, show Nat.ble 4 d = true from Nat.ble_eq.mpr (by omega)]
  unfold sm_bi
  simp only [show Nat.ble 1001 w = true from Nat.ble_eq.mpr h1, show Nat.ble w 1008 = true from Nat.ble_eq.mpr h2, Bool.and_self]
  rfl
set_option maxHeartbeats 4000000 in
set_option maxRecDepth 20000 in
theorem cChar (sc : sm_S) (M : sm_M) {w i : Nat} (h1 : 1001 ≤ w) (h2 : w ≤ 1008) (hi : i < (sm_wd w).length) (hl : (sm_wd w).length < 1000) : zC 5 sc 901 [.ref w, .int (nI i)] M (zR M (.int ((sm_wd w).getD i 0))) := by
  refine ⟨M, _, ⟨rfl, rfl⟩, 0, fun N d _ hd => ?_⟩
  obtain ⟨d, rfl⟩ : ∃ q, d = q + 1 := ⟨d - 1, by omega⟩
  simp only [sm_sim, show sm_fd sm_pg 901 = none from rfl, show Nat.ble 4 d = true from Nat.ble_eq.mpr (by omega)]
  unfold sm_bi
  simp only [show Nat.ble 1001 w = true from Nat.ble_eq.mpr h1, show Nat.ble w 1008 = true from Nat.ble_eq.mpr h2, Bool.and_self]
  rw [if_neg (show ¬ (nI i < 0 ∨ (sm_wd w).length ≤ (nI i).toNatClampNeg) from by
    rw [nI_clamp (by omega)]
    rintro (h | h)
    · exact nI_pos (by omega) h
    · omega), nI_clamp (by omega)]
section
variable (sc : sm_S) (I : Nat → Int32) (J : Nat → Int64) (A : Nat → Nat → Int32) (B : Nat → Nat → Int64) (tl : sm_M) (f : Nat → va_E) (n : Nat) (b : Nat → Nat)
set_option maxHeartbeats 4000000 in
set_option maxRecDepth 20000 in
theorem cIsBlank (M : sm_M) (c : Nat) (hc : c < 256) : zC 1 sc 111 [.int (nI c)] M (zR M (.int (if isBl c then 1 else 0))) := by
  unfold isBl
  refine zc_of hkX9_isBlank rfl ?_
  repeat (refine zw_go rfl rfl (fun _ _ => rfl) ?_)
  refine zw_br rfl (fun _ _ => rfl) (fun (h1 : nI c = nI 32) => ?_) (fun (h1 : ¬ (nI c = nI 32)) => ?_)
  · rw [nI_eq (by omega) (by omega)] at h1
    repeat (refine zw_go rfl rfl (fun _ _ => rfl) ?_)
    exact zw_ret rfl (fun _ _ => rfl) (⟨rfl, by rw [decide_eq_true (Or.inl h1)]; rfl⟩)
  · rw [nI_eq (by omega) (by omega)] at h1
    repeat (refine zw_go rfl rfl (fun _ _ => rfl) ?_)
    refine zw_br rfl (fun _ _ => rfl) (fun (h2 : nI c = nI 10) => ?_) (fun (h2 : ¬ (nI c = nI 10)) => ?_)
    · rw [nI_eq (by omega) (by omega)] at h2
      repeat (refine zw_go rfl rfl (fun _ _ => rfl) ?_)
      exact zw_ret rfl (fun _ _ => rfl) (⟨rfl, by rw [decide_eq_true (Or.inr h2)]; rfl⟩)
    · rw [nI_eq (by omega) (by omega)] at h2
      repeat (refine zw_go rfl rfl (fun _ _ => rfl) ?_)
      exact zw_ret rfl (fun _ _ => rfl) (⟨rfl, by rw [decide_eq_false (fun z => z.elim h1 h2)]; rfl⟩)
set_option maxHeartbeats 4000000 in
set_option maxRecDepth 20000 in
theorem cIsDigit (M : sm_M) (c : Nat) (hc : c < 256) : zC 1 sc 112 [.int (nI c)] M (zR M (.int (if isDg c then 1 else 0))) := by
  unfold isDg
  refine zc_of hkX9_isDigit rfl ?_
  repeat (refine zw_go rfl rfl (fun _ _ => rfl) ?_)
  refine zw_br rfl (fun _ _ => rfl) (fun (h1 : nI c < nI 48) => ?_) (fun (h1 : ¬ (nI c < nI 48)) => ?_)
  · rw [nI_ltI (by omega) (by omega)] at h1
    repeat (refine zw_go rfl rfl (fun _ _ => rfl) ?_)
    exact zw_ret rfl (fun _ _ => rfl) (⟨rfl, by rw [decide_eq_false (by omega)]; rfl⟩)
  · rw [nI_ltI (by omega) (by omega)] at h1
    repeat (refine zw_go rfl rfl (fun _ _ => rfl) ?_)
    refine zw_br rfl (fun _ _ => rfl) (fun (h2 : nI 57 < nI c) => ?_) (fun (h2 : ¬ (nI 57 < nI c)) => ?_)
    · rw [nI_ltI (by omega) (by omega)] at h2
      repeat (refine zw_go rfl rfl (fun _ _ => rfl) ?_)
      exact zw_ret rfl (fun _ _ => rfl) (⟨rfl, by rw [decide_eq_false (by omega)]; rfl⟩)
    · rw [nI_ltI (by omega) (by omega)] at h2
      repeat (refine zw_go rfl rfl (fun _ _ => rfl) ?_)
      exact zw_ret rfl (fun _ _ => rfl) (⟨rfl, by rw [decide_eq_true (by omega)]; rfl⟩)
set_option maxHeartbeats 4000000 in
set_option maxRecDepth 20000 in
theorem cIsAlpha (M : sm_M) (c : Nat) (hc : c < 256) : zC 1 sc 113 [.int (nI c)] M (zR M (.int (if isAl c then 1 else 0))) := by
  unfold isAl
  have up : ¬ (97 ≤ c ∧ c ≤ 122) → zW 0 sc miX9_isAlphabetic 12 [some (.int (nI c))] [] M (zR M (.int (if decide ((97 ≤ c ∧ c ≤ 122) ∨ (65 ≤ c ∧ c ≤ 90)) then 1 else 0))) := fun h0 => by
    repeat (refine zw_go rfl rfl (fun _ _ => rfl) ?_)
    refine zw_br rfl (fun _ _ => rfl) (fun (h1 : nI c < nI 65) => ?_) (fun (h1 : ¬ (nI c < nI 65)) => ?_)
    · rw [nI_ltI (by omega) (by omega)] at h1
      repeat (refine zw_go rfl rfl (fun _ _ => rfl) ?_)
      exact zw_ret rfl (fun _ _ => rfl) (⟨rfl, by rw [decide_eq_false (by omega)]; rfl⟩)
    · rw [nI_ltI (by omega) (by omega)] at h1
      repeat (refine zw_go rfl rfl (fun _ _ => rfl) ?_)
      refine zw_br rfl (fun _ _ => rfl) (fun (h2 : nI 90 < nI c) => ?_) (fun (h2 : ¬ (nI 90 < nI c)) => ?_)
      · rw [nI_ltI (by omega) (by omega)] at h2
        repeat (refine zw_go rfl rfl (fun _ _ => rfl) ?_)
        exact zw_ret rfl (fun _ _ => rfl) (⟨rfl, by rw [decide_eq_false (by omega)]; rfl⟩)
      · rw [nI_ltI (by omega) (by omega)] at h2
        repeat (refine zw_go rfl rfl (fun _ _ => rfl) ?_)
        exact zw_ret rfl (fun _ _ => rfl) (⟨rfl, by rw [decide_eq_true (by omega)]; rfl⟩)
  refine zc_of hkX9_isAlphabetic rfl ?_
  repeat (refine zw_go rfl rfl (fun _ _ => rfl) ?_)
  refine zw_br rfl (fun _ _ => rfl) (fun (h1 : nI c < nI 97) => ?_) (fun (h1 : ¬ (nI c < nI 97)) => ?_)
  · rw [nI_ltI (by omega) (by omega)] at h1
    exact up (by omega)
  · rw [nI_ltI (by omega) (by omega)] at h1
    repeat (refine zw_go rfl rfl (fun _ _ => rfl) ?_)
    refine zw_br rfl (fun _ _ => rfl) (fun (h2 : nI c ≤ nI 122) => ?_) (fun (h2 : ¬ (nI c ≤ nI 122)) => ?_)
    · rw [nI_leI (by omega) (by omega)] at h2
      repeat (refine zw_go rfl rfl (fun _ _ => rfl) ?_)
      exact zw_ret rfl (fun _ _ => rfl) (⟨rfl, by rw [decide_eq_true (by omega)]; rfl⟩)
    · rw [nI_leI (by omega) (by omega)] at h2
      exact up (by omega)
set_option maxHeartbeats 4000000 in
set_option maxRecDepth 20000 in
theorem cIsSign (M : sm_M) (c : Nat) (hc : c < 256) : zC 1 sc 114 [.int (nI c)] M (zR M (.int (if isSg c then 1 else 0))) := by
  unfold isSg
  refine zc_of hkX9_isSign rfl ?_
  repeat (refine zw_go rfl rfl (fun _ _ => rfl) ?_)
  refine zw_br rfl (fun _ _ => rfl) (fun (h1 : nI c = nI 61) => ?_) (fun (h1 : ¬ (nI c = nI 61)) => ?_)
  · rw [nI_eq (by omega) (by omega)] at h1
    repeat (refine zw_go rfl rfl (fun _ _ => rfl) ?_)
    exact zw_ret rfl (fun _ _ => rfl) (⟨rfl, by rw [decide_eq_true (by omega)]; rfl⟩)
  · rw [nI_eq (by omega) (by omega)] at h1
    repeat (refine zw_go rfl rfl (fun _ _ => rfl) ?_)
    refine zw_br rfl (fun _ _ => rfl) (fun (h2 : nI c = nI 44) => ?_) (fun (h2 : ¬ (nI c = nI 44)) => ?_)
    · rw [nI_eq (by omega) (by omega)] at h2
      repeat (refine zw_go rfl rfl (fun _ _ => rfl) ?_)
      exact zw_ret rfl (fun _ _ => rfl) (⟨rfl, by rw [decide_eq_true (by omega)]; rfl⟩)
    · rw [nI_eq (by omega) (by omega)] at h2
      repeat (refine zw_go rfl rfl (fun _ _ => rfl) ?_)
      refine zw_br rfl (fun _ _ => rfl) (fun (h3 : nI c = nI 59) => ?_) (fun (h3 : ¬ (nI c = nI 59)) => ?_)
      · rw [nI_eq (by omega) (by omega)] at h3
        repeat (refine zw_go rfl rfl (fun _ _ => rfl) ?_)
        exact zw_ret rfl (fun _ _ => rfl) (⟨rfl, by rw [decide_eq_true (by omega)]; rfl⟩)
      · rw [nI_eq (by omega) (by omega)] at h3
        repeat (refine zw_go rfl rfl (fun _ _ => rfl) ?_)
        refine zw_br rfl (fun _ _ => rfl) (fun (h4 : nI c = nI 42) => ?_) (fun (h4 : ¬ (nI c = nI 42)) => ?_)
        · rw [nI_eq (by omega) (by omega)] at h4
          repeat (refine zw_go rfl rfl (fun _ _ => rfl) ?_)
          exact zw_ret rfl (fun _ _ => rfl) (⟨rfl, by rw [decide_eq_true (by omega)]; rfl⟩)
        · rw [nI_eq (by omega) (by omega)] at h4
          repeat (refine zw_go rfl rfl (fun _ _ => rfl) ?_)
          refine zw_br rfl (fun _ _ => rfl) (fun (h5 : nI c = nI 40) => ?_) (fun (h5 : ¬ (nI c = nI 40)) => ?_)
          · rw [nI_eq (by omega) (by omega)] at h5
            repeat (refine zw_go rfl rfl (fun _ _ => rfl) ?_)
            exact zw_ret rfl (fun _ _ => rfl) (⟨rfl, by rw [decide_eq_true (by omega)]; rfl⟩)
          · rw [nI_eq (by omega) (by omega)] at h5
            repeat (refine zw_go rfl rfl (fun _ _ => rfl) ?_)
            refine zw_br rfl (fun _ _ => rfl) (fun (h6 : nI c = nI 41) => ?_) (fun (h6 : ¬ (nI c = nI 41)) => ?_)
            · rw [nI_eq (by omega) (by omega)] at h6
              repeat (refine zw_go rfl rfl (fun _ _ => rfl) ?_)
              exact zw_ret rfl (fun _ _ => rfl) (⟨rfl, by rw [decide_eq_true (by omega)]; rfl⟩)
            · rw [nI_eq (by omega) (by omega)] at h6
              repeat (refine zw_go rfl rfl (fun _ _ => rfl) ?_)
              exact zw_ret rfl (fun _ _ => rfl) (⟨rfl, by rw [decide_eq_false (by omega)]; rfl⟩)
set_option maxHeartbeats 4000000 in
set_option maxRecDepth 20000 in
theorem xByteAt (i : Nat) (ht : TpX I A b n) (hi : i < 1000) : zC 1 sc 106 [.ref 14, .int (nI i)] (xm I J A B tl) (zR (xm I J A B tl) (.int (if i < n then nI (b i) else -1))) := by
  obtain ⟨h11, hn, hb⟩ := ht
  refine zc_of hkX9_byteAt rfl ?_
  refine zw_nx rfl (fun _ _ => rfl) ?_
  first | refine zw_br rfl (fun _ _ => rfl) (fun h9 => absurd h9 (nI_neg (show i < 2 ^ 31 by omega))) (fun _ => ?_) | refine zw_nx rfl (fun _ _ => rfl) ?_
  repeat (refine zw_go rfl rfl (fun _ _ => rfl) ?_)
  rw [h11]
  by_cases hin : i < n
  · first | refine zw_br rfl (fun _ _ => rfl) (fun h9 => absurd h9 (nI_ge (a := i) (b := n) hin (by omega))) (fun _ => ?_) | refine zw_nx rfl (fun _ _ => rfl) ?_
    repeat (refine zw_go rfl rfl (fun _ _ => rfl) ?_)
    refine zw_br rfl (fun _ _ => rfl) (fun h9 => absurd h9 (nI_ge (a := i) (b := 300) (by omega) (by omega))) (fun _ => ?_)
    repeat (refine zw_go rfl rfl (fun _ _ => rfl) ?_)
    refine zw_ix rfl (fun _ _ => rfl) (show vp_in (nI (i)) _ from vp_in_nI (by omega) (by omega)) ?_
    rw [show (nI (i)).toNatClampNeg = i from nI_clamp (by omega)]
    repeat (refine zw_go rfl rfl (fun _ _ => rfl) ?_)
    refine zw_ret rfl (fun _ _ => rfl) ?_
    exact ⟨rfl, by rw [if_pos hin, (hb i hin).1]⟩
  · first | refine zw_br rfl (fun _ _ => rfl) (fun _ => ?_) (fun h9 => absurd (nI_le (a := n) (b := i) (by omega) (by omega)) h9) | refine zw_nx rfl (fun _ _ => rfl) ?_
    repeat (refine zw_go rfl rfl (fun _ _ => rfl) ?_)
    exact zw_ret rfl (fun _ _ => rfl) (⟨rfl, by rw [if_neg hin]; rfl⟩)
set_option maxHeartbeats 4000000 in
set_option maxRecDepth 20000 in
theorem xReadNumber (q : Nat) (ht : TpX I A b n) (hq : q ≤ n) (h12 : I 12 = nI q) : zC 2 sc 107 [.ref 14] (xm I J A B tl) (fun M r => r = none ∧ M = xm (upd (upd (upd I 13 2) 12 (nI (spN isDg b n q))) 15 (nI (nmV b q (spN isDg b n q - q)))) J A B tl) := by
  have hle := spN_le (P := isDg) (b := b) hq
  have key : ∀ (z k : Nat), q + k + z = spN isDg b n q → spN isDg b n (q + k) = spN isDg b n q → zW 1 sc miX9_readNumber 10 [some (.ref 14)] [] (xm (upd (upd (upd I 13 2) 12 (nI (q + k))) 15 (nI (nmV b q k))) J A B tl) (fun M r => r = none ∧ M = xm (upd (upd (upd I 13 2) 12 (nI (spN isDg b n q))) 15 (nI (nmV b q (spN isDg b n q - q)))) J A B tl) := by
    intro z
    induction z with
    | zero =>
      intro k hk hs
      have e : spN isDg b n q = q + k := by omega
      rw [e, show q + k - q = k by omega]
      have hT : TpX (upd (upd (upd I 13 2) 12 (nI (q + k))) 15 (nI (nmV b q k))) A b n := ht
      refine zw_nx rfl (fun _ _ => rfl) ?_
      repeat (refine zw_go rfl rfl (fun _ _ => rfl) ?_)
      rw [show upd (upd (upd I 13 2) 12 (nI (q + k))) 15 (nI (nmV b q k)) 12 = nI (q + k) from rfl, show upd (upd (upd I 13 2) 12 (nI (q + k))) 15 (nI (nmV b q k)) 11 = nI n from ht.1]
      by_cases hin : q + k < n
      · have hno : isDg (b (q + k)) = false := by
          cases h1 : isDg (b (q + k))
          · rfl
          · have h2 := spN_go hin h1
            have h3 := spN_ge (P := isDg) (b := b) (n := n) (p := q + k + 1)
            rw [hs, e] at h2
            omega
        have hn := ht.2.1
        first | refine zw_br rfl (fun _ _ => rfl) (fun h9 => absurd h9 (nI_ge (a := q + k) (b := n) hin (by omega))) (fun _ => ?_) | refine zw_nx rfl (fun _ _ => rfl) ?_
        repeat (refine zw_go rfl rfl (fun _ _ => rfl) ?_)
        rw [show upd (upd (upd I 13 2) 12 (nI (q + k))) 15 (nI (nmV b q k)) 12 = nI (q + k) from rfl]
        refine zw_call rfl (fun _ _ => rfl) (xByteAt sc _ J A B tl n b (q + k) hT (by omega)) (by decide) ?_
        rintro M1 r1 ⟨rfl, rfl⟩
        rw [if_pos hin]
        repeat (refine zw_go rfl rfl (fun _ _ => rfl) ?_)
        refine zw_call rfl (fun _ _ => rfl) (cIsDigit sc _ (b (q + k)) (ht.2.2 (q + k) hin).2) (by decide) ?_
        rintro M1 r1 ⟨rfl, rfl⟩
        rw [hno]
        repeat (refine zw_go rfl rfl (fun _ _ => rfl) ?_)
        exact zw_ret rfl (fun _ _ => rfl) (⟨rfl, rfl⟩)
      · have hn := ht.2.1
        first | refine zw_br rfl (fun _ _ => rfl) (fun _ => ?_) (fun h9 => absurd (nI_le (a := n) (b := q + k) (by omega) (by omega)) h9) | refine zw_nx rfl (fun _ _ => rfl) ?_
        exact zw_ret rfl (fun _ _ => rfl) (⟨rfl, rfl⟩)
    | succ z ih =>
      intro k hk hs
      have hn := ht.2.1
      have hin : q + k < n := by omega
      have hyes : isDg (b (q + k)) = true := spN_in (n := n) (p := q) (by omega) (by omega)
      have hT : TpX (upd (upd (upd I 13 2) 12 (nI (q + k))) 15 (nI (nmV b q k))) A b n := ht
      have hne := ih (k + 1) (by omega) (by rw [← Nat.add_assoc, ← spN_go hin hyes]; exact hs)
      have hv := nmV_le (b := b) (q := q) (k := k)
      have hd := hyes
      unfold isDg at hd
      rw [decide_eq_true_eq] at hd
      rw [← Nat.add_assoc, nI_succ, nmV] at hne
      refine zw_nx rfl (fun _ _ => rfl) ?_
      repeat (refine zw_go rfl rfl (fun _ _ => rfl) ?_)
      rw [show upd (upd (upd I 13 2) 12 (nI (q + k))) 15 (nI (nmV b q k)) 12 = nI (q + k) from rfl, show upd (upd (upd I 13 2) 12 (nI (q + k))) 15 (nI (nmV b q k)) 11 = nI n from ht.1]
      first | refine zw_br rfl (fun _ _ => rfl) (fun h9 => absurd h9 (nI_ge (a := q + k) (b := n) hin (by omega))) (fun _ => ?_) | refine zw_nx rfl (fun _ _ => rfl) ?_
      repeat (refine zw_go rfl rfl (fun _ _ => rfl) ?_)
      rw [show upd (upd (upd I 13 2) 12 (nI (q + k))) 15 (nI (nmV b q k)) 12 = nI (q + k) from rfl]
      refine zw_call rfl (fun _ _ => rfl) (xByteAt sc _ J A B tl n b (q + k) hT (by omega)) (by decide) ?_
      rintro M1 r1 ⟨rfl, rfl⟩
      rw [if_pos hin]
      repeat (refine zw_go rfl rfl (fun _ _ => rfl) ?_)
      refine zw_call rfl (fun _ _ => rfl) (cIsDigit sc _ (b (q + k)) (ht.2.2 (q + k) hin).2) (by decide) ?_
      rintro M1 r1 ⟨rfl, rfl⟩
      rw [hyes]
      repeat (refine zw_go rfl rfl (fun _ _ => rfl) ?_)
      rw [show upd (upd (upd I 13 2) 12 (nI (q + k))) 15 (nI (nmV b q k)) 12 = nI (q + k) from rfl]
      refine zw_call rfl (fun _ _ => rfl) (xByteAt sc _ J A B tl n b (q + k) hT (by omega)) (by decide) ?_
      rintro M1 r1 ⟨rfl, rfl⟩
      rw [if_pos hin]
      repeat (refine zw_go rfl rfl (fun _ _ => rfl) ?_)
      rw [show upd (upd (upd I 13 2) 12 (nI (q + k))) 15 (nI (nmV b q k)) 15 * (Int8.ofInt 10).toInt32 + nI (b (q + k)) - (Int8.ofInt 48).toInt32 = nI (nmV b q k * 10 + (b (q + k) - 48)) from by
        rw [show upd (upd (upd I 13 2) 12 (nI (q + k))) 15 (nI (nmV b q k)) 15 * (Int8.ofInt 10).toInt32 = nI (nmV b q k * 10) from nI_mul _ 10, nI_add, show (Int8.ofInt 48).toInt32 = nI 48 from rfl, nI_sub (by omega), show nmV b q k * 10 + b (q + k) - 48 = nmV b q k * 10 + (b (q + k) - 48) by omega], min999 (by omega)]
      exact zw_kp hne
  refine zc_of hkX9_readNumber rfl ?_
  repeat (refine zw_go rfl rfl (fun _ _ => rfl) ?_)
  have st := key (spN isDg b n q - q) 0 (by have := spN_ge (P := isDg) (b := b) (n := n) (p := q); omega) rfl
  rw [show upd (upd (upd I 13 2) 12 (nI (q + 0))) 15 (nI (nmV b q 0)) = upd (upd I 13 2) 15 0 from by
    funext z
    by_cases h1 : z = 15
    · subst h1; rfl
    · by_cases h2 : z = 12
      · subst h2; exact h12.symm
      · unfold upd; rw [if_neg h1, if_neg h2, if_neg h1]] at st
  exact zw_kp st
set_option maxHeartbeats 4000000 in
set_option maxRecDepth 20000 in
theorem xIsWord1001 (q e : Nat) (ht : TpX I A b n) (hqe : q ≤ e) (he : e ≤ n) (h12 : I 12 = nI e) (h14 : I 14 = nI q) : zC 6 sc 110 [.ref 14, .ref 1001] (xm I J A B tl) (zR (xm I J A B tl) (.int (if wrd b q (e - q) = wBlock then 1 else 0))) := by
  have hn := ht.2.1
  have hl : wBlock.length < 100 := by decide
  have hl9 : ∀ x, x ∈ wBlock → x < 256 := by decide
  have hw : sm_wd 1001 = wBlock.map nI := rfl
  have hwl : (sm_wd 1001).length = wBlock.length := by rw [hw, List.length_map]
  have no : ¬ wrd b q (e - q) = wBlock → ∀ i, zW 5 sc miX9_isWord 24 [some (.ref 14), some (.ref 1001), some (.int 0), some (.int (nI i))] [] (xm I J A B tl) (zR (xm I J A B tl) (.int (if wrd b q (e - q) = wBlock then 1 else 0))) := fun hno i => by
    rw [if_neg hno]
    refine zw_nx rfl (fun _ _ => rfl) ?_
    repeat (refine zw_go rfl rfl (fun _ _ => rfl) ?_)
    refine zw_call rfl (fun _ _ => rfl) (cLen sc (xm I J A B tl) (show 1001 ≤ 1001 by decide) (show 1001 ≤ 1008 by decide)) (by decide) ?_
    rintro M1 r1 ⟨rfl, rfl⟩
    refine zw_br rfl (fun _ _ => rfl) (fun (hc : nI (sm_wd 1001).length ≤ nI i) => ?_) (fun (hc : ¬ (nI (sm_wd 1001).length ≤ nI i)) => ?_)
    · repeat (refine zw_go rfl rfl (fun _ _ => rfl) ?_)
      exact zw_ret rfl (fun _ _ => rfl) (⟨rfl, rfl⟩)
    · repeat (refine zw_go rfl rfl (fun _ _ => rfl) ?_)
      exact zw_ret rfl (fun _ _ => rfl) (⟨rfl, rfl⟩)
  have key : ∀ (z i : Nat), e - q = wBlock.length → i + z = wBlock.length → (∀ j, j < i → wBlock[j]? = some (b (q + j))) → zW 5 sc miX9_isWord 24 [some (.ref 14), some (.ref 1001), some (.int 1), some (.int (nI i))] [] (xm I J A B tl) (zR (xm I J A B tl) (.int (if wrd b q (e - q) = wBlock then 1 else 0))) := by
    intro z
    induction z with
    | zero =>
      intro i hel hi hj
      rw [if_pos (wrd_eq.mpr ⟨hel, fun j h3 => hj j (by omega)⟩)]
      refine zw_nx rfl (fun _ _ => rfl) ?_
      repeat (refine zw_go rfl rfl (fun _ _ => rfl) ?_)
      refine zw_call rfl (fun _ _ => rfl) (cLen sc (xm I J A B tl) (show 1001 ≤ 1001 by decide) (show 1001 ≤ 1008 by decide)) (by decide) ?_
      rintro M1 r1 ⟨rfl, rfl⟩
      rw [hwl]
      first | refine zw_br rfl (fun _ _ => rfl) (fun _ => ?_) (fun h9 => absurd (nI_le (a := wBlock.length) (b := i) (by omega) (by omega)) h9) | refine zw_nx rfl (fun _ _ => rfl) ?_
      repeat (refine zw_go rfl rfl (fun _ _ => rfl) ?_)
      exact zw_ret rfl (fun _ _ => rfl) (⟨rfl, rfl⟩)
    | succ z ih =>
      intro i hel hi hj
      have hget : wBlock[i]? = some (wBlock.getD i 0) := by
        rw [List.getD_eq_getElem?_getD, List.getElem?_eq_getElem (by omega)]; rfl
      have hmem : wBlock.getD i 0 < 256 := hl9 _ (List.mem_of_getElem? hget)
      have hch : (sm_wd 1001).getD i 0 = nI (wBlock.getD i 0) := by
        rw [hw, List.getD_eq_getElem?_getD, List.getElem?_map, hget]; rfl
      have hby := (ht.2.2 (q + i) (by omega)).2
      refine zw_nx rfl (fun _ _ => rfl) ?_
      repeat (refine zw_go rfl rfl (fun _ _ => rfl) ?_)
      refine zw_call rfl (fun _ _ => rfl) (cLen sc (xm I J A B tl) (show 1001 ≤ 1001 by decide) (show 1001 ≤ 1008 by decide)) (by decide) ?_
      rintro M1 r1 ⟨rfl, rfl⟩
      rw [hwl]
      first | refine zw_br rfl (fun _ _ => rfl) (fun h9 => absurd h9 (nI_ge (a := i) (b := wBlock.length) (by omega) (by omega))) (fun _ => ?_) | refine zw_nx rfl (fun _ _ => rfl) ?_
      repeat (refine zw_go rfl rfl (fun _ _ => rfl) ?_)
      rw [h14, show nI q + nI i = nI (q + i) from nI_add q i]
      refine zw_call rfl (fun _ _ => rfl) (xByteAt sc I J A B tl n b (q + i) ht (by omega)) (by decide) ?_
      rintro M1 r1 ⟨rfl, rfl⟩
      rw [if_pos (by omega)]
      repeat (refine zw_go rfl rfl (fun _ _ => rfl) ?_)
      refine zw_call rfl (fun _ _ => rfl) (cChar sc (xm I J A B tl) (show 1001 ≤ 1001 by decide) (show 1001 ≤ 1008 by decide) (by omega) (by omega)) (by decide) ?_
      rintro M1 r1 ⟨rfl, rfl⟩
      rw [hch]
      refine zw_br rfl (fun _ _ => rfl) (fun (hc : nI (b (q + i)) = nI (wBlock.getD i 0)) => ?_) (fun (hc : ¬ (nI (b (q + i)) = nI (wBlock.getD i 0))) => ?_)
      · rw [nI_eq (by omega) (by omega)] at hc
        have hn2 := ih (i + 1) hel (by omega) (fun j h3 => by
          by_cases h4 : j = i
          · subst h4; rw [hget, hc]
          · exact hj j (by omega))
        rw [nI_succ] at hn2
        repeat (refine zw_go rfl rfl (fun _ _ => rfl) ?_)
        exact zw_kp hn2
      · rw [nI_eq (by omega) (by omega)] at hc
        have hn2 := no (fun hE => by
          have := (wrd_eq.mp hE).2 i (by omega)
          rw [hget] at this
          exact hc (Option.some.inj this).symm) (i + 1)
        rw [nI_succ] at hn2
        repeat (refine zw_go rfl rfl (fun _ _ => rfl) ?_)
        exact zw_kp hn2
  refine zc_of hkX9_isWord rfl ?_
  repeat (refine zw_go rfl rfl (fun _ _ => rfl) ?_)
  rw [h12, h14, nI_sub hqe]
  refine zw_call rfl (fun _ _ => rfl) (cLen sc (xm I J A B tl) (show 1001 ≤ 1001 by decide) (show 1001 ≤ 1008 by decide)) (by decide) ?_
  rintro M1 r1 ⟨rfl, rfl⟩
  rw [hwl]
  refine zw_br rfl (fun _ _ => rfl) (fun (hc : nI (e - q) = nI wBlock.length) => ?_) (fun (hc : ¬ (nI (e - q) = nI wBlock.length)) => ?_)
  · rw [nI_eq (by omega) (by omega)] at hc
    have st := key wBlock.length 0 hc (by omega) (fun j hj => by omega)
    repeat (refine zw_go rfl rfl (fun _ _ => rfl) ?_)
    exact zw_kp st
  · rw [nI_eq (by omega) (by omega)] at hc
    have st := no (fun hE => hc (wrd_eq.mp hE).1) 0
    repeat (refine zw_go rfl rfl (fun _ _ => rfl) ?_)
    exact zw_kp st
set_option maxHeartbeats 4000000 in
set_option maxRecDepth 20000 in
theorem xIsWord1002 (q e : Nat) (ht : TpX I A b n) (hqe : q ≤ e) (he : e ≤ n) (h12 : I 12 = nI e) (h14 : I 14 = nI q) : zC 6 sc 110 [.ref 14, .ref 1002] (xm I J A B tl) (zR (xm I J A B tl) (.int (if wrd b q (e - q) = wThread then 1 else 0))) := by
  have hn := ht.2.1
  have hl : wThread.length < 100 := by decide
  have hl9 : ∀ x, x ∈ wThread → x < 256 := by decide
  have hw : sm_wd 1002 = wThread.map nI := rfl
  have hwl : (sm_wd 1002).length = wThread.length := by rw [hw, List.length_map]
  have no : ¬ wrd b q (e - q) = wThread → ∀ i, zW 5 sc miX9_isWord 24 [some (.ref 14), some (.ref 1002), some (.int 0), some (.int (nI i))] [] (xm I J A B tl) (zR (xm I J A B tl) (.int (if wrd b q (e - q) = wThread then 1 else 0))) := fun hno i => by
    rw [if_neg hno]
    refine zw_nx rfl (fun _ _ => rfl) ?_
    repeat (refine zw_go rfl rfl (fun _ _ => rfl) ?_)
    refine zw_call rfl (fun _ _ => rfl) (cLen sc (xm I J A B tl) (show 1001 ≤ 1002 by decide) (show 1002 ≤ 1008 by decide)) (by decide) ?_
    rintro M1 r1 ⟨rfl, rfl⟩
    refine zw_br rfl (fun _ _ => rfl) (fun (hc : nI (sm_wd 1002).length ≤ nI i) => ?_) (fun (hc : ¬ (nI (sm_wd 1002).length ≤ nI i)) => ?_)
    · repeat (refine zw_go rfl rfl (fun _ _ => rfl) ?_)
      exact zw_ret rfl (fun _ _ => rfl) (⟨rfl, rfl⟩)
    · repeat (refine zw_go rfl rfl (fun _ _ => rfl) ?_)
      exact zw_ret rfl (fun _ _ => rfl) (⟨rfl, rfl⟩)
  have key : ∀ (z i : Nat), e - q = wThread.length → i + z = wThread.length → (∀ j, j < i → wThread[j]? = some (b (q + j))) → zW 5 sc miX9_isWord 24 [some (.ref 14), some (.ref 1002), some (.int 1), some (.int (nI i))] [] (xm I J A B tl) (zR (xm I J A B tl) (.int (if wrd b q (e - q) = wThread then 1 else 0))) := by
    intro z
    induction z with
    | zero =>
      intro i hel hi hj
      rw [if_pos (wrd_eq.mpr ⟨hel, fun j h3 => hj j (by omega)⟩)]
      refine zw_nx rfl (fun _ _ => rfl) ?_
      repeat (refine zw_go rfl rfl (fun _ _ => rfl) ?_)
      refine zw_call rfl (fun _ _ => rfl) (cLen sc (xm I J A B tl) (show 1001 ≤ 1002 by decide) (show 1002 ≤ 1008 by decide)) (by decide) ?_
      rintro M1 r1 ⟨rfl, rfl⟩
      rw [hwl]
      first | refine zw_br rfl (fun _ _ => rfl) (fun _ => ?_) (fun h9 => absurd (nI_le (a := wThread.length) (b := i) (by omega) (by omega)) h9) | refine zw_nx rfl (fun _ _ => rfl) ?_
      repeat (refine zw_go rfl rfl (fun _ _ => rfl) ?_)
      exact zw_ret rfl (fun _ _ => rfl) (⟨rfl, rfl⟩)
    | succ z ih =>
      intro i hel hi hj
      have hget : wThread[i]? = some (wThread.getD i 0) := by
        rw [List.getD_eq_getElem?_getD, List.getElem?_eq_getElem (by omega)]; rfl
      have hmem : wThread.getD i 0 < 256 := hl9 _ (List.mem_of_getElem? hget)
      have hch : (sm_wd 1002).getD i 0 = nI (wThread.getD i 0) := by
        rw [hw, List.getD_eq_getElem?_getD, List.getElem?_map, hget]; rfl
      have hby := (ht.2.2 (q + i) (by omega)).2
      refine zw_nx rfl (fun _ _ => rfl) ?_
      repeat (refine zw_go rfl rfl (fun _ _ => rfl) ?_)
      refine zw_call rfl (fun _ _ => rfl) (cLen sc (xm I J A B tl) (show 1001 ≤ 1002 by decide) (show 1002 ≤ 1008 by decide)) (by decide) ?_
      rintro M1 r1 ⟨rfl, rfl⟩
      rw [hwl]
      first | refine zw_br rfl (fun _ _ => rfl) (fun h9 => absurd h9 (nI_ge (a := i) (b := wThread.length) (by omega) (by omega))) (fun _ => ?_) | refine zw_nx rfl (fun _ _ => rfl) ?_
      repeat (refine zw_go rfl rfl (fun _ _ => rfl) ?_)
      rw [h14, show nI q + nI i = nI (q + i) from nI_add q i]
      refine zw_call rfl (fun _ _ => rfl) (xByteAt sc I J A B tl n b (q + i) ht (by omega)) (by decide) ?_
      rintro M1 r1 ⟨rfl, rfl⟩
      rw [if_pos (by omega)]
      repeat (refine zw_go rfl rfl (fun _ _ => rfl) ?_)
      refine zw_call rfl (fun _ _ => rfl) (cChar sc (xm I J A B tl) (show 1001 ≤ 1002 by decide) (show 1002 ≤ 1008 by decide) (by omega) (by omega)) (by decide) ?_
      rintro M1 r1 ⟨rfl, rfl⟩
      rw [hch]
      refine zw_br rfl (fun _ _ => rfl) (fun (hc : nI (b (q + i)) = nI (wThread.getD i 0)) => ?_) (fun (hc : ¬ (nI (b (q + i)) = nI (wThread.getD i 0))) => ?_)
      · rw [nI_eq (by omega) (by omega)] at hc
        have hn2 := ih (i + 1) hel (by omega) (fun j h3 => by
          by_cases h4 : j = i
          · subst h4; rw [hget, hc]
          · exact hj j (by omega))
        rw [nI_succ] at hn2
        repeat (refine zw_go rfl rfl (fun _ _ => rfl) ?_)
        exact zw_kp hn2
      · rw [nI_eq (by omega) (by omega)] at hc
        have hn2 := no (fun hE => by
          have := (wrd_eq.mp hE).2 i (by omega)
          rw [hget] at this
          exact hc (Option.some.inj this).symm) (i + 1)
        rw [nI_succ] at hn2
        repeat (refine zw_go rfl rfl (fun _ _ => rfl) ?_)
        exact zw_kp hn2
  refine zc_of hkX9_isWord rfl ?_
  repeat (refine zw_go rfl rfl (fun _ _ => rfl) ?_)
  rw [h12, h14, nI_sub hqe]
  refine zw_call rfl (fun _ _ => rfl) (cLen sc (xm I J A B tl) (show 1001 ≤ 1002 by decide) (show 1002 ≤ 1008 by decide)) (by decide) ?_
  rintro M1 r1 ⟨rfl, rfl⟩
  rw [hwl]
  refine zw_br rfl (fun _ _ => rfl) (fun (hc : nI (e - q) = nI wThread.length) => ?_) (fun (hc : ¬ (nI (e - q) = nI wThread.length)) => ?_)
  · rw [nI_eq (by omega) (by omega)] at hc
    have st := key wThread.length 0 hc (by omega) (fun j hj => by omega)
    repeat (refine zw_go rfl rfl (fun _ _ => rfl) ?_)
    exact zw_kp st
  · rw [nI_eq (by omega) (by omega)] at hc
    have st := no (fun hE => hc (wrd_eq.mp hE).1) 0
    repeat (refine zw_go rfl rfl (fun _ _ => rfl) ?_)
    exact zw_kp st
set_option maxHeartbeats 4000000 in
set_option maxRecDepth 20000 in
theorem xIsWord1003 (q e : Nat) (ht : TpX I A b n) (hqe : q ≤ e) (he : e ≤ n) (h12 : I 12 = nI e) (h14 : I 14 = nI q) : zC 6 sc 110 [.ref 14, .ref 1003] (xm I J A B tl) (zR (xm I J A B tl) (.int (if wrd b q (e - q) = wTread then 1 else 0))) := by
  have hn := ht.2.1
  have hl : wTread.length < 100 := by decide
  have hl9 : ∀ x, x ∈ wTread → x < 256 := by decide
  have hw : sm_wd 1003 = wTread.map nI := rfl
  have hwl : (sm_wd 1003).length = wTread.length := by rw [hw, List.length_map]
  have no : ¬ wrd b q (e - q) = wTread → ∀ i, zW 5 sc miX9_isWord 24 [some (.ref 14), some (.ref 1003), some (.int 0), some (.int (nI i))] [] (xm I J A B tl) (zR (xm I J A B tl) (.int (if wrd b q (e - q) = wTread then 1 else 0))) := fun hno i => by
    rw [if_neg hno]
    refine zw_nx rfl (fun _ _ => rfl) ?_
    repeat (refine zw_go rfl rfl (fun _ _ => rfl) ?_)
    refine zw_call rfl (fun _ _ => rfl) (cLen sc (xm I J A B tl) (show 1001 ≤ 1003 by decide) (show 1003 ≤ 1008 by decide)) (by decide) ?_
    rintro M1 r1 ⟨rfl, rfl⟩
    refine zw_br rfl (fun _ _ => rfl) (fun (hc : nI (sm_wd 1003).length ≤ nI i) => ?_) (fun (hc : ¬ (nI (sm_wd 1003).length ≤ nI i)) => ?_)
    · repeat (refine zw_go rfl rfl (fun _ _ => rfl) ?_)
      exact zw_ret rfl (fun _ _ => rfl) (⟨rfl, rfl⟩)
    · repeat (refine zw_go rfl rfl (fun _ _ => rfl) ?_)
      exact zw_ret rfl (fun _ _ => rfl) (⟨rfl, rfl⟩)
  have key : ∀ (z i : Nat), e - q = wTread.length → i + z = wTread.length → (∀ j, j < i → wTread[j]? = some (b (q + j))) → zW 5 sc miX9_isWord 24 [some (.ref 14), some (.ref 1003), some (.int 1), some (.int (nI i))] [] (xm I J A B tl) (zR (xm I J A B tl) (.int (if wrd b q (e - q) = wTread then 1 else 0))) := by
    intro z
    induction z with
    | zero =>
      intro i hel hi hj
      rw [if_pos (wrd_eq.mpr ⟨hel, fun j h3 => hj j (by omega)⟩)]
      refine zw_nx rfl (fun _ _ => rfl) ?_
      repeat (refine zw_go rfl rfl (fun _ _ => rfl) ?_)
      refine zw_call rfl (fun _ _ => rfl) (cLen sc (xm I J A B tl) (show 1001 ≤ 1003 by decide) (show 1003 ≤ 1008 by decide)) (by decide) ?_
      rintro M1 r1 ⟨rfl, rfl⟩
      rw [hwl]
      first | refine zw_br rfl (fun _ _ => rfl) (fun _ => ?_) (fun h9 => absurd (nI_le (a := wTread.length) (b := i) (by omega) (by omega)) h9) | refine zw_nx rfl (fun _ _ => rfl) ?_
      repeat (refine zw_go rfl rfl (fun _ _ => rfl) ?_)
      exact zw_ret rfl (fun _ _ => rfl) (⟨rfl, rfl⟩)
    | succ z ih =>
      intro i hel hi hj
      have hget : wTread[i]? = some (wTread.getD i 0) := by
        rw [List.getD_eq_getElem?_getD, List.getElem?_eq_getElem (by omega)]; rfl
      have hmem : wTread.getD i 0 < 256 := hl9 _ (List.mem_of_getElem? hget)
      have hch : (sm_wd 1003).getD i 0 = nI (wTread.getD i 0) := by
        rw [hw, List.getD_eq_getElem?_getD, List.getElem?_map, hget]; rfl
      have hby := (ht.2.2 (q + i) (by omega)).2
      refine zw_nx rfl (fun _ _ => rfl) ?_
      repeat (refine zw_go rfl rfl (fun _ _ => rfl) ?_)
      refine zw_call rfl (fun _ _ => rfl) (cLen sc (xm I J A B tl) (show 1001 ≤ 1003 by decide) (show 1003 ≤ 1008 by decide)) (by decide) ?_
      rintro M1 r1 ⟨rfl, rfl⟩
      rw [hwl]
      first | refine zw_br rfl (fun _ _ => rfl) (fun h9 => absurd h9 (nI_ge (a := i) (b := wTread.length) (by omega) (by omega))) (fun _ => ?_) | refine zw_nx rfl (fun _ _ => rfl) ?_
      repeat (refine zw_go rfl rfl (fun _ _ => rfl) ?_)
      rw [h14, show nI q + nI i = nI (q + i) from nI_add q i]
      refine zw_call rfl (fun _ _ => rfl) (xByteAt sc I J A B tl n b (q + i) ht (by omega)) (by decide) ?_
      rintro M1 r1 ⟨rfl, rfl⟩
      rw [if_pos (by omega)]
      repeat (refine zw_go rfl rfl (fun _ _ => rfl) ?_)
      refine zw_call rfl (fun _ _ => rfl) (cChar sc (xm I J A B tl) (show 1001 ≤ 1003 by decide) (show 1003 ≤ 1008 by decide) (by omega) (by omega)) (by decide) ?_
      rintro M1 r1 ⟨rfl, rfl⟩
      rw [hch]
      refine zw_br rfl (fun _ _ => rfl) (fun (hc : nI (b (q + i)) = nI (wTread.getD i 0)) => ?_) (fun (hc : ¬ (nI (b (q + i)) = nI (wTread.getD i 0))) => ?_)
      · rw [nI_eq (by omega) (by omega)] at hc
        have hn2 := ih (i + 1) hel (by omega) (fun j h3 => by
          by_cases h4 : j = i
          · subst h4; rw [hget, hc]
          · exact hj j (by omega))
        rw [nI_succ] at hn2
        repeat (refine zw_go rfl rfl (fun _ _ => rfl) ?_)
        exact zw_kp hn2
      · rw [nI_eq (by omega) (by omega)] at hc
        have hn2 := no (fun hE => by
          have := (wrd_eq.mp hE).2 i (by omega)
          rw [hget] at this
          exact hc (Option.some.inj this).symm) (i + 1)
        rw [nI_succ] at hn2
        repeat (refine zw_go rfl rfl (fun _ _ => rfl) ?_)
        exact zw_kp hn2
  refine zc_of hkX9_isWord rfl ?_
  repeat (refine zw_go rfl rfl (fun _ _ => rfl) ?_)
  rw [h12, h14, nI_sub hqe]
  refine zw_call rfl (fun _ _ => rfl) (cLen sc (xm I J A B tl) (show 1001 ≤ 1003 by decide) (show 1003 ≤ 1008 by decide)) (by decide) ?_
  rintro M1 r1 ⟨rfl, rfl⟩
  rw [hwl]
  refine zw_br rfl (fun _ _ => rfl) (fun (hc : nI (e - q) = nI wTread.length) => ?_) (fun (hc : ¬ (nI (e - q) = nI wTread.length)) => ?_)
  · rw [nI_eq (by omega) (by omega)] at hc
    have st := key wTread.length 0 hc (by omega) (fun j hj => by omega)
    repeat (refine zw_go rfl rfl (fun _ _ => rfl) ?_)
    exact zw_kp st
  · rw [nI_eq (by omega) (by omega)] at hc
    have st := no (fun hE => hc (wrd_eq.mp hE).1) 0
    repeat (refine zw_go rfl rfl (fun _ _ => rfl) ?_)
    exact zw_kp st
set_option maxHeartbeats 4000000 in
set_option maxRecDepth 20000 in
theorem xIsWord1004 (q e : Nat) (ht : TpX I A b n) (hqe : q ≤ e) (he : e ≤ n) (h12 : I 12 = nI e) (h14 : I 14 = nI q) : zC 6 sc 110 [.ref 14, .ref 1004] (xm I J A B tl) (zR (xm I J A B tl) (.int (if wrd b q (e - q) = wTie then 1 else 0))) := by
  have hn := ht.2.1
  have hl : wTie.length < 100 := by decide
  have hl9 : ∀ x, x ∈ wTie → x < 256 := by decide
  have hw : sm_wd 1004 = wTie.map nI := rfl
  have hwl : (sm_wd 1004).length = wTie.length := by rw [hw, List.length_map]
  have no : ¬ wrd b q (e - q) = wTie → ∀ i, zW 5 sc miX9_isWord 24 [some (.ref 14), some (.ref 1004), some (.int 0), some (.int (nI i))] [] (xm I J A B tl) (zR (xm I J A B tl) (.int (if wrd b q (e - q) = wTie then 1 else 0))) := fun hno i => by
    rw [if_neg hno]
    refine zw_nx rfl (fun _ _ => rfl) ?_
    repeat (refine zw_go rfl rfl (fun _ _ => rfl) ?_)
    refine zw_call rfl (fun _ _ => rfl) (cLen sc (xm I J A B tl) (show 1001 ≤ 1004 by decide) (show 1004 ≤ 1008 by decide)) (by decide) ?_
    rintro M1 r1 ⟨rfl, rfl⟩
    refine zw_br rfl (fun _ _ => rfl) (fun (hc : nI (sm_wd 1004).length ≤ nI i) => ?_) (fun (hc : ¬ (nI (sm_wd 1004).length ≤ nI i)) => ?_)
    · repeat (refine zw_go rfl rfl (fun _ _ => rfl) ?_)
      exact zw_ret rfl (fun _ _ => rfl) (⟨rfl, rfl⟩)
    · repeat (refine zw_go rfl rfl (fun _ _ => rfl) ?_)
      exact zw_ret rfl (fun _ _ => rfl) (⟨rfl, rfl⟩)
  have key : ∀ (z i : Nat), e - q = wTie.length → i + z = wTie.length → (∀ j, j < i → wTie[j]? = some (b (q + j))) → zW 5 sc miX9_isWord 24 [some (.ref 14), some (.ref 1004), some (.int 1), some (.int (nI i))] [] (xm I J A B tl) (zR (xm I J A B tl) (.int (if wrd b q (e - q) = wTie then 1 else 0))) := by
    intro z
    induction z with
    | zero =>
      intro i hel hi hj
      rw [if_pos (wrd_eq.mpr ⟨hel, fun j h3 => hj j (by omega)⟩)]
      refine zw_nx rfl (fun _ _ => rfl) ?_
      repeat (refine zw_go rfl rfl (fun _ _ => rfl) ?_)
      refine zw_call rfl (fun _ _ => rfl) (cLen sc (xm I J A B tl) (show 1001 ≤ 1004 by decide) (show 1004 ≤ 1008 by decide)) (by decide) ?_
      rintro M1 r1 ⟨rfl, rfl⟩
      rw [hwl]
      first | refine zw_br rfl (fun _ _ => rfl) (fun _ => ?_) (fun h9 => absurd (nI_le (a := wTie.length) (b := i) (by omega) (by omega)) h9) | refine zw_nx rfl (fun _ _ => rfl) ?_
      repeat (refine zw_go rfl rfl (fun _ _ => rfl) ?_)
      exact zw_ret rfl (fun _ _ => rfl) (⟨rfl, rfl⟩)
    | succ z ih =>
      intro i hel hi hj
      have hget : wTie[i]? = some (wTie.getD i 0) := by
        rw [List.getD_eq_getElem?_getD, List.getElem?_eq_getElem (by omega)]; rfl
      have hmem : wTie.getD i 0 < 256 := hl9 _ (List.mem_of_getElem? hget)
      have hch : (sm_wd 1004).getD i 0 = nI (wTie.getD i 0) := by
        rw [hw, List.getD_eq_getElem?_getD, List.getElem?_map, hget]; rfl
      have hby := (ht.2.2 (q + i) (by omega)).2
      refine zw_nx rfl (fun _ _ => rfl) ?_
      repeat (refine zw_go rfl rfl (fun _ _ => rfl) ?_)
      refine zw_call rfl (fun _ _ => rfl) (cLen sc (xm I J A B tl) (show 1001 ≤ 1004 by decide) (show 1004 ≤ 1008 by decide)) (by decide) ?_
      rintro M1 r1 ⟨rfl, rfl⟩
      rw [hwl]
      first | refine zw_br rfl (fun _ _ => rfl) (fun h9 => absurd h9 (nI_ge (a := i) (b := wTie.length) (by omega) (by omega))) (fun _ => ?_) | refine zw_nx rfl (fun _ _ => rfl) ?_
      repeat (refine zw_go rfl rfl (fun _ _ => rfl) ?_)
      rw [h14, show nI q + nI i = nI (q + i) from nI_add q i]
      refine zw_call rfl (fun _ _ => rfl) (xByteAt sc I J A B tl n b (q + i) ht (by omega)) (by decide) ?_
      rintro M1 r1 ⟨rfl, rfl⟩
      rw [if_pos (by omega)]
      repeat (refine zw_go rfl rfl (fun _ _ => rfl) ?_)
      refine zw_call rfl (fun _ _ => rfl) (cChar sc (xm I J A B tl) (show 1001 ≤ 1004 by decide) (show 1004 ≤ 1008 by decide) (by omega) (by omega)) (by decide) ?_
      rintro M1 r1 ⟨rfl, rfl⟩
      rw [hch]
      refine zw_br rfl (fun _ _ => rfl) (fun (hc : nI (b (q + i)) = nI (wTie.getD i 0)) => ?_) (fun (hc : ¬ (nI (b (q + i)) = nI (wTie.getD i 0))) => ?_)
      · rw [nI_eq (by omega) (by omega)] at hc
        have hn2 := ih (i + 1) hel (by omega) (fun j h3 => by
          by_cases h4 : j = i
          · subst h4; rw [hget, hc]
          · exact hj j (by omega))
        rw [nI_succ] at hn2
        repeat (refine zw_go rfl rfl (fun _ _ => rfl) ?_)
        exact zw_kp hn2
      · rw [nI_eq (by omega) (by omega)] at hc
        have hn2 := no (fun hE => by
          have := (wrd_eq.mp hE).2 i (by omega)
          rw [hget] at this
          exact hc (Option.some.inj this).symm) (i + 1)
        rw [nI_succ] at hn2
        repeat (refine zw_go rfl rfl (fun _ _ => rfl) ?_)
        exact zw_kp hn2
  refine zc_of hkX9_isWord rfl ?_
  repeat (refine zw_go rfl rfl (fun _ _ => rfl) ?_)
  rw [h12, h14, nI_sub hqe]
  refine zw_call rfl (fun _ _ => rfl) (cLen sc (xm I J A B tl) (show 1001 ≤ 1004 by decide) (show 1004 ≤ 1008 by decide)) (by decide) ?_
  rintro M1 r1 ⟨rfl, rfl⟩
  rw [hwl]
  refine zw_br rfl (fun _ _ => rfl) (fun (hc : nI (e - q) = nI wTie.length) => ?_) (fun (hc : ¬ (nI (e - q) = nI wTie.length)) => ?_)
  · rw [nI_eq (by omega) (by omega)] at hc
    have st := key wTie.length 0 hc (by omega) (fun j hj => by omega)
    repeat (refine zw_go rfl rfl (fun _ _ => rfl) ?_)
    exact zw_kp st
  · rw [nI_eq (by omega) (by omega)] at hc
    have st := no (fun hE => hc (wrd_eq.mp hE).1) 0
    repeat (refine zw_go rfl rfl (fun _ _ => rfl) ?_)
    exact zw_kp st
set_option maxHeartbeats 4000000 in
set_option maxRecDepth 20000 in
theorem xIsWord1005 (q e : Nat) (ht : TpX I A b n) (hqe : q ≤ e) (he : e ≤ n) (h12 : I 12 = nI e) (h14 : I 14 = nI q) : zC 6 sc 110 [.ref 14, .ref 1005] (xm I J A B tl) (zR (xm I J A B tl) (.int (if wrd b q (e - q) = wTo then 1 else 0))) := by
  have hn := ht.2.1
  have hl : wTo.length < 100 := by decide
  have hl9 : ∀ x, x ∈ wTo → x < 256 := by decide
  have hw : sm_wd 1005 = wTo.map nI := rfl
  have hwl : (sm_wd 1005).length = wTo.length := by rw [hw, List.length_map]
  have no : ¬ wrd b q (e - q) = wTo → ∀ i, zW 5 sc miX9_isWord 24 [some (.ref 14), some (.ref 1005), some (.int 0), some (.int (nI i))] [] (xm I J A B tl) (zR (xm I J A B tl) (.int (if wrd b q (e - q) = wTo then 1 else 0))) := fun hno i => by
    rw [if_neg hno]
    refine zw_nx rfl (fun _ _ => rfl) ?_
    repeat (refine zw_go rfl rfl (fun _ _ => rfl) ?_)
    refine zw_call rfl (fun _ _ => rfl) (cLen sc (xm I J A B tl) (show 1001 ≤ 1005 by decide) (show 1005 ≤ 1008 by decide)) (by decide) ?_
    rintro M1 r1 ⟨rfl, rfl⟩
    refine zw_br rfl (fun _ _ => rfl) (fun (hc : nI (sm_wd 1005).length ≤ nI i) => ?_) (fun (hc : ¬ (nI (sm_wd 1005).length ≤ nI i)) => ?_)
    · repeat (refine zw_go rfl rfl (fun _ _ => rfl) ?_)
      exact zw_ret rfl (fun _ _ => rfl) (⟨rfl, rfl⟩)
    · repeat (refine zw_go rfl rfl (fun _ _ => rfl) ?_)
      exact zw_ret rfl (fun _ _ => rfl) (⟨rfl, rfl⟩)
  have key : ∀ (z i : Nat), e - q = wTo.length → i + z = wTo.length → (∀ j, j < i → wTo[j]? = some (b (q + j))) → zW 5 sc miX9_isWord 24 [some (.ref 14), some (.ref 1005), some (.int 1), some (.int (nI i))] [] (xm I J A B tl) (zR (xm I J A B tl) (.int (if wrd b q (e - q) = wTo then 1 else 0))) := by
    intro z
    induction z with
    | zero =>
      intro i hel hi hj
      rw [if_pos (wrd_eq.mpr ⟨hel, fun j h3 => hj j (by omega)⟩)]
      refine zw_nx rfl (fun _ _ => rfl) ?_
      repeat (refine zw_go rfl rfl (fun _ _ => rfl) ?_)
      refine zw_call rfl (fun _ _ => rfl) (cLen sc (xm I J A B tl) (show 1001 ≤ 1005 by decide) (show 1005 ≤ 1008 by decide)) (by decide) ?_
      rintro M1 r1 ⟨rfl, rfl⟩
      rw [hwl]
      first | refine zw_br rfl (fun _ _ => rfl) (fun _ => ?_) (fun h9 => absurd (nI_le (a := wTo.length) (b := i) (by omega) (by omega)) h9) | refine zw_nx rfl (fun _ _ => rfl) ?_
      repeat (refine zw_go rfl rfl (fun _ _ => rfl) ?_)
      exact zw_ret rfl (fun _ _ => rfl) (⟨rfl, rfl⟩)
    | succ z ih =>
      intro i hel hi hj
      have hget : wTo[i]? = some (wTo.getD i 0) := by
        rw [List.getD_eq_getElem?_getD, List.getElem?_eq_getElem (by omega)]; rfl
      have hmem : wTo.getD i 0 < 256 := hl9 _ (List.mem_of_getElem? hget)
      have hch : (sm_wd 1005).getD i 0 = nI (wTo.getD i 0) := by
        rw [hw, List.getD_eq_getElem?_getD, List.getElem?_map, hget]; rfl
      have hby := (ht.2.2 (q + i) (by omega)).2
      refine zw_nx rfl (fun _ _ => rfl) ?_
      repeat (refine zw_go rfl rfl (fun _ _ => rfl) ?_)
      refine zw_call rfl (fun _ _ => rfl) (cLen sc (xm I J A B tl) (show 1001 ≤ 1005 by decide) (show 1005 ≤ 1008 by decide)) (by decide) ?_
      rintro M1 r1 ⟨rfl, rfl⟩
      rw [hwl]
      first | refine zw_br rfl (fun _ _ => rfl) (fun h9 => absurd h9 (nI_ge (a := i) (b := wTo.length) (by omega) (by omega))) (fun _ => ?_) | refine zw_nx rfl (fun _ _ => rfl) ?_
      repeat (refine zw_go rfl rfl (fun _ _ => rfl) ?_)
      rw [h14, show nI q + nI i = nI (q + i) from nI_add q i]
      refine zw_call rfl (fun _ _ => rfl) (xByteAt sc I J A B tl n b (q + i) ht (by omega)) (by decide) ?_
      rintro M1 r1 ⟨rfl, rfl⟩
      rw [if_pos (by omega)]
      repeat (refine zw_go rfl rfl (fun _ _ => rfl) ?_)
      refine zw_call rfl (fun _ _ => rfl) (cChar sc (xm I J A B tl) (show 1001 ≤ 1005 by decide) (show 1005 ≤ 1008 by decide) (by omega) (by omega)) (by decide) ?_
      rintro M1 r1 ⟨rfl, rfl⟩
      rw [hch]
      refine zw_br rfl (fun _ _ => rfl) (fun (hc : nI (b (q + i)) = nI (wTo.getD i 0)) => ?_) (fun (hc : ¬ (nI (b (q + i)) = nI (wTo.getD i 0))) => ?_)
      · rw [nI_eq (by omega) (by omega)] at hc
        have hn2 := ih (i + 1) hel (by omega) (fun j h3 => by
          by_cases h4 : j = i
          · subst h4; rw [hget, hc]
          · exact hj j (by omega))
        rw [nI_succ] at hn2
        repeat (refine zw_go rfl rfl (fun _ _ => rfl) ?_)
        exact zw_kp hn2
      · rw [nI_eq (by omega) (by omega)] at hc
        have hn2 := no (fun hE => by
          have := (wrd_eq.mp hE).2 i (by omega)
          rw [hget] at this
          exact hc (Option.some.inj this).symm) (i + 1)
        rw [nI_succ] at hn2
        repeat (refine zw_go rfl rfl (fun _ _ => rfl) ?_)
        exact zw_kp hn2
  refine zc_of hkX9_isWord rfl ?_
  repeat (refine zw_go rfl rfl (fun _ _ => rfl) ?_)
  rw [h12, h14, nI_sub hqe]
  refine zw_call rfl (fun _ _ => rfl) (cLen sc (xm I J A B tl) (show 1001 ≤ 1005 by decide) (show 1005 ≤ 1008 by decide)) (by decide) ?_
  rintro M1 r1 ⟨rfl, rfl⟩
  rw [hwl]
  refine zw_br rfl (fun _ _ => rfl) (fun (hc : nI (e - q) = nI wTo.length) => ?_) (fun (hc : ¬ (nI (e - q) = nI wTo.length)) => ?_)
  · rw [nI_eq (by omega) (by omega)] at hc
    have st := key wTo.length 0 hc (by omega) (fun j hj => by omega)
    repeat (refine zw_go rfl rfl (fun _ _ => rfl) ?_)
    exact zw_kp st
  · rw [nI_eq (by omega) (by omega)] at hc
    have st := no (fun hE => hc (wrd_eq.mp hE).1) 0
    repeat (refine zw_go rfl rfl (fun _ _ => rfl) ?_)
    exact zw_kp st
set_option maxHeartbeats 4000000 in
set_option maxRecDepth 20000 in
theorem xIsWord1006 (q e : Nat) (ht : TpX I A b n) (hqe : q ≤ e) (he : e ≤ n) (h12 : I 12 = nI e) (h14 : I 14 = nI q) : zC 6 sc 110 [.ref 14, .ref 1006] (xm I J A B tl) (zR (xm I J A B tl) (.int (if wrd b q (e - q) = wMirror then 1 else 0))) := by
  have hn := ht.2.1
  have hl : wMirror.length < 100 := by decide
  have hl9 : ∀ x, x ∈ wMirror → x < 256 := by decide
  have hw : sm_wd 1006 = wMirror.map nI := rfl
  have hwl : (sm_wd 1006).length = wMirror.length := by rw [hw, List.length_map]
  have no : ¬ wrd b q (e - q) = wMirror → ∀ i, zW 5 sc miX9_isWord 24 [some (.ref 14), some (.ref 1006), some (.int 0), some (.int (nI i))] [] (xm I J A B tl) (zR (xm I J A B tl) (.int (if wrd b q (e - q) = wMirror then 1 else 0))) := fun hno i => by
    rw [if_neg hno]
    refine zw_nx rfl (fun _ _ => rfl) ?_
    repeat (refine zw_go rfl rfl (fun _ _ => rfl) ?_)
    refine zw_call rfl (fun _ _ => rfl) (cLen sc (xm I J A B tl) (show 1001 ≤ 1006 by decide) (show 1006 ≤ 1008 by decide)) (by decide) ?_
    rintro M1 r1 ⟨rfl, rfl⟩
    refine zw_br rfl (fun _ _ => rfl) (fun (hc : nI (sm_wd 1006).length ≤ nI i) => ?_) (fun (hc : ¬ (nI (sm_wd 1006).length ≤ nI i)) => ?_)
    · repeat (refine zw_go rfl rfl (fun _ _ => rfl) ?_)
      exact zw_ret rfl (fun _ _ => rfl) (⟨rfl, rfl⟩)
    · repeat (refine zw_go rfl rfl (fun _ _ => rfl) ?_)
      exact zw_ret rfl (fun _ _ => rfl) (⟨rfl, rfl⟩)
  have key : ∀ (z i : Nat), e - q = wMirror.length → i + z = wMirror.length → (∀ j, j < i → wMirror[j]? = some (b (q + j))) → zW 5 sc miX9_isWord 24 [some (.ref 14), some (.ref 1006), some (.int 1), some (.int (nI i))] [] (xm I J A B tl) (zR (xm I J A B tl) (.int (if wrd b q (e - q) = wMirror then 1 else 0))) := by
    intro z
    induction z with
    | zero =>
      intro i hel hi hj
      rw [if_pos (wrd_eq.mpr ⟨hel, fun j h3 => hj j (by omega)⟩)]
      refine zw_nx rfl (fun _ _ => rfl) ?_
      repeat (refine zw_go rfl rfl (fun _ _ => rfl) ?_)
      refine zw_call rfl (fun _ _ => rfl) (cLen sc (xm I J A B tl) (show 1001 ≤ 1006 by decide) (show 1006 ≤ 1008 by decide)) (by decide) ?_
      rintro M1 r1 ⟨rfl, rfl⟩
      rw [hwl]
      first | refine zw_br rfl (fun _ _ => rfl) (fun _ => ?_) (fun h9 => absurd (nI_le (a := wMirror.length) (b := i) (by omega) (by omega)) h9) | refine zw_nx rfl (fun _ _ => rfl) ?_
      repeat (refine zw_go rfl rfl (fun _ _ => rfl) ?_)
      exact zw_ret rfl (fun _ _ => rfl) (⟨rfl, rfl⟩)
    | succ z ih =>
      intro i hel hi hj
      have hget : wMirror[i]? = some (wMirror.getD i 0) := by
        rw [List.getD_eq_getElem?_getD, List.getElem?_eq_getElem (by omega)]; rfl
      have hmem : wMirror.getD i 0 < 256 := hl9 _ (List.mem_of_getElem? hget)
      have hch : (sm_wd 1006).getD i 0 = nI (wMirror.getD i 0) := by
        rw [hw, List.getD_eq_getElem?_getD, List.getElem?_map, hget]; rfl
      have hby := (ht.2.2 (q + i) (by omega)).2
      refine zw_nx rfl (fun _ _ => rfl) ?_
      repeat (refine zw_go rfl rfl (fun _ _ => rfl) ?_)
      refine zw_call rfl (fun _ _ => rfl) (cLen sc (xm I J A B tl) (show 1001 ≤ 1006 by decide) (show 1006 ≤ 1008 by decide)) (by decide) ?_
      rintro M1 r1 ⟨rfl, rfl⟩
      rw [hwl]
      first | refine zw_br rfl (fun _ _ => rfl) (fun h9 => absurd h9 (nI_ge (a := i) (b := wMirror.length) (by omega) (by omega))) (fun _ => ?_) | refine zw_nx rfl (fun _ _ => rfl) ?_
      repeat (refine zw_go rfl rfl (fun _ _ => rfl) ?_)
      rw [h14, show nI q + nI i = nI (q + i) from nI_add q i]
      refine zw_call rfl (fun _ _ => rfl) (xByteAt sc I J A B tl n b (q + i) ht (by omega)) (by decide) ?_
      rintro M1 r1 ⟨rfl, rfl⟩
      rw [if_pos (by omega)]
      repeat (refine zw_go rfl rfl (fun _ _ => rfl) ?_)
      refine zw_call rfl (fun _ _ => rfl) (cChar sc (xm I J A B tl) (show 1001 ≤ 1006 by decide) (show 1006 ≤ 1008 by decide) (by omega) (by omega)) (by decide) ?_
      rintro M1 r1 ⟨rfl, rfl⟩
      rw [hch]
      refine zw_br rfl (fun _ _ => rfl) (fun (hc : nI (b (q + i)) = nI (wMirror.getD i 0)) => ?_) (fun (hc : ¬ (nI (b (q + i)) = nI (wMirror.getD i 0))) => ?_)
      · rw [nI_eq (by omega) (by omega)] at hc
        have hn2 := ih (i + 1) hel (by omega) (fun j h3 => by
          by_cases h4 : j = i
          · subst h4; rw [hget, hc]
          · exact hj j (by omega))
        rw [nI_succ] at hn2
        repeat (refine zw_go rfl rfl (fun _ _ => rfl) ?_)
        exact zw_kp hn2
      · rw [nI_eq (by omega) (by omega)] at hc
        have hn2 := no (fun hE => by
          have := (wrd_eq.mp hE).2 i (by omega)
          rw [hget] at this
          exact hc (Option.some.inj this).symm) (i + 1)
        rw [nI_succ] at hn2
        repeat (refine zw_go rfl rfl (fun _ _ => rfl) ?_)
        exact zw_kp hn2
  refine zc_of hkX9_isWord rfl ?_
  repeat (refine zw_go rfl rfl (fun _ _ => rfl) ?_)
  rw [h12, h14, nI_sub hqe]
  refine zw_call rfl (fun _ _ => rfl) (cLen sc (xm I J A B tl) (show 1001 ≤ 1006 by decide) (show 1006 ≤ 1008 by decide)) (by decide) ?_
  rintro M1 r1 ⟨rfl, rfl⟩
  rw [hwl]
  refine zw_br rfl (fun _ _ => rfl) (fun (hc : nI (e - q) = nI wMirror.length) => ?_) (fun (hc : ¬ (nI (e - q) = nI wMirror.length)) => ?_)
  · rw [nI_eq (by omega) (by omega)] at hc
    have st := key wMirror.length 0 hc (by omega) (fun j hj => by omega)
    repeat (refine zw_go rfl rfl (fun _ _ => rfl) ?_)
    exact zw_kp st
  · rw [nI_eq (by omega) (by omega)] at hc
    have st := no (fun hE => hc (wrd_eq.mp hE).1) 0
    repeat (refine zw_go rfl rfl (fun _ _ => rfl) ?_)
    exact zw_kp st
set_option maxHeartbeats 4000000 in
set_option maxRecDepth 20000 in
theorem xIsWord1007 (q e : Nat) (ht : TpX I A b n) (hqe : q ≤ e) (he : e ≤ n) (h12 : I 12 = nI e) (h14 : I 14 = nI q) : zC 6 sc 110 [.ref 14, .ref 1007] (xm I J A B tl) (zR (xm I J A B tl) (.int (if wrd b q (e - q) = wBack then 1 else 0))) := by
  have hn := ht.2.1
  have hl : wBack.length < 100 := by decide
  have hl9 : ∀ x, x ∈ wBack → x < 256 := by decide
  have hw : sm_wd 1007 = wBack.map nI := rfl
  have hwl : (sm_wd 1007).length = wBack.length := by rw [hw, List.length_map]
  have no : ¬ wrd b q (e - q) = wBack → ∀ i, zW 5 sc miX9_isWord 24 [some (.ref 14), some (.ref 1007), some (.int 0), some (.int (nI i))] [] (xm I J A B tl) (zR (xm I J A B tl) (.int (if wrd b q (e - q) = wBack then 1 else 0))) := fun hno i => by
    rw [if_neg hno]
    refine zw_nx rfl (fun _ _ => rfl) ?_
    repeat (refine zw_go rfl rfl (fun _ _ => rfl) ?_)
    refine zw_call rfl (fun _ _ => rfl) (cLen sc (xm I J A B tl) (show 1001 ≤ 1007 by decide) (show 1007 ≤ 1008 by decide)) (by decide) ?_
    rintro M1 r1 ⟨rfl, rfl⟩
    refine zw_br rfl (fun _ _ => rfl) (fun (hc : nI (sm_wd 1007).length ≤ nI i) => ?_) (fun (hc : ¬ (nI (sm_wd 1007).length ≤ nI i)) => ?_)
    · repeat (refine zw_go rfl rfl (fun _ _ => rfl) ?_)
      exact zw_ret rfl (fun _ _ => rfl) (⟨rfl, rfl⟩)
    · repeat (refine zw_go rfl rfl (fun _ _ => rfl) ?_)
      exact zw_ret rfl (fun _ _ => rfl) (⟨rfl, rfl⟩)
  have key : ∀ (z i : Nat), e - q = wBack.length → i + z = wBack.length → (∀ j, j < i → wBack[j]? = some (b (q + j))) → zW 5 sc miX9_isWord 24 [some (.ref 14), some (.ref 1007), some (.int 1), some (.int (nI i))] [] (xm I J A B tl) (zR (xm I J A B tl) (.int (if wrd b q (e - q) = wBack then 1 else 0))) := by
    intro z
    induction z with
    | zero =>
      intro i hel hi hj
      rw [if_pos (wrd_eq.mpr ⟨hel, fun j h3 => hj j (by omega)⟩)]
      refine zw_nx rfl (fun _ _ => rfl) ?_
      repeat (refine zw_go rfl rfl (fun _ _ => rfl) ?_)
      refine zw_call rfl (fun _ _ => rfl) (cLen sc (xm I J A B tl) (show 1001 ≤ 1007 by decide) (show 1007 ≤ 1008 by decide)) (by decide) ?_
      rintro M1 r1 ⟨rfl, rfl⟩
      rw [hwl]
      first | refine zw_br rfl (fun _ _ => rfl) (fun _ => ?_) (fun h9 => absurd (nI_le (a := wBack.length) (b := i) (by omega) (by omega)) h9) | refine zw_nx rfl (fun _ _ => rfl) ?_
      repeat (refine zw_go rfl rfl (fun _ _ => rfl) ?_)
      exact zw_ret rfl (fun _ _ => rfl) (⟨rfl, rfl⟩)
    | succ z ih =>
      intro i hel hi hj
      have hget : wBack[i]? = some (wBack.getD i 0) := by
        rw [List.getD_eq_getElem?_getD, List.getElem?_eq_getElem (by omega)]; rfl
      have hmem : wBack.getD i 0 < 256 := hl9 _ (List.mem_of_getElem? hget)
      have hch : (sm_wd 1007).getD i 0 = nI (wBack.getD i 0) := by
        rw [hw, List.getD_eq_getElem?_getD, List.getElem?_map, hget]; rfl
      have hby := (ht.2.2 (q + i) (by omega)).2
      refine zw_nx rfl (fun _ _ => rfl) ?_
      repeat (refine zw_go rfl rfl (fun _ _ => rfl) ?_)
      refine zw_call rfl (fun _ _ => rfl) (cLen sc (xm I J A B tl) (show 1001 ≤ 1007 by decide) (show 1007 ≤ 1008 by decide)) (by decide) ?_
      rintro M1 r1 ⟨rfl, rfl⟩
      rw [hwl]
      first | refine zw_br rfl (fun _ _ => rfl) (fun h9 => absurd h9 (nI_ge (a := i) (b := wBack.length) (by omega) (by omega))) (fun _ => ?_) | refine zw_nx rfl (fun _ _ => rfl) ?_
      repeat (refine zw_go rfl rfl (fun _ _ => rfl) ?_)
      rw [h14, show nI q + nI i = nI (q + i) from nI_add q i]
      refine zw_call rfl (fun _ _ => rfl) (xByteAt sc I J A B tl n b (q + i) ht (by omega)) (by decide) ?_
      rintro M1 r1 ⟨rfl, rfl⟩
      rw [if_pos (by omega)]
      repeat (refine zw_go rfl rfl (fun _ _ => rfl) ?_)
      refine zw_call rfl (fun _ _ => rfl) (cChar sc (xm I J A B tl) (show 1001 ≤ 1007 by decide) (show 1007 ≤ 1008 by decide) (by omega) (by omega)) (by decide) ?_
      rintro M1 r1 ⟨rfl, rfl⟩
      rw [hch]
      refine zw_br rfl (fun _ _ => rfl) (fun (hc : nI (b (q + i)) = nI (wBack.getD i 0)) => ?_) (fun (hc : ¬ (nI (b (q + i)) = nI (wBack.getD i 0))) => ?_)
      · rw [nI_eq (by omega) (by omega)] at hc
        have hn2 := ih (i + 1) hel (by omega) (fun j h3 => by
          by_cases h4 : j = i
          · subst h4; rw [hget, hc]
          · exact hj j (by omega))
        rw [nI_succ] at hn2
        repeat (refine zw_go rfl rfl (fun _ _ => rfl) ?_)
        exact zw_kp hn2
      · rw [nI_eq (by omega) (by omega)] at hc
        have hn2 := no (fun hE => by
          have := (wrd_eq.mp hE).2 i (by omega)
          rw [hget] at this
          exact hc (Option.some.inj this).symm) (i + 1)
        rw [nI_succ] at hn2
        repeat (refine zw_go rfl rfl (fun _ _ => rfl) ?_)
        exact zw_kp hn2
  refine zc_of hkX9_isWord rfl ?_
  repeat (refine zw_go rfl rfl (fun _ _ => rfl) ?_)
  rw [h12, h14, nI_sub hqe]
  refine zw_call rfl (fun _ _ => rfl) (cLen sc (xm I J A B tl) (show 1001 ≤ 1007 by decide) (show 1007 ≤ 1008 by decide)) (by decide) ?_
  rintro M1 r1 ⟨rfl, rfl⟩
  rw [hwl]
  refine zw_br rfl (fun _ _ => rfl) (fun (hc : nI (e - q) = nI wBack.length) => ?_) (fun (hc : ¬ (nI (e - q) = nI wBack.length)) => ?_)
  · rw [nI_eq (by omega) (by omega)] at hc
    have st := key wBack.length 0 hc (by omega) (fun j hj => by omega)
    repeat (refine zw_go rfl rfl (fun _ _ => rfl) ?_)
    exact zw_kp st
  · rw [nI_eq (by omega) (by omega)] at hc
    have st := no (fun hE => hc (wrd_eq.mp hE).1) 0
    repeat (refine zw_go rfl rfl (fun _ _ => rfl) ?_)
    exact zw_kp st
set_option maxHeartbeats 4000000 in
set_option maxRecDepth 20000 in
theorem xIsWord1008 (q e : Nat) (ht : TpX I A b n) (hqe : q ≤ e) (he : e ≤ n) (h12 : I 12 = nI e) (h14 : I 14 = nI q) : zC 6 sc 110 [.ref 14, .ref 1008] (xm I J A B tl) (zR (xm I J A B tl) (.int (if wrd b q (e - q) = wPlus then 1 else 0))) := by
  have hn := ht.2.1
  have hl : wPlus.length < 100 := by decide
  have hl9 : ∀ x, x ∈ wPlus → x < 256 := by decide
  have hw : sm_wd 1008 = wPlus.map nI := rfl
  have hwl : (sm_wd 1008).length = wPlus.length := by rw [hw, List.length_map]
  have no : ¬ wrd b q (e - q) = wPlus → ∀ i, zW 5 sc miX9_isWord 24 [some (.ref 14), some (.ref 1008), some (.int 0), some (.int (nI i))] [] (xm I J A B tl) (zR (xm I J A B tl) (.int (if wrd b q (e - q) = wPlus then 1 else 0))) := fun hno i => by
    rw [if_neg hno]
    refine zw_nx rfl (fun _ _ => rfl) ?_
    repeat (refine zw_go rfl rfl (fun _ _ => rfl) ?_)
    refine zw_call rfl (fun _ _ => rfl) (cLen sc (xm I J A B tl) (show 1001 ≤ 1008 by decide) (show 1008 ≤ 1008 by decide)) (by decide) ?_
    rintro M1 r1 ⟨rfl, rfl⟩
    refine zw_br rfl (fun _ _ => rfl) (fun (hc : nI (sm_wd 1008).length ≤ nI i) => ?_) (fun (hc : ¬ (nI (sm_wd 1008).length ≤ nI i)) => ?_)
    · repeat (refine zw_go rfl rfl (fun _ _ => rfl) ?_)
      exact zw_ret rfl (fun _ _ => rfl) (⟨rfl, rfl⟩)
    · repeat (refine zw_go rfl rfl (fun _ _ => rfl) ?_)
      exact zw_ret rfl (fun _ _ => rfl) (⟨rfl, rfl⟩)
  have key : ∀ (z i : Nat), e - q = wPlus.length → i + z = wPlus.length → (∀ j, j < i → wPlus[j]? = some (b (q + j))) → zW 5 sc miX9_isWord 24 [some (.ref 14), some (.ref 1008), some (.int 1), some (.int (nI i))] [] (xm I J A B tl) (zR (xm I J A B tl) (.int (if wrd b q (e - q) = wPlus then 1 else 0))) := by
    intro z
    induction z with
    | zero =>
      intro i hel hi hj
      rw [if_pos (wrd_eq.mpr ⟨hel, fun j h3 => hj j (by omega)⟩)]
      refine zw_nx rfl (fun _ _ => rfl) ?_
      repeat (refine zw_go rfl rfl (fun _ _ => rfl) ?_)
      refine zw_call rfl (fun _ _ => rfl) (cLen sc (xm I J A B tl) (show 1001 ≤ 1008 by decide) (show 1008 ≤ 1008 by decide)) (by decide) ?_
      rintro M1 r1 ⟨rfl, rfl⟩
      rw [hwl]
      first | refine zw_br rfl (fun _ _ => rfl) (fun _ => ?_) (fun h9 => absurd (nI_le (a := wPlus.length) (b := i) (by omega) (by omega)) h9) | refine zw_nx rfl (fun _ _ => rfl) ?_
      repeat (refine zw_go rfl rfl (fun _ _ => rfl) ?_)
      exact zw_ret rfl (fun _ _ => rfl) (⟨rfl, rfl⟩)
    | succ z ih =>
      intro i hel hi hj
      have hget : wPlus[i]? = some (wPlus.getD i 0) := by
        rw [List.getD_eq_getElem?_getD, List.getElem?_eq_getElem (by omega)]; rfl
      have hmem : wPlus.getD i 0 < 256 := hl9 _ (List.mem_of_getElem? hget)
      have hch : (sm_wd 1008).getD i 0 = nI (wPlus.getD i 0) := by
        rw [hw, List.getD_eq_getElem?_getD, List.getElem?_map, hget]; rfl
      have hby := (ht.2.2 (q + i) (by omega)).2
      refine zw_nx rfl (fun _ _ => rfl) ?_
      repeat (refine zw_go rfl rfl (fun _ _ => rfl) ?_)
      refine zw_call rfl (fun _ _ => rfl) (cLen sc (xm I J A B tl) (show 1001 ≤ 1008 by decide) (show 1008 ≤ 1008 by decide)) (by decide) ?_
      rintro M1 r1 ⟨rfl, rfl⟩
      rw [hwl]
      first | refine zw_br rfl (fun _ _ => rfl) (fun h9 => absurd h9 (nI_ge (a := i) (b := wPlus.length) (by omega) (by omega))) (fun _ => ?_) | refine zw_nx rfl (fun _ _ => rfl) ?_
      repeat (refine zw_go rfl rfl (fun _ _ => rfl) ?_)
      rw [h14, show nI q + nI i = nI (q + i) from nI_add q i]
      refine zw_call rfl (fun _ _ => rfl) (xByteAt sc I J A B tl n b (q + i) ht (by omega)) (by decide) ?_
      rintro M1 r1 ⟨rfl, rfl⟩
      rw [if_pos (by omega)]
      repeat (refine zw_go rfl rfl (fun _ _ => rfl) ?_)
      refine zw_call rfl (fun _ _ => rfl) (cChar sc (xm I J A B tl) (show 1001 ≤ 1008 by decide) (show 1008 ≤ 1008 by decide) (by omega) (by omega)) (by decide) ?_
      rintro M1 r1 ⟨rfl, rfl⟩
      rw [hch]
      refine zw_br rfl (fun _ _ => rfl) (fun (hc : nI (b (q + i)) = nI (wPlus.getD i 0)) => ?_) (fun (hc : ¬ (nI (b (q + i)) = nI (wPlus.getD i 0))) => ?_)
      · rw [nI_eq (by omega) (by omega)] at hc
        have hn2 := ih (i + 1) hel (by omega) (fun j h3 => by
          by_cases h4 : j = i
          · subst h4; rw [hget, hc]
          · exact hj j (by omega))
        rw [nI_succ] at hn2
        repeat (refine zw_go rfl rfl (fun _ _ => rfl) ?_)
        exact zw_kp hn2
      · rw [nI_eq (by omega) (by omega)] at hc
        have hn2 := no (fun hE => by
          have := (wrd_eq.mp hE).2 i (by omega)
          rw [hget] at this
          exact hc (Option.some.inj this).symm) (i + 1)
        rw [nI_succ] at hn2
        repeat (refine zw_go rfl rfl (fun _ _ => rfl) ?_)
        exact zw_kp hn2
  refine zc_of hkX9_isWord rfl ?_
  repeat (refine zw_go rfl rfl (fun _ _ => rfl) ?_)
  rw [h12, h14, nI_sub hqe]
  refine zw_call rfl (fun _ _ => rfl) (cLen sc (xm I J A B tl) (show 1001 ≤ 1008 by decide) (show 1008 ≤ 1008 by decide)) (by decide) ?_
  rintro M1 r1 ⟨rfl, rfl⟩
  rw [hwl]
  refine zw_br rfl (fun _ _ => rfl) (fun (hc : nI (e - q) = nI wPlus.length) => ?_) (fun (hc : ¬ (nI (e - q) = nI wPlus.length)) => ?_)
  · rw [nI_eq (by omega) (by omega)] at hc
    have st := key wPlus.length 0 hc (by omega) (fun j hj => by omega)
    repeat (refine zw_go rfl rfl (fun _ _ => rfl) ?_)
    exact zw_kp st
  · rw [nI_eq (by omega) (by omega)] at hc
    have st := no (fun hE => hc (wrd_eq.mp hE).1) 0
    repeat (refine zw_go rfl rfl (fun _ _ => rfl) ?_)
    exact zw_kp st
set_option maxHeartbeats 4000000 in
set_option maxRecDepth 20000 in
theorem xKindOfWord (q e : Nat) (ht : TpX I A b n) (hqe : q ≤ e) (he : e ≤ n) (h12 : I 12 = nI e) (h14 : I 14 = nI q) : zC 7 sc 109 [.ref 14] (xm I J A B tl) (zR (xm I J A B tl) (.int (nI (kdW (wrd b q (e - q)))))) := by
  unfold kdW
  refine zc_of hkX9_kindOfWord rfl ?_
  repeat (refine zw_go rfl rfl (fun _ _ => rfl) ?_)
  refine zw_call rfl (fun _ _ => rfl) (xIsWord1001 sc I J A B tl n b q e ht hqe he h12 h14) (by decide) ?_
  rintro M1 r1 ⟨rfl, rfl⟩
  by_cases k1 : wrd b q (e - q) = wBlock
  · rw [if_pos k1, if_pos k1]
    repeat (refine zw_go rfl rfl (fun _ _ => rfl) ?_)
    exact zw_ret rfl (fun _ _ => rfl) (⟨rfl, rfl⟩)
  · rw [if_neg k1, if_neg k1]
    repeat (refine zw_go rfl rfl (fun _ _ => rfl) ?_)
    refine zw_call rfl (fun _ _ => rfl) (xIsWord1002 sc I J A B tl n b q e ht hqe he h12 h14) (by decide) ?_
    rintro M1 r1 ⟨rfl, rfl⟩
    by_cases k2 : wrd b q (e - q) = wThread
    · rw [if_pos k2, if_pos k2]
      repeat (refine zw_go rfl rfl (fun _ _ => rfl) ?_)
      exact zw_ret rfl (fun _ _ => rfl) (⟨rfl, rfl⟩)
    · rw [if_neg k2, if_neg k2]
      repeat (refine zw_go rfl rfl (fun _ _ => rfl) ?_)
      refine zw_call rfl (fun _ _ => rfl) (xIsWord1003 sc I J A B tl n b q e ht hqe he h12 h14) (by decide) ?_
      rintro M1 r1 ⟨rfl, rfl⟩
      by_cases k3 : wrd b q (e - q) = wTread
      · rw [if_pos k3, if_pos k3]
        repeat (refine zw_go rfl rfl (fun _ _ => rfl) ?_)
        exact zw_ret rfl (fun _ _ => rfl) (⟨rfl, rfl⟩)
      · rw [if_neg k3, if_neg k3]
        repeat (refine zw_go rfl rfl (fun _ _ => rfl) ?_)
        refine zw_call rfl (fun _ _ => rfl) (xIsWord1004 sc I J A B tl n b q e ht hqe he h12 h14) (by decide) ?_
        rintro M1 r1 ⟨rfl, rfl⟩
        by_cases k4 : wrd b q (e - q) = wTie
        · rw [if_pos k4, if_pos k4]
          repeat (refine zw_go rfl rfl (fun _ _ => rfl) ?_)
          exact zw_ret rfl (fun _ _ => rfl) (⟨rfl, rfl⟩)
        · rw [if_neg k4, if_neg k4]
          repeat (refine zw_go rfl rfl (fun _ _ => rfl) ?_)
          refine zw_call rfl (fun _ _ => rfl) (xIsWord1005 sc I J A B tl n b q e ht hqe he h12 h14) (by decide) ?_
          rintro M1 r1 ⟨rfl, rfl⟩
          by_cases k5 : wrd b q (e - q) = wTo
          · rw [if_pos k5, if_pos k5]
            repeat (refine zw_go rfl rfl (fun _ _ => rfl) ?_)
            exact zw_ret rfl (fun _ _ => rfl) (⟨rfl, rfl⟩)
          · rw [if_neg k5, if_neg k5]
            repeat (refine zw_go rfl rfl (fun _ _ => rfl) ?_)
            refine zw_call rfl (fun _ _ => rfl) (xIsWord1006 sc I J A B tl n b q e ht hqe he h12 h14) (by decide) ?_
            rintro M1 r1 ⟨rfl, rfl⟩
            by_cases k6 : wrd b q (e - q) = wMirror
            · rw [if_pos k6, if_pos k6]
              repeat (refine zw_go rfl rfl (fun _ _ => rfl) ?_)
              exact zw_ret rfl (fun _ _ => rfl) (⟨rfl, rfl⟩)
            · rw [if_neg k6, if_neg k6]
              repeat (refine zw_go rfl rfl (fun _ _ => rfl) ?_)
              refine zw_call rfl (fun _ _ => rfl) (xIsWord1007 sc I J A B tl n b q e ht hqe he h12 h14) (by decide) ?_
              rintro M1 r1 ⟨rfl, rfl⟩
              by_cases k7 : wrd b q (e - q) = wBack
              · rw [if_pos k7, if_pos k7]
                repeat (refine zw_go rfl rfl (fun _ _ => rfl) ?_)
                exact zw_ret rfl (fun _ _ => rfl) (⟨rfl, rfl⟩)
              · rw [if_neg k7, if_neg k7]
                repeat (refine zw_go rfl rfl (fun _ _ => rfl) ?_)
                refine zw_call rfl (fun _ _ => rfl) (xIsWord1008 sc I J A B tl n b q e ht hqe he h12 h14) (by decide) ?_
                rintro M1 r1 ⟨rfl, rfl⟩
                by_cases k8 : wrd b q (e - q) = wPlus
                · rw [if_pos k8, if_pos k8]
                  repeat (refine zw_go rfl rfl (fun _ _ => rfl) ?_)
                  exact zw_ret rfl (fun _ _ => rfl) (⟨rfl, rfl⟩)
                · rw [if_neg k8, if_neg k8]
                  repeat (refine zw_go rfl rfl (fun _ _ => rfl) ?_)
                  exact zw_ret rfl (fun _ _ => rfl) (⟨rfl, rfl⟩)
end

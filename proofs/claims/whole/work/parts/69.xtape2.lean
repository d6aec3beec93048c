/-! the class: readWord, advance, feed, end -/
theorem nI_sub1 {a k : Nat} (h : k ≤ a) : nI a - nI k = nI (a - k) := nI_sub h
section
variable (sc : sm_S) (I : Nat → Int32) (J : Nat → Int64) (A : Nat → Nat → Int32) (B : Nat → Nat → Int64) (tl : sm_M) (f : Nat → va_E) (n : Nat) (b : Nat → Nat)
set_option maxHeartbeats 4000000 in
set_option maxRecDepth 20000 in
theorem xReadWord (q : Nat) (ht : TpX I A b n) (hq : q < n) (hal : isAl (b q) = true) (h12 : I 12 = nI q) (h14 : I 14 = nI q) : zC 8 sc 108 [.ref 14] (xm I J A B tl) (fun M r => r = none ∧ ∃ I', M = xm I' J A B tl ∧ I' 12 = nI (spN isAl b n q) ∧ I' 13 = nI (if spN isAl b n q = q + 1 ∧ 65 ≤ b q ∧ b q ≤ 72 then 3 else kdW (wrd b q (spN isAl b n q - q))) ∧ ((spN isAl b n q = q + 1 ∧ 65 ≤ b q ∧ b q ≤ 72) → I' 15 = nI (b q - 65)) ∧ ∀ z, z ≠ 12 → z ≠ 13 → z ≠ 15 → I' z = I z) := by
  have hn := ht.2.1
  have hle := spN_le (P := isAl) (b := b) (Nat.le_of_lt hq)
  have hge := spN_ge (P := isAl) (b := b) (n := n) (p := q)
  have hbq := (ht.2.2 q hq).2
  have fin : zW 7 sc miX9_readWord 38 [some (.ref 14), none] [] (xm (upd I 12 (nI (spN isAl b n q))) J A B tl) (fun M r => r = none ∧ ∃ I', M = xm I' J A B tl ∧ I' 12 = nI (spN isAl b n q) ∧ I' 13 = nI (if spN isAl b n q = q + 1 ∧ 65 ≤ b q ∧ b q ≤ 72 then 3 else kdW (wrd b q (spN isAl b n q - q))) ∧ ((spN isAl b n q = q + 1 ∧ 65 ≤ b q ∧ b q ≤ 72) → I' 15 = nI (b q - 65)) ∧ ∀ z, z ≠ 12 → z ≠ 13 → z ≠ 15 → I' z = I z) := by
    have hT : TpX (upd I 12 (nI (spN isAl b n q))) A b n := ht
    have other : ¬ (spN isAl b n q = q + 1 ∧ 65 ≤ b q ∧ b q ≤ 72) → zW 7 sc miX9_readWord 88 [some (.ref 14), some (.int (nI (b q)))] [] (xm (upd I 12 (nI (spN isAl b n q))) J A B tl) (fun M r => r = none ∧ ∃ I', M = xm I' J A B tl ∧ I' 12 = nI (spN isAl b n q) ∧ I' 13 = nI (if spN isAl b n q = q + 1 ∧ 65 ≤ b q ∧ b q ≤ 72 then 3 else kdW (wrd b q (spN isAl b n q - q))) ∧ ((spN isAl b n q = q + 1 ∧ 65 ≤ b q ∧ b q ≤ 72) → I' 15 = nI (b q - 65)) ∧ ∀ z, z ≠ 12 → z ≠ 13 → z ≠ 15 → I' z = I z) := fun hno => by
      rw [if_neg hno]
      repeat (refine zw_go rfl rfl (fun _ _ => rfl) ?_)
      refine zw_call rfl (fun _ _ => rfl) (xKindOfWord sc (upd I 12 (nI (spN isAl b n q))) J A B tl n b q (spN isAl b n q) hT hge hle rfl h14) (by decide) ?_
      rintro M1 r1 ⟨rfl, rfl⟩
      repeat (refine zw_go rfl rfl (fun _ _ => rfl) ?_)
      refine zw_ret rfl (fun _ _ => rfl) ?_
      refine ⟨rfl, upd (upd I 12 (nI (spN isAl b n q))) 13 (nI (kdW (wrd b q (spN isAl b n q - q)))), rfl, rfl, rfl, fun z => absurd z hno, fun z h1 h2 h3 => ?_⟩
      unfold upd
      rw [if_neg h2, if_neg h1]
    repeat (refine zw_go rfl rfl (fun _ _ => rfl) ?_)
    rw [show upd I 12 (nI (spN isAl b n q)) 14 = nI q from h14]
    refine zw_call rfl (fun _ _ => rfl) (xByteAt sc (upd I 12 (nI (spN isAl b n q))) J A B tl n b q hT (by omega)) (by decide) ?_
    rintro M1 r1 ⟨rfl, rfl⟩
    rw [if_pos hq]
    repeat (refine zw_go rfl rfl (fun _ _ => rfl) ?_)
    rw [show upd I 12 (nI (spN isAl b n q)) 12 = nI (spN isAl b n q) from rfl, show upd I 12 (nI (spN isAl b n q)) 14 = nI q from h14, show nI q + Int32.ofInt 1 = nI (q + 1) from nI_1 q]
    refine zw_br rfl (fun _ _ => rfl) (fun (h1 : nI (spN isAl b n q) = nI (q + 1)) => ?_) (fun (h1 : ¬ (nI (spN isAl b n q) = nI (q + 1))) => ?_)
    · rw [nI_eq (by omega) (by omega)] at h1
      repeat (refine zw_go rfl rfl (fun _ _ => rfl) ?_)
      refine zw_br rfl (fun _ _ => rfl) (fun (h2 : nI (b q) < nI 65) => ?_) (fun (h2 : ¬ (nI (b q) < nI 65)) => ?_)
      · rw [nI_ltI (by omega) (by omega)] at h2
        exact other (by omega)
      · rw [nI_ltI (by omega) (by omega)] at h2
        repeat (refine zw_go rfl rfl (fun _ _ => rfl) ?_)
        refine zw_br rfl (fun _ _ => rfl) (fun (h3 : nI 72 < nI (b q)) => ?_) (fun (h3 : ¬ (nI 72 < nI (b q))) => ?_)
        · rw [nI_ltI (by omega) (by omega)] at h3
          exact other (by omega)
        · rw [nI_ltI (by omega) (by omega)] at h3
          have hy : spN isAl b n q = q + 1 ∧ 65 ≤ b q ∧ b q ≤ 72 := ⟨h1, by omega, by omega⟩
          rw [if_pos hy]
          repeat (refine zw_go rfl rfl (fun _ _ => rfl) ?_)
          rw [show nI (b q) - (Int8.ofInt 65).toInt32 = nI (b q - 65) from nI_sub (a := b q) (b := 65) (by omega)]
          refine zw_ret rfl (fun _ _ => rfl) ?_
          refine ⟨rfl, upd (upd (upd I 12 (nI (spN isAl b n q))) 13 (nI 3)) 15 (nI (b q - 65)), rfl, rfl, rfl, fun _ => rfl, fun z h4 h5 h6 => ?_⟩
          unfold upd
          rw [if_neg h6, if_neg h5, if_neg h4]
    · rw [nI_eq (by omega) (by omega)] at h1
      exact other (fun z => h1 z.1)
  have key : ∀ (z p : Nat), p + z = spN isAl b n q → q ≤ p → spN isAl b n p = spN isAl b n q → zW 7 sc miX9_readWord 0 [some (.ref 14), none] [] (xm (upd I 12 (nI p)) J A B tl) (fun M r => r = none ∧ ∃ I', M = xm I' J A B tl ∧ I' 12 = nI (spN isAl b n q) ∧ I' 13 = nI (if spN isAl b n q = q + 1 ∧ 65 ≤ b q ∧ b q ≤ 72 then 3 else kdW (wrd b q (spN isAl b n q - q))) ∧ ((spN isAl b n q = q + 1 ∧ 65 ≤ b q ∧ b q ≤ 72) → I' 15 = nI (b q - 65)) ∧ ∀ z, z ≠ 12 → z ≠ 13 → z ≠ 15 → I' z = I z) := by
    intro z
    induction z with
    | zero =>
      intro p hp hqp hs
      have e : spN isAl b n q = p := by omega
      rw [e] at fin
      refine zw_nx rfl (fun _ _ => rfl) ?_
      repeat (refine zw_go rfl rfl (fun _ _ => rfl) ?_)
      rw [show upd I 12 (nI p) 12 = nI p from rfl, show upd I 12 (nI p) 11 = nI n from ht.1]
      rw [e]
      by_cases hin : p < n
      · have hno : isAl (b p) = false := by
          cases h1 : isAl (b p)
          · rfl
          · have h2 := spN_go hin h1
            have h3 := spN_ge (P := isAl) (b := b) (n := n) (p := p + 1)
            rw [hs, e] at h2
            omega
        first | refine zw_br rfl (fun _ _ => rfl) (fun h9 => absurd h9 (nI_ge (a := p) (b := n) hin (by omega))) (fun _ => ?_) | refine zw_nx rfl (fun _ _ => rfl) ?_
        repeat (refine zw_go rfl rfl (fun _ _ => rfl) ?_)
        rw [show upd I 12 (nI p) 12 = nI p from rfl]
        refine zw_call rfl (fun _ _ => rfl) (xByteAt sc (upd I 12 (nI p)) J A B tl n b p ht (by omega)) (by decide) ?_
        rintro M1 r1 ⟨rfl, rfl⟩
        rw [if_pos hin]
        repeat (refine zw_go rfl rfl (fun _ _ => rfl) ?_)
        refine zw_call rfl (fun _ _ => rfl) (cIsAlpha sc _ (b p) (ht.2.2 p hin).2) (by decide) ?_
        rintro M1 r1 ⟨rfl, rfl⟩
        rw [hno]
        refine zw_nx rfl (fun _ _ => rfl) ?_
        exact fin
      · first | refine zw_br rfl (fun _ _ => rfl) (fun _ => ?_) (fun h9 => absurd (nI_le (a := n) (b := p) (by omega) (by omega)) h9) | refine zw_nx rfl (fun _ _ => rfl) ?_
        exact fin
    | succ z ih =>
      intro p hp hqp hs
      have hin : p < n := by omega
      have hyes : isAl (b p) = true := spN_in (n := n) (p := q) hqp (by omega)
      have hne := ih (p + 1) (by omega) (by omega) (by rw [← spN_go hin hyes]; exact hs)
      rw [nI_succ] at hne
      refine zw_nx rfl (fun _ _ => rfl) ?_
      repeat (refine zw_go rfl rfl (fun _ _ => rfl) ?_)
      rw [show upd I 12 (nI p) 12 = nI p from rfl, show upd I 12 (nI p) 11 = nI n from ht.1]
      first | refine zw_br rfl (fun _ _ => rfl) (fun h9 => absurd h9 (nI_ge (a := p) (b := n) hin (by omega))) (fun _ => ?_) | refine zw_nx rfl (fun _ _ => rfl) ?_
      repeat (refine zw_go rfl rfl (fun _ _ => rfl) ?_)
      rw [show upd I 12 (nI p) 12 = nI p from rfl]
      refine zw_call rfl (fun _ _ => rfl) (xByteAt sc (upd I 12 (nI p)) J A B tl n b p ht (by omega)) (by decide) ?_
      rintro M1 r1 ⟨rfl, rfl⟩
      rw [if_pos hin]
      repeat (refine zw_go rfl rfl (fun _ _ => rfl) ?_)
      refine zw_call rfl (fun _ _ => rfl) (cIsAlpha sc _ (b p) (ht.2.2 p hin).2) (by decide) ?_
      rintro M1 r1 ⟨rfl, rfl⟩
      rw [hyes]
      repeat (refine zw_go rfl rfl (fun _ _ => rfl) ?_)
      exact zw_kp hne
  refine zc_of hkX9_readWord rfl ?_
  have st := key (spN isAl b n q - q) q (by omega) (Nat.le_refl _) rfl
  rw [show upd I 12 (nI q) = I from by funext z; unfold upd; split <;> simp_all] at st
  exact zw_kp st
/-- the TOKEN that was come to -/
def TkX (I : Nat → Int32) (b : Nat → Nat) (n p : Nat) : Prop := I 12 = nI (tkX b n p) ∧ I 13 = nI (tkK b n p) ∧ I 14 = nI (tkP b n p) ∧ (tkK b n p = 2 ∨ tkK b n p = 3 → I 15 = nI (tkN b n p))
set_option maxHeartbeats 4000000 in
set_option maxRecDepth 20000 in
theorem xAdvance (p : Nat) (ht : TpX I A b n) (hp : p ≤ n) (h12 : I 12 = nI p) : zC 9 sc 105 [.ref 14] (xm I J A B tl) (fun M r => r = none ∧ ∃ I', M = xm I' J A B tl ∧ TkX I' b n p ∧ ∀ z, z < 12 ∨ 15 < z → I' z = I z) := by
  have hn := ht.2.1
  have hle := spN_le (P := isBl) (b := b) hp
  have fin : zW 8 sc miX9_advance 38 [some (.ref 14), none] [] (xm (upd I 12 (nI (tkP b n p))) J A B tl) (fun M r => r = none ∧ ∃ I', M = xm I' J A B tl ∧ TkX I' b n p ∧ ∀ z, z < 12 ∨ 15 < z → I' z = I z) := by
    have hq : tkP b n p ≤ n := hle
    unfold TkX tkX tkK tkN
    generalize tkP b n p = q at hq ⊢
    have hT : TpX (upd (upd I 12 (nI q)) 14 (nI q)) A b n := ht
    repeat (refine zw_go rfl rfl (fun _ _ => rfl) ?_)
    refine zw_call rfl (fun _ _ => rfl) (xByteAt sc (upd (upd I 12 (nI q)) 14 (nI q)) J A B tl n b q hT (by omega)) (by decide) ?_
    rintro M1 r1 ⟨rfl, rfl⟩
    by_cases hin : q < n
    · have hbq := (ht.2.2 q hin).2
      rw [if_pos hin]
      repeat (refine zw_go rfl rfl (fun _ _ => rfl) ?_)
      first | refine zw_br rfl (fun _ _ => rfl) (fun h9 => absurd h9 ((fun z => absurd (show (0 : Int32) ≤ -1 by rw [← show nI (b q) = -1 from z]; exact nI_pos' (by omega)) (by decide) : ¬ nI (b q) = -1))) (fun _ => ?_) | refine zw_nx rfl (fun _ _ => rfl) ?_
      repeat (refine zw_go rfl rfl (fun _ _ => rfl) ?_)
      refine zw_call rfl (fun _ _ => rfl) (cIsDigit sc _ (b q) hbq) (by decide) ?_
      rintro M1 r1 ⟨rfl, rfl⟩
      cases hd : isDg (b q)
      · repeat (refine zw_go rfl rfl (fun _ _ => rfl) ?_)
        refine zw_call rfl (fun _ _ => rfl) (cIsAlpha sc _ (b q) hbq) (by decide) ?_
        rintro M1 r1 ⟨rfl, rfl⟩
        cases ha : isAl (b q)
        · repeat (refine zw_go rfl rfl (fun _ _ => rfl) ?_)
          refine zw_call rfl (fun _ _ => rfl) (cIsSign sc _ (b q) hbq) (by decide) ?_
          rintro M1 r1 ⟨rfl, rfl⟩
          cases hs : isSg (b q)
          · repeat (refine zw_go rfl rfl (fun _ _ => rfl) ?_)
            refine zw_ret rfl (fun _ _ => rfl) ?_
            refine ⟨rfl, upd (upd (upd (upd I 12 (nI q)) 14 (nI q)) 12 (nI q + 1)) 13 1, rfl, ⟨?_, ?_, rfl, fun z => ?_⟩, fun z hz => ?_⟩
            · show nI q + 1 = _
              unfold xAt
              rw [if_neg (by omega), hd, ha, if_neg (by decide), if_neg (by decide), nI_succ]
            · show (1 : Int32) = _
              unfold kAt
              rw [if_neg (by omega), hd, ha, hs, if_neg (by decide), if_neg (by decide), if_neg (by decide)]; rfl
            · unfold kAt at z
              rw [if_neg (by omega), hd, ha, hs, if_neg (by decide), if_neg (by decide), if_neg (by decide)] at z
              omega
            · unfold upd
              rw [if_neg (by omega), if_neg (by omega), if_neg (by omega), if_neg (by omega)]
          · repeat (refine zw_go rfl rfl (fun _ _ => rfl) ?_)
            refine zw_ret rfl (fun _ _ => rfl) ?_
            refine ⟨rfl, upd (upd (upd (upd I 12 (nI q)) 14 (nI q)) 12 (nI q + 1)) 13 (nI (b q)), rfl, ⟨?_, ?_, rfl, fun z => ?_⟩, fun z hz => ?_⟩
            · show nI q + 1 = _
              unfold xAt
              rw [if_neg (by omega), hd, ha, if_neg (by decide), if_neg (by decide), nI_succ]
            · show nI (b q) = _
              unfold kAt
              rw [if_neg (by omega), hd, ha, hs, if_neg (by decide), if_neg (by decide), if_pos rfl]
            · unfold kAt at z
              rw [if_neg (by omega), hd, ha, hs, if_neg (by decide), if_neg (by decide), if_pos rfl] at z
              unfold isSg at hs
              rw [decide_eq_true_eq] at hs
              omega
            · unfold upd
              rw [if_neg (by omega), if_neg (by omega), if_neg (by omega), if_neg (by omega)]
        · repeat (refine zw_go rfl rfl (fun _ _ => rfl) ?_)
          refine zw_call rfl (fun _ _ => rfl) (xReadWord sc (upd (upd I 12 (nI q)) 14 (nI q)) J A B tl n b q hT hin ha rfl rfl) (by decide) ?_
          rintro M1 r1 ⟨rfl, I', rfl, e12, e13, e15, eI⟩
          repeat (refine zw_go rfl rfl (fun _ _ => rfl) ?_)
          refine zw_ret rfl (fun _ _ => rfl) ?_
          have k3 : kAt b n q = if spN isAl b n q = q + 1 ∧ 65 ≤ b q ∧ b q ≤ 72 then 3 else kdW (wrd b q (spN isAl b n q - q)) := by
            unfold kAt
            rw [if_neg (by omega), hd, ha, if_neg (by decide), if_pos rfl]
          refine ⟨rfl, I', rfl, ⟨?_, ?_, ?_, fun z => ?_⟩, fun z hz => ?_⟩
          · rw [e12]
            unfold xAt
            rw [if_neg (by omega), hd, ha, if_neg (by decide), if_pos rfl]
          · rw [e13, k3]
          · rw [eI 14 (by decide) (by decide) (by decide)]; rfl
          · rw [k3] at z
            by_cases h3 : spN isAl b n q = q + 1 ∧ 65 ≤ b q ∧ b q ≤ 72
            · rw [e15 h3]
              unfold nAt
              rw [hd, if_neg (by decide)]
            · rw [if_neg h3] at z
              exfalso
              unfold kdW at z
              revert z
              repeat (first | (split; (omega)) | omega)
          · rw [eI z (by omega) (by omega) (by omega)]
            unfold upd
            rw [if_neg (by omega), if_neg (by omega)]
      · repeat (refine zw_go rfl rfl (fun _ _ => rfl) ?_)
        refine zw_call rfl (fun _ _ => rfl) (xReadNumber sc (upd (upd I 12 (nI q)) 14 (nI q)) J A B tl n b q hT (by omega) rfl) (by decide) ?_
        rintro M1 r1 ⟨rfl, rfl⟩
        repeat (refine zw_go rfl rfl (fun _ _ => rfl) ?_)
        refine zw_ret rfl (fun _ _ => rfl) ?_
        refine ⟨rfl, upd (upd (upd (upd (upd I 12 (nI q)) 14 (nI q)) 13 2) 12 (nI (spN isDg b n q))) 15 (nI (nmV b q (spN isDg b n q - q))), rfl, ⟨?_, ?_, rfl, fun _ => ?_⟩, fun z hz => ?_⟩
        · show nI (spN isDg b n q) = _
          unfold xAt
          rw [if_neg (by omega), hd, if_pos rfl]
        · show (2 : Int32) = _
          unfold kAt
          rw [if_neg (by omega), hd, if_pos rfl]; rfl
        · show nI (nmV b q (spN isDg b n q - q)) = _
          unfold nAt
          rw [hd, if_pos rfl]
        · unfold upd
          rw [if_neg (by omega), if_neg (by omega), if_neg (by omega), if_neg (by omega), if_neg (by omega)]
    · rw [if_neg hin]
      repeat (refine zw_go rfl rfl (fun _ _ => rfl) ?_)
      refine zw_ret rfl (fun _ _ => rfl) ?_
      refine ⟨rfl, upd (upd (upd I 12 (nI q)) 14 (nI q)) 13 0, rfl, ⟨?_, ?_, rfl, fun z => ?_⟩, fun z hz => ?_⟩
      · show nI q = _
        unfold xAt
        rw [if_pos (by omega)]
      · show (0 : Int32) = _
        unfold kAt
        rw [if_pos (by omega)]; rfl
      · unfold kAt at z
        rw [if_pos (by omega)] at z
        omega
      · unfold upd
        rw [if_neg (by omega), if_neg (by omega), if_neg (by omega)]
  have key : ∀ (z p' : Nat), p' + z = tkP b n p → spN isBl b n p' = tkP b n p → p ≤ p' → zW 8 sc miX9_advance 0 [some (.ref 14), none] [] (xm (upd I 12 (nI p')) J A B tl) (fun M r => r = none ∧ ∃ I', M = xm I' J A B tl ∧ TkX I' b n p ∧ ∀ z, z < 12 ∨ 15 < z → I' z = I z) := by
    intro z
    induction z with
    | zero =>
      intro p' hp' hs hpp
      have e : tkP b n p = p' := by omega
      rw [e] at fin
      have hle2 : p' ≤ n := by rw [← e]; exact hle
      refine zw_nx rfl (fun _ _ => rfl) ?_
      repeat (refine zw_go rfl rfl (fun _ _ => rfl) ?_)
      rw [show upd I 12 (nI p') 12 = nI p' from rfl, show upd I 12 (nI p') 11 = nI n from ht.1]
      by_cases hin : p' < n
      · have hno : isBl (b p') = false := by
          cases h1 : isBl (b p')
          · rfl
          · have h2 := spN_go hin h1
            have h3 := spN_ge (P := isBl) (b := b) (n := n) (p := p' + 1)
            rw [hs, e] at h2
            omega
        first | refine zw_br rfl (fun _ _ => rfl) (fun h9 => absurd h9 (nI_ge (a := p') (b := n) hin (by omega))) (fun _ => ?_) | refine zw_nx rfl (fun _ _ => rfl) ?_
        repeat (refine zw_go rfl rfl (fun _ _ => rfl) ?_)
        rw [show upd I 12 (nI p') 12 = nI p' from rfl]
        refine zw_call rfl (fun _ _ => rfl) (xByteAt sc (upd I 12 (nI p')) J A B tl n b p' ht (by omega)) (by decide) ?_
        rintro M1 r1 ⟨rfl, rfl⟩
        rw [if_pos hin]
        repeat (refine zw_go rfl rfl (fun _ _ => rfl) ?_)
        refine zw_call rfl (fun _ _ => rfl) (cIsBlank sc _ (b p') (ht.2.2 p' hin).2) (by decide) ?_
        rintro M1 r1 ⟨rfl, rfl⟩
        rw [hno]
        refine zw_nx rfl (fun _ _ => rfl) ?_
        exact fin
      · first | refine zw_br rfl (fun _ _ => rfl) (fun _ => ?_) (fun h9 => absurd (nI_le (a := n) (b := p') (by omega) (by omega)) h9) | refine zw_nx rfl (fun _ _ => rfl) ?_
        exact fin
    | succ z ih =>
      intro p' hp' hs hpp
      have hle2 : tkP b n p ≤ n := hle
      have hin : p' < n := by omega
      have hyes : isBl (b p') = true := spN_in (n := n) (p := p) hpp (show p' < tkP b n p by omega)
      have hne := ih (p' + 1) (by omega) (by rw [← spN_go hin hyes]; exact hs) (by omega)
      rw [nI_succ] at hne
      refine zw_nx rfl (fun _ _ => rfl) ?_
      repeat (refine zw_go rfl rfl (fun _ _ => rfl) ?_)
      rw [show upd I 12 (nI p') 12 = nI p' from rfl, show upd I 12 (nI p') 11 = nI n from ht.1]
      first | refine zw_br rfl (fun _ _ => rfl) (fun h9 => absurd h9 (nI_ge (a := p') (b := n) hin (by omega))) (fun _ => ?_) | refine zw_nx rfl (fun _ _ => rfl) ?_
      repeat (refine zw_go rfl rfl (fun _ _ => rfl) ?_)
      rw [show upd I 12 (nI p') 12 = nI p' from rfl]
      refine zw_call rfl (fun _ _ => rfl) (xByteAt sc (upd I 12 (nI p')) J A B tl n b p' ht (by omega)) (by decide) ?_
      rintro M1 r1 ⟨rfl, rfl⟩
      rw [if_pos hin]
      repeat (refine zw_go rfl rfl (fun _ _ => rfl) ?_)
      refine zw_call rfl (fun _ _ => rfl) (cIsBlank sc _ (b p') (ht.2.2 p' hin).2) (by decide) ?_
      rintro M1 r1 ⟨rfl, rfl⟩
      rw [hyes]
      repeat (refine zw_go rfl rfl (fun _ _ => rfl) ?_)
      exact zw_kp hne
  refine zc_of hkX9_advance rfl ?_
  have st := key (tkP b n p - p) p (by have : p ≤ tkP b n p := spN_ge; omega) rfl (Nat.le_refl _)
  rw [show upd I 12 (nI p) = I from by funext z; unfold upd; split <;> simp_all] at st
  exact zw_kp st
end

/-! the reference: nextToken -/
/-- the TOKEN that was come to -/
def TkM (I : Nat → Int32) (b : Nat → Nat) (n p : Nat) : Prop := I 8 = nI (tkX b n p) ∧ I 10 = nI (phi (tkK b n p)) ∧ I 9 = nI (tkP b n p) ∧ (tkK b n p = 2 → ∃ y, I 11 = nI y ∧ min 999 y = tkN b n p ∧ y < 1000000) ∧ (tkK b n p = 3 → I 11 = nI (tkN b n p))
section
variable (sc : sm_S) (I : Nat → Int32) (A : Nat → Nat → Int32) (B : Nat → Nat → Int64) (f : Nat → va_E) (n : Nat) (b : Nat → Nat)
set_option maxHeartbeats 4000000 in
set_option maxRecDepth 20000 in
theorem mNextToken (p : Nat) (ht : TpM I A b n) (hp : p ≤ n) (h8 : I 8 = nI p) : zC 4 sc 192 [.ref 47] (mm f I A B) (fun M r => r = none ∧ ∃ I', M = mm f I' A B ∧ TkM I' b n p ∧ ∀ z, z < 8 ∨ 12 < z → I' z = I z) := by
  have hn := ht.2.1
  have hle := spN_le (P := isBl) (b := b) hp
  have fin : zW 3 sc miX11_nextToken 47 [some (.ref 47), none, none, none] [] (mm f (upd (upd I 12 (I 9)) 8 (nI (tkP b n p))) A B) (fun M r => r = none ∧ ∃ I', M = mm f I' A B ∧ TkM I' b n p ∧ ∀ z, z < 8 ∨ 12 < z → I' z = I z) := by
    have hq : tkP b n p ≤ n := hle
    unfold TkM tkX tkK tkN
    generalize tkP b n p = q at hq ⊢
    have hT : TpM (upd (upd (upd I 12 (I 9)) 8 (nI q)) 9 (nI q)) A b n := ht
    have oth : ∀ z, z < 8 ∨ 12 < z → upd (upd (upd I 12 (I 9)) 8 (nI q)) 9 (nI q) z = I z := fun z hz => by
      unfold upd
      rw [if_neg (by omega), if_neg (by omega), if_neg (by omega)]
    have e8 : upd (upd (upd I 12 (I 9)) 8 (nI q)) 9 (nI q) 8 = nI q := rfl
    have e9 : upd (upd (upd I 12 (I 9)) 8 (nI q)) 9 (nI q) 9 = nI q := rfl
    refine zw_nx rfl (fun _ _ => rfl) ?_
    refine zw_nx rfl (fun _ _ => rfl) ?_
    refine zw_nx rfl (fun _ _ => rfl) ?_
    refine zw_nx rfl (fun _ _ => rfl) ?_
    show zW 3 sc miX11_nextToken 55 _ _ (mm f (upd (upd (upd I 12 (I 9)) 8 (nI q)) 9 (nI q)) A B) _
    generalize upd (upd (upd I 12 (I 9)) 8 (nI q)) 9 (nI q) = I1 at hT oth e8 e9 ⊢
    repeat (refine zw_go rfl rfl (fun _ _ => rfl) ?_)
    rw [e8]
    refine zw_call rfl (fun _ _ => rfl) (mSee sc I1 A B f n b q hT (by omega)) (by decide) ?_
    rintro M1 r1 ⟨rfl, rfl⟩
    by_cases hin : q < n
    · have hbq := (ht.2.2 q hin).2
      rw [if_pos hin]
      refine zw_nx rfl (fun _ _ => rfl) ?_
      refine zw_nx rfl (fun _ _ => rfl) ?_
      first | refine zw_br rfl (fun _ _ => rfl) (fun _ => ?_) (fun h9 => absurd (nI_pos' (show b q < 2 ^ 31 by omega)) h9) | refine zw_nx rfl (fun _ _ => rfl) ?_
      repeat (refine zw_go rfl rfl (fun _ _ => rfl) ?_)
      refine zw_call rfl (fun _ _ => rfl) (mDigN sc _ (b q) hbq) (by decide) ?_
      rintro M1 r1 ⟨rfl, rfl⟩
      cases hd : isDg (b q)
      · repeat (refine zw_go rfl rfl (fun _ _ => rfl) ?_)
        refine zw_call rfl (fun _ _ => rfl) (mLetN sc _ (b q) hbq) (by decide) ?_
        rintro M1 r1 ⟨rfl, rfl⟩
        cases ha : isAl (b q)
        · have sg : ∀ t : Nat, t = (if isSg (b q) then b q else 1) → zW 3 sc miX11_nextToken 294 [some (.ref 47), some (.int (nI (b q))), none, none] [.int (nI (phi t)), .ref 47] (mm f I1 A B) (fun M r => r = none ∧ ∃ I', M = mm f I' A B ∧ (I' 8 = nI (xAt b n q) ∧ I' 10 = nI (phi (kAt b n q)) ∧ I' 9 = nI q ∧ (kAt b n q = 2 → ∃ y, I' 11 = nI y ∧ min 999 y = nAt b n q ∧ y < 1000000) ∧ (kAt b n q = 3 → I' 11 = nI (nAt b n q))) ∧ ∀ z, z < 8 ∨ 12 < z → I' z = I z) := by
            intro t ht2
            have kk : kAt b n q = t := by
              unfold kAt
              rw [if_neg (by omega), hd, ha, if_neg (by decide), if_neg (by decide), ht2]
            have t23 : t ≠ 2 ∧ t ≠ 3 := by
              rw [ht2]
              split
              · rename_i h3
                unfold isSg at h3
                rw [decide_eq_true_eq] at h3
                omega
              · omega
            repeat (refine zw_go rfl rfl (fun _ _ => rfl) ?_)
            rw [e8]
            refine zw_ret rfl (fun _ _ => rfl) ?_
            refine ⟨rfl, upd (upd I1 10 (nI (phi t))) 8 (nI q + 1), rfl, ⟨?_, ?_, e9, fun z => absurd (kk ▸ z) t23.1, fun z => absurd (kk ▸ z) t23.2⟩, fun z hz => ?_⟩
            · show nI q + 1 = _
              unfold xAt
              rw [if_neg (by omega), hd, ha, if_neg (by decide), if_neg (by decide), nI_succ]
            · rw [kk]; rfl
            · unfold upd
              rw [if_neg (by omega), if_neg (by omega)]; exact oth z hz
          have yes : isSg (b q) = true → zW 3 sc miX11_nextToken 289 [some (.ref 47), some (.int (nI (b q))), none, none] [.ref 47] (mm f I1 A B) (fun M r => r = none ∧ ∃ I', M = mm f I' A B ∧ (I' 8 = nI (xAt b n q) ∧ I' 10 = nI (phi (kAt b n q)) ∧ I' 9 = nI q ∧ (kAt b n q = 2 → ∃ y, I' 11 = nI y ∧ min 999 y = nAt b n q ∧ y < 1000000) ∧ (kAt b n q = 3 → I' 11 = nI (nAt b n q))) ∧ ∀ z, z < 8 ∨ 12 < z → I' z = I z) := fun hs => by
            have hs2 := sg (b q) (by rw [hs, if_pos rfl])
            have hphi : phi (b q) = b q := by
              unfold isSg at hs
              rw [decide_eq_true_eq] at hs
              unfold phi
              rw [if_neg (by omega), if_neg (by omega), if_neg (by omega)]
            rw [hphi] at hs2
            refine zw_nx rfl (fun _ _ => rfl) ?_
            refine zw_nx rfl (fun _ _ => rfl) ?_
            exact hs2
          have sgd : ∀ c, c = 61 ∨ c = 44 ∨ c = 59 ∨ c = 42 ∨ c = 40 ∨ c = 41 → b q = c → isSg (b q) = true := fun c hc he => by
            unfold isSg
            rw [he]; exact decide_eq_true hc
          repeat (refine zw_go rfl rfl (fun _ _ => rfl) ?_)
          refine zw_br rfl (fun _ _ => rfl) (fun (k1 : nI (b q) = nI 61) => ?_) (fun (k1 : ¬ (nI (b q) = nI 61)) => ?_)
          · exact yes (sgd 61 (by omega) ((nI_eq (by omega) (by omega)).mp k1))
          · repeat (refine zw_go rfl rfl (fun _ _ => rfl) ?_)
            refine zw_br rfl (fun _ _ => rfl) (fun (k2 : nI (b q) = nI 44) => ?_) (fun (k2 : ¬ (nI (b q) = nI 44)) => ?_)
            · exact yes (sgd 44 (by omega) ((nI_eq (by omega) (by omega)).mp k2))
            · repeat (refine zw_go rfl rfl (fun _ _ => rfl) ?_)
              refine zw_br rfl (fun _ _ => rfl) (fun (k3 : nI (b q) = nI 59) => ?_) (fun (k3 : ¬ (nI (b q) = nI 59)) => ?_)
              · exact yes (sgd 59 (by omega) ((nI_eq (by omega) (by omega)).mp k3))
              · repeat (refine zw_go rfl rfl (fun _ _ => rfl) ?_)
                refine zw_br rfl (fun _ _ => rfl) (fun (k4 : nI (b q) = nI 42) => ?_) (fun (k4 : ¬ (nI (b q) = nI 42)) => ?_)
                · exact yes (sgd 42 (by omega) ((nI_eq (by omega) (by omega)).mp k4))
                · repeat (refine zw_go rfl rfl (fun _ _ => rfl) ?_)
                  refine zw_br rfl (fun _ _ => rfl) (fun (k5 : nI (b q) = nI 40) => ?_) (fun (k5 : ¬ (nI (b q) = nI 40)) => ?_)
                  · exact yes (sgd 40 (by omega) ((nI_eq (by omega) (by omega)).mp k5))
                  · repeat (refine zw_go rfl rfl (fun _ _ => rfl) ?_)
                    refine zw_br rfl (fun _ _ => rfl) (fun (k6 : nI (b q) = nI 41) => ?_) (fun (k6 : ¬ (nI (b q) = nI 41)) => ?_)
                    · exact yes (sgd 41 (by omega) ((nI_eq (by omega) (by omega)).mp k6))
                    · have hno : isSg (b q) = false := by
                        rw [nI_eq (by omega) (by omega)] at k1 k2 k3 k4 k5 k6
                        unfold isSg
                        exact decide_eq_false (by omega)
                      have hs2 := sg 1 (by rw [hno, if_neg (by decide)])
                      refine zw_nx rfl (fun _ _ => rfl) ?_
                      exact hs2
        · -- a word
          have hge := spN_ge (P := isAl) (b := b) (n := n) (p := q)
          have hlw := spN_le (P := isAl) (b := b) hq
          have hgt : q < spN isAl b n q := by
            rw [spN_go hin ha]
            have := spN_ge (P := isAl) (b := b) (n := n) (p := q + 1)
            omega
          have rg : ∀ i, i < spN isAl b n q - q → isAl (b (q + i)) = true := fun i hi => spN_in (n := n) (p := q) (by omega) (by omega)
          have key : ∀ (z k : Nat) (la : Int32), q + k + z = spN isAl b n q → spN isAl b n (q + k) = spN isAl b n q → (0 < k → la = nI (b (q + (k - 1)))) → zW 3 sc miX11_nextToken 163 [some (.ref 47), some (.int (nI (b q))), some (.int (nI (pkV b q (min k 5)))), some (.int la)] [] (mm f (upd I1 8 (nI (q + k))) A B) (fun M r => r = none ∧ ∃ I', M = mm f I' A B ∧ (I' 8 = nI (xAt b n q) ∧ I' 10 = nI (phi (kAt b n q)) ∧ I' 9 = nI q ∧ (kAt b n q = 2 → ∃ y, I' 11 = nI y ∧ min 999 y = nAt b n q ∧ y < 1000000) ∧ (kAt b n q = 3 → I' 11 = nI (nAt b n q))) ∧ ∀ z, z < 8 ∨ 12 < z → I' z = I z) := by
            intro z
            induction z with
            | zero =>
              intro k la hk hs hla
              have e : spN isAl b n q = q + k := by omega
              have hla2 := hla (by omega)
              have hT2 : TpM (upd I1 8 (nI (q + k))) A b n := hT
              have kk : kAt b n q = if k = 1 ∧ 65 ≤ b q ∧ b q ≤ 72 then 3 else kdW (wrd b q k) := by
                unfold kAt
                rw [if_neg (by omega), hd, ha, if_neg (by decide), if_pos rfl, e, show q + k - q = k by omega]
                have : (q + k = q + 1 ∧ 65 ≤ b q ∧ b q ≤ 72) ↔ (k = 1 ∧ 65 ≤ b q ∧ b q ≤ 72) := by omega
                by_cases h3 : k = 1 ∧ 65 ≤ b q ∧ b q ≤ 72
                · rw [if_pos h3, if_pos (this.mpr h3)]
                · rw [if_neg h3, if_neg (fun z => h3 (this.mp z))]
              have stop : zW 3 sc miX11_nextToken 222 [some (.ref 47), some (.int (nI (b q))), some (.int (nI (pkV b q (min k 5)))), some (.int la)] [] (mm f (upd I1 8 (nI (q + k))) A B) (fun M r => r = none ∧ ∃ I', M = mm f I' A B ∧ (I' 8 = nI (xAt b n q) ∧ I' 10 = nI (phi (kAt b n q)) ∧ I' 9 = nI q ∧ (kAt b n q = 2 → ∃ y, I' 11 = nI y ∧ min 999 y = nAt b n q ∧ y < 1000000) ∧ (kAt b n q = 3 → I' 11 = nI (nAt b n q))) ∧ ∀ z, z < 8 ∨ 12 < z → I' z = I z) := by
                repeat (refine zw_go rfl rfl (fun _ _ => rfl) ?_)
                rw [show upd I1 8 (nI (q + k)) 8 = nI (q + k) from rfl, show upd I1 8 (nI (q + k)) 9 = nI q from e9, nI_sub (show q ≤ q + k by omega), show q + k - q = k by omega, hla2]
                refine zw_call rfl (fun _ _ => rfl) (mWordOf sc b (mm f (upd I1 8 (nI (q + k))) A B) q k (by omega) (by omega) (fun i hi => rg i (by omega))) (by decide) ?_
                rintro M1 r1 ⟨rfl, rfl⟩
                rw [← kk]
                repeat (refine zw_go rfl rfl (fun _ _ => rfl) ?_)
                refine zw_ret rfl (fun _ _ => rfl) ?_
                refine ⟨rfl, upd (upd (upd I1 8 (nI (q + k))) 10 (nI (phi (kAt b n q)))) 11 (nI (b q) - nI 65), rfl, ⟨?_, rfl, e9, fun z => ?_, fun z => ?_⟩, fun z hz => ?_⟩
                · show nI (q + k) = _
                  unfold xAt
                  rw [if_neg (by omega), hd, ha, if_neg (by decide), if_pos rfl, e]
                · exfalso
                  rw [kk] at z
                  split at z
                  · omega
                  · unfold kdW at z
                    revert z
                    repeat (first | (split; (omega)) | omega)
                · have h3 : k = 1 ∧ 65 ≤ b q ∧ b q ≤ 72 := by
                    rw [kk] at z
                    split at z
                    · rename_i h3; exact h3
                    · exfalso
                      unfold kdW at z
                      revert z
                      repeat (first | (split; (omega)) | omega)
                  show nI (b q) - nI 65 = _
                  unfold nAt
                  rw [hd, if_neg (by decide), nI_sub h3.2.1]
                · unfold upd
                  rw [if_neg (by omega), if_neg (by omega), if_neg (by omega)]; exact oth z hz
              refine zw_nx rfl (fun _ _ => rfl) ?_
              repeat (refine zw_go rfl rfl (fun _ _ => rfl) ?_)
              rw [show upd I1 8 (nI (q + k)) 8 = nI (q + k) from rfl]
              refine zw_call rfl (fun _ _ => rfl) (mSee sc (upd I1 8 (nI (q + k))) A B f n b (q + k) hT2 (by omega)) (by decide) ?_
              rintro M1 r1 ⟨rfl, rfl⟩
              by_cases hin2 : q + k < n
              · have hno : isAl (b (q + k)) = false := by
                  cases h1 : isAl (b (q + k))
                  · rfl
                  · have h2 := spN_go hin2 h1
                    have h3 := spN_ge (P := isAl) (b := b) (n := n) (p := q + k + 1)
                    rw [hs, e] at h2
                    omega
                rw [if_pos hin2]
                repeat (refine zw_go rfl rfl (fun _ _ => rfl) ?_)
                refine zw_call rfl (fun _ _ => rfl) (mLetN sc _ (b (q + k)) (ht.2.2 (q + k) hin2).2) (by decide) ?_
                rintro M1 r1 ⟨rfl, rfl⟩
                rw [hno]
                refine zw_nx rfl (fun _ _ => rfl) ?_
                exact stop
              · rw [if_neg hin2]
                repeat (refine zw_go rfl rfl (fun _ _ => rfl) ?_)
                refine zw_call rfl (fun _ _ => rfl) (mLetM sc _) (by decide) ?_
                rintro M1 r1 ⟨rfl, rfl⟩
                refine zw_nx rfl (fun _ _ => rfl) ?_
                exact stop
            | succ z ih =>
              intro k la hk hs hla
              have hin2 : q + k < n := by omega
              have hyes : isAl (b (q + k)) = true := spN_in (n := n) (p := q) (by omega) (by omega)
              have hrg := al_rg hyes
              have hT2 : TpM (upd I1 8 (nI (q + k))) A b n := hT
              have hne := ih (k + 1) (nI (b (q + k))) (by omega) (by rw [← Nat.add_assoc, ← spN_go hin2 hyes]; exact hs) (fun _ => by rw [Nat.add_sub_cancel])
              rw [← Nat.add_assoc, nI_succ] at hne
              refine zw_nx rfl (fun _ _ => rfl) ?_
              repeat (refine zw_go rfl rfl (fun _ _ => rfl) ?_)
              rw [show upd I1 8 (nI (q + k)) 8 = nI (q + k) from rfl]
              refine zw_call rfl (fun _ _ => rfl) (mSee sc (upd I1 8 (nI (q + k))) A B f n b (q + k) hT2 (by omega)) (by decide) ?_
              rintro M1 r1 ⟨rfl, rfl⟩
              rw [if_pos hin2]
              repeat (refine zw_go rfl rfl (fun _ _ => rfl) ?_)
              refine zw_call rfl (fun _ _ => rfl) (mLetN sc _ (b (q + k)) (ht.2.2 (q + k) hin2).2) (by decide) ?_
              rintro M1 r1 ⟨rfl, rfl⟩
              rw [hyes]
              repeat (refine zw_go rfl rfl (fun _ _ => rfl) ?_)
              rw [show upd I1 8 (nI (q + k)) 8 = nI (q + k) from rfl]
              refine zw_call rfl (fun _ _ => rfl) (mSee sc (upd I1 8 (nI (q + k))) A B f n b (q + k) hT2 (by omega)) (by decide) ?_
              rintro M1 r1 ⟨rfl, rfl⟩
              rw [if_pos hin2]
              repeat (refine zw_go rfl rfl (fun _ _ => rfl) ?_)
              rw [show upd I1 8 (nI (q + k)) 8 = nI (q + k) from rfl, show upd I1 8 (nI (q + k)) 9 = nI q from e9, nI_sub (show q ≤ q + k by omega), show q + k - q = k by omega]
              by_cases h5 : k < 5
              · rw [show min (k + 1) 5 = k + 1 by omega, pkV] at hne
                rw [show min k 5 = k by omega]
                first | refine zw_br rfl (fun _ _ => rfl) (fun h9 => absurd h9 (nI_ge (a := k) (b := 5) h5 (by omega))) (fun _ => ?_) | refine zw_nx rfl (fun _ _ => rfl) ?_
                repeat (refine zw_go rfl rfl (fun _ _ => rfl) ?_)
                refine zw_call rfl (fun _ _ => rfl) (mN sc _ (b (q + k)) (Or.inr (by omega))) (by decide) ?_
                rintro M1 r1 ⟨rfl, rfl⟩
                repeat (refine zw_go rfl rfl (fun _ _ => rfl) ?_)
                rw [show nI (pkV b q k) * (Int8.ofInt 58).toInt32 + nI (nn (b (q + k))) = nI (pkV b q k * 58 + (b (q + k) - 64)) from by
                  rw [show nI (pkV b q k) * (Int8.ofInt 58).toInt32 = nI (pkV b q k * 58) from nI_mul _ 58, nI_add]
                  unfold nn
                  rw [if_neg (by omega)]]
                exact zw_kp hne
              · rw [show min (k + 1) 5 = 5 by omega] at hne
                rw [show min k 5 = 5 by omega]
                first | refine zw_br rfl (fun _ _ => rfl) (fun _ => ?_) (fun h9 => absurd (nI_le (a := 5) (b := k) (by omega) (by omega)) h9) | refine zw_nx rfl (fun _ _ => rfl) ?_
                repeat (refine zw_go rfl rfl (fun _ _ => rfl) ?_)
                exact zw_kp hne
          have st := key (spN isAl b n q - q) 0 0 (by omega) rfl (fun h => by omega)
          rw [show upd I1 8 (nI (q + 0)) = I1 from by funext z; unfold upd; split <;> simp_all] at st
          repeat (refine zw_go rfl rfl (fun _ _ => rfl) ?_)
          exact zw_kp st
      · -- a NUMBER
        have hge := spN_ge (P := isDg) (b := b) (n := n) (p := q)
        have hlw := spN_le (P := isDg) (b := b) hq
        have rg : ∀ i, i < spN isDg b n q - q → 48 ≤ b (q + i) ∧ b (q + i) ≤ 57 := fun i hi => by
          have := spN_in (P := isDg) (b := b) (n := n) (p := q) (i := q + i) (by omega) (by omega)
          unfold isDg at this
          rw [decide_eq_true_eq] at this
          exact this
        have key : ∀ (z k : Nat), q + k + z = spN isDg b n q → spN isDg b n (q + k) = spN isDg b n q → zW 3 sc miX11_nextToken 93 [some (.ref 47), none, none, none] [] (mm f (upd (upd (upd I1 10 1) 8 (nI (q + k))) 11 (nI (rvV b q k))) A B) (fun M r => r = none ∧ ∃ I', M = mm f I' A B ∧ (I' 8 = nI (xAt b n q) ∧ I' 10 = nI (phi (kAt b n q)) ∧ I' 9 = nI q ∧ (kAt b n q = 2 → ∃ y, I' 11 = nI y ∧ min 999 y = nAt b n q ∧ y < 1000000) ∧ (kAt b n q = 3 → I' 11 = nI (nAt b n q))) ∧ ∀ z, z < 8 ∨ 12 < z → I' z = I z) := by
          intro z
          induction z with
          | zero =>
            intro k hk hs
            have e : spN isDg b n q = q + k := by omega
            have hT2 : TpM (upd (upd (upd I1 10 1) 8 (nI (q + k))) 11 (nI (rvV b q k))) A b n := hT
            have k2 : kAt b n q = 2 := by
              unfold kAt
              rw [if_neg (by omega), hd, if_pos rfl]
            have stop : zW 3 sc miX11_nextToken 307 [some (.ref 47), none, none, none] [] (mm f (upd (upd (upd I1 10 1) 8 (nI (q + k))) 11 (nI (rvV b q k))) A B) (fun M r => r = none ∧ ∃ I', M = mm f I' A B ∧ (I' 8 = nI (xAt b n q) ∧ I' 10 = nI (phi (kAt b n q)) ∧ I' 9 = nI q ∧ (kAt b n q = 2 → ∃ y, I' 11 = nI y ∧ min 999 y = nAt b n q ∧ y < 1000000) ∧ (kAt b n q = 3 → I' 11 = nI (nAt b n q))) ∧ ∀ z, z < 8 ∨ 12 < z → I' z = I z) := by
              refine zw_ret rfl (fun _ _ => rfl) ?_
              refine ⟨rfl, _, rfl, ⟨?_, ?_, e9, fun _ => ⟨rvV b q k, rfl, ?_, ?_⟩, fun z => by rw [k2] at z; omega⟩, fun z hz => ?_⟩
              · show nI (q + k) = _
                unfold xAt
                rw [if_neg (by omega), hd, if_pos rfl, e]
              · rw [k2]; rfl
              · unfold nAt
                rw [hd, if_pos rfl, e, show q + k - q = k by omega, rv_nm]
              · exact rv_lt (fun i hi => (rg i (by omega)).2)
              · unfold upd
                rw [if_neg (by omega), if_neg (by omega), if_neg (by omega)]; exact oth z hz
            refine zw_nx rfl (fun _ _ => rfl) ?_
            repeat (refine zw_go rfl rfl (fun _ _ => rfl) ?_)
            rw [show upd (upd (upd I1 10 1) 8 (nI (q + k))) 11 (nI (rvV b q k)) 8 = nI (q + k) from rfl]
            refine zw_call rfl (fun _ _ => rfl) (mSee sc _ A B f n b (q + k) hT2 (by omega)) (by decide) ?_
            rintro M1 r1 ⟨rfl, rfl⟩
            by_cases hin2 : q + k < n
            · have hno : isDg (b (q + k)) = false := by
                cases h1 : isDg (b (q + k))
                · rfl
                · have h2 := spN_go hin2 h1
                  have h3 := spN_ge (P := isDg) (b := b) (n := n) (p := q + k + 1)
                  rw [hs, e] at h2
                  omega
              rw [if_pos hin2]
              repeat (refine zw_go rfl rfl (fun _ _ => rfl) ?_)
              refine zw_call rfl (fun _ _ => rfl) (mDigN sc _ (b (q + k)) (ht.2.2 (q + k) hin2).2) (by decide) ?_
              rintro M1 r1 ⟨rfl, rfl⟩
              rw [hno]
              refine zw_nx rfl (fun _ _ => rfl) ?_
              exact stop
            · rw [if_neg hin2]
              repeat (refine zw_go rfl rfl (fun _ _ => rfl) ?_)
              refine zw_call rfl (fun _ _ => rfl) (mDigM sc _) (by decide) ?_
              rintro M1 r1 ⟨rfl, rfl⟩
              refine zw_nx rfl (fun _ _ => rfl) ?_
              exact stop
          | succ z ih =>
            intro k hk hs
            have hin2 : q + k < n := by omega
            have hyes : isDg (b (q + k)) = true := spN_in (n := n) (p := q) (by omega) (by omega)
            have hrg := rg k (by omega)
            have hT2 : TpM (upd (upd (upd I1 10 1) 8 (nI (q + k))) 11 (nI (rvV b q k))) A b n := hT
            have hrv := rv_lt (b := b) (q := q) (k := k) (fun i hi => (rg i (by omega)).2)
            have hne := ih (k + 1) (by omega) (by rw [← Nat.add_assoc, ← spN_go hin2 hyes]; exact hs)
            rw [← Nat.add_assoc, nI_succ, rvV] at hne
            refine zw_nx rfl (fun _ _ => rfl) ?_
            repeat (refine zw_go rfl rfl (fun _ _ => rfl) ?_)
            rw [show upd (upd (upd I1 10 1) 8 (nI (q + k))) 11 (nI (rvV b q k)) 8 = nI (q + k) from rfl]
            refine zw_call rfl (fun _ _ => rfl) (mSee sc _ A B f n b (q + k) hT2 (by omega)) (by decide) ?_
            rintro M1 r1 ⟨rfl, rfl⟩
            rw [if_pos hin2]
            repeat (refine zw_go rfl rfl (fun _ _ => rfl) ?_)
            refine zw_call rfl (fun _ _ => rfl) (mDigN sc _ (b (q + k)) (ht.2.2 (q + k) hin2).2) (by decide) ?_
            rintro M1 r1 ⟨rfl, rfl⟩
            rw [hyes]
            repeat (refine zw_go rfl rfl (fun _ _ => rfl) ?_)
            rw [show upd (upd (upd I1 10 1) 8 (nI (q + k))) 11 (nI (rvV b q k)) 11 = nI (rvV b q k) from rfl]
            by_cases h5 : rvV b q k < 100000
            · rw [if_pos h5] at hne
              first | refine zw_br rfl (fun _ _ => rfl) (fun h9 => absurd h9 (nI_ge (a := rvV b q k) (b := 100000) h5 (by omega))) (fun _ => ?_) | refine zw_nx rfl (fun _ _ => rfl) ?_
              repeat (refine zw_go rfl rfl (fun _ _ => rfl) ?_)
              rw [show upd (upd (upd I1 10 1) 8 (nI (q + k))) 11 (nI (rvV b q k)) 8 = nI (q + k) from rfl]
              refine zw_call rfl (fun _ _ => rfl) (mSee sc _ A B f n b (q + k) hT2 (by omega)) (by decide) ?_
              rintro M1 r1 ⟨rfl, rfl⟩
              rw [if_pos hin2]
              repeat (refine zw_go rfl rfl (fun _ _ => rfl) ?_)
              rw [show (Int8.ofInt 10).toInt32 * upd (upd (upd I1 10 1) 8 (nI (q + k))) 11 (nI (rvV b q k)) 11 + nI (b (q + k)) - (Int8.ofInt 48).toInt32 = nI (10 * rvV b q k + (b (q + k) - 48)) from by
                rw [show (Int8.ofInt 10).toInt32 * upd (upd (upd I1 10 1) 8 (nI (q + k))) 11 (nI (rvV b q k)) 11 = nI (10 * rvV b q k) from nI_mul 10 _, nI_add, show (Int8.ofInt 48).toInt32 = nI 48 from rfl, nI_sub (by omega), show 10 * rvV b q k + b (q + k) - 48 = 10 * rvV b q k + (b (q + k) - 48) by omega]]
              exact zw_kp hne
            · rw [if_neg h5] at hne
              first | refine zw_br rfl (fun _ _ => rfl) (fun _ => ?_) (fun h9 => absurd (nI_le (a := 100000) (b := rvV b q k) (by omega) (by omega)) h9) | refine zw_nx rfl (fun _ _ => rfl) ?_
              repeat (refine zw_go rfl rfl (fun _ _ => rfl) ?_)
              exact zw_kp hne
        have st := key (spN isDg b n q - q) 0 (by omega) rfl
        rw [show upd (upd (upd I1 10 1) 8 (nI (q + 0))) 11 (nI (rvV b q 0)) = upd (upd I1 10 1) 11 0 from by
          funext z
          by_cases h1 : z = 11
          · subst h1; rfl
          · by_cases h2 : z = 8
            · subst h2; exact e8.symm
            · unfold upd; rw [if_neg h1, if_neg h2, if_neg h1]] at st
        repeat (refine zw_go rfl rfl (fun _ _ => rfl) ?_)
        exact zw_kp st
    · rw [if_neg hin]
      refine zw_nx rfl (fun _ _ => rfl) ?_
      refine zw_nx rfl (fun _ _ => rfl) ?_
      first | refine zw_br rfl (fun _ _ => rfl) (fun h9 => absurd h9 ((by decide : ¬ (0 : Int32) ≤ -1))) (fun _ => ?_) | refine zw_nx rfl (fun _ _ => rfl) ?_
      repeat (refine zw_go rfl rfl (fun _ _ => rfl) ?_)
      refine zw_ret rfl (fun _ _ => rfl) ?_
      refine ⟨rfl, upd I1 10 0, rfl, ⟨?_, ?_, e9, fun z => ?_, fun z => ?_⟩, fun z hz => ?_⟩
      · show I1 8 = _
        unfold xAt
        rw [if_pos (by omega), e8]
      · show (0 : Int32) = _
        unfold kAt
        rw [if_pos (by omega)]; rfl
      · unfold kAt at z
        rw [if_pos (by omega)] at z
        omega
      · unfold kAt at z
        rw [if_pos (by omega)] at z
        omega
      · unfold upd
        rw [if_neg (by omega)]; exact oth z hz
  have key : ∀ (z p' : Nat), p' + z = tkP b n p → spN isBl b n p' = tkP b n p → p ≤ p' → zW 3 sc miX11_nextToken 8 [some (.ref 47), none, none, none] [] (mm f (upd (upd I 12 (I 9)) 8 (nI p')) A B) (fun M r => r = none ∧ ∃ I', M = mm f I' A B ∧ TkM I' b n p ∧ ∀ z, z < 8 ∨ 12 < z → I' z = I z) := by
    intro z
    induction z with
    | zero =>
      intro p' hp' hs hpp
      have e : tkP b n p = p' := by omega
      rw [e] at fin
      have hle2 : p' ≤ n := by rw [← e]; exact hle
      have hT2 : TpM (upd (upd I 12 (I 9)) 8 (nI p')) A b n := ht
      refine zw_nx rfl (fun _ _ => rfl) ?_
      repeat (refine zw_go rfl rfl (fun _ _ => rfl) ?_)
      rw [show upd (upd I 12 (I 9)) 8 (nI p') 8 = nI p' from rfl]
      refine zw_call rfl (fun _ _ => rfl) (mSee sc _ A B f n b p' hT2 (by omega)) (by decide) ?_
      rintro M1 r1 ⟨rfl, rfl⟩
      by_cases hin : p' < n
      · have hno : isBl (b p') = false := by
          cases h1 : isBl (b p')
          · rfl
          · have h2 := spN_go hin h1
            have h3 := spN_ge (P := isBl) (b := b) (n := n) (p := p' + 1)
            rw [hs, e] at h2
            omega
        have hbb := (ht.2.2 p' hin).2
        unfold isBl at hno
        rw [decide_eq_false_iff_not] at hno
        rw [if_pos hin]
        refine zw_nx rfl (fun _ _ => rfl) ?_
        first | refine zw_br rfl (fun _ _ => rfl) (fun h9 => absurd h9 ((fun z => hno (Or.inl ((nI_eq (a := b p') (b := 32) (by omega) (by omega)).mp z))))) (fun _ => ?_) | refine zw_nx rfl (fun _ _ => rfl) ?_
        repeat (refine zw_go rfl rfl (fun _ _ => rfl) ?_)
        rw [show upd (upd I 12 (I 9)) 8 (nI p') 8 = nI p' from rfl]
        refine zw_call rfl (fun _ _ => rfl) (mSee sc _ A B f n b p' hT2 (by omega)) (by decide) ?_
        rintro M1 r1 ⟨rfl, rfl⟩
        rw [if_pos hin]
        refine zw_nx rfl (fun _ _ => rfl) ?_
        first | refine zw_br rfl (fun _ _ => rfl) (fun h9 => absurd h9 ((fun z => hno (Or.inr ((nI_eq (a := b p') (b := 10) (by omega) (by omega)).mp z))))) (fun _ => ?_) | refine zw_nx rfl (fun _ _ => rfl) ?_
        exact fin
      · rw [if_neg hin]
        repeat (refine zw_go rfl rfl (fun _ _ => rfl) ?_)
        rw [show upd (upd I 12 (I 9)) 8 (nI p') 8 = nI p' from rfl]
        refine zw_call rfl (fun _ _ => rfl) (mSee sc _ A B f n b p' hT2 (by omega)) (by decide) ?_
        rintro M1 r1 ⟨rfl, rfl⟩
        rw [if_neg hin]
        refine zw_nx rfl (fun _ _ => rfl) ?_
        refine zw_nx rfl (fun _ _ => rfl) ?_
        exact fin
    | succ z ih =>
      intro p' hp' hs hpp
      have hle2 : tkP b n p ≤ n := hle
      have hin : p' < n := by omega
      have hyes : isBl (b p') = true := spN_in (n := n) (p := p) hpp (show p' < tkP b n p by omega)
      have hne := ih (p' + 1) (by omega) (by rw [← spN_go hin hyes]; exact hs) (by omega)
      rw [nI_succ] at hne
      have hT2 : TpM (upd (upd I 12 (I 9)) 8 (nI p')) A b n := ht
      unfold isBl at hyes
      rw [decide_eq_true_eq] at hyes
      refine zw_nx rfl (fun _ _ => rfl) ?_
      repeat (refine zw_go rfl rfl (fun _ _ => rfl) ?_)
      rw [show upd (upd I 12 (I 9)) 8 (nI p') 8 = nI p' from rfl]
      refine zw_call rfl (fun _ _ => rfl) (mSee sc _ A B f n b p' hT2 (by omega)) (by decide) ?_
      rintro M1 r1 ⟨rfl, rfl⟩
      rw [if_pos hin]
      by_cases h32 : b p' = 32
      · rw [h32]
        repeat (refine zw_go rfl rfl (fun _ _ => rfl) ?_)
        exact zw_kp hne
      · have h10 : b p' = 10 := by omega
        rw [h10]
        repeat (refine zw_go rfl rfl (fun _ _ => rfl) ?_)
        rw [show upd (upd I 12 (I 9)) 8 (nI p') 8 = nI p' from rfl]
        refine zw_call rfl (fun _ _ => rfl) (mSee sc _ A B f n b p' hT2 (by omega)) (by decide) ?_
        rintro M1 r1 ⟨rfl, rfl⟩
        rw [if_pos hin, h10]
        repeat (refine zw_go rfl rfl (fun _ _ => rfl) ?_)
        exact zw_kp hne
  refine zc_of hkX11_nextToken rfl ?_
  have st := key (tkP b n p - p) p (by have : p ≤ tkP b n p := spN_ge; omega) rfl (Nat.le_refl _)
  rw [show upd (upd I 12 (I 9)) 8 (nI p) = upd I 12 (I 9) from by
    funext z
    by_cases h1 : z = 8
    · subst h1; exact h8.symm
    · unfold upd; rw [if_neg h1]] at st
  repeat (refine zw_go rfl rfl (fun _ _ => rfl) ?_)
  exact zw_kp st
end

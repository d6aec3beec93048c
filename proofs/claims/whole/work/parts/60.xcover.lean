/-! the class: isIn, collectLifts, insertTie, collectTies -/
theorem ib_nat {q i : Nat} (hi : i < 32) : ib (nI q) i = q.testBit i := by
  show (BitVec.ofNat 32 q).getLsbD i = _
  rw [BitVec.getLsbD_ofNat, decide_eq_true hi, Bool.true_and]
theorem nI_dn (i : Nat) : nI (i + 1) + Int32.ofInt (-1) = nI i := by rw [← nI_pred i, Int32.sub_eq_add_neg]; rfl
theorem shl_pow : ∀ m, m ≤ 5 → (Int32.ofInt 1) <<< (nI m &&& 31) = nI (2 ^ m) := by decide +kernel
theorem pow5 : ∀ m, m ≤ 5 → 2 ^ m ≤ 32 := by decide +kernel
theorem any_mem {l : List Int32} {g : Nat → Int32} {v : Int32} (hg : ∀ i, i < l.length → g i = li l i) : anyB (fun i => decide (g i = v)) l.length = true ↔ v ∈ l := by
  rw [anyB_iff]
  constructor
  · rintro ⟨i, h1, h2⟩
    rw [← of_decide_eq_true h2, hg i h1]
    exact li_mem h1
  · intro h
    obtain ⟨i, h1, h2⟩ := mem_li h
    exact ⟨i, h1, decide_eq_true (by rw [hg i h1]; exact h2)⟩
section
variable (sc : sm_S) (I : Nat → Int32) (J : Nat → Int64) (A : Nat → Nat → Int32) (B : Nat → Nat → Int64) (tl : sm_M) (f : Nat → va_E) (w h n : Nat) (V : Nat → Int32)
set_option maxHeartbeats 4000000 in
set_option maxRecDepth 20000 in
theorem xIsInL (c : Nat) (v : Int32) (hc : c ≤ 5) : zC 1 sc 11 [.ref 34, .int (nI c), .int v] (xm I J A B tl) (zR (xm I J A B tl) (.int (if anyB (fun i => decide (A 15 i = v)) c then 1 else 0))) := by
  have fin : ∀ i, i ≤ c → anyB (fun i => decide (A 15 i = v)) c = true → zW 0 sc miX1_isIn 5 [some (.ref 34), some (.int (nI c)), some (.int v), some (.int 1), some (.int (nI i))] [] (xm I J A B tl) (zR (xm I J A B tl) (.int (if anyB (fun i => decide (A 15 i = v)) c then 1 else 0))) := by
    intro i hi ha
    rw [ha]
    by_cases hic : i < c
    · refine zw_nx rfl (fun _ _ => rfl) ?_
      repeat (refine zw_go rfl rfl (fun _ _ => rfl) ?_)
      first | refine zw_br rfl (fun _ _ => rfl) (fun h9 => absurd h9 (nI_ge (a := i) (b := c) hic (by omega))) (fun _ => ?_) | refine zw_nx rfl (fun _ _ => rfl) ?_
      repeat (refine zw_go rfl rfl (fun _ _ => rfl) ?_)
      refine zw_br rfl (fun _ _ => rfl) (fun h9 => absurd h9 (nI_ge (a := i) (b := 5) (by omega) (by omega))) (fun _ => ?_)
      repeat (refine zw_go rfl rfl (fun _ _ => rfl) ?_)
      exact zw_ret rfl (fun _ _ => rfl) (⟨rfl, rfl⟩)
    · refine zw_nx rfl (fun _ _ => rfl) ?_
      repeat (refine zw_go rfl rfl (fun _ _ => rfl) ?_)
      first | refine zw_br rfl (fun _ _ => rfl) (fun _ => ?_) (fun h9 => absurd (nI_le (a := c) (b := i) (by omega) (by omega)) h9) | refine zw_nx rfl (fun _ _ => rfl) ?_
      repeat (refine zw_go rfl rfl (fun _ _ => rfl) ?_)
      exact zw_ret rfl (fun _ _ => rfl) (⟨rfl, rfl⟩)
  have key : ∀ (k i : Nat), i + k = c → anyB (fun i => decide (A 15 i = v)) i = false → zW 0 sc miX1_isIn 5 [some (.ref 34), some (.int (nI c)), some (.int v), some (.int 0), some (.int (nI i))] [] (xm I J A B tl) (zR (xm I J A B tl) (.int (if anyB (fun i => decide (A 15 i = v)) c then 1 else 0))) := by
    intro k
    induction k with
    | zero =>
      intro i hi ha
      have e : i = c := by omega
      subst e
      rw [ha]
      refine zw_nx rfl (fun _ _ => rfl) ?_
      repeat (refine zw_go rfl rfl (fun _ _ => rfl) ?_)
      first | refine zw_br rfl (fun _ _ => rfl) (fun _ => ?_) (fun h9 => absurd (Int32.le_refl _) h9) | refine zw_nx rfl (fun _ _ => rfl) ?_
      repeat (refine zw_go rfl rfl (fun _ _ => rfl) ?_)
      exact zw_ret rfl (fun _ _ => rfl) (⟨rfl, rfl⟩)
    | succ k ih =>
      intro i hi ha
      refine zw_nx rfl (fun _ _ => rfl) ?_
      repeat (refine zw_go rfl rfl (fun _ _ => rfl) ?_)
      first | refine zw_br rfl (fun _ _ => rfl) (fun h9 => absurd h9 (nI_ge (a := i) (b := c) (by omega) (by omega))) (fun _ => ?_) | refine zw_nx rfl (fun _ _ => rfl) ?_
      repeat (refine zw_go rfl rfl (fun _ _ => rfl) ?_)
      refine zw_br rfl (fun _ _ => rfl) (fun h9 => absurd h9 (nI_ge (a := i) (b := 5) (by omega) (by omega))) (fun _ => ?_)
      repeat (refine zw_go rfl rfl (fun _ _ => rfl) ?_)
      refine zw_ix rfl (fun _ _ => rfl) (show vp_in (nI (i)) _ from vp_in_nI (by omega) (by omega)) ?_
      rw [show (nI (i)).toNatClampNeg = i from nI_clamp (by omega)]
      repeat (refine zw_go rfl rfl (fun _ _ => rfl) ?_)
      refine zw_br rfl (fun _ _ => rfl) (fun (hb : A 15 i = v) => ?_) (fun (hb : ¬ (A 15 i = v)) => ?_)
      · have hn := fin (i + 1) (by omega) (anyB_iff.mpr ⟨i, by omega, decide_eq_true hb⟩)
        rw [nI_succ] at hn
        repeat (refine zw_go rfl rfl (fun _ _ => rfl) ?_)
        exact zw_kp hn
      · have hn := ih (i + 1) (by omega) (by rw [anyB, ha, decide_eq_false hb]; rfl)
        rw [nI_succ] at hn
        repeat (refine zw_go rfl rfl (fun _ _ => rfl) ?_)
        exact zw_kp hn
  refine zc_of hkX1_isIn rfl ?_
  repeat (refine zw_go rfl rfl (fun _ _ => rfl) ?_)
  exact zw_kp (key c 0 (by omega) rfl)
set_option maxHeartbeats 4000000 in
set_option maxRecDepth 20000 in
theorem xIsInT (c : Nat) (v : Int32) (hc : c ≤ 31) : zC 1 sc 11 [.ref 35, .int (nI c), .int v] (xm I J A B tl) (zR (xm I J A B tl) (.int (if anyB (fun i => decide (A 16 i = v)) c then 1 else 0))) := by
  have fin : ∀ i, i ≤ c → anyB (fun i => decide (A 16 i = v)) c = true → zW 0 sc miX1_isIn 5 [some (.ref 35), some (.int (nI c)), some (.int v), some (.int 1), some (.int (nI i))] [] (xm I J A B tl) (zR (xm I J A B tl) (.int (if anyB (fun i => decide (A 16 i = v)) c then 1 else 0))) := by
    intro i hi ha
    rw [ha]
    by_cases hic : i < c
    · refine zw_nx rfl (fun _ _ => rfl) ?_
      repeat (refine zw_go rfl rfl (fun _ _ => rfl) ?_)
      first | refine zw_br rfl (fun _ _ => rfl) (fun h9 => absurd h9 (nI_ge (a := i) (b := c) hic (by omega))) (fun _ => ?_) | refine zw_nx rfl (fun _ _ => rfl) ?_
      repeat (refine zw_go rfl rfl (fun _ _ => rfl) ?_)
      refine zw_br rfl (fun _ _ => rfl) (fun h9 => absurd h9 (nI_ge (a := i) (b := 31) (by omega) (by omega))) (fun _ => ?_)
      repeat (refine zw_go rfl rfl (fun _ _ => rfl) ?_)
      exact zw_ret rfl (fun _ _ => rfl) (⟨rfl, rfl⟩)
    · refine zw_nx rfl (fun _ _ => rfl) ?_
      repeat (refine zw_go rfl rfl (fun _ _ => rfl) ?_)
      first | refine zw_br rfl (fun _ _ => rfl) (fun _ => ?_) (fun h9 => absurd (nI_le (a := c) (b := i) (by omega) (by omega)) h9) | refine zw_nx rfl (fun _ _ => rfl) ?_
      repeat (refine zw_go rfl rfl (fun _ _ => rfl) ?_)
      exact zw_ret rfl (fun _ _ => rfl) (⟨rfl, rfl⟩)
  have key : ∀ (k i : Nat), i + k = c → anyB (fun i => decide (A 16 i = v)) i = false → zW 0 sc miX1_isIn 5 [some (.ref 35), some (.int (nI c)), some (.int v), some (.int 0), some (.int (nI i))] [] (xm I J A B tl) (zR (xm I J A B tl) (.int (if anyB (fun i => decide (A 16 i = v)) c then 1 else 0))) := by
    intro k
    induction k with
    | zero =>
      intro i hi ha
      have e : i = c := by omega
      subst e
      rw [ha]
      refine zw_nx rfl (fun _ _ => rfl) ?_
      repeat (refine zw_go rfl rfl (fun _ _ => rfl) ?_)
      first | refine zw_br rfl (fun _ _ => rfl) (fun _ => ?_) (fun h9 => absurd (Int32.le_refl _) h9) | refine zw_nx rfl (fun _ _ => rfl) ?_
      repeat (refine zw_go rfl rfl (fun _ _ => rfl) ?_)
      exact zw_ret rfl (fun _ _ => rfl) (⟨rfl, rfl⟩)
    | succ k ih =>
      intro i hi ha
      refine zw_nx rfl (fun _ _ => rfl) ?_
      repeat (refine zw_go rfl rfl (fun _ _ => rfl) ?_)
      first | refine zw_br rfl (fun _ _ => rfl) (fun h9 => absurd h9 (nI_ge (a := i) (b := c) (by omega) (by omega))) (fun _ => ?_) | refine zw_nx rfl (fun _ _ => rfl) ?_
      repeat (refine zw_go rfl rfl (fun _ _ => rfl) ?_)
      refine zw_br rfl (fun _ _ => rfl) (fun h9 => absurd h9 (nI_ge (a := i) (b := 31) (by omega) (by omega))) (fun _ => ?_)
      repeat (refine zw_go rfl rfl (fun _ _ => rfl) ?_)
      refine zw_ix rfl (fun _ _ => rfl) (show vp_in (nI (i)) _ from vp_in_nI (by omega) (by omega)) ?_
      rw [show (nI (i)).toNatClampNeg = i from nI_clamp (by omega)]
      repeat (refine zw_go rfl rfl (fun _ _ => rfl) ?_)
      refine zw_br rfl (fun _ _ => rfl) (fun (hb : A 16 i = v) => ?_) (fun (hb : ¬ (A 16 i = v)) => ?_)
      · have hn := fin (i + 1) (by omega) (anyB_iff.mpr ⟨i, by omega, decide_eq_true hb⟩)
        rw [nI_succ] at hn
        repeat (refine zw_go rfl rfl (fun _ _ => rfl) ?_)
        exact zw_kp hn
      · have hn := ih (i + 1) (by omega) (by rw [anyB, ha, decide_eq_false hb]; rfl)
        rw [nI_succ] at hn
        repeat (refine zw_go rfl rfl (fun _ _ => rfl) ?_)
        exact zw_kp hn
  refine zc_of hkX1_isIn rfl ?_
  repeat (refine zw_go rfl rfl (fun _ _ => rfl) ?_)
  exact zw_kp (key c 0 (by omega) rfl)
set_option maxHeartbeats 4000000 in
set_option maxRecDepth 20000 in
theorem xIsInP (c : Nat) (v : Int32) (hc : c ≤ 16) : zC 1 sc 11 [.ref 39, .int (nI c), .int v] (xm I J A B tl) (zR (xm I J A B tl) (.int (if anyB (fun i => decide (A 17 i = v)) c then 1 else 0))) := by
  have fin : ∀ i, i ≤ c → anyB (fun i => decide (A 17 i = v)) c = true → zW 0 sc miX1_isIn 5 [some (.ref 39), some (.int (nI c)), some (.int v), some (.int 1), some (.int (nI i))] [] (xm I J A B tl) (zR (xm I J A B tl) (.int (if anyB (fun i => decide (A 17 i = v)) c then 1 else 0))) := by
    intro i hi ha
    rw [ha]
    by_cases hic : i < c
    · refine zw_nx rfl (fun _ _ => rfl) ?_
      repeat (refine zw_go rfl rfl (fun _ _ => rfl) ?_)
      first | refine zw_br rfl (fun _ _ => rfl) (fun h9 => absurd h9 (nI_ge (a := i) (b := c) hic (by omega))) (fun _ => ?_) | refine zw_nx rfl (fun _ _ => rfl) ?_
      repeat (refine zw_go rfl rfl (fun _ _ => rfl) ?_)
      refine zw_br rfl (fun _ _ => rfl) (fun h9 => absurd h9 (nI_ge (a := i) (b := 16) (by omega) (by omega))) (fun _ => ?_)
      repeat (refine zw_go rfl rfl (fun _ _ => rfl) ?_)
      exact zw_ret rfl (fun _ _ => rfl) (⟨rfl, rfl⟩)
    · refine zw_nx rfl (fun _ _ => rfl) ?_
      repeat (refine zw_go rfl rfl (fun _ _ => rfl) ?_)
      first | refine zw_br rfl (fun _ _ => rfl) (fun _ => ?_) (fun h9 => absurd (nI_le (a := c) (b := i) (by omega) (by omega)) h9) | refine zw_nx rfl (fun _ _ => rfl) ?_
      repeat (refine zw_go rfl rfl (fun _ _ => rfl) ?_)
      exact zw_ret rfl (fun _ _ => rfl) (⟨rfl, rfl⟩)
  have key : ∀ (k i : Nat), i + k = c → anyB (fun i => decide (A 17 i = v)) i = false → zW 0 sc miX1_isIn 5 [some (.ref 39), some (.int (nI c)), some (.int v), some (.int 0), some (.int (nI i))] [] (xm I J A B tl) (zR (xm I J A B tl) (.int (if anyB (fun i => decide (A 17 i = v)) c then 1 else 0))) := by
    intro k
    induction k with
    | zero =>
      intro i hi ha
      have e : i = c := by omega
      subst e
      rw [ha]
      refine zw_nx rfl (fun _ _ => rfl) ?_
      repeat (refine zw_go rfl rfl (fun _ _ => rfl) ?_)
      first | refine zw_br rfl (fun _ _ => rfl) (fun _ => ?_) (fun h9 => absurd (Int32.le_refl _) h9) | refine zw_nx rfl (fun _ _ => rfl) ?_
      repeat (refine zw_go rfl rfl (fun _ _ => rfl) ?_)
      exact zw_ret rfl (fun _ _ => rfl) (⟨rfl, rfl⟩)
    | succ k ih =>
      intro i hi ha
      refine zw_nx rfl (fun _ _ => rfl) ?_
      repeat (refine zw_go rfl rfl (fun _ _ => rfl) ?_)
      first | refine zw_br rfl (fun _ _ => rfl) (fun h9 => absurd h9 (nI_ge (a := i) (b := c) (by omega) (by omega))) (fun _ => ?_) | refine zw_nx rfl (fun _ _ => rfl) ?_
      repeat (refine zw_go rfl rfl (fun _ _ => rfl) ?_)
      refine zw_br rfl (fun _ _ => rfl) (fun h9 => absurd h9 (nI_ge (a := i) (b := 16) (by omega) (by omega))) (fun _ => ?_)
      repeat (refine zw_go rfl rfl (fun _ _ => rfl) ?_)
      refine zw_ix rfl (fun _ _ => rfl) (show vp_in (nI (i)) _ from vp_in_nI (by omega) (by omega)) ?_
      rw [show (nI (i)).toNatClampNeg = i from nI_clamp (by omega)]
      repeat (refine zw_go rfl rfl (fun _ _ => rfl) ?_)
      refine zw_br rfl (fun _ _ => rfl) (fun (hb : A 17 i = v) => ?_) (fun (hb : ¬ (A 17 i = v)) => ?_)
      · have hn := fin (i + 1) (by omega) (anyB_iff.mpr ⟨i, by omega, decide_eq_true hb⟩)
        rw [nI_succ] at hn
        repeat (refine zw_go rfl rfl (fun _ _ => rfl) ?_)
        exact zw_kp hn
      · have hn := ih (i + 1) (by omega) (by rw [anyB, ha, decide_eq_false hb]; rfl)
        rw [nI_succ] at hn
        repeat (refine zw_go rfl rfl (fun _ _ => rfl) ?_)
        exact zw_kp hn
  refine zc_of hkX1_isIn rfl ?_
  repeat (refine zw_go rfl rfl (fun _ _ => rfl) ?_)
  exact zw_kp (key c 0 (by omega) rfl)
set_option maxHeartbeats 4000000 in
set_option maxRecDepth 20000 in
theorem xCollectLifts (F : Nat → Int32) (hh : h ≤ 48) (h8 : I 8 = nI h) (hF : ∀ p, p < h → A 5 p &&& I 9 = F p) : zC 2 sc 10 [.ref 33] (xm I J A B tl) (fun M r => ∃ x g, M = xm (upd I 35 x) J (va_up A 15 g) B tl ∧ ((r = some (.int 0) ∧ 5 < (gat F h).length) ∨ (r = some (.int 1) ∧ (gat F h).length ≤ 5 ∧ x = nI (gat F h).length ∧ ∀ i, i < (gat F h).length → g i = li (gat F h) i))) := by
  have key : ∀ (k p : Nat) (g : Nat → Int32), p + k = h → (gat F p).length ≤ 5 → (∀ i, i < (gat F p).length → g i = li (gat F p) i) → zW 1 sc miX1_collectLifts 7 [some (.ref 33), some (.int (nI p)), none] [] (xm (upd I 35 (nI (gat F p).length)) J (va_up A 15 g) B tl) (fun M r => ∃ x g, M = xm (upd I 35 x) J (va_up A 15 g) B tl ∧ ((r = some (.int 0) ∧ 5 < (gat F h).length) ∨ (r = some (.int 1) ∧ (gat F h).length ≤ 5 ∧ x = nI (gat F h).length ∧ ∀ i, i < (gat F h).length → g i = li (gat F h) i))) := by
    intro k
    induction k with
    | zero =>
      intro p g hp hl hg
      have e : p = h := by omega
      subst e
      refine zw_nx rfl (fun _ _ => rfl) ?_
      repeat (refine zw_go rfl rfl (fun _ _ => rfl) ?_)
      first | refine zw_br rfl (fun _ _ => rfl) (fun _ => ?_) (fun h9 => absurd (show I 8 ≤ nI p by rw [h8]; exact Int32.le_refl _) h9) | refine zw_nx rfl (fun _ _ => rfl) ?_
      repeat (refine zw_go rfl rfl (fun _ _ => rfl) ?_)
      exact zw_ret rfl (fun _ _ => rfl) (⟨_, g, rfl, Or.inr ⟨rfl, hl, rfl, hg⟩⟩)
    | succ k ih =>
      intro p g hp hl hg
      refine zw_nx rfl (fun _ _ => rfl) ?_
      repeat (refine zw_go rfl rfl (fun _ _ => rfl) ?_)
      first | refine zw_br rfl (fun _ _ => rfl) (fun h9 => absurd h9 (show ¬ I 8 ≤ nI p by rw [h8]; exact nI_ge (by omega) (by omega))) (fun _ => ?_) | refine zw_nx rfl (fun _ _ => rfl) ?_
      repeat (refine zw_go rfl rfl (fun _ _ => rfl) ?_)
      refine zw_br rfl (fun _ _ => rfl) (fun h9 => absurd h9 (nI_ge (a := p) (b := 48) (by omega) (by omega))) (fun _ => ?_)
      repeat (refine zw_go rfl rfl (fun _ _ => rfl) ?_)
      refine zw_ix rfl (fun _ _ => rfl) (show vp_in (nI (p)) _ from vp_in_nI (by omega) (by omega)) ?_
      rw [show (nI (p)).toNatClampNeg = p from nI_clamp (by omega)]
      repeat (refine zw_go rfl rfl (fun _ _ => rfl) ?_)
      rw [show va_up A 15 g 5 p &&& upd I 35 (nI (gat F p).length) 9 = F p from hF p (by omega)]
      have same : (F p = 0 ∨ F p ∈ gat F p) → zW 1 sc miX1_collectLifts 7 [some (.ref 33), some (.int (nI p + 1)), none] [] (xm (upd I 35 (nI (gat F p).length)) J (va_up A 15 g) B tl) (fun M r => ∃ x g, M = xm (upd I 35 x) J (va_up A 15 g) B tl ∧ ((r = some (.int 0) ∧ 5 < (gat F h).length) ∨ (r = some (.int 1) ∧ (gat F h).length ≤ 5 ∧ x = nI (gat F h).length ∧ ∀ i, i < (gat F h).length → g i = li (gat F h) i))) := fun hs => by
        have e : gat F (p + 1) = gat F p := by rw [gat, if_pos hs]
        have hn := ih (p + 1) g (by omega) (by rw [e]; exact hl) (by rw [e]; exact hg)
        rw [nI_succ, e] at hn
        exact hn
      refine zw_br rfl (fun _ _ => rfl) (fun (hv : F p = 0) => ?_) (fun (hv : ¬ (F p = 0)) => ?_)
      · have hn := same (Or.inl hv)
        repeat (refine zw_go rfl rfl (fun _ _ => rfl) ?_)
        exact zw_kp hn
      · repeat (refine zw_go rfl rfl (fun _ _ => rfl) ?_)
        refine zw_call rfl (fun _ _ => rfl) (xIsInL sc (upd I 35 (nI (gat F p).length)) J (va_up A 15 g) B tl (gat F p).length (F p) hl) (by decide) ?_
        rintro M1 r1 ⟨rfl, rfl⟩
        cases hm : anyB (fun i => decide (va_up A 15 g 15 i = F p)) (gat F p).length
        · have hnm : ¬ F p ∈ gat F p := fun z => by
            have := (any_mem (v := F p) hg).mpr z
            rw [show anyB (fun i => decide (g i = F p)) (gat F p).length = false from hm] at this
            cases this
          have e : gat F (p + 1) = gat F p ++ [F p] := by rw [gat, if_neg (fun z => z.elim hv hnm)]
          repeat (refine zw_go rfl rfl (fun _ _ => rfl) ?_)
          by_cases h5 : (gat F p).length < 5
          · have hn := ih (p + 1) (upd g (gat F p).length (F p)) (by omega) (by rw [e, List.length_append]; exact h5) (fun i hi => by
              rw [e] at hi ⊢
              rw [List.length_append, List.length_singleton] at hi
              unfold upd
              by_cases h6 : i = (gat F p).length
              · rw [if_pos h6, h6, li_end]
              · rw [if_neg h6, li_app (by omega)]; exact hg i (by omega))
            rw [nI_succ, e, List.length_append, List.length_singleton, nI_succ] at hn
            first | refine zw_br rfl (fun _ _ => rfl) (fun _ => ?_) (fun h9 => absurd (nI_lt (a := (gat F p).length) (b := 5) h5 (by omega)) h9) | refine zw_nx rfl (fun _ _ => rfl) ?_
            repeat (refine zw_go rfl rfl (fun _ _ => rfl) ?_)
            rw [show upd I 35 (nI (gat F p).length) 35 = nI (gat F p).length from rfl]
            refine zw_ix rfl (fun _ _ => rfl) (show vp_in (nI ((gat F p).length)) _ from vp_in_nI (by omega) (by omega)) ?_
            rw [show (nI ((gat F p).length)).toNatClampNeg = (gat F p).length from nI_clamp (by omega)]
            repeat (refine zw_go rfl rfl (fun _ _ => rfl) ?_)
            exact zw_kp hn
          · first | refine zw_br rfl (fun _ _ => rfl) (fun h9 => absurd h9 (nI_nlt (a := (gat F p).length) (b := 5) (by omega) (by omega))) (fun _ => ?_) | refine zw_nx rfl (fun _ _ => rfl) ?_
            repeat (refine zw_go rfl rfl (fun _ _ => rfl) ?_)
            refine zw_ret rfl (fun _ _ => rfl) ?_
            refine ⟨_, g, rfl, Or.inl ⟨rfl, ?_⟩⟩
            have := gat_le (F := F) (n := p + 1) (m := h) (by omega)
            rw [e, List.length_append, List.length_singleton] at this
            omega
        · have hn := same (Or.inr ((any_mem (v := F p) hg).mp hm))
          repeat (refine zw_go rfl rfl (fun _ _ => rfl) ?_)
          exact zw_kp hn
  refine zc_of hkX1_collectLifts rfl ?_
  repeat (refine zw_go rfl rfl (fun _ _ => rfl) ?_)
  have st := key h 0 (A 15) (by omega) (by rw [gat]; exact Nat.zero_le _) (fun i hi => by rw [gat] at hi; exact absurd hi (Nat.not_lt_zero _))
  rw [va_up_id] at st
  exact zw_kp st
set_option maxHeartbeats 4000000 in
set_option maxRecDepth 20000 in
theorem xInsertTie (k : Nat) (v : Int32) (hk : k < 31) (h36 : I 36 = nI k) (hs : ∀ i j, i < j → j < k → A 16 i < A 16 j) (hv : ∀ i, i < k → A 16 i ≠ v) : zC 1 sc 13 [.ref 33, .int v] (xm I J A B tl) (fun M r => r = none ∧ ∃ g q, M = xm (upd I 36 (nI (k + 1))) J (va_up A 16 g) B tl ∧ q ≤ k ∧ (∀ i, i < q → A 16 i < v) ∧ (∀ i, q ≤ i → i < k → v < A 16 i) ∧ ∀ i, i < k + 1 → g i = insK (A 16) q v i) := by
  have fin : ∀ (q : Nat) (g : Nat → Int32), q ≤ k → (∀ i, i < q → g i = A 16 i) → (∀ i, q < i → i ≤ k → g i = A 16 (i - 1)) → (∀ i, q ≤ i → i < k → v < A 16 i) → (∀ i, i < q → A 16 i < v) → zW 0 sc miX1_insertTie 51 [some (.ref 33), some (.int v), some (.int (nI q))] [] (xm I J (va_up A 16 g) B tl) (fun M r => r = none ∧ ∃ g q, M = xm (upd I 36 (nI (k + 1))) J (va_up A 16 g) B tl ∧ q ≤ k ∧ (∀ i, i < q → A 16 i < v) ∧ (∀ i, q ≤ i → i < k → v < A 16 i) ∧ ∀ i, i < k + 1 → g i = insK (A 16) q v i) := by
    intro q g hq h1 h2 h3 h4
    repeat (refine zw_go rfl rfl (fun _ _ => rfl) ?_)
    refine zw_ix rfl (fun _ _ => rfl) (show vp_in (nI (q)) _ from vp_in_nI (by omega) (by omega)) ?_
    rw [show (nI (q)).toNatClampNeg = q from nI_clamp (by omega)]
    repeat (refine zw_go rfl rfl (fun _ _ => rfl) ?_)
    rw [h36, show nI k + Int32.ofInt 1 = nI (k + 1) from nI_1 k]
    refine zw_ret rfl (fun _ _ => rfl) ?_
    refine ⟨rfl, upd g q v, q, rfl, hq, h4, h3, fun i hi => ?_⟩
    unfold insK upd
    by_cases h5 : i = q
    · rw [if_pos h5, if_neg (by omega), if_pos h5]
    · rw [if_neg h5]
      by_cases h6 : i < q
      · rw [if_pos h6]; exact h1 i h6
      · rw [if_neg h6, if_neg h5]; exact h2 i (by omega) (by omega)
  have key : ∀ (q : Nat) (g : Nat → Int32), q ≤ k → (∀ i, i < q → g i = A 16 i) → (∀ i, q < i → i ≤ k → g i = A 16 (i - 1)) → (∀ i, q ≤ i → i < k → v < A 16 i) → zW 0 sc miX1_insertTie 15 [some (.ref 33), some (.int v), some (.int (nI q))] [] (xm I J (va_up A 16 g) B tl) (fun M r => r = none ∧ ∃ g q, M = xm (upd I 36 (nI (k + 1))) J (va_up A 16 g) B tl ∧ q ≤ k ∧ (∀ i, i < q → A 16 i < v) ∧ (∀ i, q ≤ i → i < k → v < A 16 i) ∧ ∀ i, i < k + 1 → g i = insK (A 16) q v i) := by
    intro q
    induction q with
    | zero =>
      intro g hq h1 h2 h3
      have hn := fin 0 g hq h1 h2 h3 (fun i hi => by omega)
      refine zw_nx rfl (fun _ _ => rfl) ?_
      first | refine zw_br rfl (fun _ _ => rfl) (fun _ => ?_) (fun h9 => absurd ((by decide : nI 0 ≤ 0)) h9) | refine zw_nx rfl (fun _ _ => rfl) ?_
      exact hn
    | succ q ih =>
      intro g hq h1 h2 h3
      refine zw_nx rfl (fun _ _ => rfl) ?_
      first | refine zw_br rfl (fun _ _ => rfl) (fun h9 => absurd h9 (nI_nle (n := q + 1) (by omega) (by omega))) (fun _ => ?_) | refine zw_nx rfl (fun _ _ => rfl) ?_
      repeat (refine zw_go rfl rfl (fun _ _ => rfl) ?_)
      rw [show nI (q + 1) - Int32.ofInt 1 = nI q from nI_pred q]
      refine zw_ix rfl (fun _ _ => rfl) (show vp_in (nI (q)) _ from vp_in_nI (by omega) (by omega)) ?_
      rw [show (nI (q)).toNatClampNeg = q from nI_clamp (by omega)]
      repeat (refine zw_go rfl rfl (fun _ _ => rfl) ?_)
      refine zw_br rfl (fun _ _ => rfl) (fun (hc : g q ≤ v) => ?_) (fun (hc : ¬ (g q ≤ v)) => ?_)
      · have hn := fin (q + 1) g hq h1 h2 h3 (fun i hi => by
          rw [h1 q (by omega)] at hc
          have h5 : A 16 q < v := Int32.lt_of_le_of_ne hc (hv q (by omega))
          by_cases h6 : i = q
          · subst h6; exact h5
          · exact Int32.lt_trans (hs i q (by omega) (by omega)) h5)
        exact hn
      · have hgv : v < A 16 q := by
          rw [h1 q (by omega)] at hc
          exact Int32.not_le.mp hc
        have hn := ih (upd g (q + 1) (g q)) (by omega) (fun i hi => by
          unfold upd
          rw [if_neg (by omega)]; exact h1 i (by omega)) (fun i h5 h6 => by
          unfold upd
          by_cases h7 : i = q + 1
          · rw [if_pos h7, h7, Nat.add_sub_cancel]; exact h1 q (by omega)
          · rw [if_neg h7]; exact h2 i (by omega) h6) (fun i h5 h6 => by
          by_cases h7 : i = q
          · subst h7; exact hgv
          · exact h3 i (by omega) h6)
        repeat (refine zw_go rfl rfl (fun _ _ => rfl) ?_)
        rw [show nI (q + 1) - Int32.ofInt 1 = nI q from nI_pred q]
        refine zw_ix rfl (fun _ _ => rfl) (show vp_in (nI (q)) _ from vp_in_nI (by omega) (by omega)) ?_
        rw [show (nI (q)).toNatClampNeg = q from nI_clamp (by omega)]
        repeat (refine zw_go rfl rfl (fun _ _ => rfl) ?_)
        refine zw_ix rfl (fun _ _ => rfl) (show vp_in (nI ((q + 1))) _ from vp_in_nI (by omega) (by omega)) ?_
        rw [show (nI ((q + 1))).toNatClampNeg = (q + 1) from nI_clamp (by omega)]
        repeat (refine zw_go rfl rfl (fun _ _ => rfl) ?_)
        rw [nI_dn]
        exact zw_kp hn
  refine zc_of hkX1_insertTie rfl ?_
  repeat (refine zw_go rfl rfl (fun _ _ => rfl) ?_)
  rw [h36]
  first | refine zw_br rfl (fun _ _ => rfl) (fun _ => ?_) (fun h9 => absurd (nI_lt (a := k) (b := 31) hk (by omega)) h9) | refine zw_nx rfl (fun _ _ => rfl) ?_
  repeat (refine zw_go rfl rfl (fun _ _ => rfl) ?_)
  rw [h36]
  have st := key k (A 16) (Nat.le_refl _) (fun _ _ => rfl) (fun i h1 h2 => by omega) (fun i h1 h2 => by omega)
  rw [va_up_id] at st
  exact zw_kp st
set_option maxHeartbeats 4000000 in
set_option maxRecDepth 20000 in
theorem xCollectTies (L : Nat → Int32) (m : Nat) (hm : m ≤ 5) (h35 : I 35 = nI m) (hL : ∀ i, i < m → A 15 i = L i) : zC 2 sc 12 [.ref 33] (xm I J A B tl) (fun M r => r = none ∧ ∃ K k, M = xm (upd I 36 (nI k)) J (va_up A 16 K) B tl ∧ k ≤ 31 ∧ Enm K k (tieS L m (2 ^ m))) := by
  have p5 := pow5 m hm
  have key : ∀ (j q : Nat) (K : Nat → Int32) (k : Nat), q + j = 2 ^ m → 1 ≤ q → k + 1 ≤ q → Enm K k (tieS L m q) → zW 1 sc miX1_collectTies 7 [some (.ref 33), some (.int (nI q)), none, none] [] (xm (upd I 36 (nI k)) J (va_up A 16 K) B tl) (fun M r => r = none ∧ ∃ K k, M = xm (upd I 36 (nI k)) J (va_up A 16 K) B tl ∧ k ≤ 31 ∧ Enm K k (tieS L m (2 ^ m))) := by
    intro j
    induction j with
    | zero =>
      intro q K k hq h1 hk hE
      have e : q = 2 ^ m := by omega
      subst e
      refine zw_nx rfl (fun _ _ => rfl) ?_
      repeat (refine zw_go rfl rfl (fun _ _ => rfl) ?_)
      rw [show upd I 36 (nI k) 35 = nI m from h35, shl_pow m hm]
      first | refine zw_br rfl (fun _ _ => rfl) (fun _ => ?_) (fun h9 => absurd (Int32.le_refl _) h9) | refine zw_nx rfl (fun _ _ => rfl) ?_
      exact zw_ret rfl (fun _ _ => rfl) (⟨rfl, K, k, rfl, by omega, hE⟩)
    | succ j ih =>
      intro q K k hq h1 hk hE
      have inner : ∀ (z i : Nat), i + z = m → zW 1 sc miX1_collectTies 22 [some (.ref 33), some (.int (nI q)), some (.int (anF L q i)), some (.int (nI i))] [] (xm (upd I 36 (nI k)) J (va_up A 16 K) B tl) (fun M r => r = none ∧ ∃ K k, M = xm (upd I 36 (nI k)) J (va_up A 16 K) B tl ∧ k ≤ 31 ∧ Enm K k (tieS L m (2 ^ m))) := by
        intro z
        induction z with
        | zero =>
          intro i hi
          have e : i = m := by omega
          subst e
          have same : (anF L q i = 0 ∨ tieS L i q (anF L q i)) → zW 1 sc miX1_collectTies 7 [some (.ref 33), some (.int (nI q + 1)), none, none] [] (xm (upd I 36 (nI k)) J (va_up A 16 K) B tl) (fun M r => r = none ∧ ∃ K k, M = xm (upd I 36 (nI k)) J (va_up A 16 K) B tl ∧ k ≤ 31 ∧ Enm K k (tieS L i (2 ^ i))) := fun hs => by
            have hn := ih (q + 1) K k (by omega) (by omega) (by omega) (enm_S hE (tie_no hs))
            rw [nI_succ] at hn
            exact hn
          refine zw_nx rfl (fun _ _ => rfl) ?_
          repeat (refine zw_go rfl rfl (fun _ _ => rfl) ?_)
          first | refine zw_br rfl (fun _ _ => rfl) (fun _ => ?_) (fun h9 => absurd (show I 35 ≤ nI i by rw [h35]; exact Int32.le_refl _) h9) | refine zw_nx rfl (fun _ _ => rfl) ?_
          refine zw_nx rfl (fun _ _ => rfl) ?_
          refine zw_br rfl (fun _ _ => rfl) (fun (hv : anF L q i = 0) => ?_) (fun (hv : ¬ (anF L q i = 0)) => ?_)
          · have hn := same (Or.inl hv)
            repeat (refine zw_go rfl rfl (fun _ _ => rfl) ?_)
            exact zw_kp hn
          · repeat (refine zw_go rfl rfl (fun _ _ => rfl) ?_)
            refine zw_call rfl (fun _ _ => rfl) (xIsInT sc (upd I 36 (nI k)) J (va_up A 16 K) B tl k (anF L q i) (by omega)) (by decide) ?_
            rintro M1 r1 ⟨rfl, rfl⟩
            cases ha : anyB (fun z => decide (va_up A 16 K 16 z = anF L q i)) k
            · have hnot : ∀ z, z < k → K z ≠ anF L q i := fun z hz he => by
                have := (anyB_iff (p := fun z => decide (va_up A 16 K 16 z = anF L q i))).mpr ⟨z, hz, decide_eq_true he⟩
                rw [ha] at this; cases this
              repeat (refine zw_go rfl rfl (fun _ _ => rfl) ?_)
              refine zw_call rfl (fun _ _ => rfl) (xInsertTie sc (upd I 36 (nI k)) J (va_up A 16 K) B tl k (anF L q i) (by omega) rfl hE.1 hnot) (by decide) ?_
              rintro M1 r1 ⟨rfl, g, u, rfl, u1, u2, u3, u4⟩
              rw [va_up_up, show upd (upd I 36 (nI k)) 36 (nI (k + 1)) = upd I 36 (nI (k + 1)) from by
                funext t; unfold upd; split <;> rfl]
              have hn := ih (q + 1) g (k + 1) (by omega) (by omega) (by omega) (enm_S (enm_cong (enm_ins hE u1 u2 u3) u4) (tie_yes h1 hv))
              rw [nI_succ q] at hn
              repeat (refine zw_go rfl rfl (fun _ _ => rfl) ?_)
              exact zw_kp hn
            · have hn := same (Or.inr ((hE.2 _).mp (by
                obtain ⟨z, h2, h3⟩ := anyB_iff.mp ha
                exact ⟨z, h2, of_decide_eq_true h3⟩)))
              repeat (refine zw_go rfl rfl (fun _ _ => rfl) ?_)
              exact zw_kp hn
        | succ z ihz =>
          intro i hi
          have hn := ihz (i + 1) (by omega)
          rw [nI_succ, anF] at hn
          refine zw_nx rfl (fun _ _ => rfl) ?_
          repeat (refine zw_go rfl rfl (fun _ _ => rfl) ?_)
          first | refine zw_br rfl (fun _ _ => rfl) (fun h9 => absurd h9 (show ¬ I 35 ≤ nI i by rw [h35]; exact nI_ge (by omega) (by omega))) (fun _ => ?_) | refine zw_nx rfl (fun _ _ => rfl) ?_
          repeat (refine zw_go rfl rfl (fun _ _ => rfl) ?_)
          refine zw_br rfl (fun _ _ => rfl) (fun h9 => absurd h9 (nI_ge (a := i) (b := 5) (by omega) (by omega))) (fun _ => ?_)
          repeat (refine zw_go rfl rfl (fun _ _ => rfl) ?_)
          refine zw_call rfl (fun _ _ => rfl) (cHasN sc (xm (upd I 36 (nI k)) J (va_up A 16 K) B tl) (nI q).toInt64 (i := i) (by omega)) (by decide) ?_
          rintro M1 r1 ⟨rfl, rfl⟩
          rw [lb_i2l _ (by omega), ib_nat (by omega)]
          cases hb : q.testBit i
          · rw [hb, if_neg (by decide)] at hn
            repeat (refine zw_go rfl rfl (fun _ _ => rfl) ?_)
            exact zw_kp hn
          · rw [hb, if_pos (by decide), ← hL i (by omega)] at hn
            repeat (refine zw_go rfl rfl (fun _ _ => rfl) ?_)
            refine zw_ix rfl (fun _ _ => rfl) (show vp_in (nI (i)) _ from vp_in_nI (by omega) (by omega)) ?_
            rw [show (nI (i)).toNatClampNeg = i from nI_clamp (by omega)]
            repeat (refine zw_go rfl rfl (fun _ _ => rfl) ?_)
            exact zw_kp hn
      have hn := inner m 0 (by omega)
      refine zw_nx rfl (fun _ _ => rfl) ?_
      repeat (refine zw_go rfl rfl (fun _ _ => rfl) ?_)
      rw [show upd I 36 (nI k) 35 = nI m from h35, shl_pow m hm]
      first | refine zw_br rfl (fun _ _ => rfl) (fun h9 => absurd h9 (nI_ge (a := q) (b := 2 ^ m) (by omega) (by omega))) (fun _ => ?_) | refine zw_nx rfl (fun _ _ => rfl) ?_
      repeat (refine zw_go rfl rfl (fun _ _ => rfl) ?_)
      exact zw_kp hn
  refine zc_of hkX1_collectTies rfl ?_
  repeat (refine zw_go rfl rfl (fun _ _ => rfl) ?_)
  have st := key (2 ^ m - 1) 1 (A 16) 0 (by have := Nat.one_le_two_pow (n := m); omega) (by omega) (by omega) ⟨fun i j _ h2 => by omega, fun x => ⟨fun ⟨i, h1, _⟩ => by omega, fun ⟨_, z, h1, h2, _⟩ => by omega⟩⟩
  rw [va_up_id] at st
  exact zw_kp st
end

/-! coloured -/
theorem nI_sub {a b : Nat} (h : b ≤ a) : nI a - nI b = nI (a - b) := by
  obtain ⟨c, rfl⟩ : ∃ c, a = c + b := ⟨a - b, by omega⟩
  rw [Nat.add_sub_cancel, ← nI_add, Int32.add_sub_cancel]
section
variable (sc : sm_S) (I : Nat → Int32) (J : Nat → Int64) (A : Nat → Nat → Int32) (B : Nat → Nat → Int64) (tl : sm_M) (f : Nat → va_E) (w h n : Nat) (V : Nat → Int32)
set_option maxHeartbeats 4000000 in
set_option maxRecDepth 20000 in
theorem xEndsOf (c : Int32) (h0 : I 0 = nI w) (hw : w ≤ 48) : zC 2 sc 154 [.ref 0, .int c] (xm I J A B tl) (zR (xm I J A B tl) (.long (mk (fun e => decide (A 3 (112 + e) = c)) w))) := by
  refine zc_of hkX10_endsOfColour rfl ?_
  repeat (refine zw_go rfl rfl (fun _ _ => rfl) ?_)
  have key : ∀ (k e : Nat), e + k = w → zW 1 sc miX10_endsOfColour 5 [some (.ref 0), some (.int c), some (.long (mk (fun e => decide (A 3 (112 + e) = c)) e)), none, some (.int (nI e))] [] (xm I J A B tl) (zR (xm I J A B tl) (.long (mk (fun e => decide (A 3 (112 + e) = c)) w))) := by
    intro k
    induction k with
    | zero =>
      intro e he
      have e1 : e = w := by omega
      subst e1
      refine zw_nx rfl (fun _ _ => rfl) ?_
      repeat (refine zw_go rfl rfl (fun _ _ => rfl) ?_)
      first | refine zw_br rfl (fun _ _ => rfl) (fun _ => ?_) (fun h9 => absurd (show I 0 ≤ nI e by rw [h0]; exact Int32.le_refl _) h9) | refine zw_nx rfl (fun _ _ => rfl) ?_
      repeat (refine zw_go rfl rfl (fun _ _ => rfl) ?_)
      exact zw_ret rfl (fun _ _ => rfl) (⟨rfl, rfl⟩)
    | succ k ih =>
      intro e he
      have hn := ih (e + 1) (by omega)
      rw [nI_succ, mk] at hn
      refine zw_nx rfl (fun _ _ => rfl) ?_
      repeat (refine zw_go rfl rfl (fun _ _ => rfl) ?_)
      first | refine zw_br rfl (fun _ _ => rfl) (fun h9 => absurd h9 (show ¬ I 0 ≤ nI e by rw [h0]; exact nI_ge (by omega) (by omega))) (fun _ => ?_) | refine zw_nx rfl (fun _ _ => rfl) ?_
      repeat (refine zw_go rfl rfl (fun _ _ => rfl) ?_)
      rw [show (Int8.ofInt 112).toInt32 + nI e = nI (112 + e) from nI_add 112 e]
      refine zw_call rfl (fun _ _ => rfl) (cValueOf sc I J A B tl (112 + e) (by omega)) (by decide) ?_
      rintro M1 r1 ⟨rfl, rfl⟩
      repeat (refine zw_go rfl rfl (fun _ _ => rfl) ?_)
      refine zw_br rfl (fun _ _ => rfl) (fun (hc : A 3 (112 + e) = c) => ?_) (fun (hc : ¬ (A 3 (112 + e) = c)) => ?_)
      · rw [if_pos (decide_eq_true hc)] at hn
        repeat (refine zw_go rfl rfl (fun _ _ => rfl) ?_)
        exact hn
      · rw [if_neg (by simpa using hc)] at hn
        repeat (refine zw_go rfl rfl (fun _ _ => rfl) ?_)
        exact hn
  exact zw_kp (key w 0 (by omega))
/-- how many cells are of a colour -/
def nCol (V : Nat → Int32) (c : Int32) (w h : Nat) : Nat := sumN (fun p => cnt (fun e => decide (vCol V e p = c)) w) h
set_option maxHeartbeats 4000000 in
set_option maxRecDepth 20000 in
theorem xColoured (c : Int32) (hW : WH w h I J A B) : zC 5 sc 134 [.ref 0, .int c] (xm I J A B tl) (fun M r => r = some (.int (if 0 ≤ c ∧ c < 10 then nI (nCol (A 3) c w h) else -1)) ∧ XQ tl w h I J A B M) := by
  have hW' := hW
  obtain ⟨h0, h1, h7, h8, hw1, hw, hh1, hh, hJ, hV, hC', hR⟩ := hW
  refine zc_of hkX10_coloured rfl ?_
  repeat (refine zw_go rfl rfl (fun _ _ => rfl) ?_)
  refine zw_call rfl (fun _ _ => rfl) (xIsColour sc (xm I J A B tl) c) (by decide) ?_
  rintro M1 r1 ⟨rfl, rfl⟩
  repeat (refine zw_go rfl rfl (fun _ _ => rfl) ?_)
  refine zw_br rfl (fun _ _ => rfl) (fun (hc : bI (0 ≤ c ∧ c < 10) = 0) => ?_) (fun (hc : ¬ (bI (0 ≤ c ∧ c < 10) = 0)) => ?_)
  · repeat (refine zw_go rfl rfl (fun _ _ => rfl) ?_)
    refine zw_ret rfl (fun _ _ => rfl) ?_
    exact ⟨by rw [if_neg (bI_0.mp hc)]; rfl, I, A, B, rfl, hW', xk_rfl⟩
  · have hcc := bI_of hc
    rw [if_pos hcc]
    repeat (refine zw_go rfl rfl (fun _ _ => rfl) ?_)
    refine zw_call rfl (fun _ _ => rfl) (xWv sc I J A B tl w h hW') (by decide) ?_
    rintro M1 r1 ⟨rfl, I', A', B', rfl, hW2, hC, hK⟩
    have e3 : A' 3 = A 3 := hK.2.2.1 3 (by decide)
    have h0' : I' 0 = nI w := hW2.1
    have h1' : I' 1 = nI h := hW2.2.1
    repeat (refine zw_go rfl rfl (fun _ _ => rfl) ?_)
    refine zw_call rfl (fun _ _ => rfl) (xEndsOf sc I' J A' B' tl w c h0' hw) (by decide) ?_
    rintro M1 r1 ⟨rfl, rfl⟩
    rw [e3]
    repeat (refine zw_go rfl rfl (fun _ _ => rfl) ?_)
    have key : ∀ (k p : Nat), p + k = h → zW 4 sc miX10_coloured 28 [some (.ref 0), some (.int c), some (.long (mk (fun e => decide (A 3 (112 + e) = c)) w)), none, some (.int (nI (nCol (A 3) c w p))), some (.int (nI p)), none, none] [] (xm I' J A' B' tl) (fun M r => r = some (.int (nI (nCol (A 3) c w h))) ∧ XQ tl w h I J A B M) := by
      intro k
      induction k with
      | zero =>
        intro p hp
        have e1 : p = h := by omega
        subst e1
        refine zw_nx rfl (fun _ _ => rfl) ?_
        repeat (refine zw_go rfl rfl (fun _ _ => rfl) ?_)
        first | refine zw_br rfl (fun _ _ => rfl) (fun _ => ?_) (fun h9 => absurd (show I' 1 ≤ nI p by rw [h1']; exact Int32.le_refl _) h9) | refine zw_nx rfl (fun _ _ => rfl) ?_
        repeat (refine zw_go rfl rfl (fun _ _ => rfl) ?_)
        exact zw_ret rfl (fun _ _ => rfl) (⟨rfl, I', A', B', rfl, hW2, wk_xk hK⟩)
      | succ k ih =>
        intro p hp
        have hn := ih (p + 1) (by omega)
        rw [nI_succ] at hn
        have er : nCol (A 3) c w (p + 1) = nCol (A 3) c w p + (cnt (fun e => vUp (A 3) e p && decide (A 3 (112 + e) = c)) w + (if A 3 (160 + p) = c then w - cnt (fun e => vUp (A 3) e p) w else 0)) := by
          rw [nCol, sumN, col_row]
          rfl
        refine zw_nx rfl (fun _ _ => rfl) ?_
        repeat (refine zw_go rfl rfl (fun _ _ => rfl) ?_)
        first | refine zw_br rfl (fun _ _ => rfl) (fun h9 => absurd h9 (show ¬ I' 1 ≤ nI p by rw [h1']; exact nI_ge (by omega) (by omega))) (fun _ => ?_) | refine zw_nx rfl (fun _ _ => rfl) ?_
        repeat (refine zw_go rfl rfl (fun _ _ => rfl) ?_)
        refine zw_ix rfl (fun _ _ => rfl) (show vp_in (nI (p)) _ from vp_in_nI (by omega) (by omega)) ?_
        rw [show (nI (p)).toNatClampNeg = p from nI_clamp (by omega)]
        repeat (refine zw_go rfl rfl (fun _ _ => rfl) ?_)
        rw [hC.2.1 p (by omega)]
        refine zw_call rfl (fun _ _ => rfl) (cBitL sc (xm I' J A' B' tl) (mk (fun e => vUp (A 3) e p) w &&& mk (fun e => decide (A 3 (112 + e) = c)) w)) (by decide) ?_
        rintro M1 r1 ⟨rfl, rfl⟩
        rw [mk_and (by omega), cnt_mk (by omega)]
        repeat (refine zw_go rfl rfl (fun _ _ => rfl) ?_)
        rw [nI_add]
        rw [show (Int16.ofInt 160).toInt32 + nI p = nI (160 + p) from nI_add 160 p]
        refine zw_call rfl (fun _ _ => rfl) (cValueOf sc I' J A' B' tl (160 + p) (by omega)) (by decide) ?_
        rintro M1 r1 ⟨rfl, rfl⟩
        rw [e3]
        repeat (refine zw_go rfl rfl (fun _ _ => rfl) ?_)
        refine zw_br rfl (fun _ _ => rfl) (fun (hcp : A 3 (160 + p) = c) => ?_) (fun (hcp : ¬ (A 3 (160 + p) = c)) => ?_)
        · rw [if_pos hcp] at er
          repeat (refine zw_go rfl rfl (fun _ _ => rfl) ?_)
          refine zw_call rfl (fun _ _ => rfl) (cBitL sc (xm I' J A' B' tl) (mk (fun e => vUp (A 3) e p) w)) (by decide) ?_
          rintro M1 r1 ⟨rfl, rfl⟩
          rw [cnt_mk (by omega)]
          repeat (refine zw_go rfl rfl (fun _ _ => rfl) ?_)
          rw [show I' 0 - nI (cnt (fun e => vUp (A 3) e p) w) = nI (w - cnt (fun e => vUp (A 3) e p) w) from by rw [h0']; exact nI_sub cnt_le, nI_add, show nCol (A 3) c w p + cnt (fun e => vUp (A 3) e p && decide (A 3 (112 + e) = c)) w + (w - cnt (fun e => vUp (A 3) e p) w) = nCol (A 3) c w (p + 1) by omega]
          exact zw_kp hn
        · rw [if_neg hcp] at er
          repeat (refine zw_go rfl rfl (fun _ _ => rfl) ?_)
          rw [show nCol (A 3) c w p + cnt (fun e => vUp (A 3) e p && decide (A 3 (112 + e) = c)) w = nCol (A 3) c w (p + 1) by omega]
          exact zw_kp hn
    exact zw_kp (key h 0 (by omega))
end

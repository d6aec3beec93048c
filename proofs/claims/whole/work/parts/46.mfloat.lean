/-! the reference's floats -/
/-- the list stands in an array -/
def Lst (g : Nat → Int32) (l : List Nat) : Prop := ∀ j, j < l.length → g j = nI (l.getD j 0)
theorem lst_add {g : Nat → Int32} {l : List Nat} {r : Nat} (h : Lst g l) : Lst (upd g l.length (nI r)) (l ++ [r]) := by
  intro j hj
  rw [List.length_append, List.length_singleton] at hj
  unfold upd
  by_cases h1 : j = l.length
  · rw [if_pos h1, h1]
    simp
  · rw [if_neg h1, h j (by omega)]
    congr 1
    simp [List.getD, List.getElem?_append_left (show j < l.length by omega)]
theorem mxL_app {l : List Nat} {x : Nat} : mxL (l ++ [x]) = if mxL l < x then x else mxL l := by
  refine mxL_eq (fun y hy => ?_) ?_
  · rcases List.mem_append.mp hy with h | h
    · have := mxL_ge h; split <;> omega
    · have := List.mem_singleton.mp h; split <;> omega
  · split
    · exact Or.inr (List.mem_append.mpr (Or.inr (List.mem_singleton.mpr rfl)))
    · rcases mxL_in (l := l) with h | h
      · exact Or.inl h
      · exact Or.inr (List.mem_append.mpr (Or.inl h))
theorem take_s {l : List Nat} {k : Nat} (h : k < l.length) : l.take (k + 1) = l.take k ++ [l.getD k 0] := by
  rw [List.take_succ]
  congr 1
  simp [List.getD, List.getElem?_eq_getElem h]
/-- a bit is as told -/
theorem bit_is (x : Int64) {k : Nat} (hk : k < 64) (u : Bool) : ((if lg_cmp ((x >>> ((nI k).toInt64 &&& 63)) &&& 1) 1 = 0 then (1 : Int32) else 0) = bb u) ↔ (lb x k = u) := by
  by_cases h : lb x k = true
  · rw [if_pos ((lcb1 x hk).mpr h), h]
    cases u <;> decide
  · rw [if_neg (fun z => h ((lcb1 x hk).mp z))]
    have h2 : lb x k = false := by simpa using h
    rw [h2]
    cases u <;> decide
section
variable (sc : sm_S) (I : Nat → Int32) (J : Nat → Int64) (A : Nat → Nat → Int32) (B : Nat → Nat → Int64) (tl : sm_M) (f : Nat → va_E) (w h n : Nat) (V : Nat → Int32) (S : Nat → Nat → Bool)
/-- behind some runs more -/
def RnP (f : Nat → va_E) (I : Nat → Int32) (A : Nat → Nat → Int32) (B : Nat → Nat → Int64) (l : List Nat) : sm_M → Option Value → Prop := fun M r => r = none ∧ ∃ g, M = mm f (upd I 19 (nI l.length)) (va_up A 19 g) B ∧ Lst g l
theorem upd_upd (g : Nat → Int32) (k : Nat) (v u : Int32) : upd (upd g k v) k u = upd g k u := by
  funext z
  unfold upd
  by_cases h : z = k
  · rw [if_pos h, if_pos h]
  · rw [if_neg h, if_neg h, if_neg h]
set_option maxHeartbeats 4000000 in
set_option maxRecDepth 20000 in
theorem mRunsOf_l (x : Int64) (m : Nat) (u : Bool) (fi : Nat) (l : List Nat) (b : Nat → Bool) (hm1 : 1 ≤ m) (hm : m ≤ 48) (hfi : fi ≤ m) (hl : l.length ≤ 2300) (hb : ∀ k, k < m → b k = decide (lb x ((fi + k) % m) = u)) : ∀ (k i : Nat) (g : Nat → Int32), i + k = m + 1 → Lst g (l ++ rs (lnB b m) i) → zW 0 sc miX11_runsOf 79 [some (.ref 47), some (.long x), none, some (.int (nI m)), some (.int (bb u)), none, some (.int (nI fi)), some (.int (nI (rl (lnB b m) i))), some (.int (nI i)), none] [] (mm f (upd I 19 (nI (l ++ rs (lnB b m) i).length)) (va_up A 19 g) B) (RnP f I A B (l ++ rnB b m)) := by
  intro k
  induction k with
  | zero =>
    intro i g hi hg
    have e1 : i = m + 1 := by omega
    subst e1
    refine zw_nx rfl (fun _ _ => rfl) ?_
    repeat (refine zw_go rfl rfl (fun _ _ => rfl) ?_)
    first | refine zw_br rfl (fun _ _ => rfl) (fun _ => ?_) (fun h9 => absurd (show nI m < nI (m + 1) from nI_lt (by omega) (by omega)) h9) | refine zw_nx rfl (fun _ _ => rfl) ?_
    repeat (refine zw_go rfl rfl (fun _ _ => rfl) ?_)
    exact zw_ret rfl (fun _ _ => rfl) (⟨rfl, g, rfl, hg⟩)
  | succ k ih =>
    intro i g hi hg
    have hle := rl_le (b := lnB b m) (i := i)
    have hlen := rs_len (b := lnB b m) (i := i)
    have hn1 := fun g' => ih (i + 1) g' (by omega)
    have hll : (l ++ rs (lnB b m) i).length = l.length + (rs (lnB b m) i).length := List.length_append
    refine zw_nx rfl (fun _ _ => rfl) ?_
    repeat (refine zw_go rfl rfl (fun _ _ => rfl) ?_)
    first | refine zw_br rfl (fun _ _ => rfl) (fun h9 => absurd h9 (show ¬ nI m < nI i from nI_nlt (by omega) (by omega))) (fun _ => ?_) | refine zw_nx rfl (fun _ _ => rfl) ?_
    repeat (refine zw_go rfl rfl (fun _ _ => rfl) ?_)
    have close : lnB b m i = false → zW 0 sc miX11_runsOf 121 [some (.ref 47), some (.long x), none, some (.int (nI m)), some (.int (bb u)), none, some (.int (nI fi)), some (.int (nI (rl (lnB b m) i))), some (.int (nI i)), none] [] (mm f (upd I 19 (nI (l ++ rs (lnB b m) i).length)) (va_up A 19 g) B) (RnP f I A B (l ++ rnB b m)) := by
      intro hf
      rw [nI_succ, rl, rs, hf, if_neg (show ¬ (false = true) by simp), if_neg (show ¬ (false = true) by simp)] at hn1
      by_cases h0 : rl (lnB b m) i = 0
      · rw [if_pos h0] at hn1
        rw [h0]
        repeat (refine zw_go rfl rfl (fun _ _ => rfl) ?_)
        exact zw_kp (hn1 g hg)
      · rw [if_neg h0] at hn1
        repeat (refine zw_go rfl rfl (fun _ _ => rfl) ?_)
        first | refine zw_br rfl (fun _ _ => rfl) (fun h9 => absurd h9 (show ¬ nI (rl (lnB b m) i) ≤ 0 from nI_nle (by omega) (by omega))) (fun _ => ?_) | refine zw_nx rfl (fun _ _ => rfl) ?_
        repeat (refine zw_go rfl rfl (fun _ _ => rfl) ?_)
        refine zw_ix rfl (fun _ _ => rfl) (show vp_in (nI (l ++ rs (lnB b m) i).length) _ from vp_in_nI (by omega) (by omega)) ?_
        rw [show (upd I 19 (nI (l ++ rs (lnB b m) i).length) 19).toNatClampNeg = (l ++ rs (lnB b m) i).length from nI_clamp (by omega)]
        repeat (refine zw_go rfl rfl (fun _ _ => rfl) ?_)
        have h5 := hn1 (upd g (l ++ rs (lnB b m) i).length (nI (rl (lnB b m) i))) (by rw [← List.append_assoc]; exact lst_add hg)
        rw [← List.append_assoc, List.length_append, List.length_singleton, ← upd_upd I 19 (nI (l ++ rs (lnB b m) i).length), ← nI_1] at h5
        exact zw_kp h5
    refine zw_br rfl (fun _ _ => rfl) (fun (hc : nI m ≤ nI i) => ?_) (fun (hc : ¬ (nI m ≤ nI i)) => ?_)
    · rw [nI_leI (by omega) (by omega)] at hc
      exact close (by unfold lnB; rw [decide_eq_false (by omega)]; rfl)
    · rw [nI_leI (by omega) (by omega)] at hc
      have him : i < m := by omega
      repeat (refine zw_go rfl rfl (fun _ _ => rfl) ?_)
      have hz : ¬ nI m = 0 := nI_ne0 (by omega) (by omega)
      refine zw_nx rfl (fun cal k => if_neg hz) ?_
      rw [nI_add fi i, pk_rem (by omega) (by omega) (by omega)]
      have l5 := Nat.mod_lt (fi + i) (show m > 0 by omega)
      have hbi := hb i him
      have hbit := bit_is x (k := (fi + i) % m) (by omega) u
      have fin : (lb x ((fi + i) % m) = u → zW 0 sc miX11_runsOf 124 [some (.ref 47), some (.long x), none, some (.int (nI m)), some (.int (bb u)), none, some (.int (nI fi)), some (.int (nI (rl (lnB b m) i))), some (.int (nI i)), some (.int 1)] [] (mm f (upd I 19 (nI (l ++ rs (lnB b m) i).length)) (va_up A 19 g) B) (RnP f I A B (l ++ rnB b m))) := by
        intro h7
        have hb2 : lnB b m i = true := by unfold lnB; rw [hbi, h7, decide_eq_true him, decide_eq_true rfl]; rfl
        rw [nI_succ, rl, rs, hb2, if_pos rfl, if_pos rfl, ← nI_1] at hn1
        repeat (refine zw_go rfl rfl (fun _ _ => rfl) ?_)
        exact zw_kp (hn1 g hg)
      repeat (refine zw_go rfl rfl (fun _ _ => rfl) ?_)
      refine zw_br rfl (fun _ _ => rfl) (fun (h6 : lg_cmp ((x >>> ((nI ((fi + i) % m)).toInt64 &&& 63)) &&& 1) 1 = 0) => ?_) (fun (h6 : ¬ (lg_cmp ((x >>> ((nI ((fi + i) % m)).toInt64 &&& 63)) &&& 1) 1 = 0)) => ?_)
      · rw [if_pos h6] at hbit
        repeat (refine zw_go rfl rfl (fun _ _ => rfl) ?_)
        refine zw_br rfl (fun _ _ => rfl) (fun (h7 : (1 : Int32) = bb u) => ?_) (fun (h7 : ¬ ((1 : Int32) = bb u)) => ?_)
        · refine zw_nx rfl (fun _ _ => rfl) ?_
          refine zw_nx rfl (fun _ _ => rfl) ?_
          refine zw_nx rfl (fun _ _ => rfl) ?_
          exact fin (hbit.mp h7)
        · exact close (by unfold lnB; rw [hbi, decide_eq_false (fun z => h7 (hbit.mpr z)), Bool.and_false])
      · rw [if_neg h6] at hbit
        repeat (refine zw_go rfl rfl (fun _ _ => rfl) ?_)
        refine zw_br rfl (fun _ _ => rfl) (fun (h7 : (0 : Int32) = bb u) => ?_) (fun (h7 : ¬ ((0 : Int32) = bb u)) => ?_)
        · refine zw_nx rfl (fun _ _ => rfl) ?_
          refine zw_nx rfl (fun _ _ => rfl) ?_
          refine zw_nx rfl (fun _ _ => rfl) ?_
          exact fin (hbit.mp h7)
        · exact close (by unfold lnB; rw [hbi, decide_eq_false (fun z => h7 (hbit.mpr z)), Bool.and_false])
set_option maxHeartbeats 4000000 in
set_option maxRecDepth 20000 in
theorem mRunsOf (x : Int64) (m : Nat) (u over : Bool) (l : List Nat) (hm1 : 1 ≤ m) (hm : m ≤ 48) (hl : l.length ≤ 2300) (h19 : I 19 = nI l.length) (hL : Lst (A 19) l) : zC 1 sc 207 [.ref 47, .long x, .int (nI m), .int (bb u), .int (bb over)] (mm f I A B) (RnP f I A B (l ++ rnB (ovB over (fun k => decide (lb x k = u)) m) m)) := by
  refine zc_of hkX11_runsOf rfl ?_
  have eI : upd I 19 (nI l.length) = I := by
    rw [← h19]
    funext z
    unfold upd
    by_cases hz : z = 19
    · rw [if_pos hz, hz]
    · rw [if_neg hz]
  have scan : ∀ fi, fi ≤ m → (∀ k, k < m → ovB over (fun k => decide (lb x k = u)) m k = decide (lb x ((fi + k) % m) = u)) → zW 0 sc miX11_runsOf 79 [some (.ref 47), some (.long x), none, some (.int (nI m)), some (.int (bb u)), none, some (.int (nI fi)), some (.int 0), some (.int 0), none] [] (mm f I A B) (RnP f I A B (l ++ rnB (ovB over (fun k => decide (lb x k = u)) m) m)) := by
    intro fi hfi hb
    have h5 := mRunsOf_l sc I A B f x m u fi l (ovB over (fun k => decide (lb x k = u)) m) hm1 hm hfi hl hb (m + 1) 0 (A 19) (by omega) (by rw [rs, List.append_nil]; exact hL)
    rw [rs, List.append_nil, eI, rl] at h5
    exact h5
  repeat (refine zw_go rfl rfl (fun _ _ => rfl) ?_)
  cases over
  · refine zw_nx rfl (fun _ _ => rfl) ?_
    repeat (refine zw_go rfl rfl (fun _ _ => rfl) ?_)
    exact zw_kp (scan 0 (by omega) (fun k hk => by
      rw [Nat.zero_add, Nat.mod_eq_of_lt hk]
      rfl))
  · obtain ⟨g1, g2⟩ := gpF_le (b := fun k => decide (lb x k = u)) (k := m) (i := 0)
    have fst : ∀ (k i : Nat), i + k = m → gpF (fun k => decide (lb x k = u)) k i = gpF (fun k => decide (lb x k = u)) m 0 → zW 0 sc miX11_runsOf 3 [some (.ref 47), some (.long x), none, some (.int (nI m)), some (.int (bb u)), some (.int 1), some (.int (nI i)), none, none, none] [] (mm f I A B) (RnP f I A B (l ++ rnB (ovB true (fun k => decide (lb x k = u)) m) m)) := by
      intro k
      induction k with
      | zero =>
        intro i hi hgp
        have e1 : i = m := by omega
        subst e1
        rw [gpF] at hgp
        refine zw_nx rfl (fun _ _ => rfl) ?_
        repeat (refine zw_go rfl rfl (fun _ _ => rfl) ?_)
        first | refine zw_br rfl (fun _ _ => rfl) (fun _ => ?_) (fun h9 => absurd (show nI i ≤ nI i from Int32.le_refl _) h9) | refine zw_nx rfl (fun _ _ => rfl) ?_
        repeat (refine zw_go rfl rfl (fun _ _ => rfl) ?_)
        first | refine zw_br rfl (fun _ _ => rfl) (fun _ => ?_) (fun h9 => absurd (rfl) h9) | refine zw_nx rfl (fun _ _ => rfl) ?_
        repeat (refine zw_go rfl rfl (fun _ _ => rfl) ?_)
        rw [h19]
        refine zw_ix rfl (fun _ _ => rfl) (show vp_in (nI (l.length)) _ from vp_in_nI (by omega) (by omega)) ?_
        rw [show (nI (l.length)).toNatClampNeg = l.length from nI_clamp (by omega)]
        repeat (refine zw_go rfl rfl (fun _ _ => rfl) ?_)
        have hall : rnB (ovB true (fun k => decide (lb x k = u)) i) i = [i] := rnB_all hm1 (fun j hj => by
          show decide (lb x ((gpF (fun k => decide (lb x k = u)) i 0 + j) % i) = u) = true
          rw [← hgp, add_mod1 (by omega) (by omega), Nat.add_sub_cancel_left]
          exact gpF_up (b := fun k => decide (lb x k = u)) (k := i) (i := 0) (Nat.zero_le j) (by rw [← hgp]; exact hj))
        rw [hall]
        refine zw_ret rfl (fun _ _ => rfl) ?_
        refine ⟨rfl, upd (A 19) l.length (nI i), ?_, lst_add hL⟩
        rw [List.length_append, List.length_singleton, ← nI_1, ← h19]
        rfl
      | succ k ih =>
        intro i hi hgp
        have hn1 := ih (i + 1) (by omega)
        rw [nI_succ] at hn1
        rw [gpF] at hgp
        have hbit := bit_is x (k := i) (by omega) u
        have stop : ¬ lb x i = u → zW 0 sc miX11_runsOf 41 [some (.ref 47), some (.long x), none, some (.int (nI m)), some (.int (bb u)), some (.int 1), some (.int (nI i)), none, none, none] [] (mm f I A B) (RnP f I A B (l ++ rnB (ovB true (fun k => decide (lb x k = u)) m) m)) := by
          intro h5
          rw [if_neg (by simpa using h5)] at hgp
          repeat (refine zw_go rfl rfl (fun _ _ => rfl) ?_)
          refine zw_br rfl (fun _ _ => rfl) (fun (h6 : nI i = nI m) => ?_) (fun (h6 : ¬ (nI i = nI m)) => ?_)
          · rw [nI_eq (by omega) (by omega)] at h6
            omega
          · repeat (refine zw_go rfl rfl (fun _ _ => rfl) ?_)
            exact zw_kp (scan i (by omega) (fun q hq => by
              show decide (lb x ((gpF (fun k => decide (lb x k = u)) m 0 + q) % m) = u) = _
              rw [← hgp]))
        have go : lb x i = u → zW 0 sc miX11_runsOf 35 [some (.ref 47), some (.long x), none, some (.int (nI m)), some (.int (bb u)), some (.int 1), some (.int (nI i)), none, none, none] [] (mm f I A B) (RnP f I A B (l ++ rnB (ovB true (fun k => decide (lb x k = u)) m) m)) := by
          intro h5
          rw [if_pos (by simpa using h5)] at hgp
          repeat (refine zw_go rfl rfl (fun _ _ => rfl) ?_)
          exact zw_kp (hn1 hgp)
        refine zw_nx rfl (fun _ _ => rfl) ?_
        repeat (refine zw_go rfl rfl (fun _ _ => rfl) ?_)
        refine zw_br rfl (fun _ _ => rfl) (fun h9 => absurd h9 (nI_ge (a := i) (b := m) (by omega) (by omega))) (fun _ => ?_)
        repeat (refine zw_go rfl rfl (fun _ _ => rfl) ?_)
        refine zw_br rfl (fun _ _ => rfl) (fun (h6 : lg_cmp ((x >>> ((nI i).toInt64 &&& 63)) &&& 1) 1 = 0) => ?_) (fun (h6 : ¬ (lg_cmp ((x >>> ((nI i).toInt64 &&& 63)) &&& 1) 1 = 0)) => ?_)
        · rw [if_pos h6] at hbit
          repeat (refine zw_go rfl rfl (fun _ _ => rfl) ?_)
          refine zw_br rfl (fun _ _ => rfl) (fun (h7 : (1 : Int32) = bb u) => ?_) (fun (h7 : ¬ ((1 : Int32) = bb u)) => ?_)
          · exact go (hbit.mp h7)
          · exact stop (fun z => h7 (hbit.mpr z))
        · rw [if_neg h6] at hbit
          repeat (refine zw_go rfl rfl (fun _ _ => rfl) ?_)
          refine zw_br rfl (fun _ _ => rfl) (fun (h7 : (0 : Int32) = bb u) => ?_) (fun (h7 : ¬ ((0 : Int32) = bb u)) => ?_)
          · exact go (hbit.mp h7)
          · exact stop (fun z => h7 (hbit.mpr z))
    exact zw_kp (fst m 0 (by omega) rfl)
/-- behind findRuns -/
def FrP (f : Nat → va_E) (I : Nat → Int32) (A : Nat → Nat → Int32) (B : Nat → Nat → Int64) (l : List Nat) : sm_M → Option Value → Prop := fun M r => r = none ∧ ∃ I' A' B', M = mm f I' A' B' ∧ MK I A B I' A' B' ∧ I' 19 = nI l.length ∧ Lst (A' 19) l
theorem ovB_cong {over : Bool} {b c : Nat → Bool} {n : Nat} (h : ∀ i, i < n → b i = c i) (hn : 1 ≤ n) : ∀ i, i < n → ovB over b n i = ovB over c n i := by
  have hg : ∀ k i, i + k ≤ n → gpF b k i = gpF c k i := by
    intro k
    induction k with
    | zero => intro i _; rfl
    | succ k ih => intro i hi; rw [gpF, gpF, h i (by omega), ih (i + 1) (by omega)]
  intro i hi
  unfold ovB
  rw [hg n 0 (by omega), h i hi, h _ (Nat.mod_lt _ (by omega))]
set_option maxHeartbeats 4000000 in
set_option maxRecDepth 20000 in
theorem mFindRuns (warp over : Bool) (hM : MH I A w h n V) : zC 5 sc 208 [.ref 47, .int (bb warp), .int (bb over)] (mm f I A B) (FrP f I A B (flA V warp over (flN warp w h) (flM warp w h))) := by
  have hM' := hM
  obtain ⟨h0, h1, hw1, hw, hh1, hh, h4, hn, hv, hV⟩ := hM
  refine zc_of hkX11_findRuns rfl ?_
  repeat (refine zw_go rfl rfl (fun _ _ => rfl) ?_)
  refine zw_call rfl (fun _ _ => rfl) (mD sc I A B f w h n V hM') (by decide) ?_
  rintro M1 r1 ⟨rfl, A1, B', rfl, hD⟩
  have hK := dr_mk (I := I) hD
  repeat (refine zw_go rfl rfl (fun _ _ => rfl) ?_)
  cases warp
  · refine zw_nx rfl (fun _ _ => rfl) ?_
    repeat (refine zw_go rfl rfl (fun _ _ => rfl) ?_)
    have key : ∀ (k i : Nat) (I' : Nat → Int32) (A' : Nat → Nat → Int32), i + k = h → MK I A B I' A' B' → I' 19 = nI (flA V false over w i).length → Lst (A' 19) (flA V false over w i) → zW 4 sc miX11_findRuns 47 [some (.ref 47), some (.int 0), some (.int (bb over)), some (.int (nI i))] [] (mm f I' A' B') (FrP f I A B (flA V false over w h)) := by
      intro k
      induction k with
      | zero =>
        intro i I' A' hi hK' h19 hL
        have e1 : i = h := by omega
        subst e1
        refine zw_nx rfl (fun _ _ => rfl) ?_
        repeat (refine zw_go rfl rfl (fun _ _ => rfl) ?_)
        first | refine zw_br rfl (fun _ _ => rfl) (fun _ => ?_) (fun h9 => absurd (show I' 1 ≤ nI i by rw [hK'.1 1 (by decide), h1]; exact Int32.le_refl _) h9) | refine zw_nx rfl (fun _ _ => rfl) ?_
        repeat (refine zw_go rfl rfl (fun _ _ => rfl) ?_)
        exact zw_ret rfl (fun _ _ => rfl) (⟨rfl, I', A', B', rfl, hK', h19, hL⟩)
      | succ k ih =>
        intro i I' A' hi hK' h19 hL
        have hlen := flA_len (V := V) (warp := false) (over := over) hw (i := i)
        refine zw_nx rfl (fun _ _ => rfl) ?_
        repeat (refine zw_go rfl rfl (fun _ _ => rfl) ?_)
        first | refine zw_br rfl (fun _ _ => rfl) (fun h9 => absurd h9 (show ¬ I' 1 ≤ nI i by rw [hK'.1 1 (by decide), h1]; exact nI_ge (by omega) (by omega))) (fun _ => ?_) | refine zw_nx rfl (fun _ _ => rfl) ?_
        repeat (refine zw_go rfl rfl (fun _ _ => rfl) ?_)
        refine zw_ix rfl (fun _ _ => rfl) (show vp_in (nI (i)) _ from vp_in_nI (by omega) (by omega)) ?_
        rw [show (nI (i)).toNatClampNeg = i from nI_clamp (by omega)]
        repeat (refine zw_go rfl rfl (fun _ _ => rfl) ?_)
        rw [hK'.1 0 (by decide), h0]
        refine zw_call rfl (fun _ _ => rfl) (mRunsOf sc I' A' B' f (B' 0 i) w false over (flA V false over w i) hw1 hw (by omega) h19 hL) (by decide) ?_
        rintro M1 r1 ⟨rfl, g, rfl, hg⟩
        have e5 : rnB (ovB over (fun k => decide (lb (B' 0 i) k = false)) w) w = rnB (flB V false over w i) w := rnB_cong (ovB_cong (fun q hq => by
          rw [hD.2.2.2.2.1 i (by omega), lb_mk_in (by omega) hq]
          show _ = !vUp V q i
          cases vUp V q i <;> rfl) hw1)
        rw [e5] at hg ⊢
        have hn2 := ih (i + 1) (upd I' 19 (nI (flA V false over w i ++ rnB (flB V false over w i) w).length)) (va_up A' 19 g) (by omega) ⟨fun z hz => by
          unfold upd
          rw [if_neg (by omega)]
          exact hK'.1 z hz, fun a ha => by
          unfold va_up
          rw [if_neg (by omega)]
          exact hK'.2.1 a ha, hK'.2.2.1, hK'.2.2.2⟩ rfl hg
        rw [nI_succ] at hn2
        repeat (refine zw_go rfl rfl (fun _ _ => rfl) ?_)
        exact zw_kp hn2
    exact zw_kp (key h 0 (upd I 19 0) A1 (by omega) ⟨fun z hz => by
      unfold upd
      rw [if_neg (by omega)], hK.2.1, hK.2.2.1, hK.2.2.2⟩ rfl (fun j hj => by cases hj))
  · have key : ∀ (k i : Nat) (I' : Nat → Int32) (A' : Nat → Nat → Int32), i + k = w → MK I A B I' A' B' → I' 19 = nI (flA V true over h i).length → Lst (A' 19) (flA V true over h i) → zW 4 sc miX11_findRuns 11 [some (.ref 47), some (.int 1), some (.int (bb over)), some (.int (nI i))] [] (mm f I' A' B') (FrP f I A B (flA V true over h w)) := by
      intro k
      induction k with
      | zero =>
        intro i I' A' hi hK' h19 hL
        have e1 : i = w := by omega
        subst e1
        refine zw_nx rfl (fun _ _ => rfl) ?_
        repeat (refine zw_go rfl rfl (fun _ _ => rfl) ?_)
        first | refine zw_br rfl (fun _ _ => rfl) (fun _ => ?_) (fun h9 => absurd (show I' 0 ≤ nI i by rw [hK'.1 0 (by decide), h0]; exact Int32.le_refl _) h9) | refine zw_nx rfl (fun _ _ => rfl) ?_
        repeat (refine zw_go rfl rfl (fun _ _ => rfl) ?_)
        refine zw_nx rfl (fun _ _ => rfl) ?_
        repeat (refine zw_go rfl rfl (fun _ _ => rfl) ?_)
        exact zw_ret rfl (fun _ _ => rfl) (⟨rfl, I', A', B', rfl, hK', h19, hL⟩)
      | succ k ih =>
        intro i I' A' hi hK' h19 hL
        have hlen := flA_len (V := V) (warp := true) (over := over) hh (i := i)
        refine zw_nx rfl (fun _ _ => rfl) ?_
        repeat (refine zw_go rfl rfl (fun _ _ => rfl) ?_)
        first | refine zw_br rfl (fun _ _ => rfl) (fun h9 => absurd h9 (show ¬ I' 0 ≤ nI i by rw [hK'.1 0 (by decide), h0]; exact nI_ge (by omega) (by omega))) (fun _ => ?_) | refine zw_nx rfl (fun _ _ => rfl) ?_
        repeat (refine zw_go rfl rfl (fun _ _ => rfl) ?_)
        refine zw_ix rfl (fun _ _ => rfl) (show vp_in (nI (i)) _ from vp_in_nI (by omega) (by omega)) ?_
        rw [show (nI (i)).toNatClampNeg = i from nI_clamp (by omega)]
        repeat (refine zw_go rfl rfl (fun _ _ => rfl) ?_)
        rw [hK'.1 1 (by decide), h1]
        refine zw_call rfl (fun _ _ => rfl) (mRunsOf sc I' A' B' f (B' 1 i) h true over (flA V true over h i) hh1 hh (by omega) h19 hL) (by decide) ?_
        rintro M1 r1 ⟨rfl, g, rfl, hg⟩
        have e5 : rnB (ovB over (fun k => decide (lb (B' 1 i) k = true)) h) h = rnB (flB V true over h i) h := rnB_cong (ovB_cong (fun q hq => by
          rw [hD.2.2.2.2.2.1 i (by omega), lb_mk_in (by omega) hq]
          show _ = vUp V i q
          cases vUp V i q <;> rfl) hh1)
        rw [e5] at hg ⊢
        have hn2 := ih (i + 1) (upd I' 19 (nI (flA V true over h i ++ rnB (flB V true over h i) h).length)) (va_up A' 19 g) (by omega) ⟨fun z hz => by
          unfold upd
          rw [if_neg (by omega)]
          exact hK'.1 z hz, fun a ha => by
          unfold va_up
          rw [if_neg (by omega)]
          exact hK'.2.1 a ha, hK'.2.2.1, hK'.2.2.2⟩ rfl hg
        rw [nI_succ] at hn2
        repeat (refine zw_go rfl rfl (fun _ _ => rfl) ?_)
        exact zw_kp hn2
    exact zw_kp (key w 0 (upd I 19 0) A1 (by omega) ⟨fun z hz => by
      unfold upd
      rw [if_neg (by omega)], hK.2.1, hK.2.2.1, hK.2.2.2⟩ rfl (fun j hj => by cases hj))
set_option maxHeartbeats 4000000 in
set_option maxRecDepth 20000 in
theorem mLongest (warp over : Bool) (hM : MH I A w h n V) : zC 6 sc 209 [.ref 47, .int (bb warp), .int (bb over)] (mm f I A B) (fun M r => r = some (.int (nI (mxL (flA V warp over (flN warp w h) (flM warp w h))))) ∧ MR f I A B M) := by
  have hw := hM.2.2.2.1
  have hh := hM.2.2.2.2.2.1
  have hn : flN warp w h ≤ 48 := by unfold flN; split <;> omega
  have hm : flM warp w h ≤ 48 := by unfold flM; split <;> omega
  have hlen := flA_len (V := V) (warp := warp) (over := over) hn (i := flM warp w h)
  have hel := fun x (hx : x ∈ flA V warp over (flN warp w h) (flM warp w h)) => flA_el hx
  refine zc_of hkX11_longest rfl ?_
  repeat (refine zw_go rfl rfl (fun _ _ => rfl) ?_)
  refine zw_call rfl (fun _ _ => rfl) (mFindRuns sc I A B f w h n V warp over hM) (by decide) ?_
  generalize flA V warp over (flN warp w h) (flM warp w h) = l at hlen hel ⊢
  rintro M1 r1 ⟨rfl, I', A', B', rfl, hK, h19, hL⟩
  repeat (refine zw_go rfl rfl (fun _ _ => rfl) ?_)
  have key : ∀ (k i : Nat), i + k = l.length → zW 5 sc miX11_longest 11 [some (.ref 47), none, none, some (.int (nI (mxL (l.take i)))), some (.int (nI i))] [] (mm f I' A' B') (fun M r => r = some (.int (nI (mxL l))) ∧ MR f I A B M) := by
    intro k
    induction k with
    | zero =>
      intro i hi
      refine zw_nx rfl (fun _ _ => rfl) ?_
      repeat (refine zw_go rfl rfl (fun _ _ => rfl) ?_)
      first | refine zw_br rfl (fun _ _ => rfl) (fun _ => ?_) (fun h9 => absurd (show I' 19 ≤ nI i by rw [h19]; exact nI_le (by omega) (by omega)) h9) | refine zw_nx rfl (fun _ _ => rfl) ?_
      repeat (refine zw_go rfl rfl (fun _ _ => rfl) ?_)
      exact zw_ret rfl (fun _ _ => rfl) (⟨by rw [show i = l.length by omega, List.take_length], I', A', B', rfl, hK⟩)
    | succ k ih =>
      intro i hi
      have hn1 := ih (i + 1) (by omega)
      rw [nI_succ, take_s (by omega), mxL_app] at hn1
      have hx : l.getD i 0 ≤ 48 := by
        have : l.getD i 0 ∈ l := by
          rw [List.getD, List.getElem?_eq_getElem (show i < l.length by omega)]
          exact List.getElem_mem _
        have := hel _ this
        omega
      have hmx : mxL (l.take i) ≤ 48 := by
        rcases mxL_in (l := l.take i) with h5 | h5
        · omega
        · have := hel _ (List.mem_of_mem_take h5); omega
      refine zw_nx rfl (fun _ _ => rfl) ?_
      repeat (refine zw_go rfl rfl (fun _ _ => rfl) ?_)
      first | refine zw_br rfl (fun _ _ => rfl) (fun h9 => absurd h9 (show ¬ I' 19 ≤ nI i by rw [h19]; exact nI_ge (by omega) (by omega))) (fun _ => ?_) | refine zw_nx rfl (fun _ _ => rfl) ?_
      repeat (refine zw_go rfl rfl (fun _ _ => rfl) ?_)
      refine zw_ix rfl (fun _ _ => rfl) (show vp_in (nI (i)) _ from vp_in_nI (by omega) (by omega)) ?_
      rw [show (nI (i)).toNatClampNeg = i from nI_clamp (by omega)]
      repeat (refine zw_go rfl rfl (fun _ _ => rfl) ?_)
      rw [hL i (by omega)]
      refine zw_br rfl (fun _ _ => rfl) (fun (hc : nI (l.getD i 0) ≤ nI (mxL (l.take i))) => ?_) (fun (hc : ¬ (nI (l.getD i 0) ≤ nI (mxL (l.take i)))) => ?_)
      · rw [nI_leI (by omega) (by omega)] at hc
        rw [if_neg (by omega)] at hn1
        repeat (refine zw_go rfl rfl (fun _ _ => rfl) ?_)
        exact zw_kp hn1
      · rw [nI_leI (by omega) (by omega)] at hc
        rw [if_pos (by omega)] at hn1
        repeat (refine zw_go rfl rfl (fun _ _ => rfl) ?_)
        refine zw_ix rfl (fun _ _ => rfl) (show vp_in (nI (i)) _ from vp_in_nI (by omega) (by omega)) ?_
        rw [show (nI (i)).toNatClampNeg = i from nI_clamp (by omega)]
        repeat (refine zw_go rfl rfl (fun _ _ => rfl) ?_)
        rw [hL i (by omega)]
        exact zw_kp hn1
  exact zw_kp (key l.length 0 (by omega))
set_option maxHeartbeats 4000000 in
set_option maxRecDepth 20000 in
theorem mFloats (warp over : Bool) (m : Int32) (hM : MH I A w h n V) : zC 6 sc 210 [.ref 47, .int (bb warp), .int (bb over), .int m] (mm f I A B) (fun M r => r = some (.int (nI (gtC m (flA V warp over (flN warp w h) (flM warp w h))))) ∧ MR f I A B M) := by
  have hw := hM.2.2.2.1
  have hh := hM.2.2.2.2.2.1
  have hn : flN warp w h ≤ 48 := by unfold flN; split <;> omega
  have hm : flM warp w h ≤ 48 := by unfold flM; split <;> omega
  have hlen := flA_len (V := V) (warp := warp) (over := over) hn (i := flM warp w h)
  refine zc_of hkX11_floats rfl ?_
  repeat (refine zw_go rfl rfl (fun _ _ => rfl) ?_)
  refine zw_call rfl (fun _ _ => rfl) (mFindRuns sc I A B f w h n V warp over hM) (by decide) ?_
  generalize flA V warp over (flN warp w h) (flM warp w h) = l at hlen ⊢
  rintro M1 r1 ⟨rfl, I', A', B', rfl, hK, h19, hL⟩
  repeat (refine zw_go rfl rfl (fun _ _ => rfl) ?_)
  have key : ∀ (k i : Nat), i + k = l.length → zW 5 sc miX11_floats 12 [some (.ref 47), none, none, some (.int m), some (.int (nI (gtC m (l.take i)))), some (.int (nI i))] [] (mm f I' A' B') (fun M r => r = some (.int (nI (gtC m l))) ∧ MR f I A B M) := by
    intro k
    induction k with
    | zero =>
      intro i hi
      refine zw_nx rfl (fun _ _ => rfl) ?_
      repeat (refine zw_go rfl rfl (fun _ _ => rfl) ?_)
      first | refine zw_br rfl (fun _ _ => rfl) (fun _ => ?_) (fun h9 => absurd (show I' 19 ≤ nI i by rw [h19]; exact nI_le (by omega) (by omega)) h9) | refine zw_nx rfl (fun _ _ => rfl) ?_
      repeat (refine zw_go rfl rfl (fun _ _ => rfl) ?_)
      exact zw_ret rfl (fun _ _ => rfl) (⟨by rw [show i = l.length by omega, List.take_length], I', A', B', rfl, hK⟩)
    | succ k ih =>
      intro i hi
      have hn1 := ih (i + 1) (by omega)
      rw [nI_succ, take_s (by omega), gtC_app, show gtC m [l.getD i 0] = if m < nI (l.getD i 0) then 1 else 0 from Nat.add_zero _, ← nI_add] at hn1
      refine zw_nx rfl (fun _ _ => rfl) ?_
      repeat (refine zw_go rfl rfl (fun _ _ => rfl) ?_)
      first | refine zw_br rfl (fun _ _ => rfl) (fun h9 => absurd h9 (show ¬ I' 19 ≤ nI i by rw [h19]; exact nI_ge (by omega) (by omega))) (fun _ => ?_) | refine zw_nx rfl (fun _ _ => rfl) ?_
      repeat (refine zw_go rfl rfl (fun _ _ => rfl) ?_)
      refine zw_ix rfl (fun _ _ => rfl) (show vp_in (nI (i)) _ from vp_in_nI (by omega) (by omega)) ?_
      rw [show (nI (i)).toNatClampNeg = i from nI_clamp (by omega)]
      repeat (refine zw_go rfl rfl (fun _ _ => rfl) ?_)
      rw [hL i (by omega)]
      refine zw_br rfl (fun _ _ => rfl) (fun (hc : nI (l.getD i 0) ≤ m) => ?_) (fun (hc : ¬ (nI (l.getD i 0) ≤ m)) => ?_)
      · rw [if_neg (Int32.not_lt.mpr hc)] at hn1
        repeat (refine zw_go rfl rfl (fun _ _ => rfl) ?_)
        exact zw_kp hn1
      · rw [if_pos (Int32.not_le.mp hc)] at hn1
        repeat (refine zw_go rfl rfl (fun _ _ => rfl) ?_)
        exact zw_kp hn1
  exact zw_kp (key l.length 0 (by omega))
end

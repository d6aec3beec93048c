/-! the class: its reader, brackets that close, clauses that end -/
theorem xn_set {cur r o : List Nat} {t : tF} {I I' : Nat → Int32} {A A' : Nat → Nat → Int32} (h : XN (o ++ cur) t I A) (hl : r.length = cur.length) (h18 : I' 18 = I 18) (h19 : I' 19 = I 19) (h7 : ∀ i, i < (flt t ++ o).length → A' 7 i = A 7 i) (h7r : ∀ i, i < r.length → A' 7 ((flt t ++ o).length + i) = nI (gl r i)) (h8 : A' 8 = A 8) (h9 : A' 9 = A 9) (h10 : A' 10 = A 10) : XN (o ++ r) t I' A' := by
  have e1 : flt t ++ (o ++ cur) = (flt t ++ o) ++ cur := (List.append_assoc _ _ _).symm
  have e2 : flt t ++ (o ++ r) = (flt t ++ o) ++ r := (List.append_assoc _ _ _).symm
  refine ⟨?_, by rw [h19]; exact h.2.1, frX_cong h.2.2.1 (fun i _ => by rw [h8]) (fun i _ => by rw [h10]) (fun i _ => by rw [h9]), fun i hi => ?_⟩
  · rw [h18, h.1, e1, e2, List.length_append (as := flt t ++ o), List.length_append (as := flt t ++ o), hl]
  · rw [e2] at hi ⊢
    rw [List.length_append (as := flt t ++ o)] at hi
    rcases Nat.lt_or_ge i (flt t ++ o).length with h1 | h1
    · rw [gl_app h1, h7 i h1, h.2.2.2 i (by rw [e1, List.length_append (as := flt t ++ o)]; omega), e1, gl_app h1]
    · have e : i = (flt t ++ o).length + (i - (flt t ++ o).length) := by omega
      rw [e, gl_app2]
      exact h7r _ (by omega)
def revG (g : Nat → Int32) (S n j : Nat) : Nat → Int32 := fun x => if S ≤ x ∧ x < S + n ∧ (x - S < j ∨ n - 1 - j < x - S) then g (S + (n - 1 - (x - S))) else g x
theorem rev_0 {g : Nat → Int32} {S n : Nat} : revG g S n 0 = g := by
  funext x; unfold revG; rw [if_neg (by omega)]
theorem rev_s {g : Nat → Int32} {S n j : Nat} (hj : j < n - 1 - j) : upd (upd (revG g S n j) (S + j) (revG g S n j (S + (n - 1 - j)))) (S + (n - 1 - j)) (revG g S n j (S + j)) = revG g S n (j + 1) := by
  have e1 : revG g S n j (S + j) = g (S + j) := by unfold revG; rw [if_neg (by omega)]
  have e2 : revG g S n j (S + (n - 1 - j)) = g (S + (n - 1 - j)) := by unfold revG; rw [if_neg (by omega)]
  funext x
  rw [e1, e2]
  unfold upd
  by_cases h1 : x = S + (n - 1 - j)
  · rw [if_pos h1]
    unfold revG
    rw [if_pos (by omega), h1]
    congr 1
    omega
  · rw [if_neg h1]
    by_cases h2 : x = S + j
    · rw [if_pos h2]
      unfold revG
      rw [if_pos (by omega), h2]
      congr 1
      omega
    · rw [if_neg h2]
      unfold revG
      by_cases h3 : S ≤ x ∧ x < S + n ∧ (x - S < j ∨ n - 1 - j < x - S)
      · rw [if_pos h3, if_pos (by omega)]
      · rw [if_neg h3, if_neg (by omega)]
theorem rev_end {g : Nat → Int32} {S n j i : Nat} (hj : ¬ j < n - 1 - j) (hi : i < n) : revG g S n j (S + i) = g (S + (n - 1 - i)) := by
  unfold revG
  by_cases h3 : S ≤ S + i ∧ S + i < S + n ∧ (S + i - S < j ∨ n - 1 - j < S + i - S)
  · rw [if_pos h3, Nat.add_sub_cancel_left]
  · rw [if_neg h3]
    congr 1
    omega
theorem rev_lo {g : Nat → Int32} {S n j i : Nat} (hi : i < S) : revG g S n j i = g i := by
  unfold revG; rw [if_neg (by omega)]
theorem and15 : ∀ x, x < 16 → ∀ s, s < 16 → (nI x + nI s) &&& (Int8.ofInt 15).toInt32 = nI ((x + s) % 16) := by decide +kernel
theorem nI_2 (S : Nat) : nI (S + 1) - Int32.ofInt 2 = kI S := by
  cases S with
  | zero => decide
  | succ u => exact (nI_sub (a := u + 2) (b := 2) (by omega)).trans (nI_pred u).symm
theorem mod_s {i l : Nat} (h : 0 < l) : (i + 1) % l = if i % l + 1 < l then i % l + 1 else 0 := by
  have h1 := Nat.mod_lt i h
  rw [← Nat.mod_add_mod]
  split
  · rename_i h2; rw [Nat.mod_eq_of_lt h2]
  · rw [show i % l + 1 = l by omega, Nat.mod_self]
theorem gE_app {l : tE} {x : Nat × Nat × Int32} {i : Nat} (h : i < l.length) : gE (l ++ [x]) i = gE l i := by
  unfold gE
  rw [List.getD_eq_getElem?_getD, List.getD_eq_getElem?_getD, List.getElem?_append_left h]
theorem gE_end {l : tE} {x : Nat × Nat × Int32} : gE (l ++ [x]) l.length = x := by
  unfold gE
  rw [List.getD_eq_getElem?_getD, List.getElem?_append_right (Nat.le_refl _), Nat.sub_self]; rfl
/-- one more entry -/
theorem xe_add {n0 t0 : Nat} {en : tE} {I : Nat → Int32} {A : Nat → Nat → Int32} {a b : Nat} {v : Int32} (h : XE n0 t0 en I A) : XE n0 t0 (en ++ [(a, b, v)]) (upd I 3 (nI (n0 + en.length + 1))) (if n0 + en.length < 2000 then stA A (n0 + en.length) (nI (sb a + b)) v (I 4 + 1) else A) := by
  refine ⟨?_, h.2.1, fun i hi hn => ?_⟩
  · rw [List.length_append, List.length_singleton, ← Nat.add_assoc]; rfl
  · rw [List.length_append, List.length_singleton] at hi
    by_cases h1 : i = en.length
    · subst h1
      rw [gE_end, if_pos hn]
      refine ⟨pk_us, pk_us, ?_⟩
      show upd (A 2) (n0 + en.length) (I 4 + 1) (n0 + en.length) = _
      rw [pk_us, h.2.1, nI_1]
    · rw [gE_app (by omega)]
      have := h.2.2 i (by omega) hn
      split
      · refine ⟨?_, ?_, ?_⟩
        · show upd (A 0) (n0 + en.length) _ (n0 + i) = _
          rw [pk_un (by omega)]; exact this.1
        · show upd (A 1) (n0 + en.length) _ (n0 + i) = _
          rw [pk_un (by omega)]; exact this.2.1
        · show upd (A 2) (n0 + en.length) _ (n0 + i) = _
          rw [pk_un (by omega)]; exact this.2.2
      · exact this
theorem st_hi {A : Nat → Nat → Int32} {k : Nat} {s v t : Int32} {a : Nat} (ha : 2 < a) : (if k < 2000 then stA A k s v t else A) a = A a := by
  split
  · unfold stA va_up
    rw [if_neg (by omega), if_neg (by omega), if_neg (by omega)]
  · rfl
theorem st_lo {A : Nat → Nat → Int32} {k i : Nat} {s v t : Int32} {a : Nat} (ha : a ≤ 2) (hi : i < k) : (if k < 2000 then stA A k s v t else A) a i = A a i := by
  split
  · rcases (show a = 0 ∨ a = 1 ∨ a = 2 by omega) with rfl | rfl | rfl
    · show upd (A 0) k _ i = _
      rw [pk_un (by omega)]
    · show upd (A 1) k _ i = _
      rw [pk_un (by omega)]
    · show upd (A 2) k _ i = _
      rw [pk_un (by omega)]
  · rfl
section
variable (sc : sm_S) (I : Nat → Int32) (J : Nat → Int64) (A : Nat → Nat → Int32) (B : Nat → Nat → Int64) (tl : sm_M) (f : Nat → va_E) (n : Nat) (b : Nat → Nat) (w h n0 t0 p : Nat) (cl tg sh fi fp it : Nat) (cur : List Nat) (fr : tF) (bk : Nat → List Nat) (en : tE)
set_option maxHeartbeats 4000000 in
set_option maxRecDepth 20000 in
theorem xTurnBack (S k : Nat) (hk : 1 ≤ k) (hS : S + k ≤ 1800) : zC 2 sc 75 [.ref 16, .int (nI S), .int (nI (S + k))] (xm I J A B tl) (fun M r => r = none ∧ ∃ g, M = xm I J (va_up A 7 g) B tl ∧ (∀ i, i < S → g i = A 7 i) ∧ ∀ i, i < k → g (S + i) = A 7 (S + (k - 1 - i))) := by
  have loop : ∀ (z j : Nat), j + z = k → j ≤ k - 1 - j + 1 → zW 1 sc miX6_turnBack 7 [some (.ref 16), none, none, some (.int (nI (S + j))), some (.int (nI (S + (k - 1 - j)))), none] [] (xm I J (va_up A 7 (revG (A 7) S k j)) B tl) (fun M r => r = none ∧ ∃ g, M = xm I J (va_up A 7 g) B tl ∧ (∀ i, i < S → g i = A 7 i) ∧ ∀ i, i < k → g (S + i) = A 7 (S + (k - 1 - i))) := by
    intro z
    induction z with
    | zero =>
      intro j hj hj2
      refine zw_nx rfl (fun _ _ => rfl) ?_
      repeat (refine zw_go rfl rfl (fun _ _ => rfl) ?_)
      first | refine zw_br rfl (fun _ _ => rfl) (fun _ => ?_) (fun h9 => absurd (nI_le (a := S + (k - 1 - j)) (b := S + j) (by omega) (by omega)) h9) | refine zw_nx rfl (fun _ _ => rfl) ?_
      exact zw_ret rfl (fun _ _ => rfl) (⟨rfl, _, rfl, fun i hi => rev_lo hi, fun i hi => rev_end (by omega) hi⟩)
    | succ z ih =>
      intro j hj hj2
      by_cases hlt : j < k - 1 - j
      · have hne := ih (j + 1) (by omega) (by omega)
        rw [← rev_s hlt] at hne
        refine zw_nx rfl (fun _ _ => rfl) ?_
        repeat (refine zw_go rfl rfl (fun _ _ => rfl) ?_)
        first | refine zw_br rfl (fun _ _ => rfl) (fun h9 => absurd h9 (nI_ge (a := S + j) (b := S + (k - 1 - j)) (by omega) (by omega))) (fun _ => ?_) | refine zw_nx rfl (fun _ _ => rfl) ?_
        repeat (refine zw_go rfl rfl (fun _ _ => rfl) ?_)
        refine zw_call rfl (fun _ _ => rfl) (xNumberAt sc I J (va_up A 7 (revG (A 7) S k j)) B tl (S + j) (by omega)) (by decide) ?_
        rintro M1 r1 ⟨rfl, rfl⟩
        repeat (refine zw_go rfl rfl (fun _ _ => rfl) ?_)
        refine zw_call rfl (fun _ _ => rfl) (xNumberAt sc I J (va_up A 7 (revG (A 7) S k j)) B tl (S + (k - 1 - j)) (by omega)) (by decide) ?_
        rintro M1 r1 ⟨rfl, rfl⟩
        repeat (refine zw_go rfl rfl (fun _ _ => rfl) ?_)
        refine zw_call rfl (fun _ _ => rfl) (xPut sc I J (va_up A 7 (revG (A 7) S k j)) B tl (S + j) _ (by omega)) (by decide) ?_
        rintro M1 r1 ⟨rfl, rfl⟩
        repeat (refine zw_go rfl rfl (fun _ _ => rfl) ?_)
        refine zw_call rfl (fun _ _ => rfl) (xPut sc I J _ B tl (S + (k - 1 - j)) _ (by omega)) (by decide) ?_
        rintro M1 r1 ⟨rfl, rfl⟩
        repeat (refine zw_go rfl rfl (fun _ _ => rfl) ?_)
        rw [show nI (S + j) + Int32.ofInt 1 = nI (S + (j + 1)) from nI_1 (S + j), show nI (S + (k - 1 - j)) + Int32.ofInt (-1) = nI (S + (k - 1 - (j + 1))) from by
          rw [show S + (k - 1 - j) = (S + (k - 1 - (j + 1))) + 1 by omega, nI_dn]]
        exact zw_kp hne
      · refine zw_nx rfl (fun _ _ => rfl) ?_
        repeat (refine zw_go rfl rfl (fun _ _ => rfl) ?_)
        first | refine zw_br rfl (fun _ _ => rfl) (fun _ => ?_) (fun h9 => absurd (nI_le (a := S + (k - 1 - j)) (b := S + j) (by omega) (by omega)) h9) | refine zw_nx rfl (fun _ _ => rfl) ?_
        exact zw_ret rfl (fun _ _ => rfl) (⟨rfl, _, rfl, fun i hi => rev_lo hi, fun i hi => rev_end hlt hi⟩)
  refine zc_of hkX6_turnBack rfl ?_
  repeat (refine zw_go rfl rfl (fun _ _ => rfl) ?_)
  have st := loop k 0 (by omega) (by omega)
  rw [rev_0, va_up_id] at st
  rw [show nI (S + k) - Int32.ofInt 1 = nI (S + (k - 1 - 0)) from by
    rw [show S + k = (S + (k - 1 - 0)) + 1 by omega]; exact nI_pred _]
  exact zw_kp st
set_option maxHeartbeats 4000000 in
set_option maxRecDepth 20000 in
theorem xRaise2 (S k s : Nat) (hs : s < 16) (hS : S + k ≤ 1800) (l : List Nat) (hl : ∀ i, i < k → A 7 (S + i) = nI (gl l i)) (hl16 : ∀ i, gl l i < 16) : zC 2 sc 76 [.ref 16, .int (nI S), .int (nI (S + k)), .int (nI s)] (xm I J A B tl) (fun M r => r = none ∧ ∃ g, M = xm I J (va_up A 7 g) B tl ∧ (∀ i, i < S → g i = A 7 i) ∧ ∀ i, i < k → g (S + i) = nI ((gl l i + s) % 16)) := by
  have loop : ∀ (z j : Nat) (g : Nat → Int32), j + z = k → (∀ i, i < S → g i = A 7 i) → (∀ i, i < j → g (S + i) = nI ((gl l i + s) % 16)) → (∀ i, j ≤ i → i < k → g (S + i) = A 7 (S + i)) → zW 1 sc miX6_raiseNumbers 3 [some (.ref 16), none, some (.int (nI (S + k))), some (.int (nI s)), some (.int (nI (S + j)))] [] (xm I J (va_up A 7 g) B tl) (fun M r => r = none ∧ ∃ g, M = xm I J (va_up A 7 g) B tl ∧ (∀ i, i < S → g i = A 7 i) ∧ ∀ i, i < k → g (S + i) = nI ((gl l i + s) % 16)) := by
    intro z
    induction z with
    | zero =>
      intro j g hj h1 h2 h3
      refine zw_nx rfl (fun _ _ => rfl) ?_
      repeat (refine zw_go rfl rfl (fun _ _ => rfl) ?_)
      first | refine zw_br rfl (fun _ _ => rfl) (fun _ => ?_) (fun h9 => absurd (nI_le (a := S + k) (b := S + j) (by omega) (by omega)) h9) | refine zw_nx rfl (fun _ _ => rfl) ?_
      exact zw_ret rfl (fun _ _ => rfl) (⟨rfl, g, rfl, h1, fun i hi => h2 i (by omega)⟩)
    | succ z ih =>
      intro j g hj h1 h2 h3
      have hne := ih (j + 1) (upd g (S + j) (nI ((gl l j + s) % 16))) (by omega) (fun i hi => by unfold upd; rw [if_neg (by omega)]; exact h1 i hi) (fun i hi => by
        unfold upd
        by_cases h4 : i = j
        · rw [if_pos (by omega), h4]
        · rw [if_neg (by omega)]; exact h2 i (by omega)) (fun i h4 h5 => by
        unfold upd
        rw [if_neg (by omega)]; exact h3 i (by omega) h5)
      refine zw_nx rfl (fun _ _ => rfl) ?_
      repeat (refine zw_go rfl rfl (fun _ _ => rfl) ?_)
      first | refine zw_br rfl (fun _ _ => rfl) (fun h9 => absurd h9 (nI_ge (a := S + j) (b := S + k) (by omega) (by omega))) (fun _ => ?_) | refine zw_nx rfl (fun _ _ => rfl) ?_
      repeat (refine zw_go rfl rfl (fun _ _ => rfl) ?_)
      refine zw_call rfl (fun _ _ => rfl) (xNumberAt sc I J (va_up A 7 g) B tl (S + j) (by omega)) (by decide) ?_
      rintro M1 r1 ⟨rfl, rfl⟩
      rw [show va_up A 7 g 7 (S + j) = nI (gl l j) from (h3 j (Nat.le_refl _) (by omega)).trans (hl j (by omega))]
      repeat (refine zw_go rfl rfl (fun _ _ => rfl) ?_)
      rw [show (nI (gl l j) + nI s) &&& (Int8.ofInt 15).toInt32 = _ from and15 _ (hl16 j) s hs]
      refine zw_call rfl (fun _ _ => rfl) (xPut sc I J (va_up A 7 g) B tl (S + j) _ (by omega)) (by decide) ?_
      rintro M1 r1 ⟨rfl, rfl⟩
      repeat (refine zw_go rfl rfl (fun _ _ => rfl) ?_)
      rw [show nI (S + j) + Int32.ofInt 1 = nI (S + (j + 1)) from nI_1 (S + j)]
      exact zw_kp hne
  refine zc_of hkX6_raiseNumbers rfl ?_
  repeat (refine zw_go rfl rfl (fun _ _ => rfl) ?_)
  have st := loop k 0 (A 7) (by omega) (fun _ _ => rfl) (fun i hi => by omega) (fun _ _ _ => rfl)
  rw [va_up_id] at st
  exact zw_kp st
set_option maxHeartbeats 4000000 in
set_option maxRecDepth 20000 in
theorem xClose (o : List Nat) (s : Nat) (t : tF) (hX : XR n0 t0 (11, cl, tg, sh, fi, fp, cur, it, (o, s) :: t, bk, en) I A) (hT : TI w h (11, cl, tg, sh, fi, fp, cur, it, (o, s) :: t, bk, en) p) (ht : TkX I b n p) : zC 4 sc 74 [.ref 16] (xm I J A B tl) (fun M r => r = none ∧ XX n0 t0 (clR cl tg sh fi fp cur bk en (tkP b n p) ((o, s) :: t)) tl I J A B M) := by
  obtain ⟨xc, xb, xe, xn, xi, xj⟩ := hX
  obtain ⟨t1, t2, t3, t4, t5, t6, t7, t8, t9, t10, t11, t12, t13, t14, t15, t16, t17, t18⟩ := hT
  have xn := xn (by omega)
  have hf := xn.2.2.1
  have hoo := t4 (o, s) List.mem_cons_self
  have hol : o.length ≤ 200 := hoo.1.1
  have hs17 : s ≤ 17 := hoo.2
  have hflt := flt_len (fr := t) (fun q hq => t4 q (List.mem_cons_of_mem _ hq))
  have hcl : cur.length ≤ 200 := t2.1
  have hne := t10 (by omega)
  have hpos : 0 < cur.length := by
    cases hc : cur with
    | nil => exact absurd hc hne
    | cons _ _ => rw [List.length_cons]; omega
  rw [List.length_cons] at t3
  have e14 := ht.2.2.1
  have lS : (flt t ++ o).length = (flt t).length + o.length := List.length_append
  have lT : (flt ((o, s) :: t) ++ cur).length = (flt t ++ o).length + cur.length := List.length_append
  have e1 : flt t ++ (o ++ cur) = flt ((o, s) :: t) ++ cur := (List.append_assoc _ _ _).symm
  have xn2 : XN (o ++ cur) t (upd I 19 (nI t.length)) A := ⟨by show I 18 = _; rw [e1]; exact xn.1, rfl, hf.2.2.2, fun i hi => by rw [e1] at hi ⊢; exact xn.2.2.2 i hi⟩
  have a9 : A 9 t.length = nI ((flt t).length + o.length) := by rw [hf.2.2.1, lS]
  have vcur : ∀ i, i < cur.length → A 7 ((flt t ++ o).length + i) = nI (gl cur i) := fun i hi => by
    rw [xn.2.2.2 _ (by rw [lT]; omega)]
    exact congrArg nI (gl_app2 (l := flt t ++ o) (r := cur) (i := i))
  have hf19 : XF n0 I A (upd I 19 (nI t.length)) A := xf_i (fun z hz => by unfold upd; rw [if_neg (by omega)])
  show zC 4 sc 74 [.ref 16] (xm I J A B tl) (fun M r => r = none ∧ XX n0 t0 (if 200 < o.length + (shp s cur).length then bad 5 (tkP b n p) else .inl (9, cl, tg, sh, fi, fp, o ++ shp s cur, o.length, t, bk, en)) tl I J A B M)
  rw [shp_len]
  have fin : ∀ (g : Nat → Int32) (r : List Nat), r = shp s cur → r.length = cur.length → (∀ i, i < (flt t ++ o).length → g i = A 7 i) → (∀ i, i < r.length → g ((flt t ++ o).length + i) = nI (gl r i)) → zW 3 sc miX6_closeBracket 133 [some (.ref 16), none, none, none, none, none, none] [] (xm (upd I 19 (nI t.length)) J (va_up A 7 g) B tl) (fun M r => r = none ∧ XX n0 t0 (.inl (9, cl, tg, sh, fi, fp, o ++ shp s cur, o.length, t, bk, en)) tl I J A B M) := by
    intro g r hr hrl g1 g2
    rw [← hr]
    repeat (refine zw_go rfl rfl (fun _ _ => rfl) ?_)
    refine zw_ret rfl (fun _ _ => rfl) ?_
    refine ⟨rfl, upd (upd I 19 (nI t.length)) 20 (nI 9), va_up A 7 g, rfl, ⟨xc_to xc (by omega) rfl rfl rfl rfl rfl (fun z => by omega) (fun z => by omega), xb_cong xb rfl rfl, xe_cong xe rfl rfl (fun a ha => ?_), fun _ => xn_set xn2 hrl rfl rfl g1 g2 rfl rfl rfl, fun _ => a9, fun z => by omega⟩, fun z hz => ?_, fun a h1 h2 => ?_, fun a i h1 _ => ?_⟩
    · unfold va_up; rw [if_neg (by omega)]
    · unfold upd; rw [if_neg (by omega), if_neg (by omega)]
    · unfold va_up; rw [if_neg (by omega)]
    · unfold va_up; rw [if_neg (by omega)]
  have fin7 : ∀ (x1 x2 x3 x4 x5 : Option Value) (x6 : Option Value) (g : Nat → Int32) (r : List Nat), r = shp s cur → r.length = cur.length → (∀ i, i < (flt t ++ o).length → g i = A 7 i) → (∀ i, i < r.length → g ((flt t ++ o).length + i) = nI (gl r i)) → zW 3 sc miX6_closeBracket 133 [some (.ref 16), x1, x2, x3, x4, x5, x6] [] (xm (upd I 19 (nI t.length)) J (va_up A 7 g) B tl) (fun M r => r = none ∧ XX n0 t0 (.inl (9, cl, tg, sh, fi, fp, o ++ shp s cur, o.length, t, bk, en)) tl I J A B M) := by
    intro x1 x2 x3 x4 x5 x6 g r hr hrl g1 g2
    rw [← hr]
    repeat (refine zw_go rfl rfl (fun _ _ => rfl) ?_)
    refine zw_ret rfl (fun _ _ => rfl) ?_
    refine ⟨rfl, upd (upd I 19 (nI t.length)) 20 (nI 9), va_up A 7 g, rfl, ⟨xc_to xc (by omega) rfl rfl rfl rfl rfl (fun z => by omega) (fun z => by omega), xb_cong xb rfl rfl, xe_cong xe rfl rfl (fun a ha => ?_), fun _ => xn_set xn2 hrl rfl rfl g1 g2 rfl rfl rfl, fun _ => a9, fun z => by omega⟩, fun z hz => ?_, fun a h1 h2 => ?_, fun a i h1 _ => ?_⟩
    · unfold va_up; rw [if_neg (by omega)]
    · unfold upd; rw [if_neg (by omega), if_neg (by omega)]
    · unfold va_up; rw [if_neg (by omega)]
    · unfold va_up; rw [if_neg (by omega)]
  refine zc_of hkX6_closeBracket rfl ?_
  repeat (refine zw_go rfl rfl (fun _ _ => rfl) ?_)
  refine zw_call rfl (fun _ _ => rfl) (xOpenRow sc I J A B tl (t.length + 1) (by omega) xn.2.1) (by decide) ?_
  rintro M1 r1 ⟨rfl, rfl⟩
  repeat (refine zw_go rfl rfl (fun _ _ => rfl) ?_)
  refine zw_ix rfl (fun _ _ => rfl) (show vp_in (nI ((t.length + 1))) _ from vp_in_nI (by omega) (by omega)) ?_
  rw [show (nI ((t.length + 1))).toNatClampNeg = (t.length + 1) from nI_clamp (by omega)]
  repeat (refine zw_go rfl rfl (fun _ _ => rfl) ?_)
  refine zw_ix rfl (fun _ _ => rfl) (show vp_in (nI ((t.length + 1))) _ from vp_in_nI (by omega) (by omega)) ?_
  rw [show (nI ((t.length + 1))).toNatClampNeg = (t.length + 1) from nI_clamp (by omega)]
  repeat (refine zw_go rfl rfl (fun _ _ => rfl) ?_)
  show zW 3 sc miX6_closeBracket _ _ _ (xm (upd I 19 (I 19 - Int32.ofInt 1)) J A B tl) _
  rw [hf.1, hf.2.1, xn.1, xn.2.1, show nI ((o, s) :: t).length - Int32.ofInt 1 = nI t.length from nI_pred t.length, lT]
  by_cases h16 : s = 16
  · subst h16
    rw [if_pos rfl]
    have hmx : (if Int32.ofInt 0 < nI ((flt t ++ o).length + cur.length) - nI (flt t ++ o).length - Int32.ofInt 2 then nI ((flt t ++ o).length + cur.length) - nI (flt t ++ o).length - Int32.ofInt 2 else Int32.ofInt 0) = nI (cur.length - 2) := by
      rw [nI_sub (by omega), Nat.add_sub_cancel_left]
      by_cases h2 : cur.length = 1
      · rw [h2]; rfl
      · rw [show nI cur.length - Int32.ofInt 2 = nI (cur.length - 2) from nI_sub (a := cur.length) (b := 2) (by omega)]
        by_cases h3 : cur.length = 2
        · rw [h3]; rfl
        · rw [if_pos (show Int32.ofInt 0 < nI (cur.length - 2) from nI_lt (a := 0) (b := cur.length - 2) (by omega) (by omega))]
    repeat (refine zw_go rfl rfl (fun _ _ => rfl) ?_)
    rw [hmx]
    refine zw_call rfl (fun _ _ => rfl) (xHasRoom sc (upd I 19 (nI t.length)) J A B tl (o ++ cur) t (cur.length - 2) (by omega) xn2 (by omega) (by rw [e1, lT]; omega)) (by decide) ?_
    rintro M1 r1 ⟨rfl, rfl⟩
    rw [List.length_append (as := o) (bs := cur)]
    by_cases hroom : 200 < o.length + (cur.length + (cur.length - 2))
    · rw [if_pos hroom, if_pos (by omega)]
      repeat (refine zw_go rfl rfl (fun _ _ => rfl) ?_)
      refine zw_call rfl (fun _ _ => rfl) (xFail sc (upd I 19 (nI t.length)) J A B tl 5) (by decide) ?_
      rintro M1 r1 ⟨rfl, rfl⟩
      exact zw_ret rfl (fun _ _ => rfl) (⟨rfl, xx_tr hf19 (xx_bad (by decide) rfl e14)⟩)
    · rw [if_neg hroom, if_neg (by omega)]
      have hml : (mirT cur).length = cur.length - 2 := by unfold mirT; rw [tab_len]
      have loop : ∀ (z i : Nat) (x : Int32), i + z = cur.length - 2 → (x = nI ((flt t ++ o).length + cur.length - 2 - i) ∨ (cur.length = 1 ∧ x = kI (flt t ++ o).length)) → zW 3 sc miX6_closeBracket 84 [some (.ref 16), none, some (.int (nI (flt t ++ o).length)), none, none, none, some (.int x)] [] (xm (upd (upd I 19 (nI t.length)) 18 (nI ((flt t ++ o).length + cur.length + i))) J (va_up A 7 (apl (A 7) ((flt t ++ o).length + cur.length) (mirT cur) i)) B tl) (fun M r => r = none ∧ XX n0 t0 (.inl (9, cl, tg, sh, fi, fp, o ++ shp 16 cur, o.length, t, bk, en)) tl I J A B M) := by
        intro z
        induction z with
        | zero =>
          intro i x hi hx
          have eg : o ++ shp 16 cur = (o ++ cur) ++ mirT cur := by
            unfold shp
            rw [if_pos rfl, List.append_assoc]
          have hxle : x ≤ nI (flt t ++ o).length := by
            rcases hx with rfl | ⟨_, rfl⟩
            · exact nI_le (by omega) (by omega)
            · unfold kI
              rcases Nat.eq_zero_or_pos (flt t ++ o).length with h5 | h5
              · rw [h5]; decide
              · obtain ⟨u, hu⟩ : ∃ u, (flt t ++ o).length = u + 1 := ⟨(flt t ++ o).length - 1, by omega⟩
                rw [hu, nI_pred]
                exact nI_le (by omega) (by omega)
          refine zw_nx rfl (fun _ _ => rfl) ?_
          repeat (refine zw_go rfl rfl (fun _ _ => rfl) ?_)
          first | refine zw_br rfl (fun _ _ => rfl) (fun _ => ?_) (fun h9 => absurd (hxle) h9) | refine zw_nx rfl (fun _ _ => rfl) ?_
          repeat (refine zw_go rfl rfl (fun _ _ => rfl) ?_)
          refine zw_ret rfl (fun _ _ => rfl) ?_
          refine ⟨rfl, upd (upd (upd I 19 (nI t.length)) 18 (nI ((flt t ++ o).length + cur.length + i))) 20 (nI 9), va_up A 7 (apl (A 7) ((flt t ++ o).length + cur.length) (mirT cur) i), rfl, ?_, ?_⟩
          · rw [eg]
            have hlen : (flt t ++ (o ++ cur)).length = (flt t ++ o).length + cur.length := by rw [e1, lT]
            refine ⟨xc_to xc (by omega) rfl rfl rfl rfl rfl (fun z => by omega) (fun z => by omega), xb_cong xb rfl rfl, xe_cong xe rfl rfl (fun a ha => ?_), fun _ => xn_app xn2 ?_ rfl (fun j hj => ?_) (fun j hj => ?_) rfl (fun _ _ => rfl) rfl, fun _ => a9, fun z => by omega⟩
            · unfold va_up; rw [if_neg (by omega)]
            · rw [hlen, hml, ← show i = cur.length - 2 by omega]; rfl
            · rw [hlen] at hj
              exact apl_lo hj
            · rw [hlen]
              exact apl_in (by omega)
          · refine ⟨fun z hz => ?_, fun a h1 h2 => ?_, fun a i h1 _ => ?_⟩
            · unfold upd; rw [if_neg (by omega), if_neg (by omega), if_neg (by omega)]
            · unfold va_up; rw [if_neg (by omega)]
            · unfold va_up; rw [if_neg (by omega)]
        | succ z ih =>
          intro i x hi hx
          have hx : x = nI ((flt t ++ o).length + cur.length - 2 - i) := by
            rcases hx with h5 | ⟨h5, _⟩
            · exact h5
            · omega
          subst hx
          have hnext := ih (i + 1) (nI ((flt t ++ o).length + cur.length - 2 - (i + 1))) (by omega) (Or.inl rfl)
          rw [← apl_s, ← Nat.add_assoc] at hnext
          refine zw_nx rfl (fun _ _ => rfl) ?_
          repeat (refine zw_go rfl rfl (fun _ _ => rfl) ?_)
          first | refine zw_br rfl (fun _ _ => rfl) (fun h9 => absurd h9 (nI_ge (a := (flt t ++ o).length) (b := (flt t ++ o).length + cur.length - 2 - i) (by omega) (by omega))) (fun _ => ?_) | refine zw_nx rfl (fun _ _ => rfl) ?_
          repeat (refine zw_go rfl rfl (fun _ _ => rfl) ?_)
          refine zw_call rfl (fun _ _ => rfl) (xNumberAt sc _ J _ B tl ((flt t ++ o).length + cur.length - 2 - i) (by omega)) (by decide) ?_
          rintro M1 r1 ⟨rfl, rfl⟩
          rw [show va_up A 7 (apl (A 7) ((flt t ++ o).length + cur.length) (mirT cur) i) 7 ((flt t ++ o).length + cur.length - 2 - i) = nI (gl (mirT cur) i) from by
            show apl (A 7) ((flt t ++ o).length + cur.length) (mirT cur) i ((flt t ++ o).length + cur.length - 2 - i) = _
            rw [apl_lo (by omega), show (flt t ++ o).length + cur.length - 2 - i = (flt t ++ o).length + (cur.length - 2 - i) by omega, vcur _ (by omega)]
            unfold mirT
            rw [gl_tab (by omega)]]
          repeat (refine zw_go rfl rfl (fun _ _ => rfl) ?_)
          refine zw_call rfl (fun _ _ => rfl) (xAdd sc _ J _ B tl (nI (gl (mirT cur) i)) ((flt t ++ o).length + cur.length + i) (by omega) rfl) (by decide) ?_
          rintro M1 r1 ⟨rfl, rfl⟩
          repeat (refine zw_go rfl rfl (fun _ _ => rfl) ?_)
          rw [show nI ((flt t ++ o).length + cur.length - 2 - i) + Int32.ofInt (-1) = nI ((flt t ++ o).length + cur.length - 2 - (i + 1)) from by
            rw [show (flt t ++ o).length + cur.length - 2 - i = ((flt t ++ o).length + cur.length - 2 - (i + 1)) + 1 by omega, nI_dn]]
          exact zw_kp hnext
      have st : ∀ x, (x = nI ((flt t ++ o).length + cur.length - 2 - 0) ∨ (cur.length = 1 ∧ x = kI (flt t ++ o).length)) → zW 3 sc miX6_closeBracket 84 [some (.ref 16), none, some (.int (nI (flt t ++ o).length)), none, none, none, some (.int x)] [] (xm (upd I 19 (nI t.length)) J A B tl) (fun M r => r = none ∧ XX n0 t0 (.inl (9, cl, tg, sh, fi, fp, o ++ shp 16 cur, o.length, t, bk, en)) tl I J A B M) := fun x hx => by
        have := loop (cur.length - 2) 0 x (by omega) hx
        rw [apl_0, va_up_id, Nat.add_zero, ← lT, ← xn.1, show upd (upd I 19 (nI t.length)) 18 (I 18) = upd I 19 (nI t.length) from by
          funext z
          by_cases h5 : z = 18
          · subst h5; rfl
          · unfold upd; rw [if_neg h5]] at this
        exact this
      repeat (refine zw_go rfl rfl (fun _ _ => rfl) ?_)
      by_cases h1 : cur.length = 1
      · have := st (nI ((flt t ++ o).length + cur.length) - Int32.ofInt 2) (Or.inr ⟨h1, by
          rw [h1]; exact nI_2 _⟩)
        exact zw_kp this
      · have := st (nI ((flt t ++ o).length + cur.length) - Int32.ofInt 2) (Or.inl (nI_sub (a := (flt t ++ o).length + cur.length) (b := 2) (by omega)))
        exact zw_kp this
  · rw [if_neg h16, Nat.add_zero cur.length]
    have room := xHasRoom sc (upd I 19 (nI t.length)) J A B tl (o ++ cur) t 0 (by omega) xn2 (by omega) (by rw [e1, lT]; omega)
    rw [Nat.add_zero (o ++ cur).length, List.length_append (as := o) (bs := cur)] at room
    repeat (refine zw_go rfl rfl (fun _ _ => rfl) ?_)
    first | refine zw_br rfl (fun _ _ => rfl) (fun h9 => absurd h9 ((fun z => h16 ((nI_eq (a := s) (b := 16) (by omega) (by omega)).mp z)))) (fun _ => ?_) | refine zw_nx rfl (fun _ _ => rfl) ?_
    repeat (refine zw_go rfl rfl (fun _ _ => rfl) ?_)
    refine zw_call rfl (fun _ _ => rfl) (room) (by decide) ?_
    rintro M1 r1 ⟨rfl, rfl⟩
    by_cases hroom : 200 < o.length + cur.length
    · rw [if_pos hroom, if_pos hroom]
      repeat (refine zw_go rfl rfl (fun _ _ => rfl) ?_)
      refine zw_call rfl (fun _ _ => rfl) (xFail sc (upd I 19 (nI t.length)) J A B tl 5) (by decide) ?_
      rintro M1 r1 ⟨rfl, rfl⟩
      exact zw_ret rfl (fun _ _ => rfl) (⟨rfl, xx_tr hf19 (xx_bad (by decide) rfl e14)⟩)
    · rw [if_neg hroom, if_neg hroom]
      repeat (refine zw_go rfl rfl (fun _ _ => rfl) ?_)
      first | refine zw_br rfl (fun _ _ => rfl) (fun h9 => absurd h9 ((fun z => h16 ((nI_eq (a := s) (b := 16) (by omega) (by omega)).mp z)))) (fun _ => ?_) | refine zw_nx rfl (fun _ _ => rfl) ?_
      repeat (refine zw_go rfl rfl (fun _ _ => rfl) ?_)
      by_cases h17 : s = 17
      · subst h17
        repeat (refine zw_go rfl rfl (fun _ _ => rfl) ?_)
        refine zw_call rfl (fun _ _ => rfl) (xTurnBack sc (upd I 19 (nI t.length)) J A B tl (flt t ++ o).length cur.length hpos (by omega)) (by decide) ?_
        rintro M1 r1 ⟨rfl, g, rfl, g1, g2⟩
        have hbk : (bakT cur).length = cur.length := by unfold bakT; rw [tab_len]
        have hfin := fun x1 x2 x3 x4 x5 x6 => fin7 x1 x2 x3 x4 x5 x6 g (bakT cur) (by unfold shp; rw [if_neg (by decide), if_pos rfl]) hbk g1 (fun i hi => by
          rw [hbk] at hi
          rw [g2 i hi]
          rw [vcur _ (by omega)]
          unfold bakT
          rw [gl_tab hi])
        refine zw_nx rfl (fun _ _ => rfl) ?_
        exact hfin _ _ _ _ _ _
      · first | refine zw_br rfl (fun _ _ => rfl) (fun h9 => absurd h9 ((fun z => h17 ((nI_eq (a := s) (b := 17) (by omega) (by omega)).mp z)))) (fun _ => ?_) | refine zw_nx rfl (fun _ _ => rfl) ?_
        repeat (refine zw_go rfl rfl (fun _ _ => rfl) ?_)
        refine zw_call rfl (fun _ _ => rfl) (xRaise2 sc (upd I 19 (nI t.length)) J A B tl (flt t ++ o).length cur.length s (by omega) (by omega) cur vcur (fun i => gl_lt t2.2 i)) (by decide) ?_
        rintro M1 r1 ⟨rfl, g, rfl, g1, g2⟩
        have hml : (cur.map (fun x => (x + s) % 16)).length = cur.length := List.length_map _
        have hfin := fun x1 x2 x3 x4 x5 x6 => fin7 x1 x2 x3 x4 x5 x6 g (cur.map (fun x => (x + s) % 16)) (by unfold shp; rw [if_neg h16, if_neg h17]) hml g1 (fun i hi => by
          rw [hml] at hi
          rw [g2 i hi, gl_map hi])
        exact hfin _ _ _ _ _ _
end

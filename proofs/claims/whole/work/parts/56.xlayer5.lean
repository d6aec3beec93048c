/-! the class: sortPart, layers, layer -/
theorem b4_sw {B : Nat → Nat → Int64} {g6 g7 g8 g9 : Nat → Int64} : b4 B g6 g7 g8 g9 = va_up (va_up (va_up (va_up B 8 g8) 9 g9) 6 g6) 7 g7 := by
  funext k
  by_cases h6 : k = 6
  · subst h6; rfl
  · by_cases h7 : k = 7
    · subst h7; rfl
    · by_cases h8 : k = 8
      · subst h8; rfl
      · by_cases h9 : k = 9
        · subst h9; rfl
        · unfold b4 va_up
          rw [if_neg h9, if_neg h8, if_neg h7, if_neg h6, if_neg h7, if_neg h6, if_neg h9, if_neg h8]
theorem b4_ne {B : Nat → Nat → Int64} {g6 g7 g8 g9 : Nat → Int64} {k : Nat} (h : k < 6 ∨ 9 < k) : b4 B g6 g7 g8 g9 k = B k := by
  unfold b4 va_up
  rw [if_neg (by omega), if_neg (by omega), if_neg (by omega), if_neg (by omega)]
def LyA (I : Nat → Int32) (A : Nat → Nat → Int32) (V : Nat → Int32) (a b c d : Nat) : Prop := ∃ T, Cl V a b c d T ∧ I 29 = nI (lFo T (inP a b c d) 96).2.2 ∧ ∀ s, s < 96 → inP a b c d s = true → A 14 s = nI ((lFo T (inP a b c d) 96).2.1 s)
/-- what is kept of the latest part -/
def LyC (I : Nat → Int32) (A : Nat → Nat → Int32) (V : Nat → Int32) (w h : Nat) : Prop := ∃ a b c d, a ≤ b ∧ b < w ∧ c ≤ d ∧ d < h ∧ I 30 = nI a ∧ I 31 = nI b ∧ I 32 = nI c ∧ I 33 = nI d ∧ LyA I A V a b c d
theorem lyc_cong {I I' : Nat → Int32} {A A' : Nat → Nat → Int32} {V : Nat → Int32} {w h : Nat} (hc : LyC I A V w h) (hI : ∀ z, 29 ≤ z → z ≤ 33 → I' z = I z) (hA : A' 14 = A 14) : LyC I' A' V w h := by
  obtain ⟨a, b, c, d, h1, h2, h3, h4, h5, h6, h7, h8, T, h9, h10, h11⟩ := hc
  refine ⟨a, b, c, d, h1, h2, h3, h4, ?_, ?_, ?_, ?_, T, h9, ?_, ?_⟩
  · rw [hI 30 (by decide) (by decide)]; exact h5
  · rw [hI 31 (by decide) (by decide)]; exact h6
  · rw [hI 32 (by decide) (by decide)]; exact h7
  · rw [hI 33 (by decide) (by decide)]; exact h8
  · rw [hI 29 (by decide) (by decide)]; exact h10
  · rw [hA]; exact h11
theorem max0 {k : Nat} (hk : k < 48) : (if Int32.ofInt 0 < nI k then nI k else Int32.ofInt 0) = nI k := by
  by_cases h : Int32.ofInt 0 < nI k
  · rw [if_pos h]
  · rw [if_neg h]
    rcases Nat.eq_zero_or_pos k with rfl | h1
    · rfl
    · exact absurd (nI_lt (a := 0) (b := k) h1 (by omega)) h
theorem min47 {k : Nat} (hk : k < 48) : (if nI k < (Int8.ofInt 47).toInt32 then nI k else (Int8.ofInt 47).toInt32) = nI k := by
  by_cases h : nI k < (Int8.ofInt 47).toInt32
  · rw [if_pos h]
  · rw [if_neg h]
    by_cases h1 : k = 47
    · subst h1; rfl
    · exact absurd (nI_lt (a := k) (b := 47) (by omega) (by omega)) h
theorem lowN {n k : Nat} {p : Nat → Bool} (hn : n < 64) (hk : k < 64) (hp : ∀ i, i < 64 → (decide (i < n) && !decide (i < k)) = (decide (i < 48) && p i)) : (bitL n - 1) &&& ((bitL k - 1) ^^^ (-1)) = mk p 48 := mk_eq (by omega) (fun i hi => by
  rw [lb_and, lb_xor, lb_m1 hi, lb_low_n hn, lb_low_n hk, ← hp i hi, Bool.xor_true])
theorem rng_of {q : Int32} {a b : Nat} (h1 : ¬ q < nI a) (h2 : ¬ nI b < q) (ha : a < 1000) (hb : b < 1000) : ∃ s, a ≤ s ∧ s ≤ b ∧ q = nI s := by
  have h3 : nI a ≤ q := Int32.not_lt.mp h1
  have h4 : q ≤ nI b := Int32.not_lt.mp h2
  obtain ⟨s, h5, rfl⟩ := inR_of (x := q) (n := b + 1) ⟨Int32.le_trans (nI_pos' (by omega)) h3, Int32.lt_of_le_of_lt h4 (nI_lt (by omega) (by omega))⟩ (by omega)
  rw [nI_leI (by omega) (by omega)] at h3 h4
  exact ⟨s, h3, h4, rfl⟩
/-- the place of a STRAND -/
def sN (w s : Nat) : Nat := if s < w then s else 48 + (s - w)
/-- the answers of layers, of layer -/
def LayAns (V : Nat → Int32) (w h : Nat) (a b c d x : Int32) : Prop := (¬ gPart w h a b c d ∧ x = -1) ∨ ∃ i j k l T, i ≤ j ∧ j < w ∧ k ≤ l ∧ l < h ∧ a = nI i ∧ b = nI j ∧ c = nI k ∧ d = nI l ∧ Cl V i j k l T ∧ x = nI (lFo T (inP i j k l) 96).2.2
def LayrAns (V : Nat → Int32) (w h : Nat) (a b c d q x : Int32) : Prop := (¬ (gPart w h a b c d ∧ 0 ≤ q ∧ q < nI (w + h)) ∧ x = -1) ∨ ∃ i j k l T s, i ≤ j ∧ j < w ∧ k ≤ l ∧ l < h ∧ a = nI i ∧ b = nI j ∧ c = nI k ∧ d = nI l ∧ Cl V i j k l T ∧ s < w + h ∧ q = nI s ∧ x = if inP i j k l (sN w s) then nI ((lFo T (inP i j k l) 96).2.1 (sN w s)) else -1
theorem gPart_nI {w h i j k l : Nat} (hw : w ≤ 48) (hh : h ≤ 48) (h1 : i ≤ j) (h2 : j < w) (h3 : k ≤ l) (h4 : l < h) : gPart w h (nI i) (nI j) (nI k) (nI l) := ⟨inR_nI (by omega) (by omega), inR_nI (by omega) (by omega), nI_le h1 (by omega), inR_nI (by omega) (by omega), inR_nI (by omega) (by omega), nI_le h3 (by omega)⟩
theorem layAns_u {V : Nat → Int32} {w h : Nat} {a b c d x y : Int32} (hw : w ≤ 48) (hh : h ≤ 48) (h1 : LayAns V w h a b c d x) (h2 : LayAns V w h a b c d y) : x = y := by
  rcases h1 with ⟨h1, rfl⟩ | ⟨i, j, k, l, T, g1, g2, g3, g4, rfl, rfl, rfl, rfl, g5, rfl⟩
  · rcases h2 with ⟨h2, rfl⟩ | ⟨i, j, k, l, T, g1, g2, g3, g4, rfl, rfl, rfl, rfl, g5, rfl⟩
    · rfl
    · exact absurd (gPart_nI hw hh g1 g2 g3 g4) h1
  · rcases h2 with ⟨h2, rfl⟩ | ⟨i', j', k', l', T', q1, q2, q3, q4, e1, e2, e3, e4, q5, rfl⟩
    · exact absurd (gPart_nI hw hh g1 g2 g3 g4) h2
    · rw [nI_eq (by omega) (by omega)] at e1 e2 e3 e4
      subst e1; subst e2; subst e3; subst e4
      rw [cl_uniq g5 q5]
theorem layrAns_u {V : Nat → Int32} {w h : Nat} {a b c d q x y : Int32} (hw : w ≤ 48) (hh : h ≤ 48) (h1 : LayrAns V w h a b c d q x) (h2 : LayrAns V w h a b c d q y) : x = y := by
  rcases h1 with ⟨h1, rfl⟩ | ⟨i, j, k, l, T, s, g1, g2, g3, g4, rfl, rfl, rfl, rfl, g5, g6, rfl, rfl⟩
  · rcases h2 with ⟨h2, rfl⟩ | ⟨i, j, k, l, T, s, g1, g2, g3, g4, rfl, rfl, rfl, rfl, g5, g6, rfl, rfl⟩
    · rfl
    · exact absurd ⟨gPart_nI hw hh g1 g2 g3 g4, inR_nI g6 (by omega)⟩ h1
  · rcases h2 with ⟨h2, rfl⟩ | ⟨i', j', k', l', T', s', q1, q2, q3, q4, e1, e2, e3, e4, q5, q6, e5, rfl⟩
    · exact absurd ⟨gPart_nI hw hh g1 g2 g3 g4, inR_nI g6 (by omega)⟩ h2
    · rw [nI_eq (by omega) (by omega)] at e1 e2 e3 e4 e5
      subst e1; subst e2; subst e3; subst e4; subst e5
      rw [cl_uniq g5 q5]
section
variable (sc : sm_S) (I : Nat → Int32) (J : Nat → Int64) (A : Nat → Nat → Int32) (B : Nat → Nat → Int64) (tl : sm_M) (f : Nat → va_E) (w h n : Nat) (V : Nat → Int32) (a b c d : Nat)
/-- what sortPart leaves -/
def LyP (tl : sm_M) (I : Nat → Int32) (J : Nat → Int64) (A : Nat → Nat → Int32) (B : Nat → Nat → Int64) (V : Nat → Int32) (a b c d : Nat) (M : sm_M) : Prop := ∃ I' J' A' B', M = xm I' J' A' B' tl ∧ LyA I' A' V a b c d ∧ I' 34 = I 10 ∧ I' 30 = nI a ∧ I' 31 = nI b ∧ I' 32 = nI c ∧ I' 33 = nI d ∧ (∀ z, z < 29 ∨ 34 < z → I' z = I z) ∧ (∀ z, z ≠ 1 → z ≠ 2 → J' z = J z) ∧ (∀ k, k ≠ 14 → A' k = A k) ∧ (∀ k, k < 6 ∨ 9 < k → B' k = B k)
set_option maxHeartbeats 4000000 in
set_option maxRecDepth 20000 in
theorem xSortPart (hab : a ≤ b) (hbw : b < w) (hw : w ≤ 48) (hcd : c ≤ d) (hdh : d < h) (hh : h ≤ 48) (hB0 : ∀ p, p < h → B 0 p = mk (fun e => vUp V e p) w) (hB1 : ∀ e, e < w → B 1 e = mk (fun p => vUp V e p) h) (hc : I 34 = I 10 → LyC I A V w h) : zC 4 sc 22 [.ref 27, .int (nI a), .int (nI b), .int (nI c), .int (nI d)] (xm I J A B tl) (fun M r => r = none ∧ LyP tl I J A B V a b c d M) := by
  have main : ∀ z : Int32, zW 3 sc miX2_sortPart 60 [some (.ref 27), some (.int (nI a)), some (.int (nI b)), some (.int (nI c)), some (.int (nI d)), some (.int z)] [] (xm I J A B tl) (fun M r => r = none ∧ LyP tl I J A B V a b c d M) := by
    intro z
    repeat (refine zw_go rfl rfl (fun _ _ => rfl) ?_)
    rw [max0 (k := a) (by omega), max0 (k := c) (by omega), min47 (k := b) (by omega), min47 (k := d) (by omega)]
    rw [show nI b + Int32.ofInt 1 = nI (b + 1) from nI_1 b]
    refine zw_call rfl (fun _ _ => rfl) (cFirstBitsN sc _ (n := b + 1) (by omega)) (by decide) ?_
    rintro M1 r1 ⟨rfl, rfl⟩
    repeat (refine zw_go rfl rfl (fun _ _ => rfl) ?_)
    refine zw_call rfl (fun _ _ => rfl) (cFirstBitsN sc _ (n := a) (by omega)) (by decide) ?_
    rintro M1 r1 ⟨rfl, rfl⟩
    repeat (refine zw_go rfl rfl (fun _ _ => rfl) ?_)
    rw [show nI d + Int32.ofInt 1 = nI (d + 1) from nI_1 d]
    refine zw_call rfl (fun _ _ => rfl) (cFirstBitsN sc _ (n := d + 1) (by omega)) (by decide) ?_
    rintro M1 r1 ⟨rfl, rfl⟩
    repeat (refine zw_go rfl rfl (fun _ _ => rfl) ?_)
    refine zw_call rfl (fun _ _ => rfl) (cFirstBitsN sc _ (n := c) (by omega)) (by decide) ?_
    rintro M1 r1 ⟨rfl, rfl⟩
    repeat (refine zw_go rfl rfl (fun _ _ => rfl) ?_)
    have hJ1 : (bitL (b + 1) - 1) &&& ((bitL a - 1) ^^^ (-1)) = mk (fun e => inP a b c d e) 48 := lowN (by omega) (by omega) (fun i hi => by
      by_cases h48 : i < 48
      · rw [inP_e h48, decide_eq_true h48, Bool.true_and, Bool.eq_iff_iff, Bool.and_eq_true, decide_eq_true_eq, decide_eq_true_eq, Bool.not_eq_true', decide_eq_false_iff_not]; omega
      · rw [decide_eq_false h48, decide_eq_false (by omega)]; rfl)
    have hJ2 : (bitL (d + 1) - 1) &&& ((bitL c - 1) ^^^ (-1)) = mk (fun p => inP a b c d (48 + p)) 48 := lowN (by omega) (by omega) (fun i hi => by
      by_cases h48 : i < 48
      · rw [inP_p, decide_eq_true h48, Bool.true_and, Bool.eq_iff_iff, Bool.and_eq_true, decide_eq_true_eq, decide_eq_true_eq, Bool.not_eq_true', decide_eq_false_iff_not]; omega
      · rw [decide_eq_false h48, decide_eq_false (by omega)]; rfl)
    refine zw_call rfl (fun _ _ => rfl) (xRelate sc (upd (upd (upd (upd (upd I 34 (I 10)) 30 (nI a)) 31 (nI b)) 32 (nI c)) 33 (nI d)) (vp_updL (vp_updL J 1 ((bitL (b + 1) - 1) &&& ((bitL a - 1) ^^^ (-1)))) 2 ((bitL (d + 1) - 1) &&& ((bitL c - 1) ^^^ (-1)))) A B tl w h V a b c d rfl rfl rfl rfl hab hbw hw hcd hdh hh hJ1 hJ2 hB0 hB1) (by decide) ?_
    rintro M1 r1 ⟨rfl, g6, g7, g8, g9, rfl, hR1, hR2⟩
    repeat (refine zw_go rfl rfl (fun _ _ => rfl) ?_)
    rw [b4_sw]
    refine zw_call rfl (fun _ _ => rfl) (xChainsB sc (upd (upd (upd (upd (upd I 34 (I 10)) 30 (nI a)) 31 (nI b)) 32 (nI c)) 33 (nI d)) (vp_updL (vp_updL J 1 ((bitL (b + 1) - 1) &&& ((bitL a - 1) ^^^ (-1)))) 2 ((bitL (d + 1) - 1) &&& ((bitL c - 1) ^^^ (-1)))) A (va_up (va_up B 8 g8) 9 g9) tl a b c d (rel V a b c d) rfl rfl rfl rfl hab (by omega) hcd (by omega) g6 g7 hR1 (fun m t hm => (rel_in hm).1)) (by decide) ?_
    rintro M1 r1 ⟨rfl, k6, k7, T, rfl, hT1, hT2⟩
    rw [← b4_sw]
    repeat (refine zw_go rfl rfl (fun _ _ => rfl) ?_)
    refine zw_call rfl (fun _ _ => rfl) (xChainsA sc (upd (upd (upd (upd (upd I 34 (I 10)) 30 (nI a)) 31 (nI b)) 32 (nI c)) 33 (nI d)) (vp_updL (vp_updL J 1 ((bitL (b + 1) - 1) &&& ((bitL a - 1) ^^^ (-1)))) 2 ((bitL (d + 1) - 1) &&& ((bitL c - 1) ^^^ (-1)))) A (va_up (va_up B 6 k6) 7 k7) tl a b c d (fun s t => rel V a b c d t s) rfl rfl rfl rfl hab (by omega) hcd (by omega) g8 g9 hR2 (fun m t hm => (rel_in hm).2)) (by decide) ?_
    rintro M1 r1 ⟨rfl, k8, k9, U, rfl, hU1, hU2⟩
    have hUT : U = fun s t => T t s := by
      funext s t
      rw [Bool.eq_iff_iff, hU2, hT2]
      exact ⟨fun z => tg_rev z, fun z => tg_rev (r := fun s t => rel V a b c d t s) z⟩
    rw [hUT] at hU1
    repeat (refine zw_go rfl rfl (fun _ _ => rfl) ?_)
    refine zw_call rfl (fun _ _ => rfl) (xNumAll sc (upd (upd (upd (upd (upd I 34 (I 10)) 30 (nI a)) 31 (nI b)) 32 (nI c)) 33 (nI d)) (vp_updL (vp_updL J 1 ((bitL (b + 1) - 1) &&& ((bitL a - 1) ^^^ (-1)))) 2 ((bitL (d + 1) - 1) &&& ((bitL c - 1) ^^^ (-1)))) A (b4 B k6 k7 k8 k9) tl a b c d T rfl rfl rfl rfl hab (by omega) hcd (by omega) hT1 hU1 hJ1 hJ2 (cl_trans hT2)) (by decide) ?_
    rintro M1 r1 ⟨rfl, I', J', g, rfl, ⟨l1, l2, l3, l4⟩, hI, hJ⟩
    repeat (refine zw_go rfl rfl (fun _ _ => rfl) ?_)
    refine zw_ret rfl (fun _ _ => rfl) ?_
    refine ⟨rfl, I', J', va_up A 14 g, b4 B k6 k7 k8 k9, rfl, ⟨T, hT2, l1, fun s h1 h2 => l4 s h1 h2 (lFo_empty (cl_trans hT2) s h1)⟩, ?_, ?_, ?_, ?_, ?_, fun z hz => ?_, fun z h1 h2 => ?_, fun k hk => ?_, fun k hk => b4_ne hk⟩
    · rw [hI 34 (by decide)]; rfl
    · rw [hI 30 (by decide)]; rfl
    · rw [hI 31 (by decide)]; rfl
    · rw [hI 32 (by decide)]; rfl
    · rw [hI 33 (by decide)]; rfl
    · rw [hI z (by omega)]
      unfold upd
      rw [if_neg (by omega), if_neg (by omega), if_neg (by omega), if_neg (by omega), if_neg (by omega)]
    · rw [hJ z h1 h2]
      unfold vp_updL
      rw [if_neg h2, if_neg h1]
    · unfold va_up; rw [if_neg hk]
  refine zc_of hkX2_sortPart rfl ?_
  repeat (refine zw_go rfl rfl (fun _ _ => rfl) ?_)
  refine zw_br rfl (fun _ _ => rfl) (fun (e0 : nI a = I 30) => ?_) (fun (e0 : ¬ (nI a = I 30)) => ?_)
  · repeat (refine zw_go rfl rfl (fun _ _ => rfl) ?_)
    refine zw_br rfl (fun _ _ => rfl) (fun (e1 : nI b = I 31) => ?_) (fun (e1 : ¬ (nI b = I 31)) => ?_)
    · repeat (refine zw_go rfl rfl (fun _ _ => rfl) ?_)
      refine zw_br rfl (fun _ _ => rfl) (fun (e2 : nI c = I 32) => ?_) (fun (e2 : ¬ (nI c = I 32)) => ?_)
      · repeat (refine zw_go rfl rfl (fun _ _ => rfl) ?_)
        refine zw_br rfl (fun _ _ => rfl) (fun (e3 : nI d = I 33) => ?_) (fun (e3 : ¬ (nI d = I 33)) => ?_)
        · repeat (refine zw_go rfl rfl (fun _ _ => rfl) ?_)
          refine zw_br rfl (fun _ _ => rfl) (fun (e4 : I 34 = I 10) => ?_) (fun (e4 : ¬ (I 34 = I 10)) => ?_)
          · obtain ⟨a', b', c', d', h1, h2, h3, h4, h5, h6, h7, h8, h9⟩ := hc e4
            rw [← e0, nI_eq (by omega) (by omega)] at h5
            rw [← e1, nI_eq (by omega) (by omega)] at h6
            rw [← e2, nI_eq (by omega) (by omega)] at h7
            rw [← e3, nI_eq (by omega) (by omega)] at h8
            subst h5; subst h6; subst h7; subst h8
            exact zw_ret rfl (fun _ _ => rfl) (⟨rfl, I, J, A, B, rfl, h9, e4, e0.symm, e1.symm, e2.symm, e3.symm, fun _ _ => rfl, fun _ _ _ => rfl, fun _ _ => rfl, fun _ _ => rfl⟩)
          · exact main 1
        · refine zw_nx rfl (fun _ _ => rfl) ?_
          refine zw_nx rfl (fun _ _ => rfl) ?_
          refine zw_nx rfl (fun _ _ => rfl) ?_
          refine zw_nx rfl (fun _ _ => rfl) ?_
          exact main 0
      · refine zw_nx rfl (fun _ _ => rfl) ?_
        refine zw_nx rfl (fun _ _ => rfl) ?_
        refine zw_nx rfl (fun _ _ => rfl) ?_
        refine zw_nx rfl (fun _ _ => rfl) ?_
        exact main 0
    · refine zw_nx rfl (fun _ _ => rfl) ?_
      refine zw_nx rfl (fun _ _ => rfl) ?_
      refine zw_nx rfl (fun _ _ => rfl) ?_
      refine zw_nx rfl (fun _ _ => rfl) ?_
      exact main 0
  · refine zw_nx rfl (fun _ _ => rfl) ?_
    refine zw_nx rfl (fun _ _ => rfl) ?_
    refine zw_nx rfl (fun _ _ => rfl) ?_
    refine zw_nx rfl (fun _ _ => rfl) ?_
    exact main 0
set_option maxHeartbeats 4000000 in
set_option maxRecDepth 20000 in
theorem xIsPart (x y u v : Int32) (h0 : I 0 = nI w) (h1 : I 1 = nI h) : zC 2 sc 148 [.ref 0, .int x, .int y, .int u, .int v] (xm I J A B tl) (fun M r => M = xm I J A B tl ∧ ((r = some (.int 0) ∧ ¬ gPart w h x y u v) ∨ (r = some (.int 1) ∧ gPart w h x y u v))) := by
  have no : ¬ gPart w h x y u v → zW 1 sc miX10_isPart 48 [some (.ref 0), some (.int x), some (.int y), some (.int u), some (.int v)] [] (xm I J A B tl) (fun M r => M = xm I J A B tl ∧ ((r = some (.int 0) ∧ ¬ gPart w h x y u v) ∨ (r = some (.int 1) ∧ gPart w h x y u v))) := fun hn => by
    repeat (refine zw_go rfl rfl (fun _ _ => rfl) ?_)
    exact zw_ret rfl (fun _ _ => rfl) (⟨rfl, Or.inl ⟨rfl, hn⟩⟩)
  refine zc_of hkX10_isPart rfl ?_
  repeat (refine zw_go rfl rfl (fun _ _ => rfl) ?_)
  refine zw_call rfl (fun _ _ => rfl) (xIsEnd sc I J A B tl x w h0) (by decide) ?_
  rintro M1 r1 ⟨rfl, rfl⟩
  refine zw_br rfl (fun _ _ => rfl) (fun (c1 : bI (0 ≤ x ∧ x < nI w) = 0) => ?_) (fun (c1 : ¬ (bI (0 ≤ x ∧ x < nI w) = 0)) => ?_)
  · exact no (fun g => bI_0.mp c1 g.1)
  · repeat (refine zw_go rfl rfl (fun _ _ => rfl) ?_)
    refine zw_call rfl (fun _ _ => rfl) (xIsEnd sc I J A B tl y w h0) (by decide) ?_
    rintro M1 r1 ⟨rfl, rfl⟩
    refine zw_br rfl (fun _ _ => rfl) (fun (c2 : bI (0 ≤ y ∧ y < nI w) = 0) => ?_) (fun (c2 : ¬ (bI (0 ≤ y ∧ y < nI w) = 0)) => ?_)
    · exact no (fun g => bI_0.mp c2 g.2.1)
    · repeat (refine zw_go rfl rfl (fun _ _ => rfl) ?_)
      refine zw_br rfl (fun _ _ => rfl) (fun (c3 : y < x) => ?_) (fun (c3 : ¬ (y < x)) => ?_)
      · exact no (fun g => absurd g.2.2.1 (Int32.not_le.mpr c3))
      · repeat (refine zw_go rfl rfl (fun _ _ => rfl) ?_)
        refine zw_call rfl (fun _ _ => rfl) (xIsPick sc I J A B tl u h h1) (by decide) ?_
        rintro M1 r1 ⟨rfl, rfl⟩
        refine zw_br rfl (fun _ _ => rfl) (fun (c4 : bI (0 ≤ u ∧ u < nI h) = 0) => ?_) (fun (c4 : ¬ (bI (0 ≤ u ∧ u < nI h) = 0)) => ?_)
        · exact no (fun g => bI_0.mp c4 g.2.2.2.1)
        · repeat (refine zw_go rfl rfl (fun _ _ => rfl) ?_)
          refine zw_call rfl (fun _ _ => rfl) (xIsPick sc I J A B tl v h h1) (by decide) ?_
          rintro M1 r1 ⟨rfl, rfl⟩
          refine zw_br rfl (fun _ _ => rfl) (fun (c5 : bI (0 ≤ v ∧ v < nI h) = 0) => ?_) (fun (c5 : ¬ (bI (0 ≤ v ∧ v < nI h) = 0)) => ?_)
          · exact no (fun g => bI_0.mp c5 g.2.2.2.2.1)
          · repeat (refine zw_go rfl rfl (fun _ _ => rfl) ?_)
            refine zw_br rfl (fun _ _ => rfl) (fun (c6 : v < u) => ?_) (fun (c6 : ¬ (v < u)) => ?_)
            · exact no (fun g => absurd g.2.2.2.2.2 (Int32.not_le.mpr c6))
            · repeat (refine zw_go rfl rfl (fun _ _ => rfl) ?_)
              exact zw_ret rfl (fun _ _ => rfl) (⟨rfl, Or.inr ⟨rfl, bI_of c1, bI_of c2, Int32.not_lt.mp c3, bI_of c4, bI_of c5, Int32.not_lt.mp c6⟩⟩)
/-- what a call of layers or layer leaves -/
def LyQ (tl : sm_M) (w h : Nat) (I : Nat → Int32) (J : Nat → Int64) (A : Nat → Nat → Int32) (B : Nat → Nat → Int64) (M : sm_M) : Prop := ∃ I' J' A' B', M = xm I' J' A' B' tl ∧ WH w h I' J' A' B' ∧ (I' 34 = I' 6 → LyC I' A' (A 3) w h) ∧ (∀ z, z ≠ 9 → z ≠ 10 → z < 29 ∨ 34 < z → I' z = I z) ∧ (I' 34 = I 34 ∨ I' 34 = I 6) ∧ (∀ z, z ≠ 1 → z ≠ 2 → J' z = J z) ∧ (∀ k, k ≠ 5 → k ≠ 14 → A' k = A k) ∧ (∀ k, 4 < k → k < 6 ∨ 9 < k → B' k = B k) ∧ (I' 10 = I 10 ∨ I' 10 = I 6)
theorem ly_q {tl : sm_M} {w h : Nat} {I I' : Nat → Int32} {J : Nat → Int64} {A A' : Nat → Nat → Int32} {B B' : Nat → Nat → Int64} {M : sm_M} {i j k l : Nat} (h1 : i ≤ j) (h2 : j < w) (h3 : k ≤ l) (h4 : l < h) (hW : WH w h I' J A' B') (hK : WK I A B I' A' B') (hP : LyP tl I' J A' B' (A 3) i j k l M) : ∃ I2 J2 A2 B2, M = xm I2 J2 A2 B2 tl ∧ LyA I2 A2 (A 3) i j k l ∧ I2 0 = I 0 ∧ LyQ tl w h I J A B M := by
  obtain ⟨I2, J2, A2, B2, rfl, ca, e34, e30, e31, e32, e33, iK, jK, aK, bK⟩ := hP
  have i6 : I' 6 = I 6 := hK.1 6 (by decide) (by decide)
  refine ⟨I2, J2, A2, B2, rfl, ca, ?_, I2, J2, A2, B2, rfl, wh_cong hW (fun z hz => iK z (by omega)) (jK 0 (by decide) (by decide)) (fun a ha => aK a (by omega)) (fun b hb => bK b (by omega)), fun _ => ⟨i, j, k, l, h1, h2, h3, h4, e30, e31, e32, e33, ca⟩, fun z h9 h10 hz => ?_, Or.inr ?_, jK, fun a h5 h14 => ?_, fun b h4 hb => ?_, Or.inr ?_⟩
  · rw [iK 0 (by omega), hK.1 0 (by decide) (by decide)]
  · rw [iK z hz, hK.1 z h9 h10]
  · rw [e34, hK.2.1, i6]
  · rw [aK a h14, hK.2.2.1 a h5]
  · rw [bK b hb, hK.2.2.2 b h4]
  · rw [iK 10 (by omega), hK.2.1, i6]
theorem ly_id {tl : sm_M} {w h : Nat} {I : Nat → Int32} {J : Nat → Int64} {A : Nat → Nat → Int32} {B : Nat → Nat → Int64} (hW : WH w h I J A B) (hc : I 34 = I 6 → LyC I A (A 3) w h) : LyQ tl w h I J A B (xm I J A B tl) := ⟨I, J, A, B, rfl, hW, hc, fun _ _ _ _ => rfl, Or.inl rfl, fun _ _ _ => rfl, fun _ _ _ => rfl, fun _ _ _ => rfl, Or.inl rfl⟩
set_option maxHeartbeats 4000000 in
set_option maxRecDepth 20000 in
theorem xLayers (x y u v : Int32) (hW : WH w h I J A B) (hc : I 34 = I 6 → LyC I A (A 3) w h) : zC 5 sc 131 [.ref 0, .int x, .int y, .int u, .int v] (xm I J A B tl) (fun M r => ∃ q, r = some (.int q) ∧ LayAns (A 3) w h x y u v q ∧ LyQ tl w h I J A B M) := by
  have hWW := hW
  obtain ⟨h0, h1, h7, h8, hw1, hw, hh1, hh, hJ, hV, hC', hR⟩ := hW
  refine zc_of hkX10_layers rfl ?_
  repeat (refine zw_go rfl rfl (fun _ _ => rfl) ?_)
  refine zw_call rfl (fun _ _ => rfl) (xIsPart sc I J A B tl w h x y u v h0 h1) (by decide) ?_
  rintro M1 r1 ⟨rfl, ⟨rfl, hg⟩ | ⟨rfl, hg⟩⟩
  · repeat (refine zw_go rfl rfl (fun _ _ => rfl) ?_)
    exact zw_ret rfl (fun _ _ => rfl) (⟨-1, rfl, Or.inl ⟨hg, rfl⟩, ly_id hWW hc⟩)
  · obtain ⟨i, j, k, l, g1, g2, g3, g4, rfl, rfl, rfl, rfl⟩ := gPart_of hw hh hg
    repeat (refine zw_go rfl rfl (fun _ _ => rfl) ?_)
    refine zw_call rfl (fun _ _ => rfl) (xWv sc I J A B tl w h hWW) (by decide) ?_
    rintro M1 r1 ⟨rfl, I', A', B', rfl, hW2, hC, hK⟩
    repeat (refine zw_go rfl rfl (fun _ _ => rfl) ?_)
    refine zw_call rfl (fun _ _ => rfl) (xSortPart sc I' J A' B' tl w h (A 3) i j k l g1 g2 hw g3 g4 hh hC.2.1 hC.2.2.1 (fun e => lyc_cong (hc (by rw [← hK.1 34 (by decide) (by decide), e, hK.2.1, hK.1 6 (by decide) (by decide)])) (fun z h1 h2 => hK.1 z (by omega) (by omega)) (hK.2.2.1 14 (by decide)))) (by decide) ?_
    rintro M1 r1 ⟨rfl, hP⟩
    obtain ⟨I2, J2, A2, B2, rfl, ⟨T, t1, t2, t3⟩, e0, hQ⟩ := ly_q g1 g2 g3 g4 hW2 hK hP
    repeat (refine zw_go rfl rfl (fun _ _ => rfl) ?_)
    exact zw_ret rfl (fun _ _ => rfl) (⟨_, rfl, Or.inr ⟨i, j, k, l, T, g1, g2, g3, g4, rfl, rfl, rfl, rfl, t1, t2⟩, hQ⟩)
set_option maxHeartbeats 4000000 in
set_option maxRecDepth 20000 in
theorem xNumberOf (s : Nat) (hs : s < 96) : zC 1 sc 23 [.ref 27, .int (nI s)] (xm I J A B tl) (zR (xm I J A B tl) (.int (A 14 s))) := by
  refine zc_of hkX2_numberOf rfl ?_
  refine zw_nx rfl (fun _ _ => rfl) ?_
  first | refine zw_br rfl (fun _ _ => rfl) (fun h9 => absurd h9 (nI_neg (show s < 2 ^ 31 by omega))) (fun _ => ?_) | refine zw_nx rfl (fun _ _ => rfl) ?_
  repeat (refine zw_go rfl rfl (fun _ _ => rfl) ?_)
  refine zw_br rfl (fun _ _ => rfl) (fun h9 => absurd h9 (nI_ge (a := s) (b := 96) (by omega) (by omega))) (fun _ => ?_)
  repeat (refine zw_go rfl rfl (fun _ _ => rfl) ?_)
  refine zw_ix rfl (fun _ _ => rfl) (show vp_in (nI (s)) _ from vp_in_nI (by omega) (by omega)) ?_
  rw [show (nI (s)).toNatClampNeg = s from nI_clamp (by omega)]
  repeat (refine zw_go rfl rfl (fun _ _ => rfl) ?_)
  exact zw_ret rfl (fun _ _ => rfl) (⟨rfl, rfl⟩)
set_option maxHeartbeats 4000000 in
set_option maxRecDepth 20000 in
theorem xLayer (x y u v z : Int32) (hW : WH w h I J A B) (hc : I 34 = I 6 → LyC I A (A 3) w h) : zC 5 sc 132 [.ref 0, .int x, .int y, .int u, .int v, .int z] (xm I J A B tl) (fun M r => ∃ q, r = some (.int q) ∧ LayrAns (A 3) w h x y u v z q ∧ LyQ tl w h I J A B M) := by
  have hWW := hW
  obtain ⟨h0, h1, h7, h8, hw1, hw, hh1, hh, hJ, hV, hC', hR⟩ := hW
  refine zc_of hkX10_layer rfl ?_
  repeat (refine zw_go rfl rfl (fun _ _ => rfl) ?_)
  refine zw_call rfl (fun _ _ => rfl) (xIsPart sc I J A B tl w h x y u v h0 h1) (by decide) ?_
  rintro M1 r1 ⟨rfl, ⟨rfl, hg⟩ | ⟨rfl, hg⟩⟩
  · repeat (refine zw_go rfl rfl (fun _ _ => rfl) ?_)
    exact zw_ret rfl (fun _ _ => rfl) (⟨-1, rfl, Or.inl ⟨fun g => hg g.1, rfl⟩, ly_id hWW hc⟩)
  · obtain ⟨i, j, k, l, g1, g2, g3, g4, rfl, rfl, rfl, rfl⟩ := gPart_of hw hh hg
    repeat (refine zw_go rfl rfl (fun _ _ => rfl) ?_)
    refine zw_call rfl (fun _ _ => rfl) (xWv sc I J A B tl w h hWW) (by decide) ?_
    rintro M1 r1 ⟨rfl, I', A', B', rfl, hW2, hC, hK⟩
    repeat (refine zw_go rfl rfl (fun _ _ => rfl) ?_)
    refine zw_call rfl (fun _ _ => rfl) (xSortPart sc I' J A' B' tl w h (A 3) i j k l g1 g2 hw g3 g4 hh hC.2.1 hC.2.2.1 (fun e => lyc_cong (hc (by rw [← hK.1 34 (by decide) (by decide), e, hK.2.1, hK.1 6 (by decide) (by decide)])) (fun z h1 h2 => hK.1 z (by omega) (by omega)) (hK.2.2.1 14 (by decide)))) (by decide) ?_
    rintro M1 r1 ⟨rfl, hP⟩
    obtain ⟨I2, J2, A2, B2, rfl, ⟨T, t1, t2, t3⟩, e0, hQ⟩ := ly_q g1 g2 g3 g4 hW2 hK hP
    rw [h0] at e0
    have tail : (z < nI i ∨ nI j < z) → zW 4 sc miX10_layer 55 [some (.ref 0), some (.int (nI i)), some (.int (nI j)), some (.int (nI k)), some (.int (nI l)), some (.int z)] [] (xm I2 J2 A2 B2 tl) (fun M r => ∃ q, r = some (.int q) ∧ LayrAns (A 3) w h (nI i) (nI j) (nI k) (nI l) z q ∧ LyQ tl w h I J A B M) := by
      intro hz
      have no : (z < nI (w + k) ∨ nI (w + l) < z) → LayrAns (A 3) w h (nI i) (nI j) (nI k) (nI l) z (-1) := fun hz2 => by
        by_cases hq : 0 ≤ z ∧ z < nI (w + h)
        · obtain ⟨s, hs, rfl⟩ := inR_of hq (by omega)
          rw [nI_ltI (by omega) (by omega), nI_ltI (by omega) (by omega)] at hz hz2
          refine Or.inr ⟨i, j, k, l, T, s, g1, g2, g3, g4, rfl, rfl, rfl, rfl, t1, hs, rfl, ?_⟩
          rw [if_neg]
          unfold sN
          by_cases h5 : s < w
          · rw [if_pos h5, inP_e (by omega), decide_eq_true_eq]; omega
          · rw [if_neg h5, inP_p, decide_eq_true_eq]; omega
        · exact Or.inl ⟨fun g => hq g.2, rfl⟩
      repeat (refine zw_go rfl rfl (fun _ _ => rfl) ?_)
      rw [e0, show nI w + nI k = nI (w + k) from nI_add w k]
      refine zw_br rfl (fun _ _ => rfl) (fun (h3 : z < nI (w + k)) => ?_) (fun (h3 : ¬ (z < nI (w + k))) => ?_)
      · repeat (refine zw_go rfl rfl (fun _ _ => rfl) ?_)
        exact zw_ret rfl (fun _ _ => rfl) (⟨-1, rfl, no (Or.inl h3), hQ⟩)
      · repeat (refine zw_go rfl rfl (fun _ _ => rfl) ?_)
        rw [e0, show nI w + nI l = nI (w + l) from nI_add w l]
        refine zw_br rfl (fun _ _ => rfl) (fun (h4 : nI (w + l) < z) => ?_) (fun (h4 : ¬ (nI (w + l) < z)) => ?_)
        · repeat (refine zw_go rfl rfl (fun _ _ => rfl) ?_)
          exact zw_ret rfl (fun _ _ => rfl) (⟨-1, rfl, no (Or.inr h4), hQ⟩)
        · obtain ⟨s, s1, s2, rfl⟩ := rng_of h3 h4 (by omega) (by omega)
          repeat (refine zw_go rfl rfl (fun _ _ => rfl) ?_)
          rw [e0, show (Int8.ofInt 48).toInt32 + nI s - nI w = nI (48 + (s - w)) from by
            rw [show (Int8.ofInt 48).toInt32 + nI s = nI (48 + s) from nI_add 48 s, nI_sub (by omega), show 48 + s - w = 48 + (s - w) by omega]]
          refine zw_call rfl (fun _ _ => rfl) (xNumberOf sc I2 J2 A2 B2 tl (48 + (s - w)) (by omega)) (by decide) ?_
          rintro M1 r1 ⟨rfl, rfl⟩
          have hin : inP i j k l (48 + (s - w)) = true := by rw [inP_p]; exact decide_eq_true (by omega)
          refine zw_ret rfl (fun _ _ => rfl) ?_
          exact ⟨_, rfl, Or.inr ⟨i, j, k, l, T, s, g1, g2, g3, g4, rfl, rfl, rfl, rfl, t1, by omega, rfl, by rw [show sN w s = 48 + (s - w) from if_neg (by omega), if_pos hin, t3 _ (by omega) hin]⟩, hQ⟩
    repeat (refine zw_go rfl rfl (fun _ _ => rfl) ?_)
    refine zw_br rfl (fun _ _ => rfl) (fun (h3 : z < nI i) => ?_) (fun (h3 : ¬ (z < nI i)) => ?_)
    · exact tail (Or.inl h3)
    · repeat (refine zw_go rfl rfl (fun _ _ => rfl) ?_)
      refine zw_br rfl (fun _ _ => rfl) (fun (h4 : nI j < z) => ?_) (fun (h4 : ¬ (nI j < z)) => ?_)
      · exact tail (Or.inr h4)
      · obtain ⟨s, s1, s2, rfl⟩ := rng_of h3 h4 (by omega) (by omega)
        repeat (refine zw_go rfl rfl (fun _ _ => rfl) ?_)
        refine zw_call rfl (fun _ _ => rfl) (xNumberOf sc I2 J2 A2 B2 tl s (by omega)) (by decide) ?_
        rintro M1 r1 ⟨rfl, rfl⟩
        have hin : inP i j k l s = true := by rw [inP_e (by omega)]; exact decide_eq_true (by omega)
        refine zw_ret rfl (fun _ _ => rfl) ?_
        exact ⟨_, rfl, Or.inr ⟨i, j, k, l, T, s, g1, g2, g3, g4, rfl, rfl, rfl, rfl, t1, by omega, rfl, by rw [show sN w s = s from if_pos (by omega), if_pos hin, t3 _ (by omega) hin]⟩, hQ⟩
end

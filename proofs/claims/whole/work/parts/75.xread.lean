/-! the class: its reader, small things -/
theorem zw_lsd {D : Nat} {sc : sm_S} {mi : sm_MI} {pc : Nat} {L : sm_L} {M : sm_M} {Post : sm_M → Option Value → Prop} {dflt : Int} {ps : Array (Int × Int)} {x : Int32} {r : List Value} (t : Nat) (hi' : sm_fd mi.2.2.2.2.1 pc = some (.lookupswitch dflt ps)) (hs : (ps.toList.zip (ps.toList.drop 1)).all (fun (a, next) => a.1 < next.1) = true) (ht : (pc : Int) + dflt = Int.ofNat t) (hx : Op.lookupswitch.offset ps.toList dflt x.toInt = dflt) (hn : zW D sc mi t (sm_kp mi.2.2.2.2.2.1 pc L) r M Post) : zW D sc mi pc L (.int x :: r) M Post :=
  zw_nx hi' (fun cal k => by
    show (match (ps.toList.zip (ps.toList.drop 1)).all (fun (a, next) => a.1 < next.1) with
      | true => sm_i1 (.int x :: r) (fun x r => sm_tg pc (Op.lookupswitch.offset ps.toList dflt x.toInt) (fun t => k t (sm_kp mi.2.2.2.2.2.1 pc L) r M))
      | false => none) = _
    rw [hs]
    show sm_tg pc (Op.lookupswitch.offset ps.toList dflt x.toInt) _ = _
    rw [hx]
    unfold sm_tg
    rw [ht]) hn
/-- the ROWS around, one behind the other -/
def flt : tF → List Nat
  | [] => []
  | (o, _) :: t => flt t ++ o
theorem flt_cons {o : List Nat} {s : Nat} {t : tF} : flt ((o, s) :: t) = flt t ++ o := rfl
def FrX (A : Nat → Nat → Int32) : tF → Prop
  | [] => A 8 0 = nI 0
  | (o, s) :: t => A 8 (t.length + 1) = nI (flt t ++ o).length ∧ A 10 (t.length + 1) = nI s ∧ A 9 t.length = nI (flt t ++ o).length ∧ FrX A t
theorem frX_cong {A A' : Nat → Nat → Int32} : ∀ {fr : tF}, FrX A fr → (∀ i, i ≤ fr.length → A' 8 i = A 8 i) → (∀ i, i ≤ fr.length → A' 10 i = A 10 i) → (∀ i, i < fr.length → A' 9 i = A 9 i) → FrX A' fr := by
  intro fr
  induction fr with
  | nil => intro h h1 _ _; show A' 8 0 = nI 0; rw [h1 0 (Nat.le_refl _)]; exact h
  | cons q t ih =>
    obtain ⟨o, s⟩ := q
    rintro ⟨g1, g2, g3, g4⟩ h1 h2 h3
    rw [List.length_cons] at h1 h2 h3
    exact ⟨by rw [h1 _ (by omega)]; exact g1, by rw [h2 _ (by omega)]; exact g2, by rw [h3 _ (by omega)]; exact g3, ih g4 (fun i hi => h1 i (by omega)) (fun i hi => h2 i (by omega)) (fun i hi => h3 i (by omega))⟩
theorem frX_row {A : Nat → Nat → Int32} : ∀ {fr : tF}, FrX A fr → A 8 fr.length = nI (flt fr).length := by
  intro fr
  cases fr with
  | nil => intro h; exact h
  | cons q t => obtain ⟨o, s⟩ := q; intro h; exact h.1
theorem flt_len {fr : tF} (h : ∀ q, q ∈ fr → rwK q.1 ∧ q.2 ≤ 17) : (flt fr).length ≤ 200 * fr.length := by
  induction fr with
  | nil => exact Nat.le_refl _
  | cons q t ih =>
    obtain ⟨o, s⟩ := q
    have h1 := (h (o, s) List.mem_cons_self).1.1
    have h2 := ih (fun q hq => h q (List.mem_cons_of_mem _ hq))
    rw [flt_cons, List.length_append, List.length_cons]
    show (flt t).length + o.length ≤ _
    have h3 : o.length ≤ 200 := h1
    omega
/-- the open ROWS, in memory -/
def XN (cur : List Nat) (fr : tF) (I : Nat → Int32) (A : Nat → Nat → Int32) : Prop := I 18 = nI (flt fr ++ cur).length ∧ I 19 = nI fr.length ∧ FrX A fr ∧ ∀ i, i < (flt fr ++ cur).length → A 7 i = nI (gl (flt fr ++ cur) i)
def XB (bk : Nat → List Nat) (A : Nat → Nat → Int32) : Prop := ∀ l, l < 8 → A 12 l = nI (bk l).length ∧ ∀ i, i < (bk l).length → A 11 (l * 200 + i) = nI (gl (bk l) i)
def gE (l : tE) (i : Nat) : Nat × Nat × Int32 := l.getD i (0, 0, 0)
def XE (n0 t0 : Nat) (en : tE) (I : Nat → Int32) (A : Nat → Nat → Int32) : Prop := I 3 = nI (n0 + en.length) ∧ I 4 = nI t0 ∧ ∀ i, i < en.length → n0 + i < 2000 → A 0 (n0 + i) = nI (sb (gE en i).1 + (gE en i).2.1) ∧ A 1 (n0 + i) = (gE en i).2.2 ∧ A 2 (n0 + i) = nI (t0 + 1)
def XC (md cl tg sh fi fp : Nat) (I : Nat → Int32) : Prop := I 20 = nI md ∧ (md ≠ 0 → I 21 = nI cl) ∧ ((md = 2 ∨ 4 ≤ md) → (cl = 4 ∨ cl = 7) → I 22 = nI tg) ∧ (md = 8 → I 23 = nI sh) ∧ ((md = 5 ∨ md = 6) → I 24 = nI fi ∧ I 25 = nI fp) ∧ I 26 = 0 ∧ I 27 = -1
/-- what is read so far, in memory -/
def XR (n0 t0 : Nat) (s : tS) (I : Nat → Int32) (A : Nat → Nat → Int32) : Prop := match s with
  | (md, cl, tg, sh, fi, fp, cur, it, fr, bk, en) => XC md cl tg sh fi fp I ∧ XB bk A ∧ XE n0 t0 en I A ∧ (4 ≤ md → XN cur fr I A) ∧ ((md = 5 ∨ md = 6 ∨ md = 9 ∨ md = 10) → A 9 fr.length = nI ((flt fr).length + it)) ∧ ((md = 7 ∨ md = 8) → A 9 fr.length = nI ((flt fr).length + cur.length))
def XS (n0 t0 : Nat) (q : Sum tS tR) (I : Nat → Int32) (A : Nat → Nat → Int32) : Prop := match q with
  | .inl s => XR n0 t0 s I A
  | .inr r => I 20 = nI 12 ∧ I 26 = nI r.1 ∧ (r.1 ≠ 0 → I 27 = nI r.2.1) ∧ (r.1 = 0 → I 27 = -1 ∧ XE n0 t0 r.2.2 I A)
/-- what a step leaves as it was -/
def XF (n0 : Nat) (I : Nat → Int32) (A : Nat → Nat → Int32) (I' : Nat → Int32) (A' : Nat → Nat → Int32) : Prop := (∀ z, z < 3 ∨ (3 < z ∧ z < 18) ∨ 27 < z → I' z = I z) ∧ (∀ a, 2 < a → a < 7 ∨ 12 < a → A' a = A a) ∧ ∀ a i, a ≤ 2 → i < n0 → A' a i = A a i
theorem xf_rfl {n0 : Nat} {I : Nat → Int32} {A : Nat → Nat → Int32} : XF n0 I A I A := ⟨fun _ _ => rfl, fun _ _ _ => rfl, fun _ _ _ _ => rfl⟩
theorem xf_tr {n0 : Nat} {I I1 I2 : Nat → Int32} {A A1 A2 : Nat → Nat → Int32} (h1 : XF n0 I A I1 A1) (h2 : XF n0 I1 A1 I2 A2) : XF n0 I A I2 A2 := ⟨fun z hz => (h2.1 z hz).trans (h1.1 z hz), fun a ha hb => (h2.2.1 a ha hb).trans (h1.2.1 a ha hb), fun a i ha hi => (h2.2.2 a i ha hi).trans (h1.2.2 a i ha hi)⟩
/-- a FAULT, in memory -/
theorem xs_bad {n0 t0 c p : Nat} {I : Nat → Int32} {A : Nat → Nat → Int32} (hc : c ≠ 0) (h20 : I 20 = nI 12) (h26 : I 26 = nI c) (h27 : I 27 = nI p) : XS n0 t0 (bad c p) I A := ⟨h20, h26, fun _ => h27, fun z => absurd z hc⟩
theorem min8 {d : Nat} (hd : d ≤ 8) : (if nI d < (Int8.ofInt 8).toInt32 then nI d else (Int8.ofInt 8).toInt32) = nI d := by
  by_cases h : nI d < (Int8.ofInt 8).toInt32
  · rw [if_pos h]
  · rw [if_neg h]
    by_cases h1 : d = 8
    · subst h1; rfl
    · exact absurd (nI_lt (a := d) (b := 8) (by omega) (by omega)) h
/-- more in the ROW -/
theorem xn_app {cur r : List Nat} {fr : tF} {I I' : Nat → Int32} {A A' : Nat → Nat → Int32} (h : XN cur fr I A) (h18 : I' 18 = nI ((flt fr ++ cur).length + r.length)) (h19 : I' 19 = I 19) (h7 : ∀ i, i < (flt fr ++ cur).length → A' 7 i = A 7 i) (h7r : ∀ i, i < r.length → A' 7 ((flt fr ++ cur).length + i) = nI (gl r i)) (h8 : A' 8 = A 8) (h9 : ∀ i, i < fr.length → A' 9 i = A 9 i) (h10 : A' 10 = A 10) : XN (cur ++ r) fr I' A' := by
  refine ⟨?_, by rw [h19]; exact h.2.1, frX_cong h.2.2.1 (fun i _ => by rw [h8]) (fun i _ => by rw [h10]) h9, fun i hi => ?_⟩
  · rw [h18, ← List.append_assoc, List.length_append (as := flt fr ++ cur)]
  · rw [← List.append_assoc] at hi ⊢
    rw [List.length_append (as := flt fr ++ cur)] at hi
    rcases Nat.lt_or_ge i (flt fr ++ cur).length with h1 | h1
    · rw [gl_app h1, h7 i h1]; exact h.2.2.2 i h1
    · have e : i = (flt fr ++ cur).length + (i - (flt fr ++ cur).length) := by omega
      rw [e, gl_app2]
      exact h7r _ (by omega)
section
variable (sc : sm_S) (I : Nat → Int32) (J : Nat → Int64) (A : Nat → Nat → Int32) (B : Nat → Nat → Int64) (tl : sm_M) (f : Nat → va_E) (n : Nat) (b : Nat → Nat)
set_option maxHeartbeats 4000000 in
set_option maxRecDepth 20000 in
theorem xOpenRow (d : Nat) (hd : d ≤ 8) (h19 : I 19 = nI d) : zC 1 sc 83 [.ref 16] (xm I J A B tl) (zR (xm I J A B tl) (.int (nI d))) := by
  refine zc_of hkX6_openRow rfl ?_
  repeat (refine zw_go rfl rfl (fun _ _ => rfl) ?_)
  rw [h19, min8 hd, max0 (by omega)]
  exact zw_ret rfl (fun _ _ => rfl) (⟨rfl, rfl⟩)
set_option maxHeartbeats 4000000 in
set_option maxRecDepth 20000 in
theorem xHasRoom (cur : List Nat) (fr : tF) (m : Nat) (hm : m < 20000) (h : XN cur fr I A) (hd : fr.length ≤ 8) (hl : (flt fr ++ cur).length ≤ 1800) : zC 2 sc 84 [.ref 16, .int (nI m)] (xm I J A B tl) (zR (xm I J A B tl) (.int (if 200 < cur.length + m then 0 else 1))) := by
  refine zc_of hkX6_hasRoom rfl ?_
  repeat (refine zw_go rfl rfl (fun _ _ => rfl) ?_)
  refine zw_call rfl (fun _ _ => rfl) (xOpenRow sc I J A B tl fr.length hd h.2.1) (by decide) ?_
  rintro M1 r1 ⟨rfl, rfl⟩
  repeat (refine zw_go rfl rfl (fun _ _ => rfl) ?_)
  refine zw_ix rfl (fun _ _ => rfl) (show vp_in (nI (fr.length)) _ from vp_in_nI (by omega) (by omega)) ?_
  rw [show (nI (fr.length)).toNatClampNeg = fr.length from nI_clamp (by omega)]
  repeat (refine zw_go rfl rfl (fun _ _ => rfl) ?_)
  rw [h.1, frX_row h.2.2.1, nI_sub (by rw [List.length_append]; omega), List.length_append, Nat.add_sub_cancel_left, nI_add]
  rw [List.length_append] at hl
  by_cases h1 : 200 < cur.length + m
  · rw [if_pos h1]
    first | refine zw_br rfl (fun _ _ => rfl) (fun _ => ?_) (fun h9 => absurd (nI_lt (a := 200) (b := cur.length + m) h1 (by omega)) h9) | refine zw_nx rfl (fun _ _ => rfl) ?_
    repeat (refine zw_go rfl rfl (fun _ _ => rfl) ?_)
    exact zw_ret rfl (fun _ _ => rfl) (⟨rfl, rfl⟩)
  · rw [if_neg h1]
    first | refine zw_br rfl (fun _ _ => rfl) (fun h9 => absurd h9 (nI_nlt (a := 200) (b := cur.length + m) (by omega) (by omega))) (fun _ => ?_) | refine zw_nx rfl (fun _ _ => rfl) ?_
    repeat (refine zw_go rfl rfl (fun _ _ => rfl) ?_)
    exact zw_ret rfl (fun _ _ => rfl) (⟨rfl, rfl⟩)
set_option maxHeartbeats 4000000 in
set_option maxRecDepth 20000 in
theorem xAdd (v : Int32) (k : Nat) (hk : k < 1800) (h18 : I 18 = nI k) : zC 1 sc 85 [.ref 16, .int v] (xm I J A B tl) (fun M r => r = none ∧ M = xm (upd I 18 (nI (k + 1))) J (va_up A 7 (upd (A 7) k v)) B tl) := by
  refine zc_of hkX6_add rfl ?_
  repeat (refine zw_go rfl rfl (fun _ _ => rfl) ?_)
  rw [h18]
  first | refine zw_br rfl (fun _ _ => rfl) (fun h9 => absurd h9 (nI_neg (show k < 2 ^ 31 by omega))) (fun _ => ?_) | refine zw_nx rfl (fun _ _ => rfl) ?_
  repeat (refine zw_go rfl rfl (fun _ _ => rfl) ?_)
  rw [h18]
  refine zw_br rfl (fun _ _ => rfl) (fun h9 => absurd h9 (nI_ge (a := k) (b := 1800) (by omega) (by omega))) (fun _ => ?_)
  repeat (refine zw_go rfl rfl (fun _ _ => rfl) ?_)
  rw [h18]
  refine zw_ix rfl (fun _ _ => rfl) (show vp_in (nI (k)) _ from vp_in_nI (by omega) (by omega)) ?_
  rw [show (nI (k)).toNatClampNeg = k from nI_clamp (by omega)]
  repeat (refine zw_go rfl rfl (fun _ _ => rfl) ?_)
  rw [h18, show nI k + Int32.ofInt 1 = nI (k + 1) from nI_1 k]
  exact zw_ret rfl (fun _ _ => rfl) (⟨rfl, rfl⟩)
set_option maxHeartbeats 4000000 in
set_option maxRecDepth 20000 in
theorem xNumberAt (i : Nat) (hi : i < 1800) : zC 1 sc 86 [.ref 16, .int (nI i)] (xm I J A B tl) (zR (xm I J A B tl) (.int (A 7 i))) := by
  refine zc_of hkX6_numberAt rfl ?_
  refine zw_nx rfl (fun _ _ => rfl) ?_
  first | refine zw_br rfl (fun _ _ => rfl) (fun h9 => absurd h9 (nI_neg (show i < 2 ^ 31 by omega))) (fun _ => ?_) | refine zw_nx rfl (fun _ _ => rfl) ?_
  repeat (refine zw_go rfl rfl (fun _ _ => rfl) ?_)
  refine zw_br rfl (fun _ _ => rfl) (fun h9 => absurd h9 (nI_ge (a := i) (b := 1800) (by omega) (by omega))) (fun _ => ?_)
  repeat (refine zw_go rfl rfl (fun _ _ => rfl) ?_)
  refine zw_ix rfl (fun _ _ => rfl) (show vp_in (nI (i)) _ from vp_in_nI (by omega) (by omega)) ?_
  rw [show (nI (i)).toNatClampNeg = i from nI_clamp (by omega)]
  repeat (refine zw_go rfl rfl (fun _ _ => rfl) ?_)
  exact zw_ret rfl (fun _ _ => rfl) (⟨rfl, rfl⟩)
set_option maxHeartbeats 4000000 in
set_option maxRecDepth 20000 in
theorem xPut (i : Nat) (v : Int32) (hi : i < 1800) : zC 1 sc 87 [.ref 16, .int (nI i), .int v] (xm I J A B tl) (fun M r => r = none ∧ M = xm I J (va_up A 7 (upd (A 7) i v)) B tl) := by
  refine zc_of hkX6_put rfl ?_
  refine zw_nx rfl (fun _ _ => rfl) ?_
  first | refine zw_br rfl (fun _ _ => rfl) (fun h9 => absurd h9 (nI_neg (show i < 2 ^ 31 by omega))) (fun _ => ?_) | refine zw_nx rfl (fun _ _ => rfl) ?_
  repeat (refine zw_go rfl rfl (fun _ _ => rfl) ?_)
  refine zw_br rfl (fun _ _ => rfl) (fun h9 => absurd h9 (nI_ge (a := i) (b := 1800) (by omega) (by omega))) (fun _ => ?_)
  repeat (refine zw_go rfl rfl (fun _ _ => rfl) ?_)
  refine zw_ix rfl (fun _ _ => rfl) (show vp_in (nI (i)) _ from vp_in_nI (by omega) (by omega)) ?_
  rw [show (nI (i)).toNatClampNeg = i from nI_clamp (by omega)]
  repeat (refine zw_go rfl rfl (fun _ _ => rfl) ?_)
  exact zw_ret rfl (fun _ _ => rfl) (⟨rfl, rfl⟩)
set_option maxHeartbeats 4000000 in
set_option maxRecDepth 20000 in
theorem xBlockSize (l : Nat) (hl : l < 8) : zC 1 sc 88 [.ref 16, .int (nI l)] (xm I J A B tl) (zR (xm I J A B tl) (.int (A 12 l))) := by
  refine zc_of hkX6_blockSize rfl ?_
  refine zw_nx rfl (fun _ _ => rfl) ?_
  first | refine zw_br rfl (fun _ _ => rfl) (fun h9 => absurd h9 (nI_neg (show l < 2 ^ 31 by omega))) (fun _ => ?_) | refine zw_nx rfl (fun _ _ => rfl) ?_
  repeat (refine zw_go rfl rfl (fun _ _ => rfl) ?_)
  refine zw_br rfl (fun _ _ => rfl) (fun h9 => absurd h9 (nI_ge (a := l) (b := 8) (by omega) (by omega))) (fun _ => ?_)
  repeat (refine zw_go rfl rfl (fun _ _ => rfl) ?_)
  refine zw_ix rfl (fun _ _ => rfl) (show vp_in (nI (l)) _ from vp_in_nI (by omega) (by omega)) ?_
  rw [show (nI (l)).toNatClampNeg = l from nI_clamp (by omega)]
  repeat (refine zw_go rfl rfl (fun _ _ => rfl) ?_)
  exact zw_ret rfl (fun _ _ => rfl) (⟨rfl, rfl⟩)
set_option maxHeartbeats 4000000 in
set_option maxRecDepth 20000 in
theorem xBlockNumber (l i : Nat) (hl : l < 8) (hi : i < 200) : zC 1 sc 89 [.ref 16, .int (nI l), .int (nI i)] (xm I J A B tl) (zR (xm I J A B tl) (.int (A 11 (l * 200 + i)))) := by
  refine zc_of hkX6_blockNumber rfl ?_
  repeat (refine zw_go rfl rfl (fun _ _ => rfl) ?_)
  rw [show nI l * (Int16.ofInt 200).toInt32 + nI i = nI (l * 200 + i) from by rw [show nI l * (Int16.ofInt 200).toInt32 = nI (l * 200) from nI_mul l 200, nI_add]]
  first | refine zw_br rfl (fun _ _ => rfl) (fun h9 => absurd h9 (nI_neg (show l * 200 + i < 2 ^ 31 by omega))) (fun _ => ?_) | refine zw_nx rfl (fun _ _ => rfl) ?_
  repeat (refine zw_go rfl rfl (fun _ _ => rfl) ?_)
  refine zw_br rfl (fun _ _ => rfl) (fun h9 => absurd h9 (nI_ge (a := (l * 200 + i)) (b := 1600) (by omega) (by omega))) (fun _ => ?_)
  repeat (refine zw_go rfl rfl (fun _ _ => rfl) ?_)
  refine zw_ix rfl (fun _ _ => rfl) (show vp_in (nI ((l * 200 + i))) _ from vp_in_nI (by omega) (by omega)) ?_
  rw [show (nI ((l * 200 + i))).toNatClampNeg = (l * 200 + i) from nI_clamp (by omega)]
  repeat (refine zw_go rfl rfl (fun _ _ => rfl) ?_)
  exact zw_ret rfl (fun _ _ => rfl) (⟨rfl, rfl⟩)
set_option maxHeartbeats 4000000 in
set_option maxRecDepth 20000 in
theorem xFailAt (c p : Int32) : zC 1 sc 60 [.ref 16, .int c, .int p] (xm I J A B tl) (fun M r => r = none ∧ M = xm (upd (upd (upd I 26 c) 27 p) 20 (nI 12)) J A B tl) := by
  refine zc_of hkX6_failAt rfl ?_
  repeat (refine zw_go rfl rfl (fun _ _ => rfl) ?_)
  exact zw_ret rfl (fun _ _ => rfl) (⟨rfl, rfl⟩)
set_option maxHeartbeats 4000000 in
set_option maxRecDepth 20000 in
theorem xFail (c : Int32) : zC 2 sc 59 [.ref 16, .int c] (xm I J A B tl) (fun M r => r = none ∧ M = xm (upd (upd (upd I 26 c) 27 (I 14)) 20 (nI 12)) J A B tl) := by
  refine zc_of hkX6_fail rfl ?_
  repeat (refine zw_go rfl rfl (fun _ _ => rfl) ?_)
  refine zw_call rfl (fun _ _ => rfl) (xFailAt sc I J A B tl c (I 14)) (by decide) ?_
  rintro M1 r1 ⟨rfl, rfl⟩
  exact zw_ret rfl (fun _ _ => rfl) (⟨rfl, rfl⟩)
/-- the end with a FAULT -/
def XX (n0 t0 : Nat) (q : Sum tS tR) (tl : sm_M) (I : Nat → Int32) (J : Nat → Int64) (A : Nat → Nat → Int32) (B : Nat → Nat → Int64) (M : sm_M) : Prop := ∃ I' A', M = xm I' J A' B tl ∧ XS n0 t0 q I' A' ∧ XF n0 I A I' A'
theorem xx_bad {n0 t0 c p : Nat} {tl : sm_M} {I : Nat → Int32} {J : Nat → Int64} {A : Nat → Nat → Int32} {B : Nat → Nat → Int64} {x y : Int32} (hc : c ≠ 0) (hx : x = nI c) (hy : y = nI p) : XX n0 t0 (bad c p) tl I J A B (xm (upd (upd (upd I 26 x) 27 y) 20 (nI 12)) J A B tl) := by
  refine ⟨_, A, rfl, xs_bad hc rfl hx hy, fun z hz => ?_, fun _ _ _ => rfl, fun _ _ _ _ => rfl⟩
  unfold upd
  rw [if_neg (by omega), if_neg (by omega), if_neg (by omega)]
theorem xx_tr {n0 t0 : Nat} {q : Sum tS tR} {tl : sm_M} {I I1 : Nat → Int32} {J : Nat → Int64} {A A1 : Nat → Nat → Int32} {B : Nat → Nat → Int64} {M : sm_M} (h1 : XF n0 I A I1 A1) (h : XX n0 t0 q tl I1 J A1 B M) : XX n0 t0 q tl I J A B M := by
  obtain ⟨I', A', h2, h3, h4⟩ := h
  exact ⟨I', A', h2, h3, xf_tr h1 h4⟩
set_option maxHeartbeats 4000000 in
set_option maxRecDepth 20000 in
theorem xIsNumber (n0 t0 lo hi p : Nat) (hl : lo ≤ 48) (hh : hi ≤ 48) (ht : TkX I b n p) (hpn : p ≤ n) : zC 3 sc 65 [.ref 16, .int (nI lo), .int (nI hi)] (xm I J A B tl) (fun M r => (r = some (.int 1) ∧ M = xm I J A B tl ∧ tkK b n p = 2 ∧ lo ≤ tkN b n p ∧ tkN b n p ≤ hi) ∨ (r = some (.int 0) ∧ ((tkK b n p ≠ 2 ∧ XX n0 t0 (bad 1 (tkP b n p)) tl I J A B M) ∨ (tkK b n p = 2 ∧ (tkN b n p < lo ∨ hi < tkN b n p) ∧ XX n0 t0 (bad 2 (tkP b n p)) tl I J A B M)))) := by
  obtain ⟨e12, e13, e14, e15⟩ := ht
  have hk : tkK b n p < 2 ^ 31 := by
    unfold tkK kAt
    split
    · omega
    · split
      · omega
      · split
        · split
          · omega
          · have := kdW_le (l := wrd b (tkP b n p) (spN isAl b n (tkP b n p) - tkP b n p)); omega
        · split
          · rename_i h1
            unfold isSg at h1
            rw [decide_eq_true_eq] at h1
            omega
          · omega
  refine zc_of hkX6_isNumber rfl ?_
  repeat (refine zw_go rfl rfl (fun _ _ => rfl) ?_)
  rw [e13]
  refine zw_br rfl (fun _ _ => rfl) (fun (h1 : nI (tkK b n p) = nI 2) => ?_) (fun (h1 : ¬ (nI (tkK b n p) = nI 2)) => ?_)
  · rw [nI_eq hk (by omega)] at h1
    have e := e15 (Or.inl h1)
    have hN := tk_num (Or.inl h1)
    have two : (tkN b n p < lo ∨ hi < tkN b n p) → zW 2 sc miX6_isNumber 40 [some (.ref 16), some (.int (nI lo)), some (.int (nI hi))] [] (xm I J A B tl) (fun M r => (r = some (.int 1) ∧ M = xm I J A B tl ∧ tkK b n p = 2 ∧ lo ≤ tkN b n p ∧ tkN b n p ≤ hi) ∨ (r = some (.int 0) ∧ ((tkK b n p ≠ 2 ∧ XX n0 t0 (bad 1 (tkP b n p)) tl I J A B M) ∨ (tkK b n p = 2 ∧ (tkN b n p < lo ∨ hi < tkN b n p) ∧ XX n0 t0 (bad 2 (tkP b n p)) tl I J A B M)))) := fun hb => by
      repeat (refine zw_go rfl rfl (fun _ _ => rfl) ?_)
      refine zw_call rfl (fun _ _ => rfl) (xFail sc I J A B tl 2) (by decide) ?_
      rintro M1 r1 ⟨rfl, rfl⟩
      repeat (refine zw_go rfl rfl (fun _ _ => rfl) ?_)
      exact zw_ret rfl (fun _ _ => rfl) (Or.inr ⟨rfl, Or.inr ⟨h1, hb, xx_bad (by decide) rfl e14⟩⟩)
    repeat (refine zw_go rfl rfl (fun _ _ => rfl) ?_)
    rw [e]
    refine zw_br rfl (fun _ _ => rfl) (fun (h2 : nI (tkN b n p) < nI lo) => ?_) (fun (h2 : ¬ (nI (tkN b n p) < nI lo)) => ?_)
    · rw [nI_ltI (by omega) (by omega)] at h2
      exact two (Or.inl h2)
    · rw [nI_ltI (by omega) (by omega)] at h2
      repeat (refine zw_go rfl rfl (fun _ _ => rfl) ?_)
      rw [e]
      refine zw_br rfl (fun _ _ => rfl) (fun (h3 : nI (tkN b n p) ≤ nI hi) => ?_) (fun (h3 : ¬ (nI (tkN b n p) ≤ nI hi)) => ?_)
      · rw [nI_leI (by omega) (by omega)] at h3
        repeat (refine zw_go rfl rfl (fun _ _ => rfl) ?_)
        exact zw_ret rfl (fun _ _ => rfl) (Or.inl ⟨rfl, rfl, h1, by omega, h3⟩)
      · rw [nI_leI (by omega) (by omega)] at h3
        exact two (Or.inr (by omega))
  · rw [nI_eq hk (by omega)] at h1
    repeat (refine zw_go rfl rfl (fun _ _ => rfl) ?_)
    refine zw_call rfl (fun _ _ => rfl) (xFail sc I J A B tl 1) (by decide) ?_
    rintro M1 r1 ⟨rfl, rfl⟩
    repeat (refine zw_go rfl rfl (fun _ _ => rfl) ?_)
    exact zw_ret rfl (fun _ _ => rfl) (Or.inr ⟨rfl, Or.inl ⟨h1, xx_bad (by decide) rfl e14⟩⟩)
end

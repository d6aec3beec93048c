/-! the class: weave, and THE CLOTH -/
theorem lb_orL {p : Nat → Bool} {g : Nat → Int64} {i : Nat} : ∀ {n : Nat}, lb (orL p g n) i = true ↔ ∃ s, s < n ∧ p s = true ∧ lb (g s) i = true := by
  intro n
  induction n with
  | zero =>
    unfold orL
    rw [lb_0]
    exact ⟨fun h => absurd h (by simp), fun ⟨s, h, _⟩ => by omega⟩
  | succ n ih =>
    unfold orL
    by_cases hp : p n = true
    · rw [if_pos hp, lb_or, Bool.or_eq_true, ih]
      constructor
      · rintro (⟨s, h1, h2, h3⟩ | h)
        · exact ⟨s, by omega, h2, h3⟩
        · exact ⟨n, by omega, hp, h⟩
      · rintro ⟨s, h1, h2, h3⟩
        by_cases hs : s = n
        · subst hs; exact Or.inr h3
        · exact Or.inl ⟨s, by omega, h2, h3⟩
    · rw [if_neg hp, ih]
      constructor
      · rintro ⟨s, h1, h2, h3⟩
        exact ⟨s, by omega, h2, h3⟩
      · rintro ⟨s, h1, h2, h3⟩
        by_cases hs : s = n
        · subst hs; exact absurd h2 hp
        · exact ⟨s, by omega, h2, h3⟩
theorem up_of {sh ti tr : Nat → Int32} {e p q : Nat} (hq : q < 16) (h : sh e = nI q) : upF sh ti tr e p = ib (liF ti tr p) q := by
  unfold upF
  rw [h, nI_clamp (by omega), decide_eq_true (nI_pos' (by omega)), Bool.true_and]
theorem up_no {sh ti tr : Nat → Int32} {e p : Nat} (h : sh e = -1) : upF sh ti tr e p = false := by
  unfold upF
  rw [h]
  rfl
/-- the row, put together by SHAFTS -/
theorem row_mk {sh ti tr : Nat → Int32} {w p : Nat} (hw : w ≤ 48) (hs : ∀ e, e < w → shOk (sh e)) {se : Nat → Int64} (hse : ∀ s, s < 16 → se s = mk (fun e => decide (sh e = nI s)) w) : orL (fun s => ib (liF ti tr p) s) se 16 = mk (fun e => upF sh ti tr e p) w := by
  refine mk_eq (by omega) (fun i hi => ?_)
  rw [Bool.eq_iff_iff, lb_orL, Bool.and_eq_true, decide_eq_true_eq]
  constructor
  · rintro ⟨s, h1, h2, h3⟩
    rw [hse s h1, lb_mk (by omega), Bool.and_eq_true, decide_eq_true_eq, decide_eq_true_eq] at h3
    exact ⟨h3.1, by rw [up_of h1 h3.2]; exact h2⟩
  · rintro ⟨h1, h2⟩
    rcases hs i h1 with h3 | ⟨q, hq, h3⟩
    · rw [up_no h3] at h2
      exact absurd h2 (by simp)
    · refine ⟨q, hq, by rw [up_of hq h3] at h2; exact h2, ?_⟩
      rw [hse q hq, lb_mk (by omega), Bool.and_eq_true]
      exact ⟨decide_eq_true h1, decide_eq_true h3⟩
theorem mk_false : ∀ n, mk (fun _ => false) n = 0 := by
  intro n
  induction n with
  | zero => rfl
  | succ n ih => rw [mk, if_neg (by simp), ih]
theorem col_mk {sh ti tr : Nat → Int32} {h e : Nat} (hs : shOk (sh e)) {sp : Nat → Int64} (hsp : ∀ s, s < 16 → sp s = mk (fun p => ib (liF ti tr p) s) h) : cpF sh sp e = mk (fun p => upF sh ti tr e p) h := by
  unfold cpF
  rcases hs with h3 | ⟨q, hq, h3⟩
  · rw [if_neg (by rw [h3]; decide), mk_cong (q := fun _ => false) (fun p _ => up_no h3), mk_false]
  · have hz : 0 ≤ sh e ∧ sh e < 16 := by
      rw [h3]
      exact ⟨nI_pos' (by omega), nI_lt (b := 16) hq (by decide)⟩
    rw [if_pos hz, h3, nI_clamp (by omega), hsp q hq]
    exact mk_cong (fun p _ => (up_of hq h3).symm)
/-- the values at the look: SHAFTS of ENDS, TIES, TREADS -/
abbrev xSh (A : Nat → Nat → Int32) : Nat → Int32 := A 3
abbrev xTi (A : Nat → Nat → Int32) : Nat → Int32 := fun t => A 3 (48 + t)
abbrev xTr (A : Nat → Nat → Int32) : Nat → Int32 := fun p => A 3 (64 + p)
abbrev xUp (A : Nat → Nat → Int32) : Nat → Nat → Bool := upF (xSh A) (xTi A) (xTr A)
/-- THE CLOTH stands in its arrays -/
def ClOk (I : Nat → Int32) (A : Nat → Nat → Int32) (B : Nat → Nat → Int64) (w h : Nat) : Prop :=
  (∀ p, p < h → A 5 p = liF (xTi A) (xTr A) p) ∧ (∀ p, p < h → B 0 p = mk (fun e => xUp A e p) w) ∧ (∀ e, e < w → B 1 e = mk (fun p => xUp A e p) h) ∧ (∀ s, s < 16 → B 2 s = mk (fun e => decide (A 3 e = nI s)) w) ∧ (∀ s, s < 16 → B 3 s = mk (fun p => ib (liF (xTi A) (xTr A) p) s) h) ∧ (∀ t, t < 16 → B 4 t = mk (fun p => ib (xTr A p) t) h) ∧ I 9 = usF (A 3) w
/-- rows beyond the last PICK are empty -/
def RoZ (B : Nat → Nat → Int64) (h : Nat) : Prop := ∀ p, h ≤ p → p < 48 → B 0 p = 0
set_option maxHeartbeats 4000000 in
set_option maxRecDepth 20000 in
theorem xWeave (sc : sm_S) (I : Nat → Int32) (J : Nat → Int64) (A : Nat → Nat → Int32) (B : Nat → Nat → Int64) (tl : sm_M) (w h : Nat) (hw : w ≤ 48) (hh : h ≤ 48) (hI7 : I 7 = nI w) (hI8 : I 8 = nI h) (hs : ∀ e, e < w → shOk (A 3 e)) (hc : I 10 = I 6 → ClOk I A B w h) (hz : RoZ B h) : zC 4 sc 1 [.ref 7] (xm I J A B tl) (fun M r => r = none ∧ ∃ I' A' B', M = xm I' J A' B' tl ∧ ClOk I' A' B' w h ∧ RoZ B' h ∧ (∀ z, z ≠ 9 → z ≠ 10 → I' z = I z) ∧ I' 10 = I 6 ∧ (∀ a, a ≠ 5 → A' a = A a) ∧ (∀ b, 4 < b → B' b = B b)) := by
  refine zc_of hkX0_weave rfl ?_
  refine zw_nx rfl (fun _ _ => rfl) ?_
  refine zw_nx rfl (fun _ _ => rfl) ?_
  refine zw_nx rfl (fun _ _ => rfl) ?_
  refine zw_nx rfl (fun _ _ => rfl) ?_
  refine zw_nx rfl (fun _ _ => rfl) ?_
  refine zw_br rfl (fun _ _ => rfl) (fun (he : I 10 = I 6) => ?_) (fun (he : ¬ (I 10 = I 6)) => ?_)
  · exact zw_ret rfl (fun _ _ => rfl) (⟨rfl, I, A, B, rfl, hc he, hz, fun _ _ _ => rfl, he, fun _ _ => rfl, fun _ _ => rfl⟩)
  · refine zw_nx rfl (fun _ _ => rfl) ?_
    refine zw_nx rfl (fun _ _ => rfl) ?_
    refine zw_nx rfl (fun _ _ => rfl) ?_
    refine zw_nx rfl (fun _ _ => rfl) ?_
    refine zw_nx rfl (fun _ _ => rfl) ?_
    refine zw_nx rfl (fun _ _ => rfl) ?_
    refine zw_call rfl (fun _ _ => rfl) (xPress sc (upd I 10 (I 6)) J A B tl h hh hI8) (by decide) ?_
    rintro M1 r1 ⟨rfl, rfl⟩
    refine zw_nx rfl (fun _ _ => rfl) ?_
    refine zw_call rfl (fun _ _ => rfl) (xRaise sc (upd I 10 (I 6)) J (va_up A 5 (wr (liF (xTi A) (xTr A)) (A 5) h)) (va_up B 4 (wr (fun t => mk (fun p => ib (A 3 (64 + p)) t) h) (B 4) 16)) tl h hh hI8 (liF (xTi A) (xTr A)) (fun p hp => wr_in (F := liF (xTi A) (xTr A)) (g := A 5) hp)) (by decide) ?_
    rintro M1 r1 ⟨rfl, rfl⟩
    refine zw_nx rfl (fun _ _ => rfl) ?_
    refine zw_call rfl (fun _ _ => rfl) (xHang sc (upd I 10 (I 6)) J (va_up A 5 (wr (liF (xTi A) (xTr A)) (A 5) h)) (va_up (va_up B 4 (wr (fun t => mk (fun p => ib (A 3 (64 + p)) t) h) (B 4) 16)) 3 (wr (fun t => mk (fun p => ib (liF (xTi A) (xTr A) p) t) h) (B 3) 16)) tl w hw hI7 hs) (by decide) ?_
    rintro M1 r1 ⟨rfl, rfl⟩
    refine zw_nx rfl (fun _ _ => rfl) ?_
    refine zw_call rfl (fun _ _ => rfl) (xCross sc (upd (upd I 10 (I 6)) 9 (usF (A 3) w)) J (va_up A 5 (wr (liF (xTi A) (xTr A)) (A 5) h)) (va_up (va_up (va_up (va_up B 4 (wr (fun t => mk (fun p => ib (A 3 (64 + p)) t) h) (B 4) 16)) 3 (wr (fun t => mk (fun p => ib (liF (xTi A) (xTr A) p) t) h) (B 3) 16)) 1 (wr (cpF (A 3) (wr (fun t => mk (fun p => ib (liF (xTi A) (xTr A) p) t) h) (B 3) 16)) (B 1) w)) 2 (seF (A 3) (B 2) w)) tl h hh hI8 (liF (xTi A) (xTr A)) (fun p hp => wr_in (F := liF (xTi A) (xTr A)) (g := A 5) hp)) (by decide) ?_
    rintro M1 r1 ⟨rfl, rfl⟩
    refine zw_ret rfl (fun _ _ => rfl) ?_
    refine ⟨rfl, _, _, _, rfl, ⟨fun p hp => wr_in (F := liF (xTi A) (xTr A)) (g := A 5) hp, fun p hp => ?_, fun e he => ?_, fun s hs' => ?_, fun s hs' => ?_, fun t ht => ?_, rfl⟩, fun p hp hp2 => ?_, fun z h9 h10 => ?_, rfl, fun a ha => ?_, fun b hb => ?_⟩
    · refine (wr_in (F := fun p => orL (fun s => ib (liF (xTi A) (xTr A) p) s) (seF (A 3) (B 2) w) 16) (g := B 0) hp).trans ?_
      exact row_mk hw hs (fun s hs' => wr_in hs')
    · refine (wr_in (F := cpF (A 3) (wr (fun t => mk (fun p => ib (liF (xTi A) (xTr A) p) t) h) (B 3) 16)) (g := B 1) he).trans ?_
      exact col_mk (hs e he) (fun s hs' => wr_in hs')
    · exact wr_in (F := fun s => mk (fun x => decide (A 3 x = nI s)) w) (g := B 2) hs'
    · exact wr_in (F := fun t => mk (fun p => ib (liF (xTi A) (xTr A) p) t) h) (g := B 3) hs'
    · exact wr_in (F := fun t => mk (fun p => ib (A 3 (64 + p)) t) h) (g := B 4) ht
    · exact (wr_out (F := fun p => orL (fun s => ib (liF (xTi A) (xTr A) p) s) (seF (A 3) (B 2) w) 16) (g := B 0) hp).trans (hz p hp hp2)
    · show upd (upd I 10 (I 6)) 9 _ z = I z
      unfold upd
      rw [if_neg h9, if_neg h10]
    · show va_up A 5 _ a = A a
      unfold va_up
      rw [if_neg ha]
    · show va_up (va_up (va_up (va_up (va_up B 4 _) 3 _) 1 _) 2 _) 0 _ b = B b
      unfold va_up
      rw [if_neg (by omega), if_neg (by omega), if_neg (by omega), if_neg (by omega), if_neg (by omega)]

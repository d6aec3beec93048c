/-! the reference: its reader, small things, plainOne -/
def ShM (s : Nat) (x y : Int32) : Prop := (s = 16 ∧ x = nI 9) ∨ (s = 17 ∧ x = nI 10) ∨ (s < 16 ∧ x = nI 11 ∧ y = nI s) ∨ (s = 0 ∧ x = nI 0)
def FrM (A : Nat → Nat → Int32) : tF → Prop
  | [] => A 15 0 = nI 0
  | (o, s) :: t => A 15 (t.length + 1) = nI (flt t ++ o).length ∧ ShM s (A 13 t.length) (A 14 t.length) ∧ FrM A t
theorem frM_cong {A A' : Nat → Nat → Int32} : ∀ {fr : tF}, FrM A fr → (∀ i, i ≤ fr.length → A' 15 i = A 15 i) → (∀ i, i < fr.length → A' 13 i = A 13 i) → (∀ i, i < fr.length → A' 14 i = A 14 i) → FrM A' fr := by
  intro fr
  induction fr with
  | nil => intro h h1 _ _; show A' 15 0 = nI 0; rw [h1 0 (Nat.le_refl _)]; exact h
  | cons q t ih =>
    obtain ⟨o, s⟩ := q
    rintro ⟨g1, g2, g3⟩ h1 h2 h3
    rw [List.length_cons] at h1 h2 h3
    exact ⟨by rw [h1 _ (by omega)]; exact g1, by rw [h2 _ (by omega), h3 _ (by omega)]; exact g2, ih g3 (fun i hi => h1 i (by omega)) (fun i hi => h2 i (by omega)) (fun i hi => h3 i (by omega))⟩
theorem frM_row {A : Nat → Nat → Int32} : ∀ {fr : tF}, FrM A fr → A 15 fr.length = nI (flt fr).length := by
  intro fr
  cases fr with
  | nil => intro h; exact h
  | cons q t => obtain ⟨o, s⟩ := q; intro h; exact h.1
/-- the open ROWS, in the reference -/
def MN (cur : List Nat) (fr : tF) (I : Nat → Int32) (A : Nat → Nat → Int32) : Prop := I 15 = nI (flt fr ++ cur).length ∧ I 16 = nI fr.length ∧ FrM A fr ∧ ∀ i, i < (flt fr ++ cur).length → A 12 i = nI (gl (flt fr ++ cur) i)
def bkS (bk : Nat → List Nat) : Nat := sumN (fun l => (bk l).length) 8
def MB (bk : Nat → List Nat) (I : Nat → Int32) (A : Nat → Nat → Int32) : Prop := I 14 = nI (bkS bk) ∧ ∀ l, l < 8 → (bk l = [] ∧ A 10 l = -1) ∨ (bk l ≠ [] ∧ A 10 l = nI (bk l).length ∧ ∃ q, A 9 l = nI q ∧ q + (bk l).length ≤ bkS bk ∧ ∀ i, i < (bk l).length → A 11 (q + i) = nI (gl (bk l) i))
def ME (en : tE) (I : Nat → Int32) (A : Nat → Nat → Int32) : Prop := I 18 = nI en.length ∧ ∀ i, i < en.length → A 16 i = nI (gE en i).1 ∧ A 17 i = nI (gE en i).2.1 ∧ A 18 i = (gE en i).2.2
def MS (b : Nat → Nat) (n : Nat) (s : tS) (p : Nat) (I : Nat → Int32) (A : Nat → Nat → Int32) : Prop := match s with
  | (md, _, _, _, _, _, cur, it, fr, bk, en) => TkM I b n p ∧ MB bk I A ∧ ME en I A ∧ (4 ≤ md → MN cur fr I A) ∧ (md = 9 → I 17 = nI ((flt fr).length + it))
def MF (I : Nat → Int32) (A : Nat → Nat → Int32) (I' : Nat → Int32) (A' : Nat → Nat → Int32) : Prop := (∀ z, z < 8 ∨ 18 < z → I' z = I z) ∧ ∀ a, a < 9 ∨ 18 < a → A' a = A a
theorem mf_rfl {I : Nat → Int32} {A : Nat → Nat → Int32} : MF I A I A := ⟨fun _ _ => rfl, fun _ _ => rfl⟩
theorem mf_tr {I I1 I2 : Nat → Int32} {A A1 A2 : Nat → Nat → Int32} (h1 : MF I A I1 A1) (h2 : MF I1 A1 I2 A2) : MF I A I2 A2 := ⟨fun z hz => (h2.1 z hz).trans (h1.1 z hz), fun a ha => (h2.2 a ha).trans (h1.2 a ha)⟩
theorem tpM_f {I I' : Nat → Int32} {A A' : Nat → Nat → Int32} {b : Nat → Nat} {n : Nat} (h : TpM I A b n) (hf : MF I A I' A') : TpM I' A' b n := ⟨by rw [hf.1 5 (by omega)]; exact h.1, h.2.1, by rw [hf.2 8 (by omega)]; exact h.2.2⟩
/-- a ONE, an ITEM, or a FAULT -/
def MX (w h : Nat) (b : Nat → Nat) (n q cl tg : Nat) (bk : Nat → List Nat) (en : tE) (s : tS) (p : Nat) (f : Nat → va_E) (I : Nat → Int32) (A : Nat → Nat → Int32) (B : Nat → Nat → Int64) (M : sm_M) (r : Option Value) : Prop := (r = some (.int 0) ∧ ∃ sh fi fp cur it fr p' I' A', M = mm f I' A' B ∧ MS b n (q, cl, tg, sh, fi, fp, cur, it, fr, bk, en) p' I' A' ∧ TI w h (q, cl, tg, sh, fi, fp, cur, it, fr, bk, en) p' ∧ p' ≤ n ∧ p < p' ∧ (∀ R, Out w h b n (q, cl, tg, sh, fi, fp, cur, it, fr, bk, en) p' R → Out w h b n s p R) ∧ MF I A I' A') ∨ (∃ c e I' A', r = some (.int (nI c)) ∧ 0 < c ∧ c ≤ 5 ∧ M = mm f I' A' B ∧ I' 13 = nI e ∧ Out w h b n s p (c, e, []) ∧ MF I A I' A')
theorem mn_cong {cur : List Nat} {fr : tF} {I I' : Nat → Int32} {A A' : Nat → Nat → Int32} (h : MN cur fr I A) (h15 : I' 15 = I 15) (h16 : I' 16 = I 16) (h12 : A' 12 = A 12) (a15 : A' 15 = A 15) (a13 : A' 13 = A 13) (a14 : A' 14 = A 14) : MN cur fr I' A' := ⟨by rw [h15]; exact h.1, by rw [h16]; exact h.2.1, frM_cong h.2.2.1 (fun i _ => by rw [a15]) (fun i _ => by rw [a13]) (fun i _ => by rw [a14]), by rw [h12]; exact h.2.2.2⟩
theorem mb_cong {bk : Nat → List Nat} {I I' : Nat → Int32} {A A' : Nat → Nat → Int32} (h : MB bk I A) (h14 : I' 14 = I 14) (h10 : A' 10 = A 10) (h9 : A' 9 = A 9) (h11 : A' 11 = A 11) : MB bk I' A' := ⟨by rw [h14]; exact h.1, by rw [h10, h9, h11]; exact h.2⟩
theorem me_cong {en : tE} {I I' : Nat → Int32} {A A' : Nat → Nat → Int32} (h : ME en I A) (h18 : I' 18 = I 18) (h16 : A' 16 = A 16) (h17 : A' 17 = A 17) (h18a : A' 18 = A 18) : ME en I' A' := ⟨by rw [h18]; exact h.1, by rw [h16, h17, h18a]; exact h.2⟩
theorem mn_app {cur r : List Nat} {fr : tF} {I I' : Nat → Int32} {A A' : Nat → Nat → Int32} (h : MN cur fr I A) (h15 : I' 15 = nI ((flt fr ++ cur).length + r.length)) (h16 : I' 16 = I 16) (hA : A' 12 = apl (A 12) (flt fr ++ cur).length r r.length) (a15 : A' 15 = A 15) (a13 : A' 13 = A 13) (a14 : A' 14 = A 14) : MN (cur ++ r) fr I' A' := by
  refine ⟨?_, by rw [h16]; exact h.2.1, frM_cong h.2.2.1 (fun i _ => by rw [a15]) (fun i _ => by rw [a13]) (fun i _ => by rw [a14]), fun i hi => ?_⟩
  · rw [h15, ← List.append_assoc, List.length_append (as := flt fr ++ cur)]
  · rw [← List.append_assoc] at hi ⊢
    rw [List.length_append (as := flt fr ++ cur)] at hi
    rw [hA]
    rcases Nat.lt_or_ge i (flt fr ++ cur).length with h1 | h1
    · rw [gl_app h1, apl_lo h1]; exact h.2.2.2 i h1
    · have e : i = (flt fr ++ cur).length + (i - (flt fr ++ cur).length) := by omega
      rw [e, gl_app2, apl_in (by omega)]
theorem sum_le {bk : Nat → List Nat} (h : ∀ l, rwK (bk l)) : ∀ n, sumN (fun l => (bk l).length) n ≤ 200 * n := by
  intro n
  induction n with
  | zero => exact Nat.le_refl _
  | succ n ih =>
    rw [sumN]
    have : (bk n).length ≤ 200 := (h n).1
    omega
theorem phi_eq {k : Nat} : (phi k = 2 ↔ k = 3) ∧ (phi k = 1 ↔ k = 2) := by
  unfold phi
  refine ⟨⟨fun h => ?_, fun h => ?_⟩, fun h => ?_, fun h => ?_⟩
  · split at h
    · omega
    · split at h
      · omega
      · split at h <;> omega
  · subst h; rfl
  · split at h
    · omega
    · split at h
      · omega
      · split at h <;> omega
  · subst h; rfl
theorem phi_hi {k : Nat} (h : 4 ≤ k ∨ k = 0) : phi k = k := by
  unfold phi
  rw [if_neg (by omega), if_neg (by omega), if_neg (by omega)]
theorem phi_lt {k : Nat} (h : k < 100) : phi k < 100 := by
  unfold phi
  split
  · omega
  · split
    · omega
    · split <;> omega
/-- a kind from 4 on is told by the reference's number -/
theorem phi_is {k q : Nat} (hq : 4 ≤ q) : phi k = q ↔ k = q := by
  unfold phi
  constructor
  · intro h
    split at h
    · omega
    · split at h
      · omega
      · split at h <;> omega
  · intro h
    subst h
    rw [if_neg (by omega), if_neg (by omega), if_neg (by omega)]
/-- behind a NUMBER that isn't followed by to, it is behind a ONE -/
theorem out_59 {w h : Nat} {b : Nat → Nat} {n cl tg sh fi fp : Nat} {cur : List Nat} {it : Nat} {fr : tF} {bk : Nat → List Nat} {en : tE} {p : Nat} {R : tR} (hk : tkK b n p ≠ 8) (hr : ¬ 200 < cur.length + 1) (h1 : Out w h b n (9, cl, tg, sh, fi, fp, cur ++ [fi], it, fr, bk, en) p R) : Out w h b n (5, cl, tg, sh, fi, fp, cur, it, fr, bk, en) p R := by
  obtain ⟨m, h1⟩ := h1
  cases m with
  | zero => cases h1
  | succ m =>
    refine ⟨m + 1, ?_⟩
    rw [runT] at h1 ⊢
    have e : ful w h (5, cl, tg, sh, fi, fp, cur, it, fr, bk, en) (tkK b n p) (tkN b n p) (tkP b n p) = ful w h (9, cl, tg, sh, fi, fp, cur ++ [fi], it, fr, bk, en) (tkK b n p) (tkN b n p) (tkP b n p) := by
      unfold ful
      simp only [prS]
      rw [if_neg hk, if_neg hr]
    rw [e]
    exact h1
section
variable (sc : sm_S) (I : Nat → Int32) (A : Nat → Nat → Int32) (B : Nat → Nat → Int64) (f : Nat → va_E) (n : Nat) (b : Nat → Nat) (w h p : Nat) (cl tg sh fi fp it : Nat) (cur : List Nat) (fr : tF) (bk : Nat → List Nat) (en : tE)
set_option maxHeartbeats 4000000 in
set_option maxRecDepth 20000 in
theorem mFails (c e : Int32) : zC 1 sc 193 [.ref 47, .int c, .int e] (mm f I A B) (fun M r => r = some (.int c) ∧ M = mm f (upd I 13 e) A B) := by
  refine zc_of hkX11_fails rfl ?_
  repeat (refine zw_go rfl rfl (fun _ _ => rfl) ?_)
  exact zw_ret rfl (fun _ _ => rfl) (⟨rfl, rfl⟩)
theorem mf_13 {I : Nat → Int32} {A : Nat → Nat → Int32} {x : Int32} : MF I A (upd I 13 x) A := ⟨fun z hz => by unfold upd; rw [if_neg (by omega)], fun _ _ => rfl⟩
set_option maxHeartbeats 4000000 in
set_option maxRecDepth 20000 in
theorem mMany (hX : MN cur fr I A) (hd : fr.length ≤ 8) (hl : (flt fr ++ cur).length < 100000) : zC 1 sc 194 [.ref 47] (mm f I A B) (zR (mm f I A B) (.int (nI cur.length))) := by
  refine zc_of hkX11_many rfl ?_
  repeat (refine zw_go rfl rfl (fun _ _ => rfl) ?_)
  rw [hX.2.1]
  refine zw_ix rfl (fun _ _ => rfl) (show vp_in (nI (fr.length)) _ from vp_in_nI (by omega) (by omega)) ?_
  rw [show (nI (fr.length)).toNatClampNeg = fr.length from nI_clamp (by omega)]
  repeat (refine zw_go rfl rfl (fun _ _ => rfl) ?_)
  rw [hX.1, frM_row hX.2.2.1, nI_sub (by rw [List.length_append]; omega), List.length_append, Nat.add_sub_cancel_left]
  exact zw_ret rfl (fun _ _ => rfl) (⟨rfl, rfl⟩)
set_option maxHeartbeats 4000000 in
set_option maxRecDepth 20000 in
theorem mPush (v : Int32) (k : Nat) (hk : k < 4000) (h15 : I 15 = nI k) : zC 1 sc 195 [.ref 47, .int v] (mm f I A B) (fun M r => r = none ∧ M = mm f (upd I 15 (nI (k + 1))) (va_up A 12 (upd (A 12) k v)) B) := by
  refine zc_of hkX11_push rfl ?_
  repeat (refine zw_go rfl rfl (fun _ _ => rfl) ?_)
  rw [h15]
  refine zw_ix rfl (fun _ _ => rfl) (show vp_in (nI (k)) _ from vp_in_nI (by omega) (by omega)) ?_
  rw [show (nI (k)).toNatClampNeg = k from nI_clamp (by omega)]
  repeat (refine zw_go rfl rfl (fun _ _ => rfl) ?_)
  rw [h15, show nI k + Int32.ofInt 1 = nI (k + 1) from nI_1 k]
  exact zw_ret rfl (fun _ _ => rfl) (⟨rfl, rfl⟩)
set_option maxHeartbeats 4000000 in
set_option maxRecDepth 20000 in
theorem mPlainOne (hX : MS b n (4, cl, tg, sh, fi, fp, cur, it, fr, bk, en) p I A) (hT : TI w h (4, cl, tg, sh, fi, fp, cur, it, fr, bk, en) p) (hTp : TpM I A b n) (hpn : p ≤ n) (hw : w ≤ 48) (hh : h ≤ 48) (hk : tkK b n p ≠ 40 ∧ tkK b n p ≠ 9 ∧ tkK b n p ≠ 10 ∧ tkK b n p ≠ 11) : zC 5 sc 196 [.ref 47] (mm f I A B) (fun M r => MX w h b n 9 cl tg bk en (4, cl, tg, sh, fi, fp, cur, it, fr, bk, en) p f I A B M r) := by
  have hn := hTp.2.1
  have hTT := hT
  obtain ⟨tk, xb, xe, xn, xi⟩ := hX
  obtain ⟨t1, t2, t3, t4, t5, t6, t7, t8, t9, t10, t11, t12, t13, t14, t15, t16, t17, t18⟩ := hT
  have xn := xn (by omega)
  have hfl := flt_len t4
  have hcl : cur.length ≤ 200 := t2.1
  have htot : (flt fr ++ cur).length = (flt fr).length + cur.length := List.length_append
  have hks := tk_small (b := b) (n := n) (p := p)
  have hphi := phi_lt hks
  refine zc_of hkX11_plainOne rfl ?_
  refine zw_nx rfl (fun _ _ => rfl) ?_
  refine zw_nx rfl (fun _ _ => rfl) ?_
  refine zw_nx rfl (fun _ _ => rfl) ?_
  refine zw_nx rfl (fun _ _ => rfl) ?_
  show zW 4 sc miX11_plainOne 8 _ _ (mm f (upd I 17 (I 15)) A B) _
  have hf1 : MF I A (upd I 17 (I 15)) A := ⟨fun z hz => by unfold upd; rw [if_neg (by omega)], fun _ _ => rfl⟩
  have tk1 : TkM (upd I 17 (I 15)) b n p := tk
  have xb1 : MB bk (upd I 17 (I 15)) A := mb_cong xb rfl rfl rfl rfl
  have xe1 : ME en (upd I 17 (I 15)) A := me_cong xe rfl rfl rfl rfl
  have xn1 : MN cur fr (upd I 17 (I 15)) A := mn_cong xn rfl rfl rfl rfl rfl rfl
  have o17 : upd I 17 (I 15) 17 = nI ((flt fr).length + cur.length) := by show I 15 = _; rw [xn.1, htot]
  have tp1 : TpM (upd I 17 (I 15)) A b n := hTp
  generalize upd I 17 (I 15) = I1 at hf1 tk1 xb1 xe1 xn1 o17 tp1 ⊢
  obtain ⟨q8, q10, q9, q11, q11'⟩ := tk1
  -- one more FAULT
  have flt1 : ∀ (c : Nat) (I2 : Nat → Int32), 0 < c → c ≤ 5 → ∀ e, Out w h b n (4, cl, tg, sh, fi, fp, cur, it, fr, bk, en) p (c, e, []) → MF I A I2 A → MX w h b n 9 cl tg bk en (4, cl, tg, sh, fi, fp, cur, it, fr, bk, en) p f I A B (mm f (upd I2 13 (nI e)) A B) (some (.int (nI c))) := fun c I2 h1 h2 e hO hF => Or.inr ⟨c, e, _, A, rfl, h1, h2, rfl, rfl, hO, mf_tr hF mf_13⟩
  repeat (refine zw_go rfl rfl (fun _ _ => rfl) ?_)
  rw [q10]
  by_cases k3 : tkK b n p = 3
  · have hl := tk_let k3
    have e11 := q11' k3
    have hs4 : ∀ v, v = tkN b n p → stp w h (4, cl, tg, sh, fi, fp, cur, it, fr, bk, en) (tkK b n p) (tkN b n p) (tkP b n p) = if bk v = [] then bad 4 (tkP b n p) else if 200 < cur.length + (bk v).length then bad 5 (tkP b n p) else .inl (9, cl, tg, sh, fi, fp, cur ++ bk v, cur.length, fr, bk, en) := fun v hv => by
      simp only [stp]
      rw [if_neg (by omega), if_pos k3, hv]
    have hful : ful w h (4, cl, tg, sh, fi, fp, cur, it, fr, bk, en) (tkK b n p) (tkN b n p) (tkP b n p) = stp w h (4, cl, tg, sh, fi, fp, cur, it, fr, bk, en) (tkK b n p) (tkN b n p) (tkP b n p) := rfl
    have hbb := xb1.2 (tkN b n p) hl
    have hbl : (bk (tkN b n p)).length ≤ 200 := (t5 (tkN b n p)).1
    have hsum := sum_le t5 8
    rw [k3]
    repeat (refine zw_go rfl rfl (fun _ _ => rfl) ?_)
    rw [e11]
    refine zw_ix rfl (fun _ _ => rfl) (show vp_in (nI ((tkN b n p))) _ from vp_in_nI (by omega) (by omega)) ?_
    rw [show (nI ((tkN b n p))).toNatClampNeg = (tkN b n p) from nI_clamp (by omega)]
    repeat (refine zw_go rfl rfl (fun _ _ => rfl) ?_)
    have hs5 := hs4 _ rfl
    generalize hv : tkN b n p = v at *
    rcases hbb with ⟨he, h10⟩ | ⟨he, h10, qf, hq9, hqs, hq11⟩
    · rw [h10]
      first | refine zw_br rfl (fun _ _ => rfl) (fun h9 => absurd h9 ((by decide : ¬ (0 : Int32) ≤ -1))) (fun _ => ?_) | refine zw_nx rfl (fun _ _ => rfl) ?_
      repeat (refine zw_go rfl rfl (fun _ _ => rfl) ?_)
      rw [q9]
      refine zw_call rfl (fun _ _ => rfl) (mFails sc I1 A B f 4 (nI (tkP b n p))) (by decide) ?_
      rintro M1 r1 ⟨rfl, rfl⟩
      exact zw_ret rfl (fun _ _ => rfl) (flt1 4 I1 (by omega) (by omega) _ (out_end (by rw [hv, hful, hs5, if_pos he]; rfl)) hf1)
    · have hpos : 0 < (bk v).length := by
        cases hbq : bk v with
        | nil => exact absurd hbq he
        | cons _ _ => rw [List.length_cons]; omega
      have hkne : tkK b n p ≠ 0 := by omega
      obtain ⟨hgt, hpn2⟩ := tkX_gt hkne
      have hle := tkX_le (b := b) hpn
      rw [h10]
      first | refine zw_br rfl (fun _ _ => rfl) (fun _ => ?_) (fun h9 => absurd (nI_pos' (show (bk v).length < 2 ^ 31 by omega)) h9) | refine zw_nx rfl (fun _ _ => rfl) ?_
      repeat (refine zw_go rfl rfl (fun _ _ => rfl) ?_)
      refine zw_call rfl (fun _ _ => rfl) (mNextToken sc I1 A B f n b (tkX b n p) tp1 hle q8) (by decide) ?_
      rintro M1 r1 ⟨rfl, I2, rfl, tk2, hI2⟩
      have hf2 : MF I A I2 A := mf_tr hf1 ⟨fun z hz => hI2 z (by omega), fun _ _ => rfl⟩
      have xn2 : MN cur fr I2 A := mn_cong xn1 (hI2 15 (by omega)) (hI2 16 (by omega)) rfl rfl rfl rfl
      have xb2 : MB bk I2 A := mb_cong xb1 (hI2 14 (by omega)) rfl rfl rfl
      have xe2 : ME en I2 A := me_cong xe1 (hI2 18 (by omega)) rfl rfl rfl
      have o2 : I2 17 = nI ((flt fr).length + cur.length) := by rw [hI2 17 (by omega)]; exact o17
      repeat (refine zw_go rfl rfl (fun _ _ => rfl) ?_)
      refine zw_call rfl (fun _ _ => rfl) (mMany sc I2 A B f cur fr xn2 t3 (by omega)) (by decide) ?_
      rintro M1 r1 ⟨rfl, rfl⟩
      repeat (refine zw_go rfl rfl (fun _ _ => rfl) ?_)
      refine zw_ix rfl (fun _ _ => rfl) (show vp_in (nI (v)) _ from vp_in_nI (by omega) (by omega)) ?_
      rw [show (nI (v)).toNatClampNeg = v from nI_clamp (by omega)]
      repeat (refine zw_go rfl rfl (fun _ _ => rfl) ?_)
      rw [h10, show nI cur.length + nI (bk v).length = nI (cur.length + (bk v).length) from nI_add _ _]
      by_cases hroom : 200 < cur.length + (bk v).length
      · first | refine zw_br rfl (fun _ _ => rfl) (fun h9 => absurd h9 (nI_ge (a := 200) (b := cur.length + (bk v).length) hroom (by omega))) (fun _ => ?_) | refine zw_nx rfl (fun _ _ => rfl) ?_
        repeat (refine zw_go rfl rfl (fun _ _ => rfl) ?_)
        rw [q9]
        refine zw_call rfl (fun _ _ => rfl) (mFails sc I2 A B f 5 (nI (tkP b n p))) (by decide) ?_
        rintro M1 r1 ⟨rfl, rfl⟩
        exact zw_ret rfl (fun _ _ => rfl) (flt1 5 I2 (by omega) (by omega) _ (out_end (by rw [hv, hful, hs5, if_neg he, if_pos hroom]; rfl)) hf2)
      · have hgo : ful w h (4, cl, tg, sh, fi, fp, cur, it, fr, bk, en) (tkK b n p) v (tkP b n p) = .inl (9, cl, tg, sh, fi, fp, cur ++ bk v, cur.length, fr, bk, en) := by rw [hful, hs5, if_neg he, if_neg hroom]
        rw [← hv] at hgo
        have hti := ti_ful hw hh hn hpn hTT hgo
        rw [hv] at hti hgo
        have loop : ∀ (z i : Nat), i + z = (bk v).length → zW 4 sc miX11_plainOne 75 [some (.ref 47), some (.int (nI v)), none, some (.int (nI i)), none, none] [] (mm f (upd I2 15 (nI ((flt fr ++ cur).length + i))) (va_up A 12 (apl (A 12) (flt fr ++ cur).length (bk v) i)) B) (fun M r => MX w h b n 9 cl tg bk en (4, cl, tg, sh, fi, fp, cur, it, fr, bk, en) p f I A B M r) := by
          intro z
          induction z with
          | zero =>
            intro i hi
            have e : i = (bk v).length := by omega
            refine zw_nx rfl (fun _ _ => rfl) ?_
            repeat (refine zw_go rfl rfl (fun _ _ => rfl) ?_)
            refine zw_ix rfl (fun _ _ => rfl) (show vp_in (nI (v)) _ from vp_in_nI (by omega) (by omega)) ?_
            rw [show (nI (v)).toNatClampNeg = v from nI_clamp (by omega)]
            repeat (refine zw_go rfl rfl (fun _ _ => rfl) ?_)
            rw [show va_up A 12 (apl (A 12) (flt fr ++ cur).length (bk v) i) 10 v = nI (bk v).length from h10]
            first | refine zw_br rfl (fun _ _ => rfl) (fun _ => ?_) (fun h9 => absurd (nI_le (a := (bk v).length) (b := i) (by omega) (by omega)) h9) | refine zw_nx rfl (fun _ _ => rfl) ?_
            repeat (refine zw_go rfl rfl (fun _ _ => rfl) ?_)
            refine zw_ret rfl (fun _ _ => rfl) ?_
            refine Or.inl ⟨rfl, sh, fi, fp, cur ++ bk v, cur.length, fr, tkX b n p, _, _, rfl, ⟨tk2, mb_cong xb2 rfl rfl rfl rfl, me_cong xe2 rfl rfl rfl rfl, fun _ => mn_app xn2 (by rw [← e]; rfl) rfl (by rw [← e]; rfl) rfl rfl rfl, fun _ => o2⟩, hti.1, hle, hti.2, fun R hR => out_go (by rw [hv]; exact hgo) hR, mf_tr hf2 ⟨fun z hz => ?_, fun a ha => ?_⟩⟩
            · unfold upd; rw [if_neg (by omega)]
            · unfold va_up; rw [if_neg (by omega)]
          | succ z ih =>
            intro i hi
            have hne := ih (i + 1) (by omega)
            rw [nI_succ i, ← apl_s, ← Nat.add_assoc] at hne
            refine zw_nx rfl (fun _ _ => rfl) ?_
            repeat (refine zw_go rfl rfl (fun _ _ => rfl) ?_)
            refine zw_ix rfl (fun _ _ => rfl) (show vp_in (nI (v)) _ from vp_in_nI (by omega) (by omega)) ?_
            rw [show (nI (v)).toNatClampNeg = v from nI_clamp (by omega)]
            repeat (refine zw_go rfl rfl (fun _ _ => rfl) ?_)
            rw [show va_up A 12 (apl (A 12) (flt fr ++ cur).length (bk v) i) 10 v = nI (bk v).length from h10]
            first | refine zw_br rfl (fun _ _ => rfl) (fun h9 => absurd h9 (nI_ge (a := i) (b := (bk v).length) (by omega) (by omega))) (fun _ => ?_) | refine zw_nx rfl (fun _ _ => rfl) ?_
            repeat (refine zw_go rfl rfl (fun _ _ => rfl) ?_)
            refine zw_ix rfl (fun _ _ => rfl) (show vp_in (nI (v)) _ from vp_in_nI (by omega) (by omega)) ?_
            rw [show (nI (v)).toNatClampNeg = v from nI_clamp (by omega)]
            repeat (refine zw_go rfl rfl (fun _ _ => rfl) ?_)
            rw [show va_up A 12 (apl (A 12) (flt fr ++ cur).length (bk v) i) 9 v = nI qf from hq9, show nI qf + nI i = nI (qf + i) from nI_add qf i]
            have hb16 : bkS bk ≤ 1600 := hsum
            refine zw_ix rfl (fun _ _ => rfl) (show vp_in (nI ((qf + i))) _ from vp_in_nI (by omega) (by omega)) ?_
            rw [show (nI ((qf + i))).toNatClampNeg = (qf + i) from nI_clamp (by omega)]
            repeat (refine zw_go rfl rfl (fun _ _ => rfl) ?_)
            rw [show va_up A 12 (apl (A 12) (flt fr ++ cur).length (bk v) i) 11 (qf + i) = nI (gl (bk v) i) from hq11 i (by omega)]
            refine zw_call rfl (fun _ _ => rfl) (mPush sc (upd I2 15 (nI ((flt fr ++ cur).length + i))) (va_up A 12 (apl (A 12) (flt fr ++ cur).length (bk v) i)) B f (nI (gl (bk v) i)) ((flt fr ++ cur).length + i) (by omega) rfl) (by decide) ?_
            rintro M1 r1 ⟨rfl, rfl⟩
            repeat (refine zw_go rfl rfl (fun _ _ => rfl) ?_)
            exact zw_kp hne
        have hlp := loop (bk v).length 0 (by omega)
        rw [show mm f (upd I2 15 (nI ((flt fr ++ cur).length + 0))) (va_up A 12 (apl (A 12) (flt fr ++ cur).length (bk v) 0)) B = mm f I2 A B from by
          rw [apl_0, va_up_id, Nat.add_zero, ← xn2.1, show upd I2 15 (I2 15) = I2 from by funext z; unfold upd; split <;> simp_all]] at hlp
        first | refine zw_br rfl (fun _ _ => rfl) (fun _ => ?_) (fun h9 => absurd (nI_le (a := cur.length + (bk v).length) (b := 200) (by omega) (by omega)) h9) | refine zw_nx rfl (fun _ _ => rfl) ?_
        repeat (refine zw_go rfl rfl (fun _ _ => rfl) ?_)
        exact zw_kp hlp
  · first | refine zw_br rfl (fun _ _ => rfl) (fun h9 => absurd h9 ((fun z => k3 (phi_eq.1.mp ((nI_eq (a := phi (tkK b n p)) (b := 2) (by omega) (by omega)).mp z))))) (fun _ => ?_) | refine zw_nx rfl (fun _ _ => rfl) ?_
    repeat (refine zw_go rfl rfl (fun _ _ => rfl) ?_)
    rw [q10]
    by_cases k2 : tkK b n p = 2
    · have hful : ful w h (4, cl, tg, sh, fi, fp, cur, it, fr, bk, en) (tkK b n p) (tkN b n p) (tkP b n p) = if 15 < tkN b n p then bad 2 (tkP b n p) else .inl (5, cl, tg, sh, tkN b n p, tkP b n p, cur, cur.length, fr, bk, en) := by
        show stp w h (4, cl, tg, sh, fi, fp, cur, it, fr, bk, en) (tkK b n p) (tkN b n p) (tkP b n p) = _
        simp only [stp]
        rw [if_pos k2]
      obtain ⟨y, y1, y2, y3⟩ := q11 k2
      have hkne : tkK b n p ≠ 0 := by omega
      obtain ⟨hgt, hpn2⟩ := tkX_gt hkne
      have hle := tkX_le (b := b) hpn
      rw [k2]
      repeat (refine zw_go rfl rfl (fun _ _ => rfl) ?_)
      rw [y1]
      by_cases y15 : 15 < y
      · first | refine zw_br rfl (fun _ _ => rfl) (fun h9 => absurd h9 (nI_ge (a := 15) (b := y) y15 (by omega))) (fun _ => ?_) | refine zw_nx rfl (fun _ _ => rfl) ?_
        repeat (refine zw_go rfl rfl (fun _ _ => rfl) ?_)
        rw [q9]
        refine zw_call rfl (fun _ _ => rfl) (mFails sc I1 A B f 2 (nI (tkP b n p))) (by decide) ?_
        rintro M1 r1 ⟨rfl, rfl⟩
        exact zw_ret rfl (fun _ _ => rfl) (flt1 2 I1 (by omega) (by omega) _ (out_end (by rw [hful, if_pos (by omega)]; rfl)) hf1)
      · have ev : tkN b n p = y := by omega
        have hg5 : ful w h (4, cl, tg, sh, fi, fp, cur, it, fr, bk, en) (tkK b n p) (tkN b n p) (tkP b n p) = .inl (5, cl, tg, sh, y, tkP b n p, cur, cur.length, fr, bk, en) := by rw [hful, if_neg (by omega), ev]
        have hti := ti_ful hw hh hn hpn hTT hg5
        have hO5 : ∀ R, Out w h b n (5, cl, tg, sh, y, tkP b n p, cur, cur.length, fr, bk, en) (tkX b n p) R → Out w h b n (4, cl, tg, sh, fi, fp, cur, it, fr, bk, en) p R := fun R hR => out_go hg5 hR
        -- the numbers are put in
        have puts : ∀ (to wh p' : Nat) (I2 : Nat → Int32), to ≤ 15 → TkM I2 b n p' → MB bk I2 A → ME en I2 A → MN cur fr I2 A → I2 17 = nI ((flt fr).length + cur.length) → MF I A I2 A → p < p' → p' ≤ n → (200 < cur.length + (rng y to).length → Out w h b n (4, cl, tg, sh, fi, fp, cur, it, fr, bk, en) p (5, wh, [])) → (¬ 200 < cur.length + (rng y to).length → TI w h (9, cl, tg, sh, y, tkP b n p, cur ++ rng y to, cur.length, fr, bk, en) p' ∧ ∀ R, Out w h b n (9, cl, tg, sh, y, tkP b n p, cur ++ rng y to, cur.length, fr, bk, en) p' R → Out w h b n (4, cl, tg, sh, fi, fp, cur, it, fr, bk, en) p R) → zW 4 sc miX11_plainOne 227 [some (.ref 47), some (.int (nI y)), some (.int (nI to)), some (.int (nI wh)), none, none] [] (mm f I2 A B) (fun M r => MX w h b n 9 cl tg bk en (4, cl, tg, sh, fi, fp, cur, it, fr, bk, en) p f I A B M r) := by
          intro to wh p' I2 hto tk2 xb2 xe2 xn2 o2 hf2 hpp hpn' hbad hgood
          have hrl := rng_len (a := y) (b := to)
          -- behind the difference
          have diff : ∀ (df : Nat) (x5 : Option Value), df = (if y ≤ to then to - y else y - to) → zW 4 sc miX11_plainOne 243 [some (.ref 47), some (.int (nI y)), some (.int (nI to)), some (.int (nI wh)), some (.int (nI df)), x5] [] (mm f I2 A B) (fun M r => MX w h b n 9 cl tg bk en (4, cl, tg, sh, fi, fp, cur, it, fr, bk, en) p f I A B M r) := by
            intro df x5 hdf
            have hdl : (rng y to).length = df + 1 := by rw [hrl, hdf]
            have hd16 : df < 16 := by rw [hdf]; split <;> omega
            repeat (refine zw_go rfl rfl (fun _ _ => rfl) ?_)
            refine zw_call rfl (fun _ _ => rfl) (mMany sc I2 A B f cur fr xn2 t3 (by omega)) (by decide) ?_
            rintro M1 r1 ⟨rfl, rfl⟩
            repeat (refine zw_go rfl rfl (fun _ _ => rfl) ?_)
            rw [show nI cur.length + Int32.ofInt 1 + nI df = nI (cur.length + (df + 1)) from by rw [show nI cur.length + Int32.ofInt 1 = nI (cur.length + 1) from nI_1 _, nI_add, Nat.add_assoc, Nat.add_comm 1 df]]
            by_cases hroom : 200 < cur.length + (df + 1)
            · first | refine zw_br rfl (fun _ _ => rfl) (fun h9 => absurd h9 (nI_ge (a := 200) (b := cur.length + (df + 1)) hroom (by omega))) (fun _ => ?_) | refine zw_nx rfl (fun _ _ => rfl) ?_
              repeat (refine zw_go rfl rfl (fun _ _ => rfl) ?_)
              refine zw_call rfl (fun _ _ => rfl) (mFails sc I2 A B f 5 (nI wh)) (by decide) ?_
              rintro M1 r1 ⟨rfl, rfl⟩
              exact zw_ret rfl (fun _ _ => rfl) (flt1 5 I2 (by omega) (by omega) _ (hbad (by omega)) hf2)
            · obtain ⟨hti9, hO9⟩ := hgood (by omega)
              have fin : zW 4 sc miX11_plainOne 298 [some (.ref 47), some (.int (nI y)), some (.int (nI to)), none, none, some (.int (nI to))] [] (mm f (upd I2 15 (nI ((flt fr ++ cur).length + df))) (va_up A 12 (apl (A 12) (flt fr ++ cur).length (rng y to) df)) B) (fun M r => MX w h b n 9 cl tg bk en (4, cl, tg, sh, fi, fp, cur, it, fr, bk, en) p f I A B M r) := by
                have hlast : gl (rng y to) df = to := by
                  unfold rng
                  split
                  · rename_i h5; rw [if_pos h5] at hdf; rw [gl_tab (by omega)]; omega
                  · rename_i h5; rw [if_neg h5] at hdf; rw [gl_tab (by omega)]; omega
                repeat (refine zw_go rfl rfl (fun _ _ => rfl) ?_)
                refine zw_call rfl (fun _ _ => rfl) (mPush sc (upd I2 15 (nI ((flt fr ++ cur).length + df))) (va_up A 12 (apl (A 12) (flt fr ++ cur).length (rng y to) df)) B f (nI to) ((flt fr ++ cur).length + df) (by omega) rfl) (by decide) ?_
                rintro M1 r1 ⟨rfl, rfl⟩
                repeat (refine zw_go rfl rfl (fun _ _ => rfl) ?_)
                refine zw_ret rfl (fun _ _ => rfl) ?_
                refine Or.inl ⟨rfl, sh, y, tkP b n p, cur ++ rng y to, cur.length, fr, p', _, _, rfl, ⟨tk2, mb_cong xb2 rfl rfl rfl rfl, me_cong xe2 rfl rfl rfl rfl, fun _ => mn_app xn2 (by rw [hdl, ← Nat.add_assoc]; rfl) rfl ?_ rfl rfl rfl, fun _ => o2⟩, hti9, hpn', hpp, hO9, mf_tr hf2 ⟨fun z hz => ?_, fun a ha => ?_⟩⟩
                · show upd (apl (A 12) (flt fr ++ cur).length (rng y to) df) ((flt fr ++ cur).length + df) (nI to) = _
                  rw [hdl, ← apl_s, hlast]
                · unfold upd; rw [if_neg (by omega), if_neg (by omega)]
                · unfold va_up; rw [if_neg (by omega), if_neg (by omega)]
              have loop : ∀ (z i : Nat), i + z = df → zW 4 sc miX11_plainOne 268 [some (.ref 47), some (.int (nI y)), some (.int (nI to)), none, none, some (.int (nI (gl (rng y to) i)))] [] (mm f (upd I2 15 (nI ((flt fr ++ cur).length + i))) (va_up A 12 (apl (A 12) (flt fr ++ cur).length (rng y to) i)) B) (fun M r => MX w h b n 9 cl tg bk en (4, cl, tg, sh, fi, fp, cur, it, fr, bk, en) p f I A B M r) := by
                intro z
                induction z with
                | zero =>
                  intro i hi
                  have e : i = df := by omega
                  subst e
                  have hlast : gl (rng y to) i = to := by
                    unfold rng
                    split
                    · rename_i h5; rw [if_pos h5] at hdf; rw [gl_tab (by omega)]; omega
                    · rename_i h5; rw [if_neg h5] at hdf; rw [gl_tab (by omega)]; omega
                  rw [hlast]
                  refine zw_nx rfl (fun _ _ => rfl) ?_
                  repeat (refine zw_go rfl rfl (fun _ _ => rfl) ?_)
                  first | refine zw_br rfl (fun _ _ => rfl) (fun _ => ?_) (fun h9 => absurd (rfl) h9) | refine zw_nx rfl (fun _ _ => rfl) ?_
                  exact fin
                | succ z ih =>
                  intro i hi
                  have hne := ih (i + 1) (by omega)
                  rw [← apl_s, ← Nat.add_assoc] at hne
                  have hval : ∀ j, j ≤ df → gl (rng y to) j = if y ≤ to then y + j else y - j := fun j hj => by
                    unfold rng
                    by_cases h5 : y ≤ to
                    · rw [if_pos h5] at hdf ⊢; rw [gl_tab (by omega), if_pos h5]
                    · rw [if_neg h5] at hdf ⊢; rw [gl_tab (by omega), if_neg h5]
                  have hneq : gl (rng y to) i ≠ to := by
                    rw [hval i (by omega)]
                    split
                    · rename_i h5; rw [if_pos h5] at hdf; omega
                    · rename_i h5; rw [if_neg h5] at hdf; omega
                  have hlt16 : gl (rng y to) i < 32 := by
                    rw [hval i (by omega)]
                    split <;> omega
                  refine zw_nx rfl (fun _ _ => rfl) ?_
                  repeat (refine zw_go rfl rfl (fun _ _ => rfl) ?_)
                  first | refine zw_br rfl (fun _ _ => rfl) (fun h9 => absurd h9 ((fun z => hneq ((nI_eq (a := gl (rng y to) i) (b := to) (by omega) (by omega)).mp z)))) (fun _ => ?_) | refine zw_nx rfl (fun _ _ => rfl) ?_
                  repeat (refine zw_go rfl rfl (fun _ _ => rfl) ?_)
                  refine zw_call rfl (fun _ _ => rfl) (mPush sc (upd I2 15 (nI ((flt fr ++ cur).length + i))) (va_up A 12 (apl (A 12) (flt fr ++ cur).length (rng y to) i)) B f (nI (gl (rng y to) i)) ((flt fr ++ cur).length + i) (by omega) rfl) (by decide) ?_
                  rintro M1 r1 ⟨rfl, rfl⟩
                  repeat (refine zw_go rfl rfl (fun _ _ => rfl) ?_)
                  by_cases h5 : y ≤ to
                  · have h6 : y < to := by rw [if_pos h5] at hdf; omega
                    first | refine zw_br rfl (fun _ _ => rfl) (fun h9 => absurd h9 (nI_ge (a := y) (b := to) h6 (by omega))) (fun _ => ?_) | refine zw_nx rfl (fun _ _ => rfl) ?_
                    repeat (refine zw_go rfl rfl (fun _ _ => rfl) ?_)
                    rw [show nI (gl (rng y to) i) + Int32.ofInt 1 = nI (gl (rng y to) (i + 1)) from by
                      rw [hval i (by omega), hval (i + 1) (by omega), if_pos h5, if_pos h5]; exact nI_1 (y + i)]
                    exact zw_kp hne
                  · first | refine zw_br rfl (fun _ _ => rfl) (fun _ => ?_) (fun h9 => absurd (nI_le (a := to) (b := y) (by omega) (by omega)) h9) | refine zw_nx rfl (fun _ _ => rfl) ?_
                    repeat (refine zw_go rfl rfl (fun _ _ => rfl) ?_)
                    rw [show nI (gl (rng y to) i) + Int32.ofInt (-1) = nI (gl (rng y to) (i + 1)) from by
                      rw [hval i (by omega), hval (i + 1) (by omega), if_neg h5, if_neg h5, show y - i = (y - (i + 1)) + 1 by (rw [if_neg h5] at hdf; omega), nI_dn]]
                    exact zw_kp hne
              have hlp := loop df 0 (by omega)
              rw [show mm f (upd I2 15 (nI ((flt fr ++ cur).length + 0))) (va_up A 12 (apl (A 12) (flt fr ++ cur).length (rng y to) 0)) B = mm f I2 A B from by
                rw [apl_0, va_up_id, Nat.add_zero, ← xn2.1, show upd I2 15 (I2 15) = I2 from by funext z; unfold upd; split <;> simp_all], show gl (rng y to) 0 = y from by
                unfold rng
                split
                · rw [gl_tab (by omega)]; rfl
                · rw [gl_tab (by omega)]; rfl] at hlp
              first | refine zw_br rfl (fun _ _ => rfl) (fun _ => ?_) (fun h9 => absurd (nI_le (a := cur.length + (df + 1)) (b := 200) (by omega) (by omega)) h9) | refine zw_nx rfl (fun _ _ => rfl) ?_
              repeat (refine zw_go rfl rfl (fun _ _ => rfl) ?_)
              exact zw_kp hlp
          repeat (refine zw_go rfl rfl (fun _ _ => rfl) ?_)
          by_cases h5 : to ≤ y
          · first | refine zw_br rfl (fun _ _ => rfl) (fun _ => ?_) (fun h9 => absurd (nI_le (a := to) (b := y) h5 (by omega)) h9) | refine zw_nx rfl (fun _ _ => rfl) ?_
            refine zw_nx rfl (fun _ _ => rfl) ?_
            refine zw_nx rfl (fun _ _ => rfl) ?_
            refine zw_nx rfl (fun _ _ => rfl) ?_
            refine zw_nx rfl (fun _ _ => rfl) ?_
            rw [nI_sub h5]
            exact diff (y - to) _ (by split <;> omega)
          · first | refine zw_br rfl (fun _ _ => rfl) (fun h9 => absurd h9 (nI_ge (a := y) (b := to) (by omega) (by omega))) (fun _ => ?_) | refine zw_nx rfl (fun _ _ => rfl) ?_
            refine zw_nx rfl (fun _ _ => rfl) ?_
            refine zw_nx rfl (fun _ _ => rfl) ?_
            refine zw_nx rfl (fun _ _ => rfl) ?_
            refine zw_nx rfl (fun _ _ => rfl) ?_
            refine zw_nx rfl (fun _ _ => rfl) ?_
            rw [nI_sub (show y ≤ to by omega)]
            exact diff (to - y) _ (by rw [if_pos (by omega)])
        first | refine zw_br rfl (fun _ _ => rfl) (fun _ => ?_) (fun h9 => absurd (nI_le (a := y) (b := 15) (by omega) (by omega)) h9) | refine zw_nx rfl (fun _ _ => rfl) ?_
        repeat (refine zw_go rfl rfl (fun _ _ => rfl) ?_)
        rw [y1, q9]
        refine zw_call rfl (fun _ _ => rfl) (mNextToken sc I1 A B f n b (tkX b n p) tp1 hle q8) (by decide) ?_
        rintro M1 r1 ⟨rfl, I2, rfl, tk2, hI2⟩
        have hf2 : MF I A I2 A := mf_tr hf1 ⟨fun z hz => hI2 z (by omega), fun _ _ => rfl⟩
        have xn2 : MN cur fr I2 A := mn_cong xn1 (hI2 15 (by omega)) (hI2 16 (by omega)) rfl rfl rfl rfl
        have xb2 : MB bk I2 A := mb_cong xb1 (hI2 14 (by omega)) rfl rfl rfl
        have xe2 : ME en I2 A := me_cong xe1 (hI2 18 (by omega)) rfl rfl rfl
        have o2 : I2 17 = nI ((flt fr).length + cur.length) := by rw [hI2 17 (by omega)]; exact o17
        have hks2 := tk_small (b := b) (n := n) (p := tkX b n p)
        have hphi2 := phi_lt hks2
        obtain ⟨w8, w10, w9, w11, w11'⟩ := tk2
        refine zw_nx rfl (fun _ _ => rfl) ?_
        refine zw_nx rfl (fun _ _ => rfl) ?_
        rw [w10]
        refine zw_nx rfl (fun _ _ => rfl) ?_
        by_cases k8 : tkK b n (tkX b n p) = 8
        · -- a range
          have hkne2 : tkK b n (tkX b n p) ≠ 0 := by omega
          obtain ⟨hgt2, _⟩ := tkX_gt hkne2
          have hle2 := tkX_le (b := b) hle
          have hg6 : ful w h (5, cl, tg, sh, y, tkP b n p, cur, cur.length, fr, bk, en) (tkK b n (tkX b n p)) (tkN b n (tkX b n p)) (tkP b n (tkX b n p)) = .inl (6, cl, tg, sh, y, tkP b n p, cur, cur.length, fr, bk, en) := by
            unfold ful
            simp only [prS]
            rw [if_pos k8]
            rfl
          have hti6 := ti_ful hw hh hn hle hti.1 hg6
          have hO6 : ∀ R, Out w h b n (6, cl, tg, sh, y, tkP b n p, cur, cur.length, fr, bk, en) (tkX b n (tkX b n p)) R → Out w h b n (4, cl, tg, sh, fi, fp, cur, it, fr, bk, en) p R := fun R hR => hO5 R (out_go hg6 hR)
          rw [k8]
          repeat (refine zw_go rfl rfl (fun _ _ => rfl) ?_)
          refine zw_call rfl (fun _ _ => rfl) (mNextToken sc I2 A B f n b (tkX b n (tkX b n p)) (tpM_f hTp hf2) hle2 w8) (by decide) ?_
          rintro M1 r1 ⟨rfl, I3, rfl, tk3, hI3⟩
          generalize hp2 : tkX b n (tkX b n p) = p2 at *
          have hf3 : MF I A I3 A := mf_tr hf2 ⟨fun z hz => hI3 z (by omega), fun _ _ => rfl⟩
          have xn3 : MN cur fr I3 A := mn_cong xn2 (hI3 15 (by omega)) (hI3 16 (by omega)) rfl rfl rfl rfl
          have xb3 : MB bk I3 A := mb_cong xb2 (hI3 14 (by omega)) rfl rfl rfl
          have xe3 : ME en I3 A := me_cong xe2 (hI3 18 (by omega)) rfl rfl rfl
          have o3 : I3 17 = nI ((flt fr).length + cur.length) := by rw [hI3 17 (by omega)]; exact o2
          have hks3 := tk_small (b := b) (n := n) (p := p2)
          have hphi3 := phi_lt hks3
          obtain ⟨v8, v10, v9, v11, v11'⟩ := tk3
          have hf6 : ful w h (6, cl, tg, sh, y, tkP b n p, cur, cur.length, fr, bk, en) (tkK b n p2) (tkN b n p2) (tkP b n p2) = if tkK b n p2 = 2 then (if 15 < tkN b n p2 then bad 2 (tkP b n p2) else if 200 < cur.length + (rng y (tkN b n p2)).length then bad 5 (tkP b n p2) else .inl (9, cl, tg, sh, y, tkP b n p, cur ++ rng y (tkN b n p2), cur.length, fr, bk, en)) else bad 1 (tkP b n p2) := rfl
          repeat (refine zw_go rfl rfl (fun _ _ => rfl) ?_)
          rw [v10]
          by_cases k22 : tkK b n p2 = 2
          · obtain ⟨y', u1, u2, u3⟩ := v11 k22
            rw [if_pos k22] at hf6
            have hkne3 : tkK b n p2 ≠ 0 := by omega
            obtain ⟨hgt3, _⟩ := tkX_gt hkne3
            have hle3 := tkX_le (b := b) hle2
            rw [k22]
            repeat (refine zw_go rfl rfl (fun _ _ => rfl) ?_)
            rw [u1]
            by_cases y15' : 15 < y'
            · first | refine zw_br rfl (fun _ _ => rfl) (fun h9 => absurd h9 (nI_ge (a := 15) (b := y') y15' (by omega))) (fun _ => ?_) | refine zw_nx rfl (fun _ _ => rfl) ?_
              repeat (refine zw_go rfl rfl (fun _ _ => rfl) ?_)
              rw [v9]
              refine zw_call rfl (fun _ _ => rfl) (mFails sc I3 A B f 2 (nI (tkP b n p2))) (by decide) ?_
              rintro M1 r1 ⟨rfl, rfl⟩
              exact zw_ret rfl (fun _ _ => rfl) (flt1 2 I3 (by omega) (by omega) _ (hO6 _ (out_end (by rw [hf6, if_pos (by omega)]; rfl))) hf3)
            · have ev2 : tkN b n p2 = y' := by omega
              rw [if_neg (by omega), ev2] at hf6
              first | refine zw_br rfl (fun _ _ => rfl) (fun _ => ?_) (fun h9 => absurd (nI_le (a := y') (b := 15) (by omega) (by omega)) h9) | refine zw_nx rfl (fun _ _ => rfl) ?_
              repeat (refine zw_go rfl rfl (fun _ _ => rfl) ?_)
              rw [u1, v9]
              refine zw_call rfl (fun _ _ => rfl) (mNextToken sc I3 A B f n b (tkX b n p2) (tpM_f hTp hf3) hle3 v8) (by decide) ?_
              rintro M1 r1 ⟨rfl, I4, rfl, tk4, hI4⟩
              refine puts y' (tkP b n p2) (tkX b n p2) I4 (by omega) tk4 (mb_cong xb3 (hI4 14 (by omega)) rfl rfl rfl) (me_cong xe3 (hI4 18 (by omega)) rfl rfl rfl) (mn_cong xn3 (hI4 15 (by omega)) (hI4 16 (by omega)) rfl rfl rfl rfl) (by rw [hI4 17 (by omega)]; exact o3) (mf_tr hf3 ⟨fun z hz => hI4 z (by omega), fun _ _ => rfl⟩) (by omega) hle3 (fun hr => hO6 _ (out_end (by rw [ev2, hf6, if_pos hr]; rfl))) (fun hr => ?_)
              rw [if_neg hr] at hf6
              rw [← ev2] at hf6
              have hti9 := ti_ful hw hh hn hle2 hti6.1 hf6
              rw [ev2] at hti9 hf6
              exact ⟨hti9.1, fun R hR => hO6 R (out_go (by rw [ev2]; exact hf6) hR)⟩
          · rw [if_neg k22] at hf6
            first | refine zw_br rfl (fun _ _ => rfl) (fun h9 => absurd h9 ((fun z => k22 (phi_eq.2.mp ((nI_eq (a := phi (tkK b n p2)) (b := 1) (by omega) (by omega)).mp z))))) (fun _ => ?_) | refine zw_nx rfl (fun _ _ => rfl) ?_
            repeat (refine zw_go rfl rfl (fun _ _ => rfl) ?_)
            rw [v9]
            refine zw_call rfl (fun _ _ => rfl) (mFails sc I3 A B f 1 (nI (tkP b n p2))) (by decide) ?_
            rintro M1 r1 ⟨rfl, rfl⟩
            exact zw_ret rfl (fun _ _ => rfl) (flt1 1 I3 (by omega) (by omega) _ (hO6 _ (out_end (by rw [hf6]; rfl))) hf3)
        · first | refine zw_br rfl (fun _ _ => rfl) (fun h9 => absurd h9 ((fun z => k8 ((phi_is (by omega)).mp ((nI_eq (a := phi (tkK b n (tkX b n p))) (b := 8) (by omega) (by omega)).mp z))))) (fun _ => ?_) | refine zw_nx rfl (fun _ _ => rfl) ?_
          have hrng : rng y y = [y] := by unfold rng; rw [if_pos (Nat.le_refl _), Nat.sub_self]; rfl
          refine puts y (tkP b n p) (tkX b n p) I2 (by omega) ⟨w8, w10, w9, w11, w11'⟩ xb2 xe2 xn2 o2 hf2 hgt hle (fun hr => hO5 _ (out_end ?_)) (fun hr => ?_)
          · rw [hrng] at hr
            have hr : 200 < cur.length + 1 := hr
            unfold ful
            simp only [prS]
            rw [if_neg k8, if_pos hr]
            rfl
          · rw [hrng] at hr ⊢
            have hr : ¬ 200 < cur.length + 1 := hr
            refine ⟨ti_pr (k := 42) hti.1 ?_, fun R hR => hO5 R (out_59 k8 hr hR)⟩
            simp only [prS]
            rw [if_neg (by decide), if_neg hr, if_pos trivial]
    · have hful : ful w h (4, cl, tg, sh, fi, fp, cur, it, fr, bk, en) (tkK b n p) (tkN b n p) (tkP b n p) = bad 1 (tkP b n p) := by
        show stp w h (4, cl, tg, sh, fi, fp, cur, it, fr, bk, en) (tkK b n p) (tkN b n p) (tkP b n p) = _
        simp only [stp]
        rw [if_neg k2, if_neg k3, if_neg hk.1, if_neg hk.2.1, if_neg hk.2.2.1, if_neg hk.2.2.2]
      first | refine zw_br rfl (fun _ _ => rfl) (fun h9 => absurd h9 ((fun z => k2 (phi_eq.2.mp ((nI_eq (a := phi (tkK b n p)) (b := 1) (by omega) (by omega)).mp z))))) (fun _ => ?_) | refine zw_nx rfl (fun _ _ => rfl) ?_
      repeat (refine zw_go rfl rfl (fun _ _ => rfl) ?_)
      rw [q9]
      refine zw_call rfl (fun _ _ => rfl) (mFails sc I1 A B f 1 (nI (tkP b n p))) (by decide) ?_
      rintro M1 r1 ⟨rfl, rfl⟩
      exact zw_ret rfl (fun _ _ => rfl) (flt1 1 I1 (by omega) (by omega) _ (out_end (by rw [hful]; rfl)) hf1)
end

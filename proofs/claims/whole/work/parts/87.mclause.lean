/-! the reference: bring, block -/
/-- a CLAUSE up to its last TOKEN, or a FAULT -/
def MC (w h : Nat) (b : Nat → Nat) (n : Nat) (s : tS) (p : Nat) (f : Nat → va_E) (I : Nat → Int32) (A : Nat → Nat → Int32) (B : Nat → Nat → Int64) (M : sm_M) (r : Option Value) : Prop := (r = some (.int 0) ∧ ∃ cl tg sh fi fp cur it bk en p' I' A', M = mm f I' A' B ∧ TkM I' b n p' ∧ MB bk I' A' ∧ ME en I' A' ∧ TI w h (0, cl, tg, sh, fi, fp, cur, it, [], bk, en) (tkX b n p') ∧ p' ≤ n ∧ p < tkX b n p' ∧ (∀ R, Out w h b n (0, cl, tg, sh, fi, fp, cur, it, [], bk, en) (tkX b n p') R → Out w h b n s p R) ∧ MF I A I' A') ∨ (∃ c e I' A', r = some (.int (nI c)) ∧ 0 < c ∧ c ≤ 5 ∧ M = mm f I' A' B ∧ I' 13 = nI e ∧ Out w h b n s p (c, e, []) ∧ MF I A I' A')
theorem sumN_set {g k : Nat → Nat} {v x : Nat} (hg : g v = 0) (hk : k v = x) (he : ∀ i, i ≠ v → k i = g i) : ∀ n, sumN k n = sumN g n + (if v < n then x else 0) := by
  intro n
  induction n with
  | zero => rfl
  | succ n ih =>
    rw [sumN, sumN, ih]
    by_cases h : n = v
    · subst h
      rw [if_neg (by omega), if_pos (by omega), hg, hk]
    · rw [he n h]
      by_cases h2 : v < n
      · rw [if_pos h2, if_pos (by omega)]; omega
      · rw [if_neg h2, if_neg (by omega)]; omega
theorem bkS_set {bk : Nat → List Nat} {v : Nat} {l : List Nat} (hv : v < 8) (hb : bk v = []) : bkS (clB 4 v l bk) = bkS bk + l.length := by
  unfold bkS
  have e : clB 4 v l bk = fun z => if z = v then l else bk z := by unfold clB; rw [if_pos rfl]
  rw [e, sumN_set (g := fun l => (bk l).length) (v := v) (x := l.length) (by show (bk v).length = 0; rw [hb]; rfl) (by show (if v = v then l else bk v).length = _; rw [if_pos rfl]) (fun i hi => by show (if i = v then l else bk i).length = _; rw [if_neg hi]), if_pos hv]
theorem mb_set {bk : Nat → List Nat} {I I' : Nat → Int32} {A A' : Nat → Nat → Int32} {v : Nat} {l : List Nat} (h : MB bk I A) (hv : v < 8) (hb : bk v = []) (hl : l ≠ []) (h14 : I' 14 = nI (bkS bk + l.length)) (h9 : A' 9 = upd (A 9) v (nI (bkS bk))) (h10 : A' 10 = upd (A 10) v (nI l.length)) (h11 : A' 11 = apl (A 11) (bkS bk) l l.length) : MB (clB 4 v l bk) I' A' := by
  refine ⟨by rw [bkS_set hv hb]; exact h14, fun z hz => ?_⟩
  have e : clB 4 v l bk z = if z = v then l else bk z := by unfold clB; rw [if_pos rfl]
  rw [bkS_set hv hb, e, h9, h10, h11]
  unfold upd
  by_cases hzv : z = v
  · rw [if_pos hzv, if_pos hzv, if_pos hzv]
    exact Or.inr ⟨hl, rfl, _, rfl, Nat.le_refl _, fun i hi => apl_in hi⟩
  · rw [if_neg hzv, if_neg hzv, if_neg hzv]
    rcases h.2 z hz with ⟨h1, h2⟩ | ⟨h1, h2, q, h3, h4, h5⟩
    · exact Or.inl ⟨h1, h2⟩
    · exact Or.inr ⟨h1, h2, q, h3, by omega, fun i hi => by rw [apl_lo (by omega)]; exact h5 i hi⟩
theorem mb_nil {bk : Nat → List Nat} {I : Nat → Int32} {A : Nat → Nat → Int32} (h : MB bk I A) (hr : ∀ l, rwK (bk l)) {v : Nat} (hv : v < 8) : (A 10 v < 0) ↔ bk v = [] := by
  rcases h.2 v hv with ⟨h1, h2⟩ | ⟨h1, h2, _⟩
  · rw [h1, h2]; exact ⟨fun _ => rfl, fun _ => by decide⟩
  · have := (hr v).1
    rw [h2]
    exact ⟨fun z => absurd z (Int32.not_lt.mpr (nI_pos' (show (bk v).length < 2 ^ 31 by omega))), fun z => absurd z h1⟩
theorem me_add {en : tE} {I I' : Nat → Int32} {A A' : Nat → Nat → Int32} {k a : Nat} {v : Int32} (h : ME en I A) (h18 : I' 18 = nI (en.length + 1)) (h16 : A' 16 = upd (A 16) en.length (nI k)) (h17 : A' 17 = upd (A 17) en.length (nI a)) (h18a : A' 18 = upd (A 18) en.length v) : ME (en ++ [(k, a, v)]) I' A' := by
  refine ⟨by rw [h18, List.length_append]; rfl, fun i hi => ?_⟩
  rw [List.length_append, List.length_singleton] at hi
  rw [h16, h17, h18a]
  by_cases hn : i = en.length
  · subst hn
    rw [gE_end]
    unfold upd
    rw [if_pos rfl, if_pos rfl, if_pos rfl]
    exact ⟨rfl, rfl, rfl⟩
  · rw [gE_app (by omega)]
    unfold upd
    rw [if_neg hn, if_neg hn, if_neg hn]
    exact h.2 i (by omega)
section
variable (sc : sm_S) (I : Nat → Int32) (A : Nat → Nat → Int32) (B : Nat → Nat → Int64) (f : Nat → va_E) (n : Nat) (b : Nat → Nat) (w h p : Nat) (cl tg sh fi fp it : Nat) (cur : List Nat) (fr : tF) (bk : Nat → List Nat) (en : tE)
def brA (A : Nat → Nat → Int32) (m : Nat) (k a v : Int32) : Nat → Nat → Int32 := va_up (va_up (va_up A 16 (upd (A 16) m k)) 17 (upd (A 17) m a)) 18 (upd (A 18) m v)
set_option maxHeartbeats 4000000 in
set_option maxRecDepth 20000 in
theorem mBring (k a v : Int32) (m : Nat) (hm : m < 5000) (h18 : I 18 = nI m) : zC 1 sc 202 [.ref 47, .int k, .int a, .int v] (mm f I A B) (fun M r => r = none ∧ M = mm f (upd I 18 (nI (m + 1))) (brA A m k a v) B) := by
  refine zc_of hkX11_bring rfl ?_
  repeat (refine zw_go rfl rfl (fun _ _ => rfl) ?_)
  rw [h18]
  refine zw_ix rfl (fun _ _ => rfl) (show vp_in (nI (m)) _ from vp_in_nI (by omega) (by omega)) ?_
  rw [show (nI (m)).toNatClampNeg = m from nI_clamp (by omega)]
  repeat (refine zw_go rfl rfl (fun _ _ => rfl) ?_)
  rw [h18]
  refine zw_ix rfl (fun _ _ => rfl) (show vp_in (nI (m)) _ from vp_in_nI (by omega) (by omega)) ?_
  rw [show (nI (m)).toNatClampNeg = m from nI_clamp (by omega)]
  repeat (refine zw_go rfl rfl (fun _ _ => rfl) ?_)
  rw [h18]
  refine zw_ix rfl (fun _ _ => rfl) (show vp_in (nI (m)) _ from vp_in_nI (by omega) (by omega)) ?_
  rw [show (nI (m)).toNatClampNeg = m from nI_clamp (by omega)]
  repeat (refine zw_go rfl rfl (fun _ _ => rfl) ?_)
  rw [h18, show nI m + Int32.ofInt 1 = nI (m + 1) from nI_1 m]
  exact zw_ret rfl (fun _ _ => rfl) (⟨rfl, rfl⟩)
set_option maxHeartbeats 4000000 in
set_option maxRecDepth 20000 in
theorem mBlock (tk : TkM I b n p) (xb : MB bk I A) (xe : ME en I A) (hT : TI w h (0, cl, tg, sh, fi, fp, cur, it, [], bk, en) p) (hTp : TpM I A b n) (hpn : p ≤ n) (hw : w ≤ 48) (hh : h ≤ 48) (hk : tkK b n p = 4) : zC 7 sc 201 [.ref 47] (mm f I A B) (fun M r => MC w h b n (0, cl, tg, sh, fi, fp, cur, it, [], bk, en) p f I A B M r) := by
  have hn := hTp.2.1
  have hbk : ∀ l, rwK (bk l) := hT.2.2.2.2.1
  have hf0 : ful w h (0, cl, tg, sh, fi, fp, cur, it, [], bk, en) (tkK b n p) (tkN b n p) (tkP b n p) = .inl (1, 4, tg, sh, fi, fp, cur, it, [], bk, en) := by rw [hk]; rfl
  have hti := ti_ful hw hh hn hpn hT hf0
  have hO0 : ∀ R, Out w h b n (1, 4, tg, sh, fi, fp, cur, it, [], bk, en) (tkX b n p) R → Out w h b n (0, cl, tg, sh, fi, fp, cur, it, [], bk, en) p R := fun R hR => out_go hf0 hR
  have hle := tkX_le (b := b) hpn
  refine zc_of hkX11_block rfl ?_
  repeat (refine zw_go rfl rfl (fun _ _ => rfl) ?_)
  refine zw_call rfl (fun _ _ => rfl) (mNextToken sc I A B f n b (tkX b n p) hTp hle tk.1) (by decide) ?_
  rintro M1 r1 ⟨rfl, I1, rfl, tk1, hI1⟩
  have hF1 : MF I A I1 A := ⟨fun z hz => hI1 z (by omega), fun _ _ => rfl⟩
  have xb1 : MB bk I1 A := mb_cong xb (hI1 14 (by omega)) rfl rfl rfl
  have xe1 : ME en I1 A := me_cong xe (hI1 18 (by omega)) rfl rfl rfl
  generalize hp1 : tkX b n p = p1 at *
  clear hp1
  have hks := tk_small (b := b) (n := n) (p := p1)
  have hphi := phi_lt hks
  -- one more FAULT
  have flt1 : ∀ (c : Nat) (I2 : Nat → Int32) (A2 : Nat → Nat → Int32), 0 < c → c ≤ 5 → ∀ e, Out w h b n (0, cl, tg, sh, fi, fp, cur, it, [], bk, en) p (c, e, []) → MF I A I2 A2 → MC w h b n (0, cl, tg, sh, fi, fp, cur, it, [], bk, en) p f I A B (mm f (upd I2 13 (nI e)) A2 B) (some (.int (nI c))) := fun c I2 A2 h1 h2 e hO hF => Or.inr ⟨c, e, _, A2, rfl, h1, h2, rfl, rfl, hO, mf_tr hF mf_13⟩
  have hf1 : ful w h (1, 4, tg, sh, fi, fp, cur, it, [], bk, en) (tkK b n p1) (tkN b n p1) (tkP b n p1) = if tkK b n p1 = 3 then (if bk (tkN b n p1) = [] then .inl (2, 4, tkN b n p1, sh, fi, fp, cur, it, [], bk, en) else bad 4 (tkP b n p1)) else bad 1 (tkP b n p1) := rfl
  repeat (refine zw_go rfl rfl (fun _ _ => rfl) ?_)
  rw [tk1.2.1]
  by_cases k3 : tkK b n p1 = 3
  · rw [if_pos k3] at hf1
    have hv8 := tk_let k3
    have e11 := tk1.2.2.2.2 k3
    have hnil := mb_nil xb1 hbk hv8
    rw [k3]
    repeat (refine zw_go rfl rfl (fun _ _ => rfl) ?_)
    rw [e11]
    refine zw_ix rfl (fun _ _ => rfl) (show vp_in (nI ((tkN b n p1))) _ from vp_in_nI (by omega) (by omega)) ?_
    rw [show (nI ((tkN b n p1))).toNatClampNeg = (tkN b n p1) from nI_clamp (by omega)]
    repeat (refine zw_go rfl rfl (fun _ _ => rfl) ?_)
    by_cases hne : bk (tkN b n p1) = []
    · rw [if_pos hne] at hf1
      have hti1 := ti_ful hw hh hn hle hti.1 hf1
      have hle1 := tkX_le (b := b) hle
      have hO1 : ∀ R, Out w h b n (2, 4, tkN b n p1, sh, fi, fp, cur, it, [], bk, en) (tkX b n p1) R → _ := fun R hR => hO0 R (out_go hf1 hR)
      first | refine zw_br rfl (fun _ _ => rfl) (fun _ => ?_) (fun h9 => absurd (hnil.mpr hne) h9) | refine zw_nx rfl (fun _ _ => rfl) ?_
      repeat (refine zw_go rfl rfl (fun _ _ => rfl) ?_)
      refine zw_call rfl (fun _ _ => rfl) (mNextToken sc I1 A B f n b (tkX b n p1) (tpM_f hTp hF1) hle1 tk1.1) (by decide) ?_
      rintro M1 r1 ⟨rfl, I2, rfl, tk2, hI2⟩
      have hF2 : MF I A I2 A := mf_tr hF1 ⟨fun z hz => hI2 z (by omega), fun _ _ => rfl⟩
      have xb2 : MB bk I2 A := mb_cong xb1 (hI2 14 (by omega)) rfl rfl rfl
      have xe2 : ME en I2 A := me_cong xe1 (hI2 18 (by omega)) rfl rfl rfl
      generalize hv : tkN b n p1 = v at *
      generalize hp2 : tkX b n p1 = p2 at *
      have hks2 := tk_small (b := b) (n := n) (p := p2)
      have hphi2 := phi_lt hks2
      have hf2 : ful w h (2, 4, v, sh, fi, fp, cur, it, [], bk, en) (tkK b n p2) (tkN b n p2) (tkP b n p2) = if tkK b n p2 = 61 then .inl (4, 4, v, sh, fi, fp, [], 0, [], bk, en) else bad 1 (tkP b n p2) := rfl
      repeat (refine zw_go rfl rfl (fun _ _ => rfl) ?_)
      rw [tk2.2.1]
      by_cases k61 : tkK b n p2 = 61
      · rw [if_pos k61] at hf2
        have hti2 := ti_ful hw hh hn hle1 hti1.1 hf2
        have hle2 := tkX_le (b := b) hle1
        have hO2 : ∀ R, Out w h b n (4, 4, v, sh, fi, fp, [], 0, [], bk, en) (tkX b n p2) R → _ := fun R hR => hO1 R (out_go hf2 hR)
        rw [k61]
        repeat (refine zw_go rfl rfl (fun _ _ => rfl) ?_)
        refine zw_call rfl (fun _ _ => rfl) (mNextToken sc I2 A B f n b (tkX b n p2) (tpM_f hTp hF2) hle2 tk2.1) (by decide) ?_
        rintro M1 r1 ⟨rfl, I3, rfl, tk3, hI3⟩
        have hF3 : MF I A I3 A := mf_tr hF2 ⟨fun z hz => hI3 z (by omega), fun _ _ => rfl⟩
        have xb3 : MB bk I3 A := mb_cong xb2 (hI3 14 (by omega)) rfl rfl rfl
        have xe3 : ME en I3 A := me_cong xe2 (hI3 18 (by omega)) rfl rfl rfl
        repeat (refine zw_go rfl rfl (fun _ _ => rfl) ?_)
        refine zw_call rfl (fun _ _ => rfl) (mReadRow sc I3 A B f n b w h (tkX b n p2) 4 v sh fi fp bk en tk3 xb3 xe3 hti2.1 (tpM_f hTp hF3) hle2 hw hh) (by decide) ?_
        intro M1 r1 hM
        rcases hM with ⟨rfl, sh4, fi4, fp4, cur4, it4, p4, I4, A4, rfl, hX4, hT4, hp4n, hp4, k44, hO4, hF4⟩ | ⟨c, e, I4, A4, rfl, hc, hc5, rfl, he, hO4, hF4⟩
        · obtain ⟨tk4, xb4, xe4, xn4, _⟩ := hX4
          have xn4 := xn4 (by omega)
          have hFF := mf_tr hF3 hF4
          have hks4 := tk_small (b := b) (n := n) (p := p4)
          have hphi4 := phi_lt hks4
          have hf4 : ful w h (11, 4, v, sh4, fi4, fp4, cur4, it4, [], bk, en) (tkK b n p4) (tkN b n p4) (tkP b n p4) = if tkK b n p4 = 44 then .inl (4, 4, v, sh4, fi4, fp4, cur4, it4, [], bk, en) else if tkK b n p4 = 41 ∧ ([] : tF) ≠ [] then clR 4 v sh4 fi4 fp4 cur4 bk en (tkP b n p4) [] else if tkK b n p4 = 59 ∧ ([] : tF) = [] then .inl (0, 4, v, sh4, fi4, fp4, cur4, it4, [], clB 4 v cur4 bk, clE w h 4 v cur4 en) else bad 1 (tkP b n p4) := rfl
          rw [if_neg k44, if_neg (fun z => z.2 rfl)] at hf4
          have hcl : cur4.length ≤ 200 := hT4.2.1.1
          have hcne : cur4 ≠ [] := hT4.2.2.2.2.2.2.2.2.2.1 (by omega)
          repeat (refine zw_go rfl rfl (fun _ _ => rfl) ?_)
          rw [tk4.2.1]
          by_cases k59 : tkK b n p4 = 59
          · rw [if_pos ⟨k59, rfl⟩] at hf4
            have hti4 := ti_ful hw hh hn hp4n hT4 hf4
            have hsum : bkS bk ≤ 200 * 8 := sum_le hbk 8
            have hsum2 : bkS (clB 4 v cur4 bk) ≤ 200 * 8 := sum_le hti4.1.2.2.2.2.1 8
            rw [bkS_set hv8 hne] at hsum2
            have e15 : I4 15 = nI cur4.length := xn4.1
            have e12 : ∀ i, i < cur4.length → A4 12 i = nI (gl cur4 i) := xn4.2.2.2
            rw [k59]
            repeat (refine zw_go rfl rfl (fun _ _ => rfl) ?_)
            refine zw_ix rfl (fun _ _ => rfl) (show vp_in (nI (v)) _ from vp_in_nI (by omega) (by omega)) ?_
            rw [show (nI (v)).toNatClampNeg = v from nI_clamp (by omega)]
            repeat (refine zw_go rfl rfl (fun _ _ => rfl) ?_)
            refine zw_ix rfl (fun _ _ => rfl) (show vp_in (nI (v)) _ from vp_in_nI (by omega) (by omega)) ?_
            rw [show (nI (v)).toNatClampNeg = v from nI_clamp (by omega)]
            repeat (refine zw_go rfl rfl (fun _ _ => rfl) ?_)
            rw [xb4.1, e15]
            have loop : ∀ (z i : Nat), i + z = cur4.length → zW 6 sc miX11_block 125 [some (.ref 47), none, none, some (.int (nI i))] [] (mm f I4 (va_up (va_up (va_up A4 9 (upd (A4 9) v (nI (bkS bk)))) 10 (upd (A4 10) v (nI cur4.length))) 11 (apl (A4 11) (bkS bk) cur4 i)) B) (fun M r => MC w h b n (0, cl, tg, sh, fi, fp, cur, it, [], bk, en) p f I A B M r) := by
              intro z
              induction z with
              | zero =>
                intro i hi
                have e : i = cur4.length := by omega
                refine zw_nx rfl (fun _ _ => rfl) ?_
                repeat (refine zw_go rfl rfl (fun _ _ => rfl) ?_)
                rw [e15]
                first | refine zw_br rfl (fun _ _ => rfl) (fun _ => ?_) (fun h9 => absurd (nI_le (a := cur4.length) (b := i) (by omega) (by omega)) h9) | refine zw_nx rfl (fun _ _ => rfl) ?_
                repeat (refine zw_go rfl rfl (fun _ _ => rfl) ?_)
                rw [show I4 14 + I4 15 = nI (bkS bk + cur4.length) by rw [xb4.1, e15]; exact nI_add _ _]
                refine zw_ret rfl (fun _ _ => rfl) ?_
                refine Or.inl ⟨rfl, 4, v, sh4, fi4, fp4, cur4, it4, clB 4 v cur4 bk, clE w h 4 v cur4 en, p4, upd I4 14 (nI (bkS bk + cur4.length)), va_up (va_up (va_up A4 9 (upd (A4 9) v (nI (bkS bk)))) 10 (upd (A4 10) v (nI cur4.length))) 11 (apl (A4 11) (bkS bk) cur4 i), rfl, tk4, mb_set xb4 hv8 hne hcne rfl rfl rfl (by rw [← e]; rfl), ?_, hti4.1, hp4n, by omega, fun R hR => hO2 R (hO4 R (out_go hf4 hR)), mf_tr hFF ⟨fun z hz => ?_, fun a ha => ?_⟩⟩
                · have e2 : clE w h 4 v cur4 en = en := by unfold clE; rw [if_pos rfl]
                  rw [e2]
                  exact me_cong xe4 rfl rfl rfl rfl
                · unfold upd; rw [if_neg (by omega)]
                · unfold va_up; rw [if_neg (by omega), if_neg (by omega), if_neg (by omega)]
              | succ z ih =>
                intro i hi
                have hnx := ih (i + 1) (by omega)
                refine zw_nx rfl (fun _ _ => rfl) ?_
                repeat (refine zw_go rfl rfl (fun _ _ => rfl) ?_)
                rw [e15]
                first | refine zw_br rfl (fun _ _ => rfl) (fun h9 => absurd h9 (nI_ge (a := i) (b := cur4.length) (by omega) (by omega))) (fun _ => ?_) | refine zw_nx rfl (fun _ _ => rfl) ?_
                repeat (refine zw_go rfl rfl (fun _ _ => rfl) ?_)
                rw [xb4.1, show nI (bkS bk) + nI i = nI (bkS bk + i) from nI_add _ _]
                refine zw_ix rfl (fun _ _ => rfl) (show vp_in (nI (i)) _ from vp_in_nI (by omega) (by omega)) ?_
                rw [show (nI (i)).toNatClampNeg = i from nI_clamp (by omega)]
                repeat (refine zw_go rfl rfl (fun _ _ => rfl) ?_)
                rw [show va_up (va_up (va_up A4 9 (upd (A4 9) v (nI (bkS bk)))) 10 (upd (A4 10) v (nI cur4.length))) 11 (apl (A4 11) (bkS bk) cur4 i) 12 i = nI (gl cur4 i) from e12 i (by omega)]
                refine zw_ix rfl (fun _ _ => rfl) (show vp_in (nI ((bkS bk + i))) _ from vp_in_nI (by omega) (by omega)) ?_
                rw [show (nI ((bkS bk + i))).toNatClampNeg = (bkS bk + i) from nI_clamp (by omega)]
                repeat (refine zw_go rfl rfl (fun _ _ => rfl) ?_)
                rw [← apl_s, nI_succ i] at hnx
                exact zw_kp hnx
            have st := loop cur4.length 0 (by omega)
            rw [apl_0] at st
            exact zw_kp st
          · rw [if_neg (fun z => k59 z.1)] at hf4
            first | refine zw_br rfl (fun _ _ => rfl) (fun h9 => absurd h9 ((fun z => k59 ((phi_is (by omega)).mp ((nI_eq (a := phi (tkK b n p4)) (b := 59) (by omega) (by omega)).mp z))))) (fun _ => ?_) | refine zw_nx rfl (fun _ _ => rfl) ?_
            repeat (refine zw_go rfl rfl (fun _ _ => rfl) ?_)
            rw [tk4.2.2.1]
            refine zw_call rfl (fun _ _ => rfl) (mFails sc I4 A4 B f 1 (nI (tkP b n p4))) (by decide) ?_
            rintro M1 r1 ⟨rfl, rfl⟩
            exact zw_ret rfl (fun _ _ => rfl) (flt1 1 I4 A4 (by omega) (by omega) _ (hO2 _ (hO4 _ (out_end hf4))) hFF)
        · repeat (refine zw_go rfl rfl (fun _ _ => rfl) ?_)
          first | refine zw_br rfl (fun _ _ => rfl) (fun h9 => absurd h9 (nI_ne0 hc (by omega))) (fun _ => ?_) | refine zw_nx rfl (fun _ _ => rfl) ?_
          repeat (refine zw_go rfl rfl (fun _ _ => rfl) ?_)
          exact zw_ret rfl (fun _ _ => rfl) (Or.inr ⟨c, e, I4, A4, rfl, hc, hc5, rfl, he, hO2 _ hO4, mf_tr hF3 hF4⟩)
      · rw [if_neg k61] at hf2
        first | refine zw_br rfl (fun _ _ => rfl) (fun h9 => absurd h9 ((fun z => k61 ((phi_is (by omega)).mp ((nI_eq (a := phi (tkK b n p2)) (b := 61) (by omega) (by omega)).mp z))))) (fun _ => ?_) | refine zw_nx rfl (fun _ _ => rfl) ?_
        repeat (refine zw_go rfl rfl (fun _ _ => rfl) ?_)
        rw [tk2.2.2.1]
        refine zw_call rfl (fun _ _ => rfl) (mFails sc I2 A B f 1 (nI (tkP b n p2))) (by decide) ?_
        rintro M1 r1 ⟨rfl, rfl⟩
        exact zw_ret rfl (fun _ _ => rfl) (flt1 1 I2 A (by omega) (by omega) _ (hO1 _ (out_end hf2)) hF2)
    · rw [if_neg hne] at hf1
      first | refine zw_br rfl (fun _ _ => rfl) (fun h9 => absurd h9 ((fun z => hne (hnil.mp z)))) (fun _ => ?_) | refine zw_nx rfl (fun _ _ => rfl) ?_
      repeat (refine zw_go rfl rfl (fun _ _ => rfl) ?_)
      rw [tk1.2.2.1]
      refine zw_call rfl (fun _ _ => rfl) (mFails sc I1 A B f 4 (nI (tkP b n p1))) (by decide) ?_
      rintro M1 r1 ⟨rfl, rfl⟩
      exact zw_ret rfl (fun _ _ => rfl) (flt1 4 I1 A (by omega) (by omega) _ (hO0 _ (out_end hf1)) hF1)
  · rw [if_neg k3] at hf1
    first | refine zw_br rfl (fun _ _ => rfl) (fun h9 => absurd h9 ((fun z => k3 (phi_eq.1.mp ((nI_eq (a := phi (tkK b n p1)) (b := 2) (by omega) (by omega)).mp z))))) (fun _ => ?_) | refine zw_nx rfl (fun _ _ => rfl) ?_
    repeat (refine zw_go rfl rfl (fun _ _ => rfl) ?_)
    rw [tk1.2.2.1]
    refine zw_call rfl (fun _ _ => rfl) (mFails sc I1 A B f 1 (nI (tkP b n p1))) (by decide) ?_
    rintro M1 r1 ⟨rfl, rfl⟩
    exact zw_ret rfl (fun _ _ => rfl) (flt1 1 I1 A (by omega) (by omega) _ (hO0 _ (out_end hf1)) hF1)
end

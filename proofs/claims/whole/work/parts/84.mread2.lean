/-! the reference: opens, times -/
section
variable (sc : sm_S) (I : Nat → Int32) (A : Nat → Nat → Int32) (B : Nat → Nat → Int64) (f : Nat → va_E) (n : Nat) (b : Nat → Nat) (w h p : Nat) (cl tg sh fi fp it : Nat) (cur : List Nat) (fr : tF) (bk : Nat → List Nat) (en : tE)
set_option maxHeartbeats 4000000 in
set_option maxRecDepth 20000 in
theorem mOpens (hX : MS b n (4, cl, tg, sh, fi, fp, cur, it, fr, bk, en) p I A) (hT : TI w h (4, cl, tg, sh, fi, fp, cur, it, fr, bk, en) p) (hTp : TpM I A b n) (hpn : p ≤ n) (hw : w ≤ 48) (hh : h ≤ 48) (hk : tkK b n p = 40 ∨ tkK b n p = 9 ∨ tkK b n p = 10 ∨ tkK b n p = 11) : zC 5 sc 197 [.ref 47] (mm f I A B) (fun M r => MX w h b n 4 cl tg bk en (4, cl, tg, sh, fi, fp, cur, it, fr, bk, en) p f I A B M r) := by
  have hn := hTp.2.1
  have hTT := hT
  obtain ⟨tk, xb, xe, xn, xi⟩ := hX
  obtain ⟨t1, t2, t3, t4, t5, t6, t7, t8, t9, t10, t11, t12, t13, t14, t15, t16, t17, t18⟩ := hT
  have xn := xn (by omega)
  have hfl := flt_len t4
  have hcl : cur.length ≤ 200 := t2.1
  have htot : (flt fr ++ cur).length = (flt fr).length + cur.length := List.length_append
  have flt1 : ∀ (c : Nat) (I2 : Nat → Int32), 0 < c → c ≤ 5 → ∀ e, Out w h b n (4, cl, tg, sh, fi, fp, cur, it, fr, bk, en) p (c, e, []) → MF I A I2 A → MX w h b n 4 cl tg bk en (4, cl, tg, sh, fi, fp, cur, it, fr, bk, en) p f I A B (mm f (upd I2 13 (nI e)) A B) (some (.int (nI c))) := fun c I2 h1 h2 e hO hF => Or.inr ⟨c, e, _, A, rfl, h1, h2, rfl, rfl, hO, mf_tr hF mf_13⟩
  -- at the bracket
  have tail : ∀ (wh mo s p' : Nat) (I2 : Nat → Int32) (sX : tS), ShM s (nI wh) (nI mo) → s ≤ 17 → TkM I2 b n p' → MB bk I2 A → ME en I2 A → MN cur fr I2 A → MF I A I2 A → p ≤ p' → p' ≤ n → TI w h sX p' → (∀ k v q, ful w h sX k v q = opB cl tg s fi fp cur fr bk en k q ∨ k ≠ tkK b n p') → (∀ R, Out w h b n sX p' R → Out w h b n (4, cl, tg, sh, fi, fp, cur, it, fr, bk, en) p R) → zW 4 sc miX11_opens 98 [some (.ref 47), some (.int (nI wh)), some (.int (nI mo))] [] (mm f I2 A B) (fun M r => MX w h b n 4 cl tg bk en (4, cl, tg, sh, fi, fp, cur, it, fr, bk, en) p f I A B M r) := by
    intro wh mo s p' I2 sX hSh hs17 tk2 xb2 xe2 xn2 hf2 hpp hpn' hTX hful hO
    have hful2 : ful w h sX (tkK b n p') (tkN b n p') (tkP b n p') = opB cl tg s fi fp cur fr bk en (tkK b n p') (tkP b n p') := (hful _ _ _).resolve_right (fun z => z rfl)
    have hks := tk_small (b := b) (n := n) (p := p')
    have hphi := phi_lt hks
    have tk2' := tk2
    obtain ⟨q8, q10, q9, q11, q11'⟩ := tk2
    repeat (refine zw_go rfl rfl (fun _ _ => rfl) ?_)
    rw [q10]
    by_cases k40 : tkK b n p' = 40
    · have hkne : tkK b n p' ≠ 0 := by omega
      obtain ⟨hgt, _⟩ := tkX_gt hkne
      have hle := tkX_le (b := b) hpn'
      rw [k40]
      repeat (refine zw_go rfl rfl (fun _ _ => rfl) ?_)
      rw [xn2.2.1]
      by_cases h8 : fr.length = 8
      · rw [h8]
        repeat (refine zw_go rfl rfl (fun _ _ => rfl) ?_)
        rw [q9]
        refine zw_call rfl (fun _ _ => rfl) (mFails sc I2 A B f 3 (nI (tkP b n p'))) (by decide) ?_
        rintro M1 r1 ⟨rfl, rfl⟩
        exact zw_ret rfl (fun _ _ => rfl) (flt1 3 I2 (by omega) (by omega) _ (hO _ (out_end (by rw [hful2]; unfold opB; rw [if_pos k40, if_pos (by omega)]; rfl))) hf2)
      · have hgo : ful w h sX (tkK b n p') (tkN b n p') (tkP b n p') = .inl (4, cl, tg, s, fi, fp, [], 0, (cur, s) :: fr, bk, en) := by
          rw [hful2]
          unfold opB
          rw [if_pos k40, if_neg (by omega)]
        have hti := ti_ful hw hh hn hpn' hTX hgo
        first | refine zw_br rfl (fun _ _ => rfl) (fun h9 => absurd h9 ((fun z => h8 ((nI_eq (a := fr.length) (b := 8) (by omega) (by omega)).mp z)))) (fun _ => ?_) | refine zw_nx rfl (fun _ _ => rfl) ?_
        repeat (refine zw_go rfl rfl (fun _ _ => rfl) ?_)
        rw [xn2.2.1]
        refine zw_ix rfl (fun _ _ => rfl) (show vp_in (nI (fr.length)) _ from vp_in_nI (by omega) (by omega)) ?_
        rw [show (nI (fr.length)).toNatClampNeg = fr.length from nI_clamp (by omega)]
        repeat (refine zw_go rfl rfl (fun _ _ => rfl) ?_)
        rw [xn2.2.1]
        refine zw_ix rfl (fun _ _ => rfl) (show vp_in (nI (fr.length)) _ from vp_in_nI (by omega) (by omega)) ?_
        rw [show (nI (fr.length)).toNatClampNeg = fr.length from nI_clamp (by omega)]
        repeat (refine zw_go rfl rfl (fun _ _ => rfl) ?_)
        show zW 4 sc miX11_opens _ _ _ (mm f (upd I2 16 (I2 16 + 1)) (va_up (va_up A 13 (upd (A 13) fr.length (nI wh))) 14 (upd (A 14) fr.length (nI mo))) B) _
        rw [xn2.2.1, show nI fr.length + Int32.ofInt 1 = nI (fr.length + 1) from nI_1 _, show nI fr.length + 1 = nI (fr.length + 1) from nI_1 _]
        refine zw_ix rfl (fun _ _ => rfl) (show vp_in (nI ((fr.length + 1))) _ from vp_in_nI (by omega) (by omega)) ?_
        rw [show (nI ((fr.length + 1))).toNatClampNeg = (fr.length + 1) from nI_clamp (by omega)]
        repeat (refine zw_go rfl rfl (fun _ _ => rfl) ?_)
        show zW 4 sc miX11_opens _ _ _ (mm f (upd I2 16 (nI (fr.length + 1))) (va_up (va_up (va_up A 13 (upd (A 13) fr.length (nI wh))) 14 (upd (A 14) fr.length (nI mo))) 15 (upd (A 15) (fr.length + 1) (I2 15))) B) _
        have a15 : va_up (va_up (va_up A 13 (upd (A 13) fr.length (nI wh))) 14 (upd (A 14) fr.length (nI mo))) 15 (upd (A 15) (fr.length + 1) (I2 15)) 15 = upd (A 15) (fr.length + 1) (I2 15) := rfl
        have a14 : va_up (va_up (va_up A 13 (upd (A 13) fr.length (nI wh))) 14 (upd (A 14) fr.length (nI mo))) 15 (upd (A 15) (fr.length + 1) (I2 15)) 14 = upd (A 14) fr.length (nI mo) := rfl
        have a13 : va_up (va_up (va_up A 13 (upd (A 13) fr.length (nI wh))) 14 (upd (A 14) fr.length (nI mo))) 15 (upd (A 15) (fr.length + 1) (I2 15)) 13 = upd (A 13) fr.length (nI wh) := rfl
        have aK : ∀ a, a ≠ 13 → a ≠ 14 → a ≠ 15 → va_up (va_up (va_up A 13 (upd (A 13) fr.length (nI wh))) 14 (upd (A 14) fr.length (nI mo))) 15 (upd (A 15) (fr.length + 1) (I2 15)) a = A a := fun a h1 h2 h3 => by
          unfold va_up
          rw [if_neg h3, if_neg h2, if_neg h1]
        generalize va_up (va_up (va_up A 13 (upd (A 13) fr.length (nI wh))) 14 (upd (A 14) fr.length (nI mo))) 15 (upd (A 15) (fr.length + 1) (I2 15)) = A2 at a15 a14 a13 aK ⊢
        have hf3 : MF I A (upd I2 16 (nI (fr.length + 1))) A2 := mf_tr hf2 ⟨fun z hz => by unfold upd; rw [if_neg (by omega)], fun a ha => aK a (by omega) (by omega) (by omega)⟩
        refine zw_call rfl (fun _ _ => rfl) (mNextToken sc (upd I2 16 (nI (fr.length + 1))) A2 B f n b (tkX b n p') (tpM_f hTp hf3) hle q8) (by decide) ?_
        rintro M1 r1 ⟨rfl, I3, rfl, tk3, hI3⟩
        repeat (refine zw_go rfl rfl (fun _ _ => rfl) ?_)
        refine zw_ret rfl (fun _ _ => rfl) ?_
        refine Or.inl ⟨rfl, s, fi, fp, [], 0, (cur, s) :: fr, tkX b n p', I3, A2, rfl, ⟨tk3, mb_cong xb2 (hI3 14 (by omega)) (aK 10 (by decide) (by decide) (by decide)) (aK 9 (by decide) (by decide) (by decide)) (aK 11 (by decide) (by decide) (by decide)), me_cong xe2 (hI3 18 (by omega)) (aK 16 (by decide) (by decide) (by decide)) (aK 17 (by decide) (by decide) (by decide)) (aK 18 (by decide) (by decide) (by decide)), fun _ => ⟨?_, ?_, ⟨?_, ?_, ?_⟩, fun i hi => ?_⟩, fun z => by omega⟩, hti.1, hle, by omega, fun R hR => hO R (out_go hgo hR), mf_tr hf3 ⟨fun z hz => hI3 z (by omega), fun _ _ => rfl⟩⟩
        · rw [hI3 15 (by omega)]
          show I2 15 = _
          rw [xn2.1, flt_cons, List.append_nil]
        · rw [hI3 16 (by omega)]; rfl
        · rw [a15]
          unfold upd
          rw [if_pos rfl, xn2.1]
        · rw [a13, a14]
          unfold upd
          rw [if_pos rfl, if_pos rfl]; exact hSh
        · refine frM_cong xn2.2.2.1 (fun i hi => ?_) (fun i hi => ?_) (fun i hi => ?_)
          · rw [a15]; unfold upd; rw [if_neg (by omega)]
          · rw [a13]; unfold upd; rw [if_neg (by omega)]
          · rw [a14]; unfold upd; rw [if_neg (by omega)]
        · rw [flt_cons, List.append_nil] at hi ⊢
          rw [aK 12 (by decide) (by decide) (by decide)]
          exact xn2.2.2.2 i hi
    · first | refine zw_br rfl (fun _ _ => rfl) (fun h9 => absurd h9 ((fun z => k40 ((phi_is (by omega)).mp ((nI_eq (a := phi (tkK b n p')) (b := 40) (by omega) (by omega)).mp z))))) (fun _ => ?_) | refine zw_nx rfl (fun _ _ => rfl) ?_
      repeat (refine zw_go rfl rfl (fun _ _ => rfl) ?_)
      rw [q9]
      refine zw_call rfl (fun _ _ => rfl) (mFails sc I2 A B f 1 (nI (tkP b n p'))) (by decide) ?_
      rintro M1 r1 ⟨rfl, rfl⟩
      exact zw_ret rfl (fun _ _ => rfl) (flt1 1 I2 (by omega) (by omega) _ (hO _ (out_end (by rw [hful2]; unfold opB; rw [if_neg k40]; rfl))) hf2)
  have tk' := tk
  obtain ⟨q8, q10, q9, q11, q11'⟩ := tk
  have hkne : tkK b n p ≠ 0 := by rcases hk with k | k | k | k <;> rw [k] <;> decide
  obtain ⟨hgt, _⟩ := tkX_gt hkne
  have hle := tkX_le (b := b) hpn
  have step : ∀ (md' s : Nat), (md' = 8 ∨ md' = 7) → ful w h (4, cl, tg, sh, fi, fp, cur, it, fr, bk, en) (tkK b n p) (tkN b n p) (tkP b n p) = .inl (md', cl, tg, s, fi, fp, cur, cur.length, fr, bk, en) → TI w h (md', cl, tg, s, fi, fp, cur, cur.length, fr, bk, en) (tkX b n p) ∧ ∀ R, Out w h b n (md', cl, tg, s, fi, fp, cur, cur.length, fr, bk, en) (tkX b n p) R → Out w h b n (4, cl, tg, sh, fi, fp, cur, it, fr, bk, en) p R := fun md' s _ hgo => ⟨(ti_ful hw hh hn hpn hTT hgo).1, fun R hR => out_go hgo hR⟩
  refine zc_of hkX11_opens rfl ?_
  repeat (refine zw_go rfl rfl (fun _ _ => rfl) ?_)
  rw [q10]
  rcases hk with k | k | k | k
  · have ht := tail 0 0 0 p I (4, cl, tg, sh, fi, fp, cur, it, fr, bk, en) (Or.inr (Or.inr (Or.inr ⟨rfl, rfl⟩))) (by omega) tk' xb xe xn mf_rfl (Nat.le_refl _) hpn hTT (fun k' v q => by
      by_cases h1 : k' = 40
      · subst h1; exact Or.inl rfl
      · exact Or.inr (fun z => h1 (z.trans k))) (fun R hR => hR)
    rw [k]
    repeat (refine zw_go rfl rfl (fun _ _ => rfl) ?_)
    rw [q10, k]
    repeat (refine zw_go rfl rfl (fun _ _ => rfl) ?_)
    rw [q10, k]
    refine zw_nx rfl (fun _ _ => rfl) ?_
    refine zw_nx rfl (fun _ _ => rfl) ?_
    refine zw_nx rfl (fun _ _ => rfl) ?_
    refine zw_nx rfl (fun _ _ => rfl) ?_
    refine zw_nx rfl (fun _ _ => rfl) ?_
    refine zw_nx rfl (fun _ _ => rfl) ?_
    refine zw_nx rfl (fun _ _ => rfl) ?_
    refine zw_nx rfl (fun _ _ => rfl) ?_
    refine zw_nx rfl (fun _ _ => rfl) ?_
    refine zw_nx rfl (fun _ _ => rfl) ?_
    exact ht
  · obtain ⟨hti, hO8⟩ := step 8 16 (Or.inl rfl) (by
      show stp w h (4, cl, tg, sh, fi, fp, cur, it, fr, bk, en) (tkK b n p) (tkN b n p) (tkP b n p) = _
      rw [k]; rfl)
    rw [k]
    repeat (refine zw_go rfl rfl (fun _ _ => rfl) ?_)
    rw [q10, k]
    repeat (refine zw_go rfl rfl (fun _ _ => rfl) ?_)
    refine zw_call rfl (fun _ _ => rfl) (mNextToken sc I A B f n b (tkX b n p) hTp hle q8) (by decide) ?_
    rintro M1 r1 ⟨rfl, I2, rfl, tk2, hI2⟩
    refine zw_nx rfl (fun _ _ => rfl) ?_
    refine zw_nx rfl (fun _ _ => rfl) ?_
    refine zw_nx rfl (fun _ _ => rfl) ?_
    exact tail 9 0 16 (tkX b n p) I2 _ (Or.inl ⟨rfl, rfl⟩) (by omega) tk2 (mb_cong xb (hI2 14 (by omega)) rfl rfl rfl) (me_cong xe (hI2 18 (by omega)) rfl rfl rfl) (mn_cong xn (hI2 15 (by omega)) (hI2 16 (by omega)) rfl rfl rfl rfl) ⟨fun z hz => hI2 z (by omega), fun _ _ => rfl⟩ (by omega) hle hti (fun k v q => Or.inl rfl) hO8
  · obtain ⟨hti, hO8⟩ := step 8 17 (Or.inl rfl) (by
      show stp w h (4, cl, tg, sh, fi, fp, cur, it, fr, bk, en) (tkK b n p) (tkN b n p) (tkP b n p) = _
      rw [k]; rfl)
    rw [k]
    repeat (refine zw_go rfl rfl (fun _ _ => rfl) ?_)
    rw [q10, k]
    repeat (refine zw_go rfl rfl (fun _ _ => rfl) ?_)
    rw [q10, k]
    repeat (refine zw_go rfl rfl (fun _ _ => rfl) ?_)
    refine zw_call rfl (fun _ _ => rfl) (mNextToken sc I A B f n b (tkX b n p) hTp hle q8) (by decide) ?_
    rintro M1 r1 ⟨rfl, I2, rfl, tk2, hI2⟩
    refine zw_nx rfl (fun _ _ => rfl) ?_
    refine zw_nx rfl (fun _ _ => rfl) ?_
    refine zw_nx rfl (fun _ _ => rfl) ?_
    exact tail 10 0 17 (tkX b n p) I2 _ (Or.inr (Or.inl ⟨rfl, rfl⟩)) (by omega) tk2 (mb_cong xb (hI2 14 (by omega)) rfl rfl rfl) (me_cong xe (hI2 18 (by omega)) rfl rfl rfl) (mn_cong xn (hI2 15 (by omega)) (hI2 16 (by omega)) rfl rfl rfl rfl) ⟨fun z hz => hI2 z (by omega), fun _ _ => rfl⟩ (by omega) hle hti (fun k v q => Or.inl rfl) hO8
  · obtain ⟨hti, hO7⟩ := step 7 sh (Or.inr rfl) (by
      show stp w h (4, cl, tg, sh, fi, fp, cur, it, fr, bk, en) (tkK b n p) (tkN b n p) (tkP b n p) = _
      rw [k]; rfl)
    rw [k]
    repeat (refine zw_go rfl rfl (fun _ _ => rfl) ?_)
    rw [q10, k]
    repeat (refine zw_go rfl rfl (fun _ _ => rfl) ?_)
    rw [q10, k]
    repeat (refine zw_go rfl rfl (fun _ _ => rfl) ?_)
    rw [q10, k]
    repeat (refine zw_go rfl rfl (fun _ _ => rfl) ?_)
    refine zw_call rfl (fun _ _ => rfl) (mNextToken sc I A B f n b (tkX b n p) hTp hle q8) (by decide) ?_
    rintro M1 r1 ⟨rfl, I2, rfl, tk2, hI2⟩
    have hf2 : MF I A I2 A := ⟨fun z hz => hI2 z (by omega), fun _ _ => rfl⟩
    have hks2 := tk_small (b := b) (n := n) (p := tkX b n p)
    have hphi2 := phi_lt hks2
    obtain ⟨w8, w10, w9, w11, w11'⟩ := tk2
    have hf7 : ful w h (7, cl, tg, sh, fi, fp, cur, cur.length, fr, bk, en) (tkK b n (tkX b n p)) (tkN b n (tkX b n p)) (tkP b n (tkX b n p)) = if tkK b n (tkX b n p) = 2 then (if 15 < tkN b n (tkX b n p) then bad 2 (tkP b n (tkX b n p)) else .inl (8, cl, tg, tkN b n (tkX b n p), fi, fp, cur, cur.length, fr, bk, en)) else bad 1 (tkP b n (tkX b n p)) := rfl
    repeat (refine zw_go rfl rfl (fun _ _ => rfl) ?_)
    rw [w10]
    by_cases k2 : tkK b n (tkX b n p) = 2
    · obtain ⟨y, y1, y2, y3⟩ := w11 k2
      rw [if_pos k2] at hf7
      have hkne2 : tkK b n (tkX b n p) ≠ 0 := by omega
      obtain ⟨hgt2, _⟩ := tkX_gt hkne2
      have hle2 := tkX_le (b := b) hle
      rw [k2]
      repeat (refine zw_go rfl rfl (fun _ _ => rfl) ?_)
      rw [y1]
      by_cases y15 : 15 < y
      · first | refine zw_br rfl (fun _ _ => rfl) (fun h9 => absurd h9 (nI_ge (a := 15) (b := y) y15 (by omega))) (fun _ => ?_) | refine zw_nx rfl (fun _ _ => rfl) ?_
        repeat (refine zw_go rfl rfl (fun _ _ => rfl) ?_)
        rw [w9]
        refine zw_call rfl (fun _ _ => rfl) (mFails sc I2 A B f 2 (nI (tkP b n (tkX b n p)))) (by decide) ?_
        rintro M1 r1 ⟨rfl, rfl⟩
        exact zw_ret rfl (fun _ _ => rfl) (flt1 2 I2 (by omega) (by omega) _ (hO7 _ (out_end (by rw [hf7, if_pos (by omega)]; rfl))) hf2)
      · have ev : tkN b n (tkX b n p) = y := by omega
        rw [if_neg (by omega), ev] at hf7
        rw [← ev] at hf7
        have hti8 := ti_ful hw hh hn hle hti hf7
        rw [ev] at hf7 hti8
        first | refine zw_br rfl (fun _ _ => rfl) (fun _ => ?_) (fun h9 => absurd (nI_le (a := y) (b := 15) (by omega) (by omega)) h9) | refine zw_nx rfl (fun _ _ => rfl) ?_
        repeat (refine zw_go rfl rfl (fun _ _ => rfl) ?_)
        rw [y1]
        refine zw_call rfl (fun _ _ => rfl) (mNextToken sc I2 A B f n b (tkX b n (tkX b n p)) (tpM_f hTp hf2) hle2 w8) (by decide) ?_
        rintro M1 r1 ⟨rfl, I3, rfl, tk3, hI3⟩
        exact tail 11 y y (tkX b n (tkX b n p)) I3 _ (Or.inr (Or.inr (Or.inl ⟨by omega, rfl, rfl⟩))) (by omega) tk3 (mb_cong xb ((hI3 14 (by omega)).trans (hI2 14 (by omega))) rfl rfl rfl) (me_cong xe ((hI3 18 (by omega)).trans (hI2 18 (by omega))) rfl rfl rfl) (mn_cong xn ((hI3 15 (by omega)).trans (hI2 15 (by omega))) ((hI3 16 (by omega)).trans (hI2 16 (by omega))) rfl rfl rfl rfl) (mf_tr hf2 ⟨fun z hz => hI3 z (by omega), fun _ _ => rfl⟩) (by omega) hle2 hti8.1 (fun k v q => Or.inl rfl) (fun R hR => hO7 R (out_go (by rw [ev]; exact hf7) hR))
    · rw [if_neg k2] at hf7
      first | refine zw_br rfl (fun _ _ => rfl) (fun h9 => absurd h9 ((fun z => k2 (phi_eq.2.mp ((nI_eq (a := phi (tkK b n (tkX b n p))) (b := 1) (by omega) (by omega)).mp z))))) (fun _ => ?_) | refine zw_nx rfl (fun _ _ => rfl) ?_
      repeat (refine zw_go rfl rfl (fun _ _ => rfl) ?_)
      rw [w9]
      refine zw_call rfl (fun _ _ => rfl) (mFails sc I2 A B f 1 (nI (tkP b n (tkX b n p)))) (by decide) ?_
      rintro M1 r1 ⟨rfl, rfl⟩
      exact zw_ret rfl (fun _ _ => rfl) (flt1 1 I2 (by omega) (by omega) _ (hO7 _ (out_end (by rw [hf7]; rfl))) hf2)
set_option maxHeartbeats 4000000 in
set_option maxRecDepth 20000 in
theorem mTimes (hX : MS b n (9, cl, tg, sh, fi, fp, cur, it, fr, bk, en) p I A) (hT : TI w h (9, cl, tg, sh, fi, fp, cur, it, fr, bk, en) p) (hTp : TpM I A b n) (hpn : p ≤ n) (hw : w ≤ 48) (hh : h ≤ 48) (hk : tkK b n p = 42) : zC 5 sc 199 [.ref 47] (mm f I A B) (fun M r => MX w h b n 11 cl tg bk en (9, cl, tg, sh, fi, fp, cur, it, fr, bk, en) p f I A B M r) := by
  have hn := hTp.2.1
  have hTT := hT
  obtain ⟨tk, xb, xe, xn, xi⟩ := hX
  obtain ⟨t1, t2, t3, t4, t5, t6, t7, t8, t9, t10, t11, t12, t13, t14, t15, t16, t17, t18⟩ := hT
  have xn := xn (by omega)
  have xi := xi rfl
  have hfl := flt_len t4
  have hcl : cur.length ≤ 200 := t2.1
  have htot : (flt fr ++ cur).length = (flt fr).length + cur.length := List.length_append
  have hkne : tkK b n p ≠ 0 := by omega
  obtain ⟨hgt, _⟩ := tkX_gt hkne
  have hle := tkX_le (b := b) hpn
  have hg10 : ful w h (9, cl, tg, sh, fi, fp, cur, it, fr, bk, en) (tkK b n p) (tkN b n p) (tkP b n p) = .inl (10, cl, tg, sh, fi, fp, cur, it, fr, bk, en) := by rw [hk]; rfl
  have hti := ti_ful hw hh hn hpn hTT hg10
  have hO10 : ∀ R, Out w h b n (10, cl, tg, sh, fi, fp, cur, it, fr, bk, en) (tkX b n p) R → Out w h b n (9, cl, tg, sh, fi, fp, cur, it, fr, bk, en) p R := fun R hR => out_go hg10 hR
  have flt1 : ∀ (c : Nat) (I2 : Nat → Int32), 0 < c → c ≤ 5 → ∀ e, Out w h b n (9, cl, tg, sh, fi, fp, cur, it, fr, bk, en) p (c, e, []) → MF I A I2 A → MX w h b n 11 cl tg bk en (9, cl, tg, sh, fi, fp, cur, it, fr, bk, en) p f I A B (mm f (upd I2 13 (nI e)) A B) (some (.int (nI c))) := fun c I2 h1 h2 e hO hF => Or.inr ⟨c, e, _, A, rfl, h1, h2, rfl, rfl, hO, mf_tr hF mf_13⟩
  refine zc_of hkX11_times rfl ?_
  repeat (refine zw_go rfl rfl (fun _ _ => rfl) ?_)
  refine zw_call rfl (fun _ _ => rfl) (mNextToken sc I A B f n b (tkX b n p) hTp hle tk.1) (by decide) ?_
  rintro M1 r1 ⟨rfl, I2, rfl, tk2, hI2⟩
  generalize hp1 : tkX b n p = p1 at *
  have hf2 : MF I A I2 A := ⟨fun z hz => hI2 z (by omega), fun _ _ => rfl⟩
  have xn2 : MN cur fr I2 A := mn_cong xn (hI2 15 (by omega)) (hI2 16 (by omega)) rfl rfl rfl rfl
  have xb2 : MB bk I2 A := mb_cong xb (hI2 14 (by omega)) rfl rfl rfl
  have xe2 : ME en I2 A := me_cong xe (hI2 18 (by omega)) rfl rfl rfl
  have o2 : I2 17 = nI ((flt fr).length + it) := by rw [hI2 17 (by omega)]; exact xi
  have hks2 := tk_small (b := b) (n := n) (p := p1)
  have hphi2 := phi_lt hks2
  obtain ⟨w8, w10, w9, w11, w11'⟩ := tk2
  have hf10 : ful w h (10, cl, tg, sh, fi, fp, cur, it, fr, bk, en) (tkK b n p1) (tkN b n p1) (tkP b n p1) = if tkK b n p1 = 2 then (if tkN b n p1 < 1 ∨ 48 < tkN b n p1 then bad 2 (tkP b n p1) else if 200 < cur.length + (cur.length - it) * (tkN b n p1 - 1) then bad 5 (tkP b n p1) else .inl (11, cl, tg, sh, fi, fp, cur ++ cpT (cur.drop it) (tkN b n p1), it, fr, bk, en)) else bad 1 (tkP b n p1) := rfl
  repeat (refine zw_go rfl rfl (fun _ _ => rfl) ?_)
  rw [w10]
  by_cases k2 : tkK b n p1 = 2
  · obtain ⟨y, y1, y2, y3⟩ := w11 k2
    rw [if_pos k2] at hf10
    have hkne2 : tkK b n p1 ≠ 0 := by omega
    obtain ⟨hgt2, _⟩ := tkX_gt hkne2
    have hle2 := tkX_le (b := b) hle
    rw [k2]
    repeat (refine zw_go rfl rfl (fun _ _ => rfl) ?_)
    rw [y1]
    refine zw_call rfl (fun _ _ => rfl) (mIsIn sc (mm f I2 A B) (nI y) 1 (nI 48)) (by decide) ?_
    rintro M1 r1 ⟨rfl, rfl⟩
    rw [bI_dec (p := decide (1 ≤ y ∧ y ≤ 48)) (by rw [decide_eq_true_eq, show (1 : Int32) = nI 1 from rfl, nI_leI (by omega) (by omega), nI_leI (by omega) (by omega)])]
    by_cases yr : 1 ≤ y ∧ y ≤ 48
    · rw [decide_eq_true yr]
      have ev : tkN b n p1 = y := by omega
      rw [if_neg (by omega), ev] at hf10
      have hgr : (cur.length - it) * (y - 1) ≤ 200 * 47 := Nat.mul_le_mul (by omega) (by omega)
      have hcp : (cpT (cur.drop it) y).length = (cur.length - it) * (y - 1) := by
        unfold cpT
        rw [tab_len, List.length_drop]
      repeat (refine zw_go rfl rfl (fun _ _ => rfl) ?_)
      refine zw_call rfl (fun _ _ => rfl) (mMany sc I2 A B f cur fr xn2 t3 (by omega)) (by decide) ?_
      rintro M1 r1 ⟨rfl, rfl⟩
      repeat (refine zw_go rfl rfl (fun _ _ => rfl) ?_)
      rw [xn2.1, o2, y1, nI_sub (show (flt fr).length + it ≤ (flt fr ++ cur).length by omega), show (flt fr ++ cur).length - ((flt fr).length + it) = cur.length - it by omega, show nI y - Int32.ofInt 1 = nI (y - 1) from nI_sub (a := y) (b := 1) (by omega), nI_mul, Nat.mul_comm (y - 1), nI_add]
      by_cases hroom : 200 < cur.length + (cur.length - it) * (y - 1)
      · rw [if_pos hroom] at hf10
        first | refine zw_br rfl (fun _ _ => rfl) (fun h9 => absurd h9 (nI_ge (a := 200) (b := cur.length + (cur.length - it) * (y - 1)) hroom (by omega))) (fun _ => ?_) | refine zw_nx rfl (fun _ _ => rfl) ?_
        repeat (refine zw_go rfl rfl (fun _ _ => rfl) ?_)
        rw [w9]
        refine zw_call rfl (fun _ _ => rfl) (mFails sc I2 A B f 5 (nI (tkP b n p1))) (by decide) ?_
        rintro M1 r1 ⟨rfl, rfl⟩
        exact zw_ret rfl (fun _ _ => rfl) (flt1 5 I2 (by omega) (by omega) _ (hO10 _ (out_end (by rw [ev, hf10]; rfl))) hf2)
      · rw [if_neg hroom] at hf10
        rw [← ev] at hf10
        have hti11 := ti_ful hw hh hn hle hti.1 hf10
        rw [ev] at hf10 hti11
        generalize hgv : (cur.length - it) * (y - 1) = gr at *
        have val : ∀ i, i < gr → apl (A 12) (flt fr ++ cur).length (cpT (cur.drop it) y) i ((flt fr).length + it + i) = nI (gl (cpT (cur.drop it) y) i) := fun i hi => by
          have hpos : 0 < cur.length - it := by
            rcases Nat.eq_zero_or_pos (cur.length - it) with h5 | h5
            · rw [h5, Nat.zero_mul] at hgv; omega
            · exact h5
          have hg : gl (cpT (cur.drop it) y) i = gl (cur.drop it) (i % (cur.length - it)) := by
            unfold cpT
            rw [gl_tab (by rw [List.length_drop, hgv]; exact hi), List.length_drop]
          rcases Nat.lt_or_ge i (cur.length - it) with h5 | h5
          · rw [apl_lo (by omega), hg, Nat.mod_eq_of_lt h5, gl_drop, xn2.2.2.2 _ (by omega), show (flt fr).length + it + i = (flt fr).length + (it + i) by omega, gl_app2]
          · have e : (flt fr).length + it + i = (flt fr ++ cur).length + (i - (cur.length - it)) := by omega
            rw [e, apl_in (by omega), hg]
            unfold cpT
            rw [gl_tab (by rw [List.length_drop, hgv]; omega), List.length_drop, ← Nat.mod_eq_sub_mod h5]
        have loop : ∀ (z i : Nat), i + z = gr → zW 4 sc miX11_times 86 [some (.ref 47), some (.int (nI (cur.length - it))), some (.int (nI i))] [] (mm f (upd I2 15 (nI ((flt fr ++ cur).length + i))) (va_up A 12 (apl (A 12) (flt fr ++ cur).length (cpT (cur.drop it) y) i)) B) (fun M r => MX w h b n 11 cl tg bk en (9, cl, tg, sh, fi, fp, cur, it, fr, bk, en) p f I A B M r) := by
          intro z
          induction z with
          | zero =>
            intro i hi
            have e : i = (cpT (cur.drop it) y).length := by omega
            refine zw_nx rfl (fun _ _ => rfl) ?_
            repeat (refine zw_go rfl rfl (fun _ _ => rfl) ?_)
            rw [show upd I2 15 (nI ((flt fr ++ cur).length + i)) 11 = nI y from y1, show nI y - Int32.ofInt 1 = nI (y - 1) from nI_sub (a := y) (b := 1) (by omega), nI_mul, Nat.mul_comm (y - 1), hgv]
            first | refine zw_br rfl (fun _ _ => rfl) (fun _ => ?_) (fun h9 => absurd (nI_le (a := gr) (b := i) (by omega) (by omega)) h9) | refine zw_nx rfl (fun _ _ => rfl) ?_
            repeat (refine zw_go rfl rfl (fun _ _ => rfl) ?_)
            have hf3 : MF I A (upd I2 15 (nI ((flt fr ++ cur).length + i))) (va_up A 12 (apl (A 12) (flt fr ++ cur).length (cpT (cur.drop it) y) i)) := mf_tr hf2 ⟨fun z hz => by unfold upd; rw [if_neg (by omega)], fun a ha => by unfold va_up; rw [if_neg (by omega)]⟩
            refine zw_call rfl (fun _ _ => rfl) (mNextToken sc _ _ B f n b (tkX b n p1) (tpM_f hTp hf3) hle2 w8) (by decide) ?_
            rintro M1 r1 ⟨rfl, I3, rfl, tk3, hI3⟩
            repeat (refine zw_go rfl rfl (fun _ _ => rfl) ?_)
            refine zw_ret rfl (fun _ _ => rfl) ?_
            exact Or.inl ⟨rfl, sh, fi, fp, cur ++ cpT (cur.drop it) y, it, fr, tkX b n p1, I3, _, rfl, ⟨tk3, mb_cong xb2 (hI3 14 (by omega)) rfl rfl rfl, me_cong xe2 (hI3 18 (by omega)) rfl rfl rfl, fun _ => mn_app xn2 (by rw [hI3 15 (by omega), ← e]; rfl) (hI3 16 (by omega)) (by rw [← e]; rfl) rfl rfl rfl, fun z => by omega⟩, hti11.1, hle2, by omega, fun R hR => hO10 R (out_go (by rw [ev]; exact hf10) hR), mf_tr hf3 ⟨fun z hz => hI3 z (by omega), fun _ _ => rfl⟩⟩
          | succ z ih =>
            intro i hi
            have hne := ih (i + 1) (by omega)
            rw [nI_succ i, ← apl_s, ← Nat.add_assoc] at hne
            refine zw_nx rfl (fun _ _ => rfl) ?_
            repeat (refine zw_go rfl rfl (fun _ _ => rfl) ?_)
            rw [show upd I2 15 (nI ((flt fr ++ cur).length + i)) 11 = nI y from y1, show nI y - Int32.ofInt 1 = nI (y - 1) from nI_sub (a := y) (b := 1) (by omega), nI_mul, Nat.mul_comm (y - 1), hgv]
            first | refine zw_br rfl (fun _ _ => rfl) (fun h9 => absurd h9 (nI_ge (a := i) (b := gr) (by omega) (by omega))) (fun _ => ?_) | refine zw_nx rfl (fun _ _ => rfl) ?_
            repeat (refine zw_go rfl rfl (fun _ _ => rfl) ?_)
            rw [show upd I2 15 (nI ((flt fr ++ cur).length + i)) 17 = nI ((flt fr).length + it) from o2, show nI ((flt fr).length + it) + nI i = nI ((flt fr).length + it + i) from nI_add _ _]
            refine zw_ix rfl (fun _ _ => rfl) (show vp_in (nI (((flt fr).length + it + i))) _ from vp_in_nI (by omega) (by omega)) ?_
            rw [show (nI (((flt fr).length + it + i))).toNatClampNeg = ((flt fr).length + it + i) from nI_clamp (by omega)]
            repeat (refine zw_go rfl rfl (fun _ _ => rfl) ?_)
            rw [show va_up A 12 (apl (A 12) (flt fr ++ cur).length (cpT (cur.drop it) y) i) 12 ((flt fr).length + it + i) = _ from val i (by omega)]
            refine zw_call rfl (fun _ _ => rfl) (mPush sc (upd I2 15 (nI ((flt fr ++ cur).length + i))) (va_up A 12 (apl (A 12) (flt fr ++ cur).length (cpT (cur.drop it) y) i)) B f (nI (gl (cpT (cur.drop it) y) i)) ((flt fr ++ cur).length + i) (by omega) rfl) (by decide) ?_
            rintro M1 r1 ⟨rfl, rfl⟩
            repeat (refine zw_go rfl rfl (fun _ _ => rfl) ?_)
            exact zw_kp hne
        have hlp := loop gr 0 (by omega)
        rw [show mm f (upd I2 15 (nI ((flt fr ++ cur).length + 0))) (va_up A 12 (apl (A 12) (flt fr ++ cur).length (cpT (cur.drop it) y) 0)) B = mm f I2 A B from by
          rw [apl_0, va_up_id, Nat.add_zero, ← xn2.1, show upd I2 15 (I2 15) = I2 from by funext z; unfold upd; split <;> simp_all]] at hlp
        first | refine zw_br rfl (fun _ _ => rfl) (fun _ => ?_) (fun h9 => absurd (nI_le (a := cur.length + gr) (b := 200) (by omega) (by omega)) h9) | refine zw_nx rfl (fun _ _ => rfl) ?_
        repeat (refine zw_go rfl rfl (fun _ _ => rfl) ?_)
        exact zw_kp hlp
    · rw [decide_eq_false yr]
      rw [if_pos (by omega)] at hf10
      repeat (refine zw_go rfl rfl (fun _ _ => rfl) ?_)
      rw [w9]
      refine zw_call rfl (fun _ _ => rfl) (mFails sc I2 A B f 2 (nI (tkP b n p1))) (by decide) ?_
      rintro M1 r1 ⟨rfl, rfl⟩
      exact zw_ret rfl (fun _ _ => rfl) (flt1 2 I2 (by omega) (by omega) _ (hO10 _ (out_end (by rw [hf10]; rfl))) hf2)
  · rw [if_neg k2] at hf10
    first | refine zw_br rfl (fun _ _ => rfl) (fun h9 => absurd h9 ((fun z => k2 (phi_eq.2.mp ((nI_eq (a := phi (tkK b n p1)) (b := 1) (by omega) (by omega)).mp z))))) (fun _ => ?_) | refine zw_nx rfl (fun _ _ => rfl) ?_
    repeat (refine zw_go rfl rfl (fun _ _ => rfl) ?_)
    rw [w9]
    refine zw_call rfl (fun _ _ => rfl) (mFails sc I2 A B f 1 (nI (tkP b n p1))) (by decide) ?_
    rintro M1 r1 ⟨rfl, rfl⟩
    exact zw_ret rfl (fun _ _ => rfl) (flt1 1 I2 (by omega) (by omega) _ (hO10 _ (out_end (by rw [hf10]; rfl))) hf2)
end

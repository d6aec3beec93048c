/-! the reference: rowClause, readText -/
theorem phi_0 {k : Nat} : phi k = 0 ↔ k = 0 := by
  unfold phi
  refine ⟨fun h => ?_, fun h => by subst h; rfl⟩
  split at h
  · omega
  · split at h
    · omega
    · split at h <;> omega
section
variable (sc : sm_S) (I : Nat → Int32) (A : Nat → Nat → Int32) (B : Nat → Nat → Int64) (f : Nat → va_E) (n : Nat) (b : Nat → Nat) (w h p : Nat) (cl tg sh fi fp it : Nat) (cur : List Nat) (fr : tF) (bk : Nat → List Nat) (en : tE)
set_option maxHeartbeats 4000000 in
set_option maxRecDepth 20000 in
theorem mRowClause (c0 : Nat) (hcl : cl = 5 ∨ cl = 6 ∨ cl = 7) (hk : tkK b n p = cl) (i0 : I 0 = nI w) (i1 : I 1 = nI h) (tk : TkM I b n p) (xb : MB bk I A) (xe : ME en I A) (hT : TI w h (0, c0, tg, sh, fi, fp, cur, it, [], bk, en) p) (hTp : TpM I A b n) (hpn : p ≤ n) (hw : w ≤ 48) (hh : h ≤ 48) : zC 7 sc 203 [.ref 47, .int (kdM cl)] (mm f I A B) (fun M r => MC w h b n (0, c0, tg, sh, fi, fp, cur, it, [], bk, en) p f I A B M r) := by
  have hn := hTp.2.1
  have hle := tkX_le (b := b) hpn
  have hf0 : ful w h (0, c0, tg, sh, fi, fp, cur, it, [], bk, en) (tkK b n p) (tkN b n p) (tkP b n p) = if cl = 7 then .inl (3, cl, tg, sh, fi, fp, cur, it, [], bk, en) else .inl (4, cl, tg, sh, fi, fp, [], 0, [], bk, en) := by
    rw [hk]
    rcases hcl with rfl | rfl | rfl <;> rfl
  refine zc_of hkX11_rowClause rfl ?_
  repeat (refine zw_go rfl rfl (fun _ _ => rfl) ?_)
  refine zw_call rfl (fun _ _ => rfl) (mNextToken sc I A B f n b (tkX b n p) hTp hle tk.1) (by decide) ?_
  rintro M1 r1 ⟨rfl, I1, rfl, tk1, hI1⟩
  have hF1 : MF I A I1 A := ⟨fun z hz => hI1 z (by omega), fun _ _ => rfl⟩
  have xb1 : MB bk I1 A := mb_cong xb (hI1 14 (by omega)) rfl rfl rfl
  have xe1 : ME en I1 A := me_cong xe (hI1 18 (by omega)) rfl rfl rfl
  have j0 : I1 0 = nI w := by rw [hI1 0 (by omega)]; exact i0
  have j1 : I1 1 = nI h := by rw [hI1 1 (by omega)]; exact i1
  by_cases c7 : cl = 7
  · rw [if_pos c7] at hf0
    have hti := ti_ful hw hh hn hpn hT hf0
    have hO0 : ∀ R, Out w h b n (3, cl, tg, sh, fi, fp, cur, it, [], bk, en) (tkX b n p) R → Out w h b n (0, c0, tg, sh, fi, fp, cur, it, [], bk, en) p R := fun R hR => out_go hf0 hR
    generalize tkX b n p = p1 at *
    have hks := tk_small (b := b) (n := n) (p := p1)
    have hphi := phi_lt hks
    have flt1 : ∀ (c : Nat) (I2 : Nat → Int32), 0 < c → c ≤ 5 → ∀ e, Out w h b n (3, cl, tg, sh, fi, fp, cur, it, [], bk, en) p1 (c, e, []) → MF I A I2 A → MC w h b n (0, c0, tg, sh, fi, fp, cur, it, [], bk, en) p f I A B (mm f (upd I2 13 (nI e)) A B) (some (.int (nI c))) := fun c I2 h1 h2 e hO hF => Or.inr ⟨c, e, _, A, rfl, h1, h2, rfl, rfl, hO0 _ hO, mf_tr hF mf_13⟩
    have hf1 : ful w h (3, cl, tg, sh, fi, fp, cur, it, [], bk, en) (tkK b n p1) (tkN b n p1) (tkP b n p1) = if tkK b n p1 = 2 then (if 15 < tkN b n p1 then bad 2 (tkP b n p1) else .inl (4, cl, tkN b n p1, sh, fi, fp, [], 0, [], bk, en)) else bad 1 (tkP b n p1) := rfl
    have ek : kdM cl = 1 := by rw [c7]; rfl
    rw [ek]
    repeat (refine zw_go rfl rfl (fun _ _ => rfl) ?_)
    rw [tk1.2.1]
    by_cases k2 : tkK b n p1 = 2
    · rw [if_pos k2] at hf1
      obtain ⟨y, e11, hy, hym⟩ := tk1.2.2.2.1 k2
      rw [k2]
      repeat (refine zw_go rfl rfl (fun _ _ => rfl) ?_)
      rw [e11]
      by_cases h15 : 15 < tkN b n p1
      · rw [if_pos h15] at hf1
        first | refine zw_br rfl (fun _ _ => rfl) (fun h9 => absurd h9 (nI_ge (a := 15) (b := y) (by omega) (by omega))) (fun _ => ?_) | refine zw_nx rfl (fun _ _ => rfl) ?_
        repeat (refine zw_go rfl rfl (fun _ _ => rfl) ?_)
        rw [tk1.2.2.1]
        refine zw_call rfl (fun _ _ => rfl) (mFails sc I1 A B f 2 (nI (tkP b n p1))) (by decide) ?_
        rintro M1 r1 ⟨rfl, rfl⟩
        exact zw_ret rfl (fun _ _ => rfl) (flt1 2 I1 (by omega) (by omega) _ (out_end hf1) hF1)
      · rw [if_neg h15] at hf1
        have hti1 := ti_ful hw hh hn hle hti.1 hf1
        have hle1 := tkX_le (b := b) hle
        have ey : y = tkN b n p1 := by omega
        first | refine zw_br rfl (fun _ _ => rfl) (fun _ => ?_) (fun h9 => absurd (nI_le (a := y) (b := 15) (by omega) (by omega)) h9) | refine zw_nx rfl (fun _ _ => rfl) ?_
        repeat (refine zw_go rfl rfl (fun _ _ => rfl) ?_)
        rw [e11]
        refine zw_call rfl (fun _ _ => rfl) (mNextToken sc I1 A B f n b (tkX b n p1) (tpM_f hTp hF1) hle1 tk1.1) (by decide) ?_
        rintro M1 r1 ⟨rfl, I2, rfl, tk2, hI2⟩
        have hF2 : MF I A I2 A := mf_tr hF1 ⟨fun z hz => hI2 z (by omega), fun _ _ => rfl⟩
        have tl := mRc_tail sc I2 A B f n b w h (tkX b n p1) cl (tkN b n p1) sh fi fp bk en (0, c0, tg, sh, fi, fp, cur, it, [], bk, en) p (by omega) I A hF2 hcl (nI y) (fun _ => by rw [ey]) (by rw [hI2 0 (by omega)]; exact j0) (by rw [hI2 1 (by omega)]; exact j1) tk2 (mb_cong xb1 (hI2 14 (by omega)) rfl rfl rfl) (me_cong xe1 (hI2 18 (by omega)) rfl rfl rfl) hti1.1 (tpM_f hTp hF2) hle1 hw hh (fun R hR => hO0 R (out_go hf1 hR))
        rw [ek] at tl
        exact tl
    · rw [if_neg k2] at hf1
      first | refine zw_br rfl (fun _ _ => rfl) (fun h9 => absurd h9 ((fun z => k2 (phi_eq.2.mp ((nI_eq (a := phi (tkK b n p1)) (b := 1) (by omega) (by omega)).mp z))))) (fun _ => ?_) | refine zw_nx rfl (fun _ _ => rfl) ?_
      repeat (refine zw_go rfl rfl (fun _ _ => rfl) ?_)
      rw [tk1.2.2.1]
      refine zw_call rfl (fun _ _ => rfl) (mFails sc I1 A B f 1 (nI (tkP b n p1))) (by decide) ?_
      rintro M1 r1 ⟨rfl, rfl⟩
      exact zw_ret rfl (fun _ _ => rfl) (flt1 1 I1 (by omega) (by omega) _ (out_end hf1) hF1)
  · rw [if_neg c7] at hf0
    have hti := ti_ful hw hh hn hpn hT hf0
    have tl := mRc_tail sc I1 A B f n b w h (tkX b n p) cl tg sh fi fp bk en (0, c0, tg, sh, fi, fp, cur, it, [], bk, en) p (by omega) I A hF1 hcl 0 (fun z => absurd z c7) j0 j1 tk1 xb1 xe1 hti.1 (tpM_f hTp hF1) hle hw hh (fun R hR => out_go hf0 hR)
    rcases hcl with rfl | rfl | rfl
    · show zW 6 sc miX11_rowClause _ [_, some (.int 0), _, _, _, _] _ _ _
      refine zw_nx rfl (fun _ _ => rfl) ?_
      refine zw_nx rfl (fun _ _ => rfl) ?_
      refine zw_nx rfl (fun _ _ => rfl) ?_
      exact tl
    · show zW 6 sc miX11_rowClause _ [_, some (.int 2), _, _, _, _] _ _ _
      refine zw_nx rfl (fun _ _ => rfl) ?_
      refine zw_nx rfl (fun _ _ => rfl) ?_
      refine zw_nx rfl (fun _ _ => rfl) ?_
      exact tl
    · exact absurd rfl c7
/-- what readText leaves -/
def MT (R : tR) (f : Nat → va_E) (I : Nat → Int32) (A : Nat → Nat → Int32) (B : Nat → Nat → Int64) (M : sm_M) (r : Option Value) : Prop := r = some (.int (nI R.1)) ∧ ∃ I' A', M = mm f I' A' B ∧ R.1 ≤ 5 ∧ (R.1 ≠ 0 → I' 13 = nI R.2.1) ∧ (R.1 = 0 → ME R.2.2 I' A') ∧ MF I A I' A'
set_option maxHeartbeats 4000000 in
set_option maxRecDepth 20000 in
theorem mRt_l (i0 : I 0 = nI w) (i1 : I 1 = nI h) (hTp : TpM I A b n) (hw : w ≤ 48) (hh : h ≤ 48) : ∀ (z : Nat) (p cl tg sh fi fp : Nat) (cur : List Nat) (it : Nat) (bk : Nat → List Nat) (en : tE) (I' : Nat → Int32) (A' : Nat → Nat → Int32), n - p ≤ z → p ≤ n → TkM I' b n p → MB bk I' A' → ME en I' A' → TI w h (0, cl, tg, sh, fi, fp, cur, it, [], bk, en) p → (∀ R, Out w h b n (0, cl, tg, sh, fi, fp, cur, it, [], bk, en) p R → Out w h b n tS0 0 R) → MF I A I' A' → zW 7 sc miX11_readText 40 [some (.ref 47), none] [] (mm f I' A' B) (fun M r => ∃ R, Out w h b n tS0 0 R ∧ MT R f I A B M r) := by
  have hn := hTp.2.1
  intro z
  induction z using Nat.strongRecOn with
  | _ z ihz =>
    intro p cl tg sh fi fp cur it bk en I' A' hz hpn tk xb xe hT hO hF
    have hTp' := tpM_f hTp hF
    have hks := tk_small (b := b) (n := n) (p := p)
    have hphi := phi_lt hks
    have j0 : I' 0 = nI w := by rw [hF.1 0 (by omega)]; exact i0
    have j1 : I' 1 = nI h := by rw [hF.1 1 (by omega)]; exact i1
    have goes : tkK b n p ≠ 0 → ∀ (M : sm_M) (r : Option Value), MC w h b n (0, cl, tg, sh, fi, fp, cur, it, [], bk, en) p f I' A' B M r → ∃ v, r = some (.int v) ∧ zW 7 sc miX11_readText 121 [some (.ref 47), none] [.int v] M (fun M r => ∃ R, Out w h b n tS0 0 R ∧ MT R f I A B M r) := by
      intro hk0 M r hM
      rcases hM with ⟨rfl, cl2, tg2, sh2, fi2, fp2, cur2, it2, bk2, en2, p2, I2, A2, rfl, tk2, xb2, xe2, hT2, hp2n, hp2, hO2, hF2⟩ | ⟨c, e, I2, A2, rfl, hc, hc5, rfl, he, hO2, hF2⟩
      · refine ⟨0, rfl, ?_⟩
        have hle2 := tkX_le (b := b) hp2n
        have hgt := tkX_gt hk0
        repeat (refine zw_go rfl rfl (fun _ _ => rfl) ?_)
        refine zw_call rfl (fun _ _ => rfl) (mNextToken sc I2 A2 B f n b (tkX b n p2) (tpM_f hTp' hF2) hle2 tk2.1) (by decide) ?_
        rintro M1 r1 ⟨rfl, I3, rfl, tk3, hI3⟩
        have hne := ihz (n - tkX b n p2) (by omega) (tkX b n p2) cl2 tg2 sh2 fi2 fp2 cur2 it2 bk2 en2 I3 A2 (Nat.le_refl _) hle2 tk3 (mb_cong xb2 (hI3 14 (by omega)) rfl rfl rfl) (me_cong xe2 (hI3 18 (by omega)) rfl rfl rfl) hT2 (fun R hR => hO R (hO2 R hR)) (mf_tr hF (mf_tr hF2 ⟨fun z hz => hI3 z (by omega), fun _ _ => rfl⟩))
        repeat (refine zw_go rfl rfl (fun _ _ => rfl) ?_)
        exact zw_kp hne
      · refine ⟨nI c, rfl, ?_⟩
        repeat (refine zw_go rfl rfl (fun _ _ => rfl) ?_)
        first | refine zw_br rfl (fun _ _ => rfl) (fun h9 => absurd h9 (nI_ne0 hc (by omega))) (fun _ => ?_) | refine zw_nx rfl (fun _ _ => rfl) ?_
        repeat (refine zw_go rfl rfl (fun _ _ => rfl) ?_)
        exact zw_ret rfl (fun _ _ => rfl) (⟨(c, e, []), hO _ hO2, rfl, I2, A2, rfl, hc5, fun _ => he, fun z => by have : c = 0 := z; omega, mf_tr hF hF2⟩)
    refine zw_nx rfl (fun _ _ => rfl) ?_
    repeat (refine zw_go rfl rfl (fun _ _ => rfl) ?_)
    rw [tk.2.1]
    by_cases k0 : tkK b n p = 0
    · have hf : ful w h (0, cl, tg, sh, fi, fp, cur, it, [], bk, en) (tkK b n p) (tkN b n p) (tkP b n p) = .inr (0, 0, en) := by rw [k0]; rfl
      rw [k0]
      repeat (refine zw_go rfl rfl (fun _ _ => rfl) ?_)
      exact zw_ret rfl (fun _ _ => rfl) (⟨(0, 0, en), hO _ (out_end hf), rfl, I', A', rfl, Nat.zero_le _, fun z => absurd rfl z, fun _ => xe, hF⟩)
    · first | refine zw_br rfl (fun _ _ => rfl) (fun h9 => absurd h9 ((fun z => k0 (phi_0.mp ((nI_eq (a := phi (tkK b n p)) (b := 0) (by omega) (by omega)).mp z))))) (fun _ => ?_) | refine zw_nx rfl (fun _ _ => rfl) ?_
      have goes := goes k0
      repeat (refine zw_go rfl rfl (fun _ _ => rfl) ?_)
      rw [tk.2.1]
      by_cases k4 : tkK b n p = 4
      · have hb := mBlock sc I' A' B f n b w h p cl tg sh fi fp it cur bk en tk xb xe hT hTp' hpn hw hh k4
        rw [k4]
        repeat (refine zw_go rfl rfl (fun _ _ => rfl) ?_)
        refine zw_call rfl (fun _ _ => rfl) (hb) (by decide) ?_
        intro M1 r1 hM
        obtain ⟨v, rfl, hgo⟩ := goes M1 r1 hM
        refine zw_nx rfl (fun _ _ => rfl) ?_
        exact hgo
      · first | refine zw_br rfl (fun _ _ => rfl) (fun h9 => absurd h9 ((fun z => k4 ((phi_is (by omega)).mp ((nI_eq (a := phi (tkK b n p)) (b := 4) (by omega) (by omega)).mp z))))) (fun _ => ?_) | refine zw_nx rfl (fun _ _ => rfl) ?_
        repeat (refine zw_go rfl rfl (fun _ _ => rfl) ?_)
        rw [tk.2.1]
        by_cases k5 : tkK b n p = 5
        · have hb := mRowClause sc I' A' B f n b w h p 5 tg sh fi fp it cur bk en cl (by omega) k5 j0 j1 tk xb xe hT hTp' hpn hw hh
          rw [k5]
          repeat (refine zw_go rfl rfl (fun _ _ => rfl) ?_)
          refine zw_call rfl (fun _ _ => rfl) (hb) (by decide) ?_
          intro M1 r1 hM
          obtain ⟨v, rfl, hgo⟩ := goes M1 r1 hM
          refine zw_nx rfl (fun _ _ => rfl) ?_
          exact hgo
        · first | refine zw_br rfl (fun _ _ => rfl) (fun h9 => absurd h9 ((fun z => k5 ((phi_is (by omega)).mp ((nI_eq (a := phi (tkK b n p)) (b := 5) (by omega) (by omega)).mp z))))) (fun _ => ?_) | refine zw_nx rfl (fun _ _ => rfl) ?_
          repeat (refine zw_go rfl rfl (fun _ _ => rfl) ?_)
          rw [tk.2.1]
          by_cases k6 : tkK b n p = 6
          · have hb := mRowClause sc I' A' B f n b w h p 6 tg sh fi fp it cur bk en cl (by omega) k6 j0 j1 tk xb xe hT hTp' hpn hw hh
            rw [k6]
            repeat (refine zw_go rfl rfl (fun _ _ => rfl) ?_)
            refine zw_call rfl (fun _ _ => rfl) (hb) (by decide) ?_
            intro M1 r1 hM
            obtain ⟨v, rfl, hgo⟩ := goes M1 r1 hM
            refine zw_nx rfl (fun _ _ => rfl) ?_
            exact hgo
          · first | refine zw_br rfl (fun _ _ => rfl) (fun h9 => absurd h9 ((fun z => k6 ((phi_is (by omega)).mp ((nI_eq (a := phi (tkK b n p)) (b := 6) (by omega) (by omega)).mp z))))) (fun _ => ?_) | refine zw_nx rfl (fun _ _ => rfl) ?_
            repeat (refine zw_go rfl rfl (fun _ _ => rfl) ?_)
            rw [tk.2.1]
            by_cases k7 : tkK b n p = 7
            · have hb := mRowClause sc I' A' B f n b w h p 7 tg sh fi fp it cur bk en cl (by omega) k7 j0 j1 tk xb xe hT hTp' hpn hw hh
              rw [k7]
              repeat (refine zw_go rfl rfl (fun _ _ => rfl) ?_)
              refine zw_call rfl (fun _ _ => rfl) (hb) (by decide) ?_
              intro M1 r1 hM
              obtain ⟨v, rfl, hgo⟩ := goes M1 r1 hM
              refine zw_nx rfl (fun _ _ => rfl) ?_
              exact hgo
            · first | refine zw_br rfl (fun _ _ => rfl) (fun h9 => absurd h9 ((fun z => k7 ((phi_is (by omega)).mp ((nI_eq (a := phi (tkK b n p)) (b := 7) (by omega) (by omega)).mp z))))) (fun _ => ?_) | refine zw_nx rfl (fun _ _ => rfl) ?_
              repeat (refine zw_go rfl rfl (fun _ _ => rfl) ?_)
              rw [tk.2.2.1]
              refine zw_call rfl (fun _ _ => rfl) (mFails sc I' A' B f 1 (nI (tkP b n p))) (by decide) ?_
              rintro M1 r1 ⟨rfl, rfl⟩
              have hf : ful w h (0, cl, tg, sh, fi, fp, cur, it, [], bk, en) (tkK b n p) (tkN b n p) (tkP b n p) = bad 1 (tkP b n p) := by
                show stp w h (0, cl, tg, sh, fi, fp, cur, it, [], bk, en) (tkK b n p) (tkN b n p) (tkP b n p) = _
                simp only [stp]
                rw [if_neg k0, if_neg k4, if_neg k7, if_neg (by omega)]
              obtain ⟨v, hv, hgo⟩ := goes _ (some (.int (nI 1))) (Or.inr ⟨1, tkP b n p, upd I' 13 (nI (tkP b n p)), A', rfl, by omega, by omega, rfl, rfl, out_end hf, mf_13⟩)
              cases hv
              exact hgo
set_option maxHeartbeats 4000000 in
set_option maxRecDepth 20000 in
theorem mReadText (i0 : I 0 = nI w) (i1 : I 1 = nI h) (hTp : TpM I A b n) (hw : w ≤ 48) (hh : h ≤ 48) : zC 8 sc 204 [.ref 47] (mm f I A B) (fun M r => ∃ R, Out w h b n tS0 0 R ∧ MT R f I A B M r) := by
  have loop : ∀ (z i : Nat) (g : Nat → Int32), i + z = 8 → (∀ l, l < i → g l = -1) → zW 7 sc miX11_readText 12 [some (.ref 47), some (.int (nI i))] [] (mm f (upd (upd I 18 0) 14 0) (va_up A 10 g) B) (fun M r => ∃ R, Out w h b n tS0 0 R ∧ MT R f I A B M r) := by
    intro z
    induction z with
    | zero =>
      intro i g hi hg
      have e : i = 8 := by omega
      subst e
      refine zw_nx rfl (fun _ _ => rfl) ?_
      repeat (refine zw_go rfl rfl (fun _ _ => rfl) ?_)
      repeat (refine zw_go rfl rfl (fun _ _ => rfl) ?_)
      have hF1 : MF I A (upd (upd (upd I 18 0) 14 0) 8 0) (va_up A 10 g) := ⟨fun z hz => by unfold upd; rw [if_neg (by omega), if_neg (by omega), if_neg (by omega)], fun a ha => by unfold va_up; rw [if_neg (by omega)]⟩
      refine zw_call rfl (fun _ _ => rfl) (mNextToken sc (upd (upd (upd I 18 0) 14 0) 8 0) (va_up A 10 g) B f n b 0 (tpM_f hTp hF1) (Nat.zero_le _) rfl) (by decide) ?_
      rintro M1 r1 ⟨rfl, I1, rfl, tk1, hI1⟩
      have st := mRt_l sc I A B f n b w h i0 i1 hTp hw hh n 0 0 0 0 0 0 [] 0 (fun _ => []) [] I1 (va_up A 10 g) (by omega) (Nat.zero_le _) tk1 ⟨by rw [hI1 14 (by omega)]; rfl, fun l hl => Or.inl ⟨rfl, hg l hl⟩⟩ ⟨by rw [hI1 18 (by omega)]; rfl, fun i hi => absurd hi (Nat.not_lt_zero _)⟩ ti_0 (fun R hR => hR) (mf_tr hF1 ⟨fun z hz => hI1 z (by omega), fun _ _ => rfl⟩)
      exact zw_kp st
    | succ z ih =>
      intro i g hi hg
      have hnx := ih (i + 1) (upd g i (-1)) (by omega) (fun l hl => by
        unfold upd
        by_cases h1 : l = i
        · rw [if_pos h1]
        · rw [if_neg h1]; exact hg l (by omega))
      refine zw_nx rfl (fun _ _ => rfl) ?_
      repeat (refine zw_go rfl rfl (fun _ _ => rfl) ?_)
      first | refine zw_br rfl (fun _ _ => rfl) (fun h9 => absurd h9 (nI_ge (a := i) (b := 8) (by omega) (by omega))) (fun _ => ?_) | refine zw_nx rfl (fun _ _ => rfl) ?_
      repeat (refine zw_go rfl rfl (fun _ _ => rfl) ?_)
      refine zw_ix rfl (fun _ _ => rfl) (show vp_in (nI (i)) _ from vp_in_nI (by omega) (by omega)) ?_
      rw [show (nI (i)).toNatClampNeg = i from nI_clamp (by omega)]
      repeat (refine zw_go rfl rfl (fun _ _ => rfl) ?_)
      rw [nI_succ i, ← va_up_up A 10 g] at hnx
      exact zw_kp hnx
  refine zc_of hkX11_readText rfl ?_
  repeat (refine zw_go rfl rfl (fun _ _ => rfl) ?_)
  have st := loop 8 0 (A 10) (by omega) (fun l hl => by omega)
  rw [va_up_id] at st
  exact zw_kp st
end

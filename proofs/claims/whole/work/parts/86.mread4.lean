/-! the reference: readRow -/
/-- a ROW, or a FAULT -/
def MW2 (w h : Nat) (b : Nat → Nat) (n cl tg : Nat) (bk : Nat → List Nat) (en : tE) (s : tS) (p : Nat) (f : Nat → va_E) (I : Nat → Int32) (A : Nat → Nat → Int32) (B : Nat → Nat → Int64) (M : sm_M) (r : Option Value) : Prop := (r = some (.int 0) ∧ ∃ sh fi fp cur it p' I' A', M = mm f I' A' B ∧ MS b n (11, cl, tg, sh, fi, fp, cur, it, [], bk, en) p' I' A' ∧ TI w h (11, cl, tg, sh, fi, fp, cur, it, [], bk, en) p' ∧ p' ≤ n ∧ p < p' ∧ tkK b n p' ≠ 44 ∧ (∀ R, Out w h b n (11, cl, tg, sh, fi, fp, cur, it, [], bk, en) p' R → Out w h b n s p R) ∧ MF I A I' A') ∨ (∃ c e I' A', r = some (.int (nI c)) ∧ 0 < c ∧ c ≤ 5 ∧ M = mm f I' A' B ∧ I' 13 = nI e ∧ Out w h b n s p (c, e, []) ∧ MF I A I' A')
section
variable (sc : sm_S) (I : Nat → Int32) (A : Nat → Nat → Int32) (B : Nat → Nat → Int64) (f : Nat → va_E) (n : Nat) (b : Nat → Nat) (w h p : Nat) (cl tg sh fi fp it : Nat) (cur : List Nat) (fr : tF) (bk : Nat → List Nat) (en : tE)
set_option maxHeartbeats 4000000 in
set_option maxRecDepth 20000 in
theorem mRow_l (hTp : TpM I A b n) (hw : w ≤ 48) (hh : h ≤ 48) (s0 : tS) : ∀ (z : Nat) (md sh fi fp : Nat) (cur : List Nat) (it : Nat) (fr : tF) (p' : Nat) (I' : Nat → Int32) (A' : Nat → Nat → Int32) (x1 x2 : Int32), n - p' ≤ z → p' ≤ n → (md = 4 ∧ x1 = 0 ∧ p ≤ p') ∨ (md = 9 ∧ x1 = 1 ∧ x2 = 0 ∧ p < p') ∨ (md = 11 ∧ x1 = 1 ∧ x2 = 1 ∧ p < p') → MS b n (md, cl, tg, sh, fi, fp, cur, it, fr, bk, en) p' I' A' → TI w h (md, cl, tg, sh, fi, fp, cur, it, fr, bk, en) p' → (∀ R, Out w h b n (md, cl, tg, sh, fi, fp, cur, it, fr, bk, en) p' R → Out w h b n s0 p R) → MF I A I' A' → zW 5 sc miX11_readRow 23 [some (.ref 47), some (.int x1), some (.int x2), some (.int 1), none] [] (mm f I' A' B) (fun M r => MW2 w h b n cl tg bk en s0 p f I A B M r) := by
  have hn := hTp.2.1
  intro z
  induction z using Nat.strongRecOn with
  | _ z ihz =>
    intro md sh fi fp cur it fr p' I' A' x1 x2 hz hpn hmd hX hT hO hF
    have hTp' := tpM_f hTp hF
    have hks := tk_small (b := b) (n := n) (p := p')
    have hphi := phi_lt hks
    -- what came back of a method
    have goes : ∀ (q : Nat) (x1' x2' : Int32) (M : sm_M) (r : Option Value) (s1 : tS), (∀ R, Out w h b n s1 p' R → Out w h b n s0 p R) → ((q = 4 ∧ x1' = 0) ∨ (q = 9 ∧ x1' = 1 ∧ x2' = 0) ∨ (q = 11 ∧ x1' = 1 ∧ x2' = 1)) → p ≤ p' → MX w h b n q cl tg bk en s1 p' f I' A' B M r → ∃ v, r = some (.int v) ∧ zW 5 sc miX11_readRow 154 [some (.ref 47), some (.int x1'), some (.int x2'), some (.int 1), some (.int v)] [] M (fun M r => MW2 w h b n cl tg bk en s0 p f I A B M r) := by
      intro q x1' x2' M r s1 hO1 hq hpp hM
      rcases hM with ⟨rfl, sh2, fi2, fp2, cur2, it2, fr2, p2, I2, A2, rfl, hX2, hT2, hp2n, hp2, hO2, hF2⟩ | ⟨c, e, I2, A2, rfl, hc, hc5, rfl, he, hO2, hF2⟩
      · refine ⟨0, rfl, ?_⟩
        have hne := ihz (n - p2) (by omega) q sh2 fi2 fp2 cur2 it2 fr2 p2 I2 A2 x1' x2' (Nat.le_refl _) hp2n (hq.elim (fun h1 => Or.inl ⟨h1.1, h1.2, by omega⟩) (fun hq => hq.elim (fun h1 => Or.inr (Or.inl ⟨h1.1, h1.2.1, h1.2.2, by omega⟩)) (fun h1 => Or.inr (Or.inr ⟨h1.1, h1.2.1, h1.2.2, by omega⟩)))) hX2 hT2 (fun R hR => hO1 R (hO2 R hR)) (mf_tr hF hF2)
        repeat (refine zw_go rfl rfl (fun _ _ => rfl) ?_)
        exact zw_kp hne
      · refine ⟨nI c, rfl, ?_⟩
        repeat (refine zw_go rfl rfl (fun _ _ => rfl) ?_)
        first | refine zw_br rfl (fun _ _ => rfl) (fun h9 => absurd h9 (nI_ne0 hc (by omega))) (fun _ => ?_) | refine zw_nx rfl (fun _ _ => rfl) ?_
        repeat (refine zw_go rfl rfl (fun _ _ => rfl) ?_)
        exact zw_ret rfl (fun _ _ => rfl) (Or.inr ⟨c, e, I2, A2, rfl, hc, hc5, rfl, he, hO1 _ hO2, mf_tr hF hF2⟩)
    -- behind an ITEM
    have item : ∀ (x2' : Int32), MS b n (11, cl, tg, sh, fi, fp, cur, it, fr, bk, en) p' I' A' → TI w h (11, cl, tg, sh, fi, fp, cur, it, fr, bk, en) p' → p < p' → (∀ R, Out w h b n (11, cl, tg, sh, fi, fp, cur, it, fr, bk, en) p' R → Out w h b n s0 p R) → zW 5 sc miX11_readRow 107 [some (.ref 47), some (.int 1), some (.int x2'), some (.int 1), some (.int 0)] [] (mm f I' A' B) (fun M r => MW2 w h b n cl tg bk en s0 p f I A B M r) := by
      intro x2' hX11 hT11 hpp hO11
      obtain ⟨tk, xb, xe, xn, xi⟩ := hX11
      have xn := xn (by omega)
      have t3 : fr.length ≤ 8 := hT11.2.2.1
      have hf11 : ful w h (11, cl, tg, sh, fi, fp, cur, it, fr, bk, en) (tkK b n p') (tkN b n p') (tkP b n p') = if tkK b n p' = 44 then .inl (4, cl, tg, sh, fi, fp, cur, it, fr, bk, en) else if tkK b n p' = 41 ∧ fr ≠ [] then clR cl tg sh fi fp cur bk en (tkP b n p') fr else if tkK b n p' = 59 ∧ fr = [] then .inl (0, cl, tg, sh, fi, fp, cur, it, fr, clB cl tg cur bk, clE w h cl tg cur en) else bad 1 (tkP b n p') := rfl
      repeat (refine zw_go rfl rfl (fun _ _ => rfl) ?_)
      rw [tk.2.1]
      by_cases k44 : tkK b n p' = 44
      · rw [if_pos k44] at hf11
        have hti := ti_ful hw hh hn hpn hT11 hf11
        have hle := tkX_le (b := b) hpn
        rw [k44]
        repeat (refine zw_go rfl rfl (fun _ _ => rfl) ?_)
        refine zw_call rfl (fun _ _ => rfl) (mNextToken sc I' A' B f n b (tkX b n p') hTp' hle tk.1) (by decide) ?_
        rintro M1 r1 ⟨rfl, I2, rfl, tk2, hI2⟩
        have hne := ihz (n - tkX b n p') (by omega) 4 sh fi fp cur it fr (tkX b n p') I2 A' 0 x2' (Nat.le_refl _) hle (Or.inl ⟨rfl, rfl, by omega⟩) ⟨tk2, mb_cong xb (hI2 14 (by omega)) rfl rfl rfl, me_cong xe (hI2 18 (by omega)) rfl rfl rfl, fun _ => mn_cong xn (hI2 15 (by omega)) (hI2 16 (by omega)) rfl rfl rfl rfl, fun z => by omega⟩ hti.1 (fun R hR => hO11 R (out_go hf11 hR)) (mf_tr hF ⟨fun z hz => hI2 z (by omega), fun _ _ => rfl⟩)
        repeat (refine zw_go rfl rfl (fun _ _ => rfl) ?_)
        exact zw_kp hne
      · rw [if_neg k44] at hf11
        first | refine zw_br rfl (fun _ _ => rfl) (fun h9 => absurd h9 ((fun z => k44 ((phi_is (by omega)).mp ((nI_eq (a := phi (tkK b n p')) (b := 44) (by omega) (by omega)).mp z))))) (fun _ => ?_) | refine zw_nx rfl (fun _ _ => rfl) ?_
        -- no more
        have stop : ¬ (tkK b n p' = 41 ∧ fr ≠ []) → zW 5 sc miX11_readRow 152 [some (.ref 47), some (.int 1), some (.int x2'), some (.int 1), some (.int 0)] [] (mm f I' A' B) (fun M r => MW2 w h b n cl tg bk en s0 p f I A B M r) := fun hno => by
          rw [if_neg hno] at hf11
          repeat (refine zw_go rfl rfl (fun _ _ => rfl) ?_)
          refine zw_nx rfl (fun _ _ => rfl) ?_
          repeat (refine zw_go rfl rfl (fun _ _ => rfl) ?_)
          rw [xn.2.1]
          cases fr with
          | nil =>
            repeat (refine zw_go rfl rfl (fun _ _ => rfl) ?_)
            exact zw_ret rfl (fun _ _ => rfl) (Or.inl ⟨rfl, sh, fi, fp, cur, it, p', I', A', rfl, ⟨tk, xb, xe, fun _ => xn, xi⟩, hT11, hpn, hpp, k44, hO11, hF⟩)
          | cons q t =>
            rw [if_neg (fun z => by cases z.2)] at hf11
            rw [List.length_cons] at t3
            first | refine zw_br rfl (fun _ _ => rfl) (fun h9 => absurd h9 (nI_nle (n := (q :: t).length) (by rw [List.length_cons]; omega) (by rw [List.length_cons]; omega))) (fun _ => ?_) | refine zw_nx rfl (fun _ _ => rfl) ?_
            repeat (refine zw_go rfl rfl (fun _ _ => rfl) ?_)
            rw [tk.2.2.1]
            refine zw_call rfl (fun _ _ => rfl) (mFails sc I' A' B f 1 (nI (tkP b n p'))) (by decide) ?_
            rintro M1 r1 ⟨rfl, rfl⟩
            repeat (refine zw_go rfl rfl (fun _ _ => rfl) ?_)
            exact zw_ret rfl (fun _ _ => rfl) (Or.inr ⟨1, tkP b n p', _, A', rfl, by omega, by omega, rfl, rfl, hO11 _ (out_end hf11), mf_tr hF mf_13⟩)
        repeat (refine zw_go rfl rfl (fun _ _ => rfl) ?_)
        rw [tk.2.1]
        by_cases k41 : tkK b n p' = 41
        · cases fr with
          | nil =>
            have hs := stop (fun z => z.2 rfl)
            rw [k41]
            repeat (refine zw_go rfl rfl (fun _ _ => rfl) ?_)
            rw [xn.2.1]
            refine zw_nx rfl (fun _ _ => rfl) ?_
            exact hs
          | cons q t =>
            obtain ⟨o, s⟩ := q
            rw [List.length_cons] at t3
            have hcl := mCloses sc I' A' B f n b w h p' cl tg sh fi fp it cur bk en o s t ⟨tk, xb, xe, fun _ => xn, xi⟩ hT11 hTp' hpn hw hh k41
            rw [k41]
            repeat (refine zw_go rfl rfl (fun _ _ => rfl) ?_)
            rw [xn.2.1]
            first | refine zw_br rfl (fun _ _ => rfl) (fun h9 => absurd h9 (nI_nle (n := ((o, s) :: t).length) (by rw [List.length_cons]; omega) (by rw [List.length_cons]; omega))) (fun _ => ?_) | refine zw_nx rfl (fun _ _ => rfl) ?_
            repeat (refine zw_go rfl rfl (fun _ _ => rfl) ?_)
            refine zw_call rfl (fun _ _ => rfl) (hcl) (by decide) ?_
            intro M1 r1 hM
            obtain ⟨v, rfl, hgo⟩ := goes 9 1 0 M1 r1 _ hO11 (Or.inr (Or.inl ⟨rfl, rfl, rfl⟩)) (by omega) hM
            refine zw_nx rfl (fun _ _ => rfl) ?_
            refine zw_nx rfl (fun _ _ => rfl) ?_
            refine zw_nx rfl (fun _ _ => rfl) ?_
            refine zw_nx rfl (fun _ _ => rfl) ?_
            exact hgo
        · first | refine zw_br rfl (fun _ _ => rfl) (fun h9 => absurd h9 ((fun z => k41 ((phi_is (by omega)).mp ((nI_eq (a := phi (tkK b n p')) (b := 41) (by omega) (by omega)).mp z))))) (fun _ => ?_) | refine zw_nx rfl (fun _ _ => rfl) ?_
          exact stop (fun z => k41 z.1)
    rcases hmd with ⟨rfl, rfl, hpp⟩ | ⟨rfl, rfl, rfl, hpp⟩ | ⟨rfl, rfl, rfl, hpp⟩
    · have hXX := hX
      obtain ⟨tk, xb, xe, xn, xi⟩ := hX
      have opn : (tkK b n p' = 40 ∨ tkK b n p' = 9 ∨ tkK b n p' = 10 ∨ tkK b n p' = 11) → zW 5 sc miX11_readRow 57 [some (.ref 47), some (.int 0), some (.int x2), some (.int 1), some (.int 0)] [] (mm f I' A' B) (fun M r => MW2 w h b n cl tg bk en s0 p f I A B M r) := fun hk => by
        repeat (refine zw_go rfl rfl (fun _ _ => rfl) ?_)
        refine zw_call rfl (fun _ _ => rfl) (mOpens sc I' A' B f n b w h p' cl tg sh fi fp it cur fr bk en hXX hT hTp' hpn hw hh hk) (by decide) ?_
        intro M1 r1 hM
        obtain ⟨v, rfl, hgo⟩ := goes 4 0 x2 M1 r1 _ hO (Or.inl ⟨rfl, rfl⟩) hpp hM
        refine zw_nx rfl (fun _ _ => rfl) ?_
        refine zw_nx rfl (fun _ _ => rfl) ?_
        exact hgo
      have pln : (tkK b n p' ≠ 40 ∧ tkK b n p' ≠ 9 ∧ tkK b n p' ≠ 10 ∧ tkK b n p' ≠ 11) → zW 5 sc miX11_readRow 66 [some (.ref 47), some (.int 0), some (.int x2), some (.int 1), some (.int 0)] [] (mm f I' A' B) (fun M r => MW2 w h b n cl tg bk en s0 p f I A B M r) := fun hk => by
        repeat (refine zw_go rfl rfl (fun _ _ => rfl) ?_)
        refine zw_call rfl (fun _ _ => rfl) (mPlainOne sc I' A' B f n b w h p' cl tg sh fi fp it cur fr bk en hXX hT hTp' hpn hw hh hk) (by decide) ?_
        intro M1 r1 hM
        obtain ⟨v, rfl, hgo⟩ := goes 9 1 0 M1 r1 _ hO (Or.inr (Or.inl ⟨rfl, rfl, rfl⟩)) hpp hM
        refine zw_nx rfl (fun _ _ => rfl) ?_
        refine zw_nx rfl (fun _ _ => rfl) ?_
        refine zw_nx rfl (fun _ _ => rfl) ?_
        refine zw_nx rfl (fun _ _ => rfl) ?_
        refine zw_nx rfl (fun _ _ => rfl) ?_
        refine zw_nx rfl (fun _ _ => rfl) ?_
        exact hgo
      refine zw_nx rfl (fun _ _ => rfl) ?_
      repeat (refine zw_go rfl rfl (fun _ _ => rfl) ?_)
      rw [tk.2.1]
      by_cases k40 : tkK b n p' = 40
      · have h1 := opn (Or.inl k40)
        rw [k40]
        refine zw_nx rfl (fun _ _ => rfl) ?_
        exact h1
      · first | refine zw_br rfl (fun _ _ => rfl) (fun h9 => absurd h9 ((fun z => k40 ((phi_is (by omega)).mp ((nI_eq (a := phi (tkK b n p')) (b := 40) (by omega) (by omega)).mp z))))) (fun _ => ?_) | refine zw_nx rfl (fun _ _ => rfl) ?_
        repeat (refine zw_go rfl rfl (fun _ _ => rfl) ?_)
        rw [tk.2.1]
        refine zw_call rfl (fun _ _ => rfl) (mIsIn sc (mm f I' A' B) (nI (phi (tkK b n p'))) (nI 9) (nI 11)) (by decide) ?_
        rintro M1 r1 ⟨rfl, rfl⟩
        rw [bI_dec (p := decide (9 ≤ phi (tkK b n p') ∧ phi (tkK b n p') ≤ 11)) (by rw [decide_eq_true_eq, nI_leI (by omega) (by omega), nI_leI (by omega) (by omega)])]
        by_cases k9 : 9 ≤ phi (tkK b n p') ∧ phi (tkK b n p') ≤ 11
        · have hk : tkK b n p' = 9 ∨ tkK b n p' = 10 ∨ tkK b n p' = 11 := by
            rcases (show phi (tkK b n p') = 9 ∨ phi (tkK b n p') = 10 ∨ phi (tkK b n p') = 11 by omega) with h1 | h1 | h1
            · exact Or.inl ((phi_is (by omega)).mp h1)
            · exact Or.inr (Or.inl ((phi_is (by omega)).mp h1))
            · exact Or.inr (Or.inr ((phi_is (by omega)).mp h1))
          have h1 := opn (Or.inr hk)
          rw [decide_eq_true k9]
          refine zw_nx rfl (fun _ _ => rfl) ?_
          exact h1
        · have h1 := pln ⟨k40, fun z => k9 (by rw [z]; decide), fun z => k9 (by rw [z]; decide), fun z => k9 (by rw [z]; decide)⟩
          rw [decide_eq_false k9]
          refine zw_nx rfl (fun _ _ => rfl) ?_
          exact h1
    · have hXX := hX
      obtain ⟨tk, xb, xe, xn, xi⟩ := hX
      refine zw_nx rfl (fun _ _ => rfl) ?_
      repeat (refine zw_go rfl rfl (fun _ _ => rfl) ?_)
      rw [tk.2.1]
      by_cases k42 : tkK b n p' = 42
      · have htm := mTimes sc I' A' B f n b w h p' cl tg sh fi fp it cur fr bk en hXX hT hTp' hpn hw hh k42
        rw [k42]
        repeat (refine zw_go rfl rfl (fun _ _ => rfl) ?_)
        refine zw_call rfl (fun _ _ => rfl) (htm) (by decide) ?_
        intro M1 r1 hM
        obtain ⟨v, rfl, hgo⟩ := goes 11 1 1 M1 r1 _ hO (Or.inr (Or.inr ⟨rfl, rfl, rfl⟩)) (by omega) hM
        refine zw_nx rfl (fun _ _ => rfl) ?_
        refine zw_nx rfl (fun _ _ => rfl) ?_
        refine zw_nx rfl (fun _ _ => rfl) ?_
        refine zw_nx rfl (fun _ _ => rfl) ?_
        exact hgo
      · first | refine zw_br rfl (fun _ _ => rfl) (fun h9 => absurd h9 ((fun z => k42 ((phi_is (by omega)).mp ((nI_eq (a := phi (tkK b n p')) (b := 42) (by omega) (by omega)).mp z))))) (fun _ => ?_) | refine zw_nx rfl (fun _ _ => rfl) ?_
        refine item 0 ⟨tk, xb, xe, fun _ => xn (by omega), fun z => by omega⟩ (ti_pr (k := tkK b n p') hT ?_) hpp (fun R hR => hO R (out_911 k42 hR))
        simp only [prS]
        rw [if_neg k42]
    · have tk := hX.1
      have h1 := item 1 hX hT hpp hO
      refine zw_nx rfl (fun _ _ => rfl) ?_
      repeat (refine zw_go rfl rfl (fun _ _ => rfl) ?_)
      rw [tk.2.1]
      by_cases k42 : tkK b n p' = 42
      · rw [k42]
        refine zw_nx rfl (fun _ _ => rfl) ?_
        refine zw_nx rfl (fun _ _ => rfl) ?_
        refine zw_nx rfl (fun _ _ => rfl) ?_
        exact h1
      · first | refine zw_br rfl (fun _ _ => rfl) (fun h9 => absurd h9 ((fun z => k42 ((phi_is (by omega)).mp ((nI_eq (a := phi (tkK b n p')) (b := 42) (by omega) (by omega)).mp z))))) (fun _ => ?_) | refine zw_nx rfl (fun _ _ => rfl) ?_
        exact h1
set_option maxHeartbeats 4000000 in
set_option maxRecDepth 20000 in
theorem mReadRow (tk : TkM I b n p) (xb : MB bk I A) (xe : ME en I A) (hT : TI w h (4, cl, tg, sh, fi, fp, [], 0, [], bk, en) p) (hTp : TpM I A b n) (hpn : p ≤ n) (hw : w ≤ 48) (hh : h ≤ 48) : zC 6 sc 200 [.ref 47] (mm f I A B) (fun M r => MW2 w h b n cl tg bk en (4, cl, tg, sh, fi, fp, [], 0, [], bk, en) p f I A B M r) := by
  refine zc_of hkX11_readRow rfl ?_
  repeat (refine zw_go rfl rfl (fun _ _ => rfl) ?_)
  have st := mRow_l sc I A B f n b w h p cl tg bk en hTp hw hh (4, cl, tg, sh, fi, fp, [], 0, [], bk, en) n 4 sh fi fp [] 0 [] p (upd (upd I 15 0) 16 0) (va_up A 15 (upd (A 15) 0 0)) 0 0 (by omega) hpn (Or.inl ⟨rfl, rfl, Nat.le_refl _⟩) ⟨tk, mb_cong xb rfl rfl rfl rfl, me_cong xe rfl rfl rfl rfl, fun _ => ⟨rfl, rfl, rfl, fun i hi => absurd hi (Nat.not_lt_zero _)⟩, fun z => by omega⟩ hT (fun R hR => hR) ⟨fun z hz => by unfold upd; rw [if_neg (by omega), if_neg (by omega)], fun a ha => by unfold va_up; rw [if_neg (by omega)]⟩
  exact zw_kp st
end

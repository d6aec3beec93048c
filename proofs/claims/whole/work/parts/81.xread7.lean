/-! the class: readTape, text -/
theorem xr_i {n0 t0 : Nat} {s : tS} {I I' : Nat → Int32} {A : Nat → Nat → Int32} (h : XR n0 t0 s I A) (hI : ∀ z, z < 12 ∨ 15 < z → I' z = I z) : XR n0 t0 s I' A := by
  obtain ⟨md, cl, tg, sh, fi, fp, cur, it, fr, bk, en⟩ := s
  obtain ⟨⟨c1, c2, c3, c4, c5, c6, c7⟩, xb, xe, xn, xi, xj⟩ := h
  refine ⟨⟨?_, ?_, ?_, ?_, ?_, ?_, ?_⟩, xb, xe_cong xe (hI 3 (by omega)) (hI 4 (by omega)) (fun _ _ => rfl), fun z => xn_cong (xn z) (hI 18 (by omega)) (hI 19 (by omega)) rfl rfl rfl (fun _ _ => rfl), xi, xj⟩
  · rw [hI 20 (by omega)]; exact c1
  · rw [hI 21 (by omega)]; exact c2
  · rw [hI 22 (by omega)]; exact c3
  · rw [hI 23 (by omega)]; exact c4
  · rw [hI 24 (by omega), hI 25 (by omega)]; exact c5
  · rw [hI 26 (by omega)]; exact c6
  · rw [hI 27 (by omega)]; exact c7
/-- what reading leaves as it was -/
def XG (n0 : Nat) (I : Nat → Int32) (A : Nat → Nat → Int32) (I' : Nat → Int32) (A' : Nat → Nat → Int32) : Prop := (∀ z, z < 3 ∨ (3 < z ∧ z < 12) ∨ (15 < z ∧ z < 18) ∨ 27 < z → I' z = I z) ∧ (∀ a, 2 < a → a < 7 ∨ 12 < a → A' a = A a) ∧ ∀ a i, a ≤ 2 → i < n0 → A' a i = A a i
theorem xg_f {n0 : Nat} {I I' : Nat → Int32} {A A' : Nat → Nat → Int32} (h : XF n0 I A I' A') : XG n0 I A I' A' := ⟨fun z hz => h.1 z (by omega), h.2.1, h.2.2⟩
theorem xg_tr {n0 : Nat} {I I1 I2 : Nat → Int32} {A A1 A2 : Nat → Nat → Int32} (h1 : XG n0 I A I1 A1) (h2 : XG n0 I1 A1 I2 A2) : XG n0 I A I2 A2 := ⟨fun z hz => (h2.1 z hz).trans (h1.1 z hz), fun a ha hb => (h2.2.1 a ha hb).trans (h1.2.1 a ha hb), fun a i ha hi => (h2.2.2 a i ha hi).trans (h1.2.2 a i ha hi)⟩
theorem linv_cong {I I' : Nat → Int32} {A A' : Nat → Nat → Int32} {n t k : Nat} (h : LInv I A n t k) (e2 : I' 2 = I 2) (e4 : I' 4 = I 4) (e5 : I' 5 = I 5) (hA : ∀ a i, a ≤ 2 → i < n → A' a i = A a i) (h3 : A' 3 = A 3) (h4 : A' 4 = A 4) : LInv I' A' n t k := by
  obtain ⟨g1, g2, g3, g4, g5, g6, g7, g8, g9, g10⟩ := h
  refine ⟨by rw [e2]; exact g1, by rw [e4]; exact g2, by rw [e5]; exact g3, g4, g5, g6, fun i hi => by rw [hA 0 i (by omega) hi]; exact g7 i hi, fun i hi => by rw [hA 2 i (by omega) hi]; exact g8 i hi, fun i j hij hj => by rw [hA 2 i (by omega) (by omega), hA 2 j (by omega) hj]; exact g9 i j hij hj, fun s hs => ?_⟩
  have ez : zlast (fun j => decide (A' 0 j = nI s ∧ A' 2 j ≤ nI k)) n = zlast (fun j => decide (A 0 j = nI s ∧ A 2 j ≤ nI k)) n := zlast_cong (fun i hi => by rw [hA 0 i (by omega) hi, hA 2 i (by omega) hi])
  rw [ez, h3, h4]
  have := g10 s hs
  cases hz : zlast (fun j => decide (A 0 j = nI s ∧ A 2 j ≤ nI k)) n with
  | none => rw [hz] at this; exact this
  | some j =>
    rw [hz] at this
    have hj := (zlast_some hz).1
    show A 3 s = A' 1 j ∧ A 4 s = A' 2 j
    rw [hA 1 j (by omega) hj, hA 2 j (by omega) hj]
    exact this
section
variable (sc : sm_S) (I : Nat → Int32) (J : Nat → Int64) (A : Nat → Nat → Int32) (B : Nat → Nat → Int64) (tl : sm_M) (f : Nat → va_E) (n : Nat) (b : Nat → Nat) (w h n0 t0 : Nat)
/-- how reading ended -/
def XO (n0 t0 : Nat) (r : tR) (I : Nat → Int32) (A : Nat → Nat → Int32) : Prop := I 26 = nI r.1 ∧ (r.1 ≠ 0 → I 27 = nI r.2.1) ∧ (r.1 = 0 → I 27 = -1 ∧ XE n0 t0 r.2.2 I A)
set_option maxHeartbeats 4000000 in
set_option maxRecDepth 20000 in
theorem xStop (h20 : I 20 = nI 12) : zC 1 sc 61 [.ref 16] (xm I J A B tl) (fun M r => r = none ∧ M = xm I J A B tl) := by
  refine zc_of hkX6_step rfl ?_
  repeat (refine zw_go rfl rfl (fun _ _ => rfl) ?_)
  rw [h20]
  refine zw_tsd 158 rfl rfl (Or.inr (by rw [nI_toInt (by omega)]; decide)) ?_
  exact zw_ret rfl (fun _ _ => rfl) (⟨rfl, rfl⟩)
set_option maxHeartbeats 4000000 in
set_option maxRecDepth 20000 in
theorem xRead_l (hn : n ≤ 300) (hn0 : n0 ≤ 2000) (hw : w ≤ 48) (hh : h ≤ 48) : ∀ (z c p : Nat) (s : tS) (I : Nat → Int32) (A : Nat → Nat → Int32), n - p ≤ z → c ≤ p → p ≤ n → XR n0 t0 s I A → TI w h s p → I 12 = nI p → TpX I A b n → I 16 = nI w → I 17 = nI h → zW 9 sc miX6_readTape 39 [some (.ref 16), some (.int (nI c))] [] (xm I J A B tl) (fun M r => r = none ∧ ∃ R I' A', M = xm I' J A' B tl ∧ Out w h b n s p R ∧ XO n0 t0 R I' A' ∧ XG n0 I A I' A') := by
  intro z
  induction z using Nat.strongRecOn with
  | _ z ihz =>
    intro c p s I A hz hc hp hX hT h12 hTp h16 h17
    have md11 : s.1 ≤ 11 := by obtain ⟨md, cl, tg, sh, fi, fp, cur, it, fr, bk, en⟩ := s; exact hT.1
    have e20 : I 20 = nI s.1 := by obtain ⟨md, cl, tg, sh, fi, fp, cur, it, fr, bk, en⟩ := s; exact hX.1.1
    -- the end
    have stop : ∀ (c' : Nat) (R : tR) (I1 : Nat → Int32) (A1 : Nat → Nat → Int32), c' ≤ 301 → I1 20 = nI 12 → XO n0 t0 R I1 A1 → XG n0 I A I1 A1 → Out w h b n s p R → zW 9 sc miX6_readTape 39 [some (.ref 16), some (.int (nI c'))] [] (xm I1 J A1 B tl) (fun M r => r = none ∧ ∃ R I' A', M = xm I' J A' B tl ∧ Out w h b n s p R ∧ XO n0 t0 R I' A' ∧ XG n0 I A I' A') := by
      intro c' R I1 A1 hc' h20 hO hG hOut
      by_cases h301 : 300 < c'
      · refine zw_nx rfl (fun _ _ => rfl) ?_
        repeat (refine zw_go rfl rfl (fun _ _ => rfl) ?_)
        first | refine zw_br rfl (fun _ _ => rfl) (fun _ => ?_) (fun h9 => absurd (nI_lt (a := 300) (b := c') h301 (by omega)) h9) | refine zw_nx rfl (fun _ _ => rfl) ?_
        exact zw_ret rfl (fun _ _ => rfl) (⟨rfl, R, I1, A1, rfl, hOut, hO, hG⟩)
      · refine zw_nx rfl (fun _ _ => rfl) ?_
        repeat (refine zw_go rfl rfl (fun _ _ => rfl) ?_)
        first | refine zw_br rfl (fun _ _ => rfl) (fun h9 => absurd h9 (nI_nlt (a := 300) (b := c') (by omega) (by omega))) (fun _ => ?_) | refine zw_nx rfl (fun _ _ => rfl) ?_
        repeat (refine zw_go rfl rfl (fun _ _ => rfl) ?_)
        rw [h20]
        repeat (refine zw_go rfl rfl (fun _ _ => rfl) ?_)
        exact zw_ret rfl (fun _ _ => rfl) (⟨rfl, R, I1, A1, rfl, hOut, hO, hG⟩)
    refine zw_nx rfl (fun _ _ => rfl) ?_
    repeat (refine zw_go rfl rfl (fun _ _ => rfl) ?_)
    first | refine zw_br rfl (fun _ _ => rfl) (fun h9 => absurd h9 (nI_nlt (a := 300) (b := c) (by omega) (by omega))) (fun _ => ?_) | refine zw_nx rfl (fun _ _ => rfl) ?_
    repeat (refine zw_go rfl rfl (fun _ _ => rfl) ?_)
    rw [e20]
    first | refine zw_br rfl (fun _ _ => rfl) (fun h9 => absurd h9 ((fun q => by have := (nI_eq (a := s.1) (b := 12) (by omega) (by omega)).mp q; omega))) (fun _ => ?_) | refine zw_nx rfl (fun _ _ => rfl) ?_
    repeat (refine zw_go rfl rfl (fun _ _ => rfl) ?_)
    refine zw_call rfl (fun _ _ => rfl) (xAdvance sc I J A B tl n b p hTp hp h12) (by decide) ?_
    rintro M1 r1 ⟨rfl, I1, rfl, ht1, hI1⟩
    have hX1 : XR n0 t0 s I1 A := xr_i hX hI1
    have hG1 : XG n0 I A I1 A := ⟨fun z hz => hI1 z (by omega), fun _ _ _ => rfl, fun _ _ _ _ => rfl⟩
    repeat (refine zw_go rfl rfl (fun _ _ => rfl) ?_)
    refine zw_call rfl (fun _ _ => rfl) (xEndWhat sc I1 J A B tl n b w h n0 t0 p s hX1 hT ht1) (by decide) ?_
    rintro M1 r1 ⟨rfl, I2, A2, rfl, hS2, hF2⟩
    have hG2 := xg_tr hG1 (xg_f hF2)
    cases hpr : prS s (tkK b n p) with
    | inr R =>
      rw [hpr] at hS2
      have hOut : Out w h b n s p R := out_end (by unfold ful; rw [hpr])
      repeat (refine zw_go rfl rfl (fun _ _ => rfl) ?_)
      refine zw_call rfl (fun _ _ => rfl) (xStop sc I2 J A2 B tl hS2.1) (by decide) ?_
      rintro M1 r1 ⟨rfl, rfl⟩
      repeat (refine zw_go rfl rfl (fun _ _ => rfl) ?_)
      have hst := stop (c + 1) R I2 A2 (by omega) hS2.1 hS2.2 hG2 hOut
      rw [nI_succ] at hst
      exact zw_kp hst
    | inl s1 =>
      rw [hpr] at hS2
      have hX2 : XR n0 t0 s1 I2 A2 := hS2
      have ht2 : TkX I2 b n p := ⟨by rw [hF2.1 12 (by omega)]; exact ht1.1, by rw [hF2.1 13 (by omega)]; exact ht1.2.1, by rw [hF2.1 14 (by omega)]; exact ht1.2.2.1, fun q => by rw [hF2.1 15 (by omega)]; exact ht1.2.2.2 q⟩
      repeat (refine zw_go rfl rfl (fun _ _ => rfl) ?_)
      refine zw_call rfl (fun _ _ => rfl) (xStep sc I2 J A2 B tl n b w h n0 t0 p s1 hX2 (ti_pr hT hpr) ht2 hp hn hn0 hw hh (by rw [hG2.1 16 (by omega)]; exact h16) (by rw [hG2.1 17 (by omega)]; exact h17)) (by decide) ?_
      rintro M1 r1 ⟨rfl, I3, A3, rfl, hS3, hF3⟩
      have hG3 := xg_tr hG2 (xg_f hF3)
      have hful : ful w h s (tkK b n p) (tkN b n p) (tkP b n p) = stp w h s1 (tkK b n p) (tkN b n p) (tkP b n p) := by unfold ful; rw [hpr]
      cases hst : stp w h s1 (tkK b n p) (tkN b n p) (tkP b n p) with
      | inr R =>
        rw [hst] at hS3
        have hstop := stop (c + 1) R I3 A3 (by omega) hS3.1 hS3.2 hG3 (out_end (hful.trans hst))
        rw [nI_succ] at hstop
        repeat (refine zw_go rfl rfl (fun _ _ => rfl) ?_)
        exact zw_kp hstop
      | inl s2 =>
        rw [hst] at hS3
        obtain ⟨hT3, hgt⟩ := ti_ful hw hh hn hp hT (hful.trans hst)
        have hle := tkX_le (b := b) hp
        have hne := ihz (n - tkX b n p) (by omega) (c + 1) (tkX b n p) s2 I3 A3 (Nat.le_refl _) (by omega) hle hS3 hT3 (by rw [hF3.1 12 (by omega)]; exact ht2.1) ⟨by rw [hG3.1 11 (by omega)]; exact hTp.1, hTp.2.1, fun i hi => by rw [hG3.2.1 6 (by omega) (by omega)]; exact hTp.2.2 i hi⟩ (by rw [hG3.1 16 (by omega)]; exact h16) (by rw [hG3.1 17 (by omega)]; exact h17)
        rw [nI_succ] at hne
        repeat (refine zw_go rfl rfl (fun _ _ => rfl) ?_)
        refine zw_post (zw_kp hne) ?_
        rintro M r ⟨rfl, R, I', A', rfl, o1, o2, o3⟩
        exact ⟨rfl, R, I', A', rfl, out_go (hful.trans hst) o1, o2, xg_tr hG3 o3⟩
set_option maxHeartbeats 4000000 in
set_option maxRecDepth 20000 in
theorem xReadTape (hn0 : n0 ≤ 2000) (hw : w ≤ 48) (hh : h ≤ 48) (h2 : I 2 = nI n0) (h4 : I 4 = nI t0) (hTp : TpX I A b n) (h16 : I 16 = nI w) (h17 : I 17 = nI h) : zC 10 sc 57 [.ref 16] (xm I J A B tl) (fun M r => r = none ∧ ∃ R I' A', M = xm I' J A' B tl ∧ Out w h b n tS0 0 R ∧ XO n0 t0 R I' A' ∧ XG n0 I A I' A') := by
  refine zc_of hkX6_readTape rfl ?_
  repeat (refine zw_go rfl rfl (fun _ _ => rfl) ?_)
  refine zw_call rfl (fun _ _ => rfl) (cFillI sc (xm (upd (upd I 26 0) 27 (-1)) J A B tl) 22 8 (A 12) 0 rfl rfl (by decide)) (by decide) ?_
  rintro M1 r1 ⟨rfl, rfl⟩
  repeat (refine zw_go rfl rfl (fun _ _ => rfl) ?_)
  refine zw_call rfl (fun _ _ => rfl) (cDrop sc (upd (upd I 26 0) 27 (-1)) J (va_up A 12 (fun j => if j < 8 then 0 else A 12 j)) B tl) (by decide) ?_
  rintro M1 r1 ⟨rfl, rfl⟩
  have hrew : ∀ I1 A1, zC 1 sc 104 [.ref 14] (xm I1 J A1 B tl) (fun M r => r = none ∧ M = xm (upd I1 12 0) J A1 B tl) := fun I1 A1 => by
    refine zc_of hkX9_rewind rfl ?_
    repeat (refine zw_go rfl rfl (fun _ _ => rfl) ?_)
    exact zw_ret rfl (fun _ _ => rfl) (⟨rfl, rfl⟩)
  repeat (refine zw_go rfl rfl (fun _ _ => rfl) ?_)
  refine zw_call rfl (fun _ _ => rfl) (hrew (upd (upd (upd I 26 0) 27 (-1)) 3 (I 2)) (va_up A 12 (fun j => if j < 8 then 0 else A 12 j))) (by decide) ?_
  rintro M1 r1 ⟨rfl, rfl⟩
  have hG : XG n0 I A (upd (upd (upd (upd (upd I 26 0) 27 (-1)) 3 (I 2)) 12 0) 20 0) (va_up A 12 (fun j => if j < 8 then 0 else A 12 j)) := ⟨fun z hz => by
    unfold upd
    rw [if_neg (by omega), if_neg (by omega), if_neg (by omega), if_neg (by omega), if_neg (by omega)], fun a h1 h2 => by
    unfold va_up
    rw [if_neg (by omega)], fun a i h1 _ => by
    unfold va_up
    rw [if_neg (by omega)]⟩
  have st := xRead_l sc J B tl n b w h n0 t0 hTp.2.1 hn0 hw hh n 0 0 tS0 (upd (upd (upd (upd (upd I 26 0) 27 (-1)) 3 (I 2)) 12 0) 20 0) (va_up A 12 (fun j => if j < 8 then 0 else A 12 j)) (by omega) (Nat.le_refl _) (Nat.zero_le _) ⟨⟨rfl, fun q => absurd rfl q, fun q => by omega, fun q => by omega, fun q => by omega, rfl, rfl⟩, fun l hl => ⟨by show (if l < 8 then (0 : Int32) else _) = nI 0; rw [if_pos hl]; rfl, fun i hi => absurd hi (Nat.not_lt_zero _)⟩, ⟨by show I 2 = nI (n0 + 0); rw [h2]; rfl, h4, fun i hi => absurd hi (Nat.not_lt_zero _)⟩, fun q => by omega, fun q => by omega, fun q => by omega⟩ ti_0 rfl hTp h16 h17
  repeat (refine zw_go rfl rfl (fun _ _ => rfl) ?_)
  refine zw_post (zw_kp st) ?_
  rintro M r ⟨rfl, R, I', A', rfl, o1, o2, o3⟩
  exact ⟨rfl, R, I', A', rfl, o1, o2, xg_tr hG o3⟩
/-- entries are in their ranges -/
theorem out_en {w h : Nat} (hw : w ≤ 48) (hh : h ≤ 48) {b : Nat → Nat} {n : Nat} (hn : n ≤ 300) {r : tR} : ∀ {m : Nat} {s : tS} {p : Nat}, p ≤ n → TI w h s p → runT w h b n m s p = some r → r.1 ≤ 5 ∧ r.2.2.length ≤ 4800 ∧ ∀ e, e ∈ r.2.2 → enK w h e := by
  intro m
  induction m with
  | zero => intro s p _ _ q; cases q
  | succ m ih =>
    intro s p hp hT q
    rw [runT] at q
    cases hf : ful w h s (tkK b n p) (tkN b n p) (tkP b n p) with
    | inl s' =>
      rw [hf] at q
      obtain ⟨hT', _⟩ := ti_ful hw hh hn hp hT hf
      exact ih (tkX_le hp) hT' q
    | inr r' =>
      rw [hf] at q
      have e : r' = r := Option.some.inj q
      subst e
      have badk : ∀ c p', c ≤ 5 → (Sum.inr r' : Sum tS tR) = bad c p' → r'.1 ≤ 5 ∧ r'.2.2.length ≤ 4800 ∧ ∀ e, e ∈ r'.2.2 → enK w h e := fun c p' hc he => by
        cases he
        exact ⟨hc, Nat.zero_le _, fun e he => by cases he⟩
      have key : ∀ s1 : tS, TI w h s1 p → stp w h s1 (tkK b n p) (tkN b n p) (tkP b n p) = .inr r' → r'.1 ≤ 5 ∧ r'.2.2.length ≤ 4800 ∧ ∀ e, e ∈ r'.2.2 → enK w h e := by
        intro s1 hT1 he
        obtain ⟨md, cl, tg, sh, fi, fp, cur, it, fr, bk, en⟩ := s1
        obtain ⟨t1, t2, t3, t4, t5, t6, t7, t8, t9, t10, t11, t12, t13, t14, t15, t16, t17, t18⟩ := hT1
        have opb : ∀ sh', opB cl tg sh' fi fp cur fr bk en (tkK b n p) (tkP b n p) = .inr r' → r'.1 ≤ 5 ∧ r'.2.2.length ≤ 4800 ∧ ∀ e, e ∈ r'.2.2 → enK w h e := fun sh' hh => by
          unfold opB at hh
          split at hh
          · split at hh
            · exact badk 3 _ (by omega) hh.symm
            · cases hh
          · exact badk 1 _ (by omega) hh.symm
        rcases (show md = 0 ∨ md = 1 ∨ md = 2 ∨ md = 3 ∨ md = 4 ∨ md = 5 ∨ md = 6 ∨ md = 7 ∨ md = 8 ∨ md = 9 ∨ md = 10 ∨ md = 11 by omega) with rfl | rfl | rfl | rfl | rfl | rfl | rfl | rfl | rfl | rfl | rfl | rfl
        · simp only [stp] at he
          split at he
          · cases he
            have t11' : en.length ≤ 16 * p := t11
            exact ⟨by omega, by show en.length ≤ 4800; omega, t18⟩
          · split at he
            · cases he
            · split at he
              · cases he
              · split at he
                · cases he
                · exact badk 1 _ (by omega) he.symm
        · simp only [stp] at he
          split at he
          · split at he
            · cases he
            · exact badk 4 _ (by omega) he.symm
          · exact badk 1 _ (by omega) he.symm
        · simp only [stp] at he
          split at he
          · cases he
          · exact badk 1 _ (by omega) he.symm
        · simp only [stp] at he
          split at he
          · split at he
            · exact badk 2 _ (by omega) he.symm
            · cases he
          · exact badk 1 _ (by omega) he.symm
        · simp only [stp] at he
          split at he
          · split at he
            · exact badk 2 _ (by omega) he.symm
            · cases he
          · split at he
            · split at he
              · exact badk 4 _ (by omega) he.symm
              · split at he
                · exact badk 5 _ (by omega) he.symm
                · cases he
            · split at he
              · exact opb _ he
              · split at he
                · cases he
                · split at he
                  · cases he
                  · split at he
                    · cases he
                    · exact badk 1 _ (by omega) he.symm
        · simp only [stp] at he
          cases he
        · simp only [stp] at he
          split at he
          · split at he
            · exact badk 2 _ (by omega) he.symm
            · split at he
              · exact badk 5 _ (by omega) he.symm
              · cases he
          · exact badk 1 _ (by omega) he.symm
        · simp only [stp] at he
          split at he
          · split at he
            · exact badk 2 _ (by omega) he.symm
            · cases he
          · exact badk 1 _ (by omega) he.symm
        · simp only [stp] at he
          exact opb _ he
        · simp only [stp] at he
          cases he
        · simp only [stp] at he
          split at he
          · split at he
            · exact badk 2 _ (by omega) he.symm
            · split at he
              · exact badk 5 _ (by omega) he.symm
              · cases he
          · exact badk 1 _ (by omega) he.symm
        · simp only [stp] at he
          split at he
          · cases he
          · split at he
            · cases fr with
              | nil => exact badk 1 _ (by omega) he.symm
              | cons o t =>
                obtain ⟨o, s⟩ := o
                have he2 : (if 200 < o.length + (shp s cur).length then bad 5 (tkP b n p) else (.inl (9, cl, tg, sh, fi, fp, o ++ shp s cur, o.length, t, bk, en) : Sum tS tR)) = .inr r' := he
                split at he2
                · exact badk 5 _ (by omega) he2.symm
                · cases he2
            · split at he
              · cases he
              · exact badk 1 _ (by omega) he.symm
      unfold ful at hf
      cases hpr : prS s (tkK b n p) with
      | inl s1 => rw [hpr] at hf; exact key s1 (ti_pr hT hpr) hf
      | inr r2 =>
        rw [hpr] at hf
        have e2 : r2 = r' := by cases hf; rfl
        subst e2
        obtain ⟨md, cl, tg, sh, fi, fp, cur, it, fr, bk, en⟩ := s
        by_cases m5 : md = 5
        · subst m5
          simp only [prS] at hpr
          split at hpr
          · cases hpr
          · split at hpr
            · exact badk 5 _ (by omega) hpr.symm
            · split at hpr
              · cases hpr
              · cases hpr
        · by_cases m9 : md = 9
          · subst m9
            simp only [prS] at hpr
            split at hpr
            · cases hpr
            · cases hpr
          · exfalso
            have t1 : md ≤ 11 := hT.1
            rcases (show md = 0 ∨ md = 1 ∨ md = 2 ∨ md = 3 ∨ md = 4 ∨ md = 6 ∨ md = 7 ∨ md = 8 ∨ md = 10 ∨ md = 11 by omega) with rfl | rfl | rfl | rfl | rfl | rfl | rfl | rfl | rfl | rfl <;> cases hpr
end

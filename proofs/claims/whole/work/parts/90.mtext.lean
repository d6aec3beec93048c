/-! the reference: text -/
section
variable (sc : sm_S) (I : Nat → Int32) (A : Nat → Nat → Int32) (B : Nat → Nat → Int64) (f : Nat → va_E) (n : Nat) (b : Nat → Nat) (w h : Nat) (n0 t k : Nat)
/-- what text leaves -/
def TxM (n0 t : Nat) (R : tR) (f : Nat → va_E) (I : Nat → Int32) (A : Nat → Nat → Int32) (B : Nat → Nat → Int64) (M : sm_M) (r : Option Value) : Prop := ∃ I' A', M = mm f I' A' B ∧ I' 5 = 0 ∧ I' 6 = nI R.1 ∧ I' 7 = rP R ∧ (∀ z, z < 2 ∨ 18 < z → I' z = I z) ∧ (∀ a, (3 < a ∧ a < 9) ∨ 18 < a → A' a = A a) ∧ (∀ a i, a ≤ 3 → i < n0 → A' a i = A a i) ∧ ((R.1 = 0 ∧ t < 400 ∧ n0 + R.2.2.length ≤ 2000 ∧ r = some (.int (nI (t + 1))) ∧ I' 4 = nI (n0 + R.2.2.length) ∧ I' 2 = nI (t + 1) ∧ I' 3 = nI (t + 1) ∧ ∀ i, i < R.2.2.length → A' 0 (n0 + i) = nI (gE R.2.2 i).1 ∧ A' 1 (n0 + i) = nI (gE R.2.2 i).2.1 ∧ A' 2 (n0 + i) = (gE R.2.2 i).2.2 ∧ A' 3 (n0 + i) = nI (t + 1)) ∨ (¬ (R.1 = 0 ∧ t < 400 ∧ n0 + R.2.2.length ≤ 2000) ∧ r = some (.int (-1)) ∧ I' 2 = I 2 ∧ I' 3 = I 3 ∧ I' 4 = I 4 ∧ ∀ a, a ≤ 3 → A' a = A a))
set_option maxHeartbeats 4000000 in
set_option maxRecDepth 20000 in
theorem mText (hw : w ≤ 48) (hh : h ≤ 48) (hTp : TpM I A b n) (h0 : I 0 = nI w) (h1 : I 1 = nI h) (h4 : I 4 = nI n0) (h2 : I 2 = nI t) (hn0 : n0 ≤ 2000) (ht : t ≤ 400) : zC 9 sc 205 [.ref 47] (mm f I A B) (fun M r => ∃ R, Out w h b n tS0 0 R ∧ TxM n0 t R f I A B M r) := by
  refine zc_of hkX11_text rfl ?_
  repeat (refine zw_go rfl rfl (fun _ _ => rfl) ?_)
  refine zw_call rfl (fun _ _ => rfl) (mReadText sc I A B f n b w h h0 h1 hTp hw hh) (by decide) ?_
  rintro M1 r1 ⟨R, hO, rfl, I1, A1, rfl, r5, x13, xE, hF⟩
  obtain ⟨m, hm⟩ := hO
  obtain ⟨-, rlen, ren⟩ := out_en hw hh hTp.2.1 (Nat.zero_le _) ti_0 hm
  refine zw_nx rfl (fun _ _ => rfl) ?_
  show zW 8 sc miX11_text 8 _ _ (mm f (upd I1 6 (nI R.1)) A1 B) _
  by_cases hR : R.1 = 0
  · have xE := xE hR
    have eP : rP R = -1 := by unfold rP; rw [if_pos hR]
    refine zw_nx rfl (fun _ _ => rfl) ?_
    refine zw_nx rfl (fun _ _ => rfl) ?_
    refine zw_nx rfl (fun _ _ => rfl) ?_
    show zW 8 sc miX11_text 13 _ [.int (nI R.1), .ref 47] (mm f (upd I1 6 (nI R.1)) A1 B) _
    have o1 : (∃ I2 : Nat → Int32, I2 = upd (upd (upd I1 6 (nI R.1)) 7 (-1)) 5 0) := ⟨_, rfl⟩
    obtain ⟨I2, e2⟩ := o1
    have hi2 : ∀ z, z ≠ 5 → z ≠ 6 → z ≠ 7 → I2 z = I1 z := fun z z5 z6 z7 => by rw [e2]; unfold upd; rw [if_neg z5, if_neg z7, if_neg z6]
    have g4 : I2 4 = nI n0 := by rw [hi2 4 (by decide) (by decide) (by decide), hF.1 4 (by omega)]; exact h4
    have g2 : I2 2 = nI t := by rw [hi2 2 (by decide) (by decide) (by decide), hF.1 2 (by omega)]; exact h2
    have g18 : I2 18 = nI R.2.2.length := by rw [hi2 18 (by decide) (by decide) (by decide)]; exact xE.1
    have g5 : I2 5 = 0 := by rw [e2]; rfl
    have g6 : I2 6 = nI R.1 := by rw [e2]; rfl
    have g7 : I2 7 = rP R := by rw [e2, eP]; rfl
    have gz : ∀ z, z < 2 ∨ 18 < z → I2 z = I z := fun z hz => by rw [hi2 z (by omega) (by omega) (by omega)]; exact hF.1 z (by omega)
    have go : zW 8 sc miX11_text 32 [some (.ref 47), none] [] (mm f I2 A1 B) (fun M r => ∃ R, Out w h b n tS0 0 R ∧ TxM n0 t R f I A B M r) := by
      have no : ¬ (R.1 = 0 ∧ t < 400 ∧ n0 + R.2.2.length ≤ 2000) → ∃ R, Out w h b n tS0 0 R ∧ TxM n0 t R f I A B (mm f I2 A1 B) (some (.int (-1))) := fun hno => ⟨R, ⟨m, hm⟩, I2, A1, rfl, g5, g6, g7, gz, fun a ha => hF.2 a (by omega), fun a i ha _ => by rw [hF.2 a (by omega)], Or.inr ⟨hno, rfl, by rw [g2, h2], by rw [hi2 3 (by decide) (by decide) (by decide)]; exact hF.1 3 (by omega), by rw [g4, h4], fun a ha => hF.2 a (by omega)⟩⟩
      refine zw_nx rfl (fun _ _ => rfl) ?_
      refine zw_nx rfl (fun _ _ => rfl) ?_
      rw [g6, hR]
      repeat (refine zw_go rfl rfl (fun _ _ => rfl) ?_)
      rw [g2]
      by_cases t4 : t = 400
      · subst t4
        repeat (refine zw_go rfl rfl (fun _ _ => rfl) ?_)
        exact zw_ret rfl (fun _ _ => rfl) (no (fun z => by omega))
      · first | refine zw_br rfl (fun _ _ => rfl) (fun h9 => absurd h9 ((fun z => t4 ((nI_eq (a := t) (b := 400) (by omega) (by omega)).mp z)))) (fun _ => ?_) | refine zw_nx rfl (fun _ _ => rfl) ?_
        repeat (refine zw_go rfl rfl (fun _ _ => rfl) ?_)
        rw [g4, g18, show nI n0 + nI R.2.2.length = nI (n0 + R.2.2.length) from nI_add _ _]
        by_cases hlen : n0 + R.2.2.length ≤ 2000
        · first | refine zw_br rfl (fun _ _ => rfl) (fun _ => ?_) (fun h9 => absurd (nI_le (a := n0 + R.2.2.length) (b := 2000) hlen (by omega)) h9) | refine zw_nx rfl (fun _ _ => rfl) ?_
          have loop : ∀ (z i : Nat) (I' : Nat → Int32) (A' : Nat → Nat → Int32), i + z = R.2.2.length → (∀ z, z ≠ 4 → I' z = I2 z) → I' 4 = nI (n0 + i) → (∀ a, 3 < a → A' a = A1 a) → (∀ a j, a ≤ 3 → j < n0 → A' a j = A1 a j) → (∀ j, j < i → A' 0 (n0 + j) = nI (gE R.2.2 j).1 ∧ A' 1 (n0 + j) = nI (gE R.2.2 j).2.1 ∧ A' 2 (n0 + j) = (gE R.2.2 j).2.2 ∧ A' 3 (n0 + j) = nI (t + 1)) → zW 8 sc miX11_text 68 [some (.ref 47), some (.int (nI i))] [] (mm f I' A' B) (fun M r => ∃ R, Out w h b n tS0 0 R ∧ TxM n0 t R f I A B M r) := by
            intro z
            induction z with
            | zero =>
              intro i I' A' hi q1 q2 q3 q4 q5
              have e : i = R.2.2.length := by omega
              subst e
              refine zw_nx rfl (fun _ _ => rfl) ?_
              repeat (refine zw_go rfl rfl (fun _ _ => rfl) ?_)
              rw [q1 18 (by decide), g18]
              first | refine zw_br rfl (fun _ _ => rfl) (fun _ => ?_) (fun h9 => absurd (nI_le (a := R.2.2.length) (b := R.2.2.length) (by omega) (by omega)) h9) | refine zw_nx rfl (fun _ _ => rfl) ?_
              repeat (refine zw_go rfl rfl (fun _ _ => rfl) ?_)
              refine zw_call rfl (fun _ _ => rfl) (mPasses sc f I' A' B t (by rw [q1 2 (by decide)]; exact g2)) (by decide) ?_
              rintro M1 r1 ⟨rfl, rfl⟩
              refine zw_ret rfl (fun _ _ => rfl) ?_
              refine ⟨R, ⟨m, hm⟩, _, A', rfl, by rw [← g5]; exact q1 5 (by decide), by rw [← g6]; exact q1 6 (by decide), by rw [← g7]; exact q1 7 (by decide), fun z hz => ?_, fun a ha => by rw [q3 a (by omega)]; exact hF.2 a (by omega), fun a i ha hi => by rw [q4 a i ha hi, hF.2 a (by omega)], Or.inl ⟨hR, by omega, hlen, rfl, by rw [← q2]; rfl, rfl, rfl, q5⟩⟩
              unfold upd
              rw [if_neg (by omega), if_neg (by omega), q1 z (by omega)]
              exact gz z hz
            | succ z ih =>
              intro i I' A' hi q1 q2 q3 q4 q5
              obtain ⟨y0, y1, y2⟩ := xE.2 i (by omega)
              refine zw_nx rfl (fun _ _ => rfl) ?_
              repeat (refine zw_go rfl rfl (fun _ _ => rfl) ?_)
              rw [q1 18 (by decide), g18]
              first | refine zw_br rfl (fun _ _ => rfl) (fun h9 => absurd h9 (nI_ge (a := i) (b := R.2.2.length) (by omega) (by omega))) (fun _ => ?_) | refine zw_nx rfl (fun _ _ => rfl) ?_
              repeat (refine zw_go rfl rfl (fun _ _ => rfl) ?_)
              refine zw_ix rfl (fun _ _ => rfl) (show vp_in (nI (i)) _ from vp_in_nI (by omega) (by omega)) ?_
              rw [show (nI (i)).toNatClampNeg = i from nI_clamp (by omega)]
              repeat (refine zw_go rfl rfl (fun _ _ => rfl) ?_)
              refine zw_ix rfl (fun _ _ => rfl) (show vp_in (nI (i)) _ from vp_in_nI (by omega) (by omega)) ?_
              rw [show (nI (i)).toNatClampNeg = i from nI_clamp (by omega)]
              repeat (refine zw_go rfl rfl (fun _ _ => rfl) ?_)
              refine zw_ix rfl (fun _ _ => rfl) (show vp_in (nI (i)) _ from vp_in_nI (by omega) (by omega)) ?_
              rw [show (nI (i)).toNatClampNeg = i from nI_clamp (by omega)]
              repeat (refine zw_go rfl rfl (fun _ _ => rfl) ?_)
              rw [q3 16 (by omega), q3 17 (by omega), q3 18 (by omega), y0, y1, y2]
              refine zw_call rfl (fun _ _ => rfl) (mEnter sc f I' A' B (nI (gE R.2.2 i).1) (nI (gE R.2.2 i).2.1) (gE R.2.2 i).2.2 (n0 + i) t q2 (by omega) (by rw [q1 2 (by decide)]; exact g2)) (by decide) ?_
              rintro M1 r1 ⟨rfl, rfl⟩
              have hnx := ih (i + 1) (upd I' 4 (nI (n0 + i + 1))) (mtA A' (n0 + i) (nI (gE R.2.2 i).1) (nI (gE R.2.2 i).2.1) (gE R.2.2 i).2.2 (nI (t + 1))) (by omega) (fun z hz => by unfold upd; rw [if_neg hz]; exact q1 z hz) (by show nI (n0 + i + 1) = _; rw [Nat.add_assoc]) (fun a ha => by unfold mtA va_up; rw [if_neg (by omega), if_neg (by omega), if_neg (by omega), if_neg (by omega)]; exact q3 a ha) (fun a j ha hj => ?_) (fun j hj => ?_)
              · rw [nI_succ i] at hnx
                repeat (refine zw_go rfl rfl (fun _ _ => rfl) ?_)
                exact zw_kp hnx
              · rw [← q4 a j ha hj]
                rcases (show a = 0 ∨ a = 1 ∨ a = 2 ∨ a = 3 by omega) with rfl | rfl | rfl | rfl
                · exact pk_un (by omega)
                · exact pk_un (by omega)
                · exact pk_un (by omega)
                · exact pk_un (by omega)
              · by_cases hji : j = i
                · subst hji
                  exact ⟨pk_us, pk_us, pk_us, pk_us⟩
                · obtain ⟨u0, u1, u2, u3⟩ := q5 j (by omega)
                  exact ⟨(pk_un (by omega)).trans u0, (pk_un (by omega)).trans u1, (pk_un (by omega)).trans u2, (pk_un (by omega)).trans u3⟩
          repeat (refine zw_go rfl rfl (fun _ _ => rfl) ?_)
          exact zw_kp (loop R.2.2.length 0 I2 A1 (by omega) (fun _ _ => rfl) g4 (fun _ _ => rfl) (fun _ _ _ _ => rfl) (fun j hj => by omega))
        · first | refine zw_br rfl (fun _ _ => rfl) (fun h9 => absurd h9 (nI_ge (a := 2000) (b := n0 + R.2.2.length) (by omega) (by omega))) (fun _ => ?_) | refine zw_nx rfl (fun _ _ => rfl) ?_
          repeat (refine zw_go rfl rfl (fun _ _ => rfl) ?_)
          exact zw_ret rfl (fun _ _ => rfl) (no (fun z => hlen z.2.2))
    subst e2
    rw [hR] at go ⊢
    refine zw_nx rfl (fun _ _ => rfl) ?_
    refine zw_nx rfl (fun _ _ => rfl) ?_
    refine zw_nx rfl (fun _ _ => rfl) ?_
    refine zw_nx rfl (fun _ _ => rfl) ?_
    refine zw_nx rfl (fun _ _ => rfl) ?_
    refine zw_nx rfl (fun _ _ => rfl) ?_
    refine zw_nx rfl (fun _ _ => rfl) ?_
    exact go
  · have eP : rP R = nI R.2.1 := by unfold rP; rw [if_neg hR]
    have e13 := x13 hR
    repeat (refine zw_go rfl rfl (fun _ _ => rfl) ?_)
    first | refine zw_br rfl (fun _ _ => rfl) (fun h9 => absurd h9 (nI_ne0 (n := R.1) (by omega) (by omega))) (fun _ => ?_) | refine zw_nx rfl (fun _ _ => rfl) ?_
    repeat (refine zw_go rfl rfl (fun _ _ => rfl) ?_)
    first | refine zw_br rfl (fun _ _ => rfl) (fun h9 => absurd h9 (nI_ne0 (n := R.1) (by omega) (by omega))) (fun _ => ?_) | refine zw_nx rfl (fun _ _ => rfl) ?_
    repeat (refine zw_go rfl rfl (fun _ _ => rfl) ?_)
    refine zw_ret rfl (fun _ _ => rfl) ?_
    refine ⟨R, ⟨m, hm⟩, upd (upd (upd I1 6 (nI R.1)) 7 (I1 13)) 5 0, A1, rfl, rfl, rfl, by rw [eP, ← e13]; rfl, fun z hz => ?_, fun a ha => hF.2 a (by omega), fun a i ha _ => by rw [hF.2 a (by omega)], Or.inr ⟨fun z => hR z.1, rfl, hF.1 2 (by omega), hF.1 3 (by omega), hF.1 4 (by omega), fun a ha => hF.2 a (by omega)⟩⟩
    unfold upd
    rw [if_neg (by omega), if_neg (by omega), if_neg (by omega)]
    exact hF.1 z (by omega)
end
/-- one text in both -/
theorem rel_text {X X' A A' : Nat → Nat → Int32} {n0 t w h : Nat} (hw : w ≤ 48) (hh : h ≤ 48) {en : tE} (hr : RelE X A n0) (hen : ∀ e, e ∈ en → enK w h e) (hx : ∀ a i, a ≤ 2 → i < n0 → X' a i = X a i) (ha : ∀ a i, a ≤ 3 → i < n0 → A' a i = A a i) (ex : ∀ i, i < en.length → X' 0 (n0 + i) = nI (sb (gE en i).1 + (gE en i).2.1) ∧ X' 1 (n0 + i) = (gE en i).2.2 ∧ X' 2 (n0 + i) = nI (t + 1)) (ea : ∀ i, i < en.length → A' 0 (n0 + i) = nI (gE en i).1 ∧ A' 1 (n0 + i) = nI (gE en i).2.1 ∧ A' 2 (n0 + i) = (gE en i).2.2 ∧ A' 3 (n0 + i) = nI (t + 1)) : RelE X' A' (n0 + en.length) := by
  intro i hi
  by_cases h1 : i < n0
  · obtain ⟨a, c, g1, g2, g3, g4, g5, g6, g7⟩ := hr i h1
    refine ⟨a, c, g1, g2, ?_, ?_, ?_, ?_, ?_⟩
    · rw [ha 0 i (by omega) h1]; exact g3
    · rw [ha 1 i (by omega) h1]; exact g4
    · rw [hx 0 i (by omega) h1]; exact g5
    · rw [hx 1 i (by omega) h1, ha 2 i (by omega) h1]; exact g6
    · rw [hx 2 i (by omega) h1, ha 3 i (by omega) h1]; exact g7
  · have e : i = n0 + (i - n0) := by omega
    have hj : i - n0 < en.length := by omega
    generalize i - n0 = j at e hj
    subst e
    have hk := enK_sb hw hh (hen _ (gE_mem hj))
    obtain ⟨u0, u1, u2⟩ := ex j hj
    obtain ⟨v0, v1, v2, v3⟩ := ea j hj
    exact ⟨_, _, hk.1, hk.2, v0, v1, u0, u1.trans v2.symm, u2.trans v3.symm⟩

/-! the reference: rowClause -/
/-- the kind, in the reference, of a CLAUSE -/
def kdM (cl : Nat) : Int32 := if cl = 5 then 0 else if cl = 6 then 2 else 1
section
variable (sc : sm_S) (I : Nat → Int32) (A : Nat → Nat → Int32) (B : Nat → Nat → Int64) (f : Nat → va_E) (n : Nat) (b : Nat → Nat) (w h p : Nat) (cl tg sh fi fp it : Nat) (cur : List Nat) (fr : tF) (bk : Nat → List Nat) (en : tE)
set_option maxHeartbeats 4000000 in
set_option maxRecDepth 20000 in
theorem mRc_tail (s0 : tS) (p0 : Nat) (hpp : p0 ≤ p) (I0 : Nat → Int32) (A0 : Nat → Nat → Int32) (hF0 : MF I0 A0 I A) (hcl : cl = 5 ∨ cl = 6 ∨ cl = 7) (x2 : Int32) (hx2 : cl = 7 → x2 = nI tg) (i0 : I 0 = nI w) (i1 : I 1 = nI h) (tk : TkM I b n p) (xb : MB bk I A) (xe : ME en I A) (hT : TI w h (4, cl, tg, sh, fi, fp, [], 0, [], bk, en) p) (hTp : TpM I A b n) (hpn : p ≤ n) (hw : w ≤ 48) (hh : h ≤ 48) (hO0 : ∀ R, Out w h b n (4, cl, tg, sh, fi, fp, [], 0, [], bk, en) p R → Out w h b n s0 p0 R) : zW 6 sc miX11_rowClause 57 [some (.ref 47), some (.int (kdM cl)), some (.int x2), none, none, none] [] (mm f I A B) (fun M r => MC w h b n s0 p0 f I0 A0 B M r) := by
  have hn := hTp.2.1
  repeat (refine zw_go rfl rfl (fun _ _ => rfl) ?_)
  refine zw_call rfl (fun _ _ => rfl) (mReadRow sc I A B f n b w h p cl tg sh fi fp bk en tk xb xe hT hTp hpn hw hh) (by decide) ?_
  intro M1 r1 hM
  rcases hM with ⟨rfl, sh4, fi4, fp4, cur4, it4, p4, I4, A4, rfl, hX4, hT4, hp4n, hp4, k44, hO4, hF4⟩ | ⟨c, e, I4, A4, rfl, hc, hc5, rfl, he, hO4, hF4⟩
  · obtain ⟨tk4, xb4, xe4, xn4, _⟩ := hX4
    have xn4 := xn4 (by omega)
    have hFF := mf_tr hF0 hF4
    have hks4 := tk_small (b := b) (n := n) (p := p4)
    have hphi4 := phi_lt hks4
    have hf4 : ful w h (11, cl, tg, sh4, fi4, fp4, cur4, it4, [], bk, en) (tkK b n p4) (tkN b n p4) (tkP b n p4) = if tkK b n p4 = 44 then .inl (4, cl, tg, sh4, fi4, fp4, cur4, it4, [], bk, en) else if tkK b n p4 = 41 ∧ ([] : tF) ≠ [] then clR cl tg sh4 fi4 fp4 cur4 bk en (tkP b n p4) [] else if tkK b n p4 = 59 ∧ ([] : tF) = [] then .inl (0, cl, tg, sh4, fi4, fp4, cur4, it4, [], clB cl tg cur4 bk, clE w h cl tg cur4 en) else bad 1 (tkP b n p4) := rfl
    rw [if_neg k44, if_neg (fun z => z.2 rfl)] at hf4
    have hcl4 : cur4.length ≤ 200 := hT4.2.1.1
    have hcne : cur4 ≠ [] := hT4.2.2.2.2.2.2.2.2.2.1 (by omega)
    have hpos : 0 < cur4.length := by
      cases cur4 with
      | nil => exact absurd rfl hcne
      | cons _ _ => rw [List.length_cons]; omega
    repeat (refine zw_go rfl rfl (fun _ _ => rfl) ?_)
    rw [tk4.2.1]
    by_cases k59 : tkK b n p4 = 59
    · rw [if_pos ⟨k59, rfl⟩] at hf4
      have hti4 := ti_ful hw hh hn hp4n hT4 hf4
      have eB : clB cl tg cur4 bk = bk := by unfold clB; rw [if_neg (by omega)]
      rw [eB] at hf4 hti4
      have hlen : (clE w h cl tg cur4 en).length ≤ 4800 := by
        have h1 : (clE w h cl tg cur4 en).length + 16 * 0 ≤ 16 * tkX b n p4 := hti4.1.2.2.2.2.2.2.2.2.2.2.1
        have := tkX_le (b := b) hp4n
        omega
      have e15 : I4 15 = nI cur4.length := xn4.1
      have e12 : ∀ i, i < cur4.length → A4 12 i = nI (gl cur4 i) := xn4.2.2.2
      have f0 : I4 0 = nI w := by rw [hF4.1 0 (by omega)]; exact i0
      have f1 : I4 1 = nI h := by rw [hF4.1 1 (by omega)]; exact i1
      -- the end
      have fin : ∀ (I' : Nat → Int32) (A' : Nat → Nat → Int32), (∀ z, z ≠ 18 → I' z = I4 z) → (∀ a, a < 16 ∨ 18 < a → A' a = A4 a) → ME (clE w h cl tg cur4 en) I' A' → MC w h b n s0 p0 f I0 A0 B (mm f I' A' B) (some (.int 0)) := fun I' A' h1 h2 h3 => Or.inl ⟨rfl, cl, tg, sh4, fi4, fp4, cur4, it4, bk, clE w h cl tg cur4 en, p4, I', A', rfl, by unfold TkM; rw [h1 8 (by omega), h1 10 (by omega), h1 9 (by omega), h1 11 (by omega)]; exact tk4, mb_cong xb4 (h1 14 (by omega)) (h2 10 (by omega)) (h2 9 (by omega)) (h2 11 (by omega)), h3, hti4.1, hp4n, by omega, fun R hR => hO0 R (hO4 R (out_go hf4 hR)), mf_tr hFF ⟨fun z hz => h1 z (by omega), fun a ha => h2 a (by omega)⟩⟩
      -- what is behind the numbers
      have rest : zW 6 sc miX11_rowClause 122 [some (.ref 47), some (.int (kdM cl)), some (.int x2), none, some (.int (stI cur4 cur4.length)), some (.int (nI cur4.length))] [] (mm f I4 A4 B) (fun M r => MC w h b n s0 p0 f I0 A0 B M r) := by
        rcases hcl with rfl | rfl | rfl
        · have eE : clE w h 5 tg cur4 en = en ++ tabE (thE cur4) w := rfl
          rw [eE, List.length_append, tabE_len] at hlen
          have loop : ∀ (z i : Nat) (I' : Nat → Int32) (A' : Nat → Nat → Int32), i + z = w → (∀ z, z ≠ 18 → I' z = I4 z) → (∀ a, a < 16 ∨ 18 < a → A' a = A4 a) → ME (en ++ tabE (thE cur4) i) I' A' → zW 6 sc miX11_rowClause 138 [some (.ref 47), some (.int 0), none, none, none, some (.int (nI i))] [] (mm f I' A' B) (fun M r => MC w h b n s0 p0 f I0 A0 B M r) := by
            intro z
            induction z with
            | zero =>
              intro i I' A' hi h1 h2 h3
              have e : i = w := by omega
              subst e
              refine zw_nx rfl (fun _ _ => rfl) ?_
              repeat (refine zw_go rfl rfl (fun _ _ => rfl) ?_)
              rw [h1 0 (by omega), f0]
              first | refine zw_br rfl (fun _ _ => rfl) (fun _ => ?_) (fun h9 => absurd (nI_le (a := i) (b := i) (by omega) (by omega)) h9) | refine zw_nx rfl (fun _ _ => rfl) ?_
              repeat (refine zw_go rfl rfl (fun _ _ => rfl) ?_)
              refine zw_nx rfl (fun _ _ => rfl) ?_
              repeat (refine zw_go rfl rfl (fun _ _ => rfl) ?_)
              exact zw_ret rfl (fun _ _ => rfl) (fin I' A' h1 h2 h3)
            | succ z ih =>
              intro i I' A' hi h1 h2 h3
              have hl : (en ++ tabE (thE cur4) i).length = en.length + i := by rw [List.length_append, tabE_len]
              refine zw_nx rfl (fun _ _ => rfl) ?_
              repeat (refine zw_go rfl rfl (fun _ _ => rfl) ?_)
              rw [h1 0 (by omega), f0]
              first | refine zw_br rfl (fun _ _ => rfl) (fun h9 => absurd h9 (nI_ge (a := i) (b := w) (by omega) (by omega))) (fun _ => ?_) | refine zw_nx rfl (fun _ _ => rfl) ?_
              repeat (refine zw_go rfl rfl (fun _ _ => rfl) ?_)
              rw [h1 15 (by omega), e15]
              have hz : ¬ nI cur4.length = 0 := nI_ne0 hpos (by omega)
              refine zw_nx rfl (fun cal k => if_neg hz) ?_
              have hm := Nat.mod_lt i hpos
              rw [pk_rem (by omega) hpos (by omega)]
              refine zw_ix rfl (fun _ _ => rfl) (show vp_in (nI ((i % cur4.length))) _ from vp_in_nI (by omega) (by omega)) ?_
              rw [show (nI ((i % cur4.length))).toNatClampNeg = (i % cur4.length) from nI_clamp (by omega)]
              repeat (refine zw_go rfl rfl (fun _ _ => rfl) ?_)
              rw [h2 12 (by omega), e12 _ hm]
              refine zw_call rfl (fun _ _ => rfl) (mBring sc I' A' B f (nI 0) (nI i) (nI (gl cur4 (i % cur4.length))) (en ++ tabE (thE cur4) i).length (by omega) h3.1) (by decide) ?_
              rintro M1 r1 ⟨rfl, rfl⟩
              have hnx := ih (i + 1) (upd I' 18 (nI ((en ++ tabE (thE cur4) i).length + 1))) (brA A' (en ++ tabE (thE cur4) i).length (nI 0) (nI i) (nI (gl cur4 (i % cur4.length)))) (by omega) (fun z hz => by unfold upd; rw [if_neg hz]; exact h1 z hz) (fun a ha => by unfold brA va_up; rw [if_neg (by omega), if_neg (by omega), if_neg (by omega)]; exact h2 a ha) (by
                have := me_add (k := 0) (a := i) (v := nI (gl cur4 (i % cur4.length))) (I' := upd I' 18 (nI ((en ++ tabE (thE cur4) i).length + 1))) (A' := brA A' (en ++ tabE (thE cur4) i).length (nI 0) (nI i) (nI (gl cur4 (i % cur4.length)))) h3 rfl rfl rfl rfl
                rw [List.append_assoc] at this
                exact this)
              rw [nI_succ i] at hnx
              repeat (refine zw_go rfl rfl (fun _ _ => rfl) ?_)
              exact zw_kp hnx
          repeat (refine zw_go rfl rfl (fun _ _ => rfl) ?_)
          exact zw_kp (loop w 0 I4 A4 (by omega) (fun _ _ => rfl) (fun _ _ => rfl) (by rw [show en ++ tabE (thE cur4) 0 = en from List.append_nil en]; exact xe4))
        · have eE : clE w h 6 tg cur4 en = en ++ tabE (trE cur4) h := rfl
          rw [eE, List.length_append, tabE_len] at hlen
          have loop : ∀ (z i : Nat) (I' : Nat → Int32) (A' : Nat → Nat → Int32), i + z = h → (∀ z, z ≠ 18 → I' z = I4 z) → (∀ a, a < 16 ∨ 18 < a → A' a = A4 a) → ME (en ++ tabE (trE cur4) i) I' A' → zW 6 sc miX11_rowClause 179 [some (.ref 47), some (.int 2), none, none, none, some (.int (nI i))] [] (mm f I' A' B) (fun M r => MC w h b n s0 p0 f I0 A0 B M r) := by
            intro z
            induction z with
            | zero =>
              intro i I' A' hi h1 h2 h3
              have e : i = h := by omega
              subst e
              refine zw_nx rfl (fun _ _ => rfl) ?_
              repeat (refine zw_go rfl rfl (fun _ _ => rfl) ?_)
              rw [h1 1 (by omega), f1]
              first | refine zw_br rfl (fun _ _ => rfl) (fun _ => ?_) (fun h9 => absurd (nI_le (a := i) (b := i) (by omega) (by omega)) h9) | refine zw_nx rfl (fun _ _ => rfl) ?_
              repeat (refine zw_go rfl rfl (fun _ _ => rfl) ?_)
              exact zw_ret rfl (fun _ _ => rfl) (fin I' A' h1 h2 h3)
            | succ z ih =>
              intro i I' A' hi h1 h2 h3
              have hl : (en ++ tabE (trE cur4) i).length = en.length + i := by rw [List.length_append, tabE_len]
              refine zw_nx rfl (fun _ _ => rfl) ?_
              repeat (refine zw_go rfl rfl (fun _ _ => rfl) ?_)
              rw [h1 1 (by omega), f1]
              first | refine zw_br rfl (fun _ _ => rfl) (fun h9 => absurd h9 (nI_ge (a := i) (b := h) (by omega) (by omega))) (fun _ => ?_) | refine zw_nx rfl (fun _ _ => rfl) ?_
              repeat (refine zw_go rfl rfl (fun _ _ => rfl) ?_)
              rw [h1 15 (by omega), e15]
              have hz : ¬ nI cur4.length = 0 := nI_ne0 hpos (by omega)
              refine zw_nx rfl (fun cal k => if_neg hz) ?_
              have hm := Nat.mod_lt i hpos
              rw [pk_rem (by omega) hpos (by omega)]
              refine zw_ix rfl (fun _ _ => rfl) (show vp_in (nI ((i % cur4.length))) _ from vp_in_nI (by omega) (by omega)) ?_
              rw [show (nI ((i % cur4.length))).toNatClampNeg = (i % cur4.length) from nI_clamp (by omega)]
              repeat (refine zw_go rfl rfl (fun _ _ => rfl) ?_)
              rw [h2 12 (by omega), e12 _ hm]
              repeat (refine zw_go rfl rfl (fun _ _ => rfl) ?_)
              refine zw_call rfl (fun _ _ => rfl) (mBring sc I' A' B f (nI 2) (nI i) ((1 : Int32) <<< (nI (gl cur4 (i % cur4.length)) &&& 31)) (en ++ tabE (trE cur4) i).length (by omega) h3.1) (by decide) ?_
              rintro M1 r1 ⟨rfl, rfl⟩
              have hnx := ih (i + 1) (upd I' 18 (nI ((en ++ tabE (trE cur4) i).length + 1))) (brA A' (en ++ tabE (trE cur4) i).length (nI 2) (nI i) ((1 : Int32) <<< (nI (gl cur4 (i % cur4.length)) &&& 31))) (by omega) (fun z hz => by unfold upd; rw [if_neg hz]; exact h1 z hz) (fun a ha => by unfold brA va_up; rw [if_neg (by omega), if_neg (by omega), if_neg (by omega)]; exact h2 a ha) (by
                have := me_add (k := 2) (a := i) (v := (1 : Int32) <<< (nI (gl cur4 (i % cur4.length)) &&& 31)) (I' := upd I' 18 (nI ((en ++ tabE (trE cur4) i).length + 1))) (A' := brA A' (en ++ tabE (trE cur4) i).length (nI 2) (nI i) ((1 : Int32) <<< (nI (gl cur4 (i % cur4.length)) &&& 31))) h3 rfl rfl rfl rfl
                rw [List.append_assoc] at this
                exact this)
              rw [nI_succ i] at hnx
              repeat (refine zw_go rfl rfl (fun _ _ => rfl) ?_)
              exact zw_kp hnx
          repeat (refine zw_go rfl rfl (fun _ _ => rfl) ?_)
          refine zw_nx rfl (fun _ _ => rfl) ?_
          repeat (refine zw_go rfl rfl (fun _ _ => rfl) ?_)
          exact zw_kp (loop h 0 I4 A4 (by omega) (fun _ _ => rfl) (fun _ _ => rfl) (by rw [show en ++ tabE (trE cur4) 0 = en from List.append_nil en]; exact xe4))
        · have eE : clE w h 7 tg cur4 en = en ++ [(1, tg, stI cur4 cur4.length)] := rfl
          rw [eE, List.length_append, List.length_singleton] at hlen
          rw [hx2 rfl]
          repeat (refine zw_go rfl rfl (fun _ _ => rfl) ?_)
          refine zw_call rfl (fun _ _ => rfl) (mBring sc I4 A4 B f (nI 1) (nI tg) (stI cur4 cur4.length) en.length (by omega) xe4.1) (by decide) ?_
          rintro M1 r1 ⟨rfl, rfl⟩
          repeat (refine zw_go rfl rfl (fun _ _ => rfl) ?_)
          refine zw_nx rfl (fun _ _ => rfl) ?_
          repeat (refine zw_go rfl rfl (fun _ _ => rfl) ?_)
          refine zw_nx rfl (fun _ _ => rfl) ?_
          repeat (refine zw_go rfl rfl (fun _ _ => rfl) ?_)
          exact zw_ret rfl (fun _ _ => rfl) (fin (upd I4 18 (nI (en.length + 1))) (brA A4 en.length (nI 1) (nI tg) (stI cur4 cur4.length)) (fun z hz => by unfold upd; rw [if_neg hz]) (fun a ha => by unfold brA va_up; rw [if_neg (by omega), if_neg (by omega), if_neg (by omega)]) (me_add (k := 1) (a := tg) (v := stI cur4 cur4.length) (I' := upd I4 18 (nI (en.length + 1))) (A' := brA A4 en.length (nI 1) (nI tg) (stI cur4 cur4.length)) xe4 rfl rfl rfl rfl))
      have loop : ∀ (z i : Nat), i + z = cur4.length → zW 6 sc miX11_rowClause 93 [some (.ref 47), some (.int (kdM cl)), some (.int x2), none, some (.int (stI cur4 i)), some (.int (nI i))] [] (mm f I4 A4 B) (fun M r => MC w h b n s0 p0 f I0 A0 B M r) := by
        intro z
        induction z with
        | zero =>
          intro i hi
          have e : i = cur4.length := by omega
          subst e
          refine zw_nx rfl (fun _ _ => rfl) ?_
          repeat (refine zw_go rfl rfl (fun _ _ => rfl) ?_)
          rw [e15]
          first | refine zw_br rfl (fun _ _ => rfl) (fun _ => ?_) (fun h9 => absurd (nI_le (a := cur4.length) (b := cur4.length) (by omega) (by omega)) h9) | refine zw_nx rfl (fun _ _ => rfl) ?_
          exact rest
        | succ z ih =>
          intro i hi
          have hnx := ih (i + 1) (by omega)
          refine zw_nx rfl (fun _ _ => rfl) ?_
          repeat (refine zw_go rfl rfl (fun _ _ => rfl) ?_)
          rw [e15]
          first | refine zw_br rfl (fun _ _ => rfl) (fun h9 => absurd h9 (nI_ge (a := i) (b := cur4.length) (by omega) (by omega))) (fun _ => ?_) | refine zw_nx rfl (fun _ _ => rfl) ?_
          repeat (refine zw_go rfl rfl (fun _ _ => rfl) ?_)
          refine zw_ix rfl (fun _ _ => rfl) (show vp_in (nI (i)) _ from vp_in_nI (by omega) (by omega)) ?_
          rw [show (nI (i)).toNatClampNeg = i from nI_clamp (by omega)]
          repeat (refine zw_go rfl rfl (fun _ _ => rfl) ?_)
          rw [e12 i (by omega)]
          repeat (refine zw_go rfl rfl (fun _ _ => rfl) ?_)
          rw [nI_succ i] at hnx
          exact zw_kp hnx
      rw [k59]
      repeat (refine zw_go rfl rfl (fun _ _ => rfl) ?_)
      exact zw_kp (loop cur4.length 0 (by omega))
    · rw [if_neg (fun z => k59 z.1)] at hf4
      first | refine zw_br rfl (fun _ _ => rfl) (fun h9 => absurd h9 ((fun z => k59 ((phi_is (by omega)).mp ((nI_eq (a := phi (tkK b n p4)) (b := 59) (by omega) (by omega)).mp z))))) (fun _ => ?_) | refine zw_nx rfl (fun _ _ => rfl) ?_
      repeat (refine zw_go rfl rfl (fun _ _ => rfl) ?_)
      rw [tk4.2.2.1]
      refine zw_call rfl (fun _ _ => rfl) (mFails sc I4 A4 B f 1 (nI (tkP b n p4))) (by decide) ?_
      rintro M1 r1 ⟨rfl, rfl⟩
      exact zw_ret rfl (fun _ _ => rfl) (Or.inr ⟨1, tkP b n p4, _, A4, rfl, by omega, by omega, rfl, rfl, hO0 _ (hO4 _ (out_end hf4)), mf_tr hFF mf_13⟩)
  · repeat (refine zw_go rfl rfl (fun _ _ => rfl) ?_)
    first | refine zw_br rfl (fun _ _ => rfl) (fun h9 => absurd h9 (nI_ne0 hc (by omega))) (fun _ => ?_) | refine zw_nx rfl (fun _ _ => rfl) ?_
    repeat (refine zw_go rfl rfl (fun _ _ => rfl) ?_)
    exact zw_ret rfl (fun _ _ => rfl) (Or.inr ⟨c, e, I4, A4, rfl, hc, hc5, rfl, he, hO0 _ hO4, mf_tr hF0 hF4⟩)
end

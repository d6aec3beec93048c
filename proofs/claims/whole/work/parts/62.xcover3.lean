/-! the class: gatherGifts, markGifts -/
theorem nI_dk (i : Nat) : nI i + Int32.ofInt (-1) = kI i := by unfold kI; rw [Int32.sub_eq_add_neg]; rfl
theorem gl_mono {L : Nat → Int32} {m z y : Nat} (h : z ≤ y) : (glF L m z).length ≤ (glF L m y).length := by
  rw [gl_len, gl_len, show y = z + (y - z) by omega, cnt_app]
  omega
/-- what is later given, what like ones give -/
def GfOk (gm : Nat → Nat → Bool) (B : Nat → Nat → Int64) : Prop := (∀ t, t < 31 → B 10 t = mk (gm t) 55) ∧ (∀ i, i ≤ 31 → B 11 i = mk (laB gm i) 55) ∧ ∀ g, g < 55 → B 12 g = mk (shB gm 0 g) 55
section
variable (sc : sm_S) (I : Nat → Int32) (J : Nat → Int64) (A : Nat → Nat → Int32) (B : Nat → Nat → Int64) (tl : sm_M) (f : Nat → va_E) (w h n : Nat) (V : Nat → Int32)
set_option maxHeartbeats 4000000 in
set_option maxRecDepth 20000 in
theorem xGather (gm : Nat → Nat → Bool) (hB : ∀ t, t < 31 → B 10 t = mk (gm t) 55) : zC 2 sc 15 [.ref 33] (xm I J A B tl) (fun M r => r = none ∧ ∃ B', M = xm I J A B' tl ∧ GfOk gm B' ∧ ∀ b, b ≠ 11 → b ≠ 12 → B' b = B b) := by
  have key : ∀ (c : Nat) (g11 g12 : Nat → Int64), c ≤ 31 → (∀ j, c ≤ j → j ≤ 31 → g11 j = mk (laB gm j) 55) → (∀ g, g < 55 → g12 g = mk (shB gm c g) 55) → zW 1 sc miX1_gatherGifts 19 [some (.ref 33), some (.int (kI c)), none] [] (xm I J A (va_up (va_up B 11 g11) 12 g12) tl) (fun M r => r = none ∧ ∃ B', M = xm I J A B' tl ∧ GfOk gm B' ∧ ∀ b, b ≠ 11 → b ≠ 12 → B' b = B b) := by
    intro c
    induction c with
    | zero =>
      intro g11 g12 hc h1 h2
      refine zw_nx rfl (fun _ _ => rfl) ?_
      first | refine zw_br rfl (fun _ _ => rfl) (fun _ => ?_) (fun h9 => absurd ((by decide : kI 0 < 0)) h9) | refine zw_nx rfl (fun _ _ => rfl) ?_
      refine zw_ret rfl (fun _ _ => rfl) ?_
      refine ⟨rfl, _, rfl, ⟨hB, fun i hi => h1 i (Nat.zero_le _) hi, h2⟩, fun b h3 h4 => ?_⟩
      unfold va_up
      rw [if_neg h4, if_neg h3]
    | succ i ih =>
      intro g11 g12 hc h1 h2
      have hla : mk (laB gm i) 55 = g11 (i + 1) ||| B 10 i := by
        rw [h1 (i + 1) (Nat.le_refl _) (by omega), hB i (by omega), mk_or (by omega)]
        exact mk_cong (fun g _ => any_dn (by omega))
      have inner : ∀ (z g : Nat) (g12 : Nat → Int64), g + z = 55 → (∀ u, u < g → g12 u = mk (shB gm i u) 55) → (∀ u, g ≤ u → u < 55 → g12 u = mk (shB gm (i + 1) u) 55) → zW 1 sc miX1_gatherGifts 46 [some (.ref 33), some (.int (nI i)), some (.int (nI g))] [] (xm I J A (va_up (va_up B 11 (vp_updL g11 i (g11 (i + 1) ||| B 10 i))) 12 g12) tl) (fun M r => r = none ∧ ∃ B', M = xm I J A B' tl ∧ GfOk gm B' ∧ ∀ b, b ≠ 11 → b ≠ 12 → B' b = B b) := by
        intro z
        induction z with
        | zero =>
          intro g g12 hg q1 q2
          have e : g = 55 := by omega
          subst e
          have hn := ih (vp_updL g11 i (g11 (i + 1) ||| B 10 i)) g12 (by omega) (fun j h3 h4 => by
            unfold vp_updL
            by_cases h5 : j = i
            · subst h5; rw [if_pos rfl, ← hla]
            · rw [if_neg h5]; exact h1 j (by omega) h4) q1
          refine zw_nx rfl (fun _ _ => rfl) ?_
          repeat (refine zw_go rfl rfl (fun _ _ => rfl) ?_)
          rw [nI_dk]
          exact zw_kp hn
        | succ z ihz =>
          intro g g12 hg q1 q2
          have hsh : ∀ u, shB gm i g u = (shB gm (i + 1) g u || (gm i g && gm i u)) := fun u => any_dn (by omega)
          refine zw_nx rfl (fun _ _ => rfl) ?_
          repeat (refine zw_go rfl rfl (fun _ _ => rfl) ?_)
          refine zw_br rfl (fun _ _ => rfl) (fun h9 => absurd h9 (nI_ge (a := g) (b := 55) (by omega) (by omega))) (fun _ => ?_)
          repeat (refine zw_go rfl rfl (fun _ _ => rfl) ?_)
          refine zw_ix rfl (fun _ _ => rfl) (show vp_in (nI (i)) _ from vp_in_nI (by omega) (by omega)) ?_
          rw [show (nI (i)).toNatClampNeg = i from nI_clamp (by omega)]
          repeat (refine zw_go rfl rfl (fun _ _ => rfl) ?_)
          refine zw_call rfl (fun _ _ => rfl) (cHasN sc _ (B 10 i) (i := g) (by omega)) (by decide) ?_
          rintro M1 r1 ⟨rfl, rfl⟩
          rw [show lb (B 10 i) g = gm i g by rw [hB i (by omega), lb_mk_in (by omega) (by omega)]]
          cases hb : gm i g
          · have hn := ihz (g + 1) g12 (by omega) (fun u hu => by
              by_cases h3 : u = g
              · subst h3
                rw [q2 u (Nat.le_refl _) (by omega)]
                exact mk_cong (fun v _ => by rw [hsh v, hb, Bool.false_and, Bool.or_false])
              · exact q1 u (by omega)) (fun u h3 h4 => q2 u (by omega) h4)
            rw [nI_succ] at hn
            repeat (refine zw_go rfl rfl (fun _ _ => rfl) ?_)
            exact zw_kp hn
          · have hn := ihz (g + 1) (vp_updL g12 g (g12 g ||| B 10 i)) (by omega) (fun u hu => by
              unfold vp_updL
              by_cases h3 : u = g
              · subst h3
                rw [if_pos rfl, q2 u (Nat.le_refl _) (by omega), hB i (by omega), mk_or (by omega)]
                exact mk_cong (fun v _ => by rw [hsh v, hb, Bool.true_and])
              · rw [if_neg h3]; exact q1 u (by omega)) (fun u h3 h4 => by
              unfold vp_updL
              rw [if_neg (by omega)]; exact q2 u (by omega) h4)
            rw [nI_succ] at hn
            repeat (refine zw_go rfl rfl (fun _ _ => rfl) ?_)
            refine zw_ix rfl (fun _ _ => rfl) (show vp_in (nI (g)) _ from vp_in_nI (by omega) (by omega)) ?_
            rw [show (nI (g)).toNatClampNeg = g from nI_clamp (by omega)]
            repeat (refine zw_go rfl rfl (fun _ _ => rfl) ?_)
            refine zw_ix rfl (fun _ _ => rfl) (show vp_in (nI (i)) _ from vp_in_nI (by omega) (by omega)) ?_
            rw [show (nI (i)).toNatClampNeg = i from nI_clamp (by omega)]
            repeat (refine zw_go rfl rfl (fun _ _ => rfl) ?_)
            refine zw_ix rfl (fun _ _ => rfl) (show vp_in (nI (g)) _ from vp_in_nI (by omega) (by omega)) ?_
            rw [show (nI (g)).toNatClampNeg = g from nI_clamp (by omega)]
            repeat (refine zw_go rfl rfl (fun _ _ => rfl) ?_)
            exact zw_kp hn
      have hi := inner 55 0 g12 (by omega) (fun u hu => by omega) (fun u _ hu => h2 u hu)
      rw [show kI (i + 1) = nI i from nI_pred i]
      refine zw_nx rfl (fun _ _ => rfl) ?_
      first | refine zw_br rfl (fun _ _ => rfl) (fun h9 => absurd h9 (nI_neg (show i < 2 ^ 31 by omega))) (fun _ => ?_) | refine zw_nx rfl (fun _ _ => rfl) ?_
      repeat (refine zw_go rfl rfl (fun _ _ => rfl) ?_)
      rw [show nI i + Int32.ofInt 1 = nI (i + 1) from nI_1 i]
      refine zw_ix rfl (fun _ _ => rfl) (show vp_in (nI ((i + 1))) _ from vp_in_nI (by omega) (by omega)) ?_
      rw [show (nI ((i + 1))).toNatClampNeg = (i + 1) from nI_clamp (by omega)]
      repeat (refine zw_go rfl rfl (fun _ _ => rfl) ?_)
      refine zw_ix rfl (fun _ _ => rfl) (show vp_in (nI (i)) _ from vp_in_nI (by omega) (by omega)) ?_
      rw [show (nI (i)).toNatClampNeg = i from nI_clamp (by omega)]
      repeat (refine zw_go rfl rfl (fun _ _ => rfl) ?_)
      refine zw_ix rfl (fun _ _ => rfl) (show vp_in (nI (i)) _ from vp_in_nI (by omega) (by omega)) ?_
      rw [show (nI (i)).toNatClampNeg = i from nI_clamp (by omega)]
      repeat (refine zw_go rfl rfl (fun _ _ => rfl) ?_)
      exact zw_kp hi
  refine zc_of hkX1_gatherGifts rfl ?_
  repeat (refine zw_go rfl rfl (fun _ _ => rfl) ?_)
  refine zw_call rfl (fun _ _ => rfl) (cFillL sc (xm I J A B tl) 37 32 (B 11) 0 rfl rfl (by decide)) (by decide) ?_
  rintro M1 r1 ⟨rfl, rfl⟩
  repeat (refine zw_go rfl rfl (fun _ _ => rfl) ?_)
  refine zw_call rfl (fun _ _ => rfl) (cFillL sc (xm I J A (va_up B 11 (fun j => if j < 32 then 0 else B 11 j)) tl) 38 55 (B 12) 0 rfl rfl (by decide)) (by decide) ?_
  rintro M1 r1 ⟨rfl, rfl⟩
  have st := key 31 (fun j => if j < 32 then 0 else B 11 j) (fun j => if j < 55 then 0 else B 12 j) (by omega) (fun j h1 h2 => by
    have e : j = 31 := by omega
    subst e
    show (if 31 < 32 then (0 : Int64) else _) = _
    rw [if_pos (by omega), ← mk_false 55]
    exact mk_cong (fun g _ => any_hi.symm)) (fun g hg => by
    show (if g < 55 then (0 : Int64) else _) = _
    rw [if_pos hg, ← mk_false 55]
    exact mk_cong (fun u _ => any_hi.symm))
  repeat (refine zw_go rfl rfl (fun _ _ => rfl) ?_)
  exact zw_kp st
set_option maxHeartbeats 4000000 in
set_option maxRecDepth 20000 in
theorem xMarkGifts (K L : Nat → Int32) (m k : Nat) (hm : m ≤ 5) (hk : k ≤ 31) (h35 : I 35 = nI m) (h36 : I 36 = nI k) (hL : ∀ i, i < m → A 15 i = L i) (hK : ∀ t, t < k → A 16 t = K t) : zC 3 sc 14 [.ref 33] (xm I J A B tl) (fun M r => r = none ∧ ∃ I' A' B', M = xm I' J A' B' tl ∧ I' 37 = nI (glF L m (16 * m)).length ∧ GfOk (gmF K L k (glF L m (16 * m))) B' ∧ (∀ z, z ≠ 37 → I' z = I z) ∧ (∀ a, a ≠ 17 → A' a = A a) ∧ ∀ b, b ≠ 10 → b ≠ 11 → b ≠ 12 → B' b = B b) := by
  refine zc_of hkX1_markGifts rfl ?_
  repeat (refine zw_go rfl rfl (fun _ _ => rfl) ?_)
  refine zw_call rfl (fun _ _ => rfl) (xSortShafts sc I J A B tl L m hm h35 hL) (by decide) ?_
  rintro M1 r1 ⟨rfl, rfl⟩
  have p17 : ∀ s, s < 16 → va_up A 17 (wr (fun s => ptF L s m) (A 17) 16) 17 s = ptF L s m := fun s hs => wr_in (F := fun s => ptF L s m) (g := A 17) hs
  have a17 : ∀ a, a ≠ 17 → va_up A 17 (wr (fun s => ptF L s m) (A 17) 16) a = A a := fun a ha => by unfold va_up; rw [if_neg ha]
  generalize va_up A 17 (wr (fun s => ptF L s m) (A 17) 16) = A1 at p17 a17 ⊢
  have hL1 : ∀ i, i < m → A1 15 i = L i := fun i hi => by rw [a17 15 (by decide)]; exact hL i hi
  have hK1 : ∀ t, t < k → A1 16 t = K t := fun t ht => by rw [a17 16 (by decide)]; exact hK t ht
  repeat (refine zw_go rfl rfl (fun _ _ => rfl) ?_)
  refine zw_call rfl (fun _ _ => rfl) (cFillL sc (xm I J A1 B tl) 36 31 (B 10) 0 rfl rfl (by decide)) (by decide) ?_
  rintro M1 r1 ⟨rfl, rfl⟩
  have outer : ∀ (y i : Nat) (g : Nat → Int64), i + y = m → (∀ t, t < 31 → g t = mk (gmF K L k (glF L m (16 * i)) t) 55) → zW 2 sc miX1_markGifts 19 [some (.ref 33), some (.int (nI i)), none] [] (xm (upd I 37 (nI (glF L m (16 * i)).length)) J A1 (va_up B 10 g) tl) (fun M r => r = none ∧ ∃ I' A' B', M = xm I' J A' B' tl ∧ I' 37 = nI (glF L m (16 * m)).length ∧ GfOk (gmF K L k (glF L m (16 * m))) B' ∧ (∀ z, z ≠ 37 → I' z = I z) ∧ (∀ a, a ≠ 17 → A' a = A a) ∧ ∀ b, b ≠ 10 → b ≠ 11 → b ≠ 12 → B' b = B b) := by
    intro y
    induction y with
    | zero =>
      intro i g hi hg
      have e : i = m := by omega
      subst e
      refine zw_nx rfl (fun _ _ => rfl) ?_
      repeat (refine zw_go rfl rfl (fun _ _ => rfl) ?_)
      first | refine zw_br rfl (fun _ _ => rfl) (fun _ => ?_) (fun h9 => absurd (show I 35 ≤ nI i by rw [h35]; exact Int32.le_refl _) h9) | refine zw_nx rfl (fun _ _ => rfl) ?_
      repeat (refine zw_go rfl rfl (fun _ _ => rfl) ?_)
      refine zw_call rfl (fun _ _ => rfl) (xGather sc (upd I 37 (nI (glF L i (16 * i)).length)) J A1 (va_up B 10 g) tl (gmF K L k (glF L i (16 * i))) hg) (by decide) ?_
      rintro M1 r1 ⟨rfl, B', rfl, hG, hB'⟩
      refine zw_ret rfl (fun _ _ => rfl) ?_
      refine ⟨rfl, _, A1, B', rfl, rfl, hG, fun z hz => by unfold upd; rw [if_neg hz], a17, fun b b0 b1 b2 => ?_⟩
      rw [hB' b b1 b2]
      unfold va_up
      rw [if_neg b0]
    | succ y ih =>
      intro i g hi hg
      have inner : ∀ (u s : Nat) (g : Nat → Int64), s + u = 16 → (∀ t, t < 31 → g t = mk (gmF K L k (glF L m (16 * i + s)) t) 55) → zW 2 sc miX1_markGifts 34 [some (.ref 33), some (.int (nI i)), some (.int (nI s))] [] (xm (upd I 37 (nI (glF L m (16 * i + s)).length)) J A1 (va_up B 10 g) tl) (fun M r => r = none ∧ ∃ I' A' B', M = xm I' J A' B' tl ∧ I' 37 = nI (glF L m (16 * m)).length ∧ GfOk (gmF K L k (glF L m (16 * m))) B' ∧ (∀ z, z ≠ 37 → I' z = I z) ∧ (∀ a, a ≠ 17 → A' a = A a) ∧ ∀ b, b ≠ 10 → b ≠ 11 → b ≠ 12 → B' b = B b) := by
        intro u
        induction u with
        | zero =>
          intro s g hs hg
          have e : s = 16 := by omega
          subst e
          have hn := ih (i + 1) g (by omega) (by rw [show 16 * (i + 1) = 16 * i + 16 by omega]; exact hg)
          rw [nI_succ, show 16 * (i + 1) = 16 * i + 16 by omega] at hn
          refine zw_nx rfl (fun _ _ => rfl) ?_
          repeat (refine zw_go rfl rfl (fun _ _ => rfl) ?_)
          exact zw_kp hn
        | succ u ihu =>
          intro s g hs hg
          have eP : glP L m (16 * i + s) = (ib (L i) s && repB L m s) := by
            unfold glP
            rw [show (16 * i + s) / 16 = i by omega, show (16 * i + s) % 16 = s by omega]
          have no : (ib (L i) s && repB L m s) = false → zW 2 sc miX1_markGifts 34 [some (.ref 33), some (.int (nI i)), some (.int (nI s + 1))] [] (xm (upd I 37 (nI (glF L m (16 * i + s)).length)) J A1 (va_up B 10 g) tl) (fun M r => r = none ∧ ∃ I' A' B', M = xm I' J A' B' tl ∧ I' 37 = nI (glF L m (16 * m)).length ∧ GfOk (gmF K L k (glF L m (16 * m))) B' ∧ (∀ z, z ≠ 37 → I' z = I z) ∧ (∀ a, a ≠ 17 → A' a = A a) ∧ ∀ b, b ≠ 10 → b ≠ 11 → b ≠ 12 → B' b = B b) := fun hno => by
            have e : glF L m (16 * i + (s + 1)) = glF L m (16 * i + s) := by rw [← Nat.add_assoc, glF, eP, hno, if_neg (by decide)]
            have hn := ihu (s + 1) g (by omega) (by rw [e]; exact hg)
            rw [nI_succ, e] at hn
            exact hn
          refine zw_nx rfl (fun _ _ => rfl) ?_
          repeat (refine zw_go rfl rfl (fun _ _ => rfl) ?_)
          refine zw_br rfl (fun _ _ => rfl) (fun h9 => absurd h9 (nI_ge (a := s) (b := 16) (by omega) (by omega))) (fun _ => ?_)
          repeat (refine zw_go rfl rfl (fun _ _ => rfl) ?_)
          refine zw_ix rfl (fun _ _ => rfl) (show vp_in (nI (i)) _ from vp_in_nI (by omega) (by omega)) ?_
          rw [show (nI (i)).toNatClampNeg = i from nI_clamp (by omega)]
          repeat (refine zw_go rfl rfl (fun _ _ => rfl) ?_)
          rw [hL1 i (by omega)]
          refine zw_call rfl (fun _ _ => rfl) (cHasN sc _ (L i).toInt64 (i := s) (by omega)) (by decide) ?_
          rintro M1 r1 ⟨rfl, rfl⟩
          rw [lb_i2l _ (by omega)]
          cases hb : ib (L i) s
          · have hn := no (by rw [hb]; rfl)
            repeat (refine zw_go rfl rfl (fun _ _ => rfl) ?_)
            exact zw_kp hn
          · repeat (refine zw_go rfl rfl (fun _ _ => rfl) ?_)
            refine zw_ix rfl (fun _ _ => rfl) (show vp_in (nI (s)) _ from vp_in_nI (by omega) (by omega)) ?_
            rw [show (nI (s)).toNatClampNeg = s from nI_clamp (by omega)]
            repeat (refine zw_go rfl rfl (fun _ _ => rfl) ?_)
            rw [p17 s (by omega)]
            refine zw_call rfl (fun _ _ => rfl) (xIsInP sc (upd I 37 (nI (glF L m (16 * i + s)).length)) J A1 (va_up B 10 g) tl s (ptF L s m) (by omega)) (by decide) ?_
            rintro M1 r1 ⟨rfl, rfl⟩
            have er : repB L m s = !anyB (fun t => decide (A1 17 t = ptF L s m)) s := by
              unfold repB
              have : anyB (fun t => decide (ptF L t m = ptF L s m)) s = anyB (fun t => decide (A1 17 t = ptF L s m)) s := by
                rw [Bool.eq_iff_iff, anyB_iff, anyB_iff]
                constructor
                · rintro ⟨t, h1, h2⟩; exact ⟨t, h1, by rw [p17 t (by omega)]; exact h2⟩
                · rintro ⟨t, h1, h2⟩; exact ⟨t, h1, by rw [p17 t (by omega)] at h2; exact h2⟩
              rw [this]
            cases ha : anyB (fun t => decide (A1 17 t = ptF L s m)) s
            · have hyes : glP L m (16 * i + s) = true := by rw [eP, hb, er, ha]; rfl
              have e : glF L m (16 * i + (s + 1)) = glF L m (16 * i + s) ++ [(i, s)] := by
                rw [← Nat.add_assoc, glF, hyes, if_pos rfl, show (16 * i + s) / 16 = i by omega, show (16 * i + s) % 16 = s by omega]
              have hlen : (glF L m (16 * i + s)).length < 55 := by
                have h1 := gl_mono (L := L) (m := m) (z := 16 * i + (s + 1)) (y := 16 * m) (by omega)
                have h2 := gl_55 (L := L) hm
                rw [e, List.length_append, List.length_singleton] at h1
                omega
              repeat (refine zw_go rfl rfl (fun _ _ => rfl) ?_)
              refine zw_ix rfl (fun _ _ => rfl) (show vp_in (nI (i)) _ from vp_in_nI (by omega) (by omega)) ?_
              rw [show (nI (i)).toNatClampNeg = i from nI_clamp (by omega)]
              repeat (refine zw_go rfl rfl (fun _ _ => rfl) ?_)
              rw [hL1 i (by omega)]
              refine zw_call rfl (fun _ _ => rfl) (xMarkGift sc (upd I 37 (nI (glF L m (16 * i + s)).length)) J A1 (va_up B 10 g) tl K L k (glF L m (16 * i + s)) i s (by omega) hk h36 rfl hlen hK1 hg) (by decide) ?_
              rintro M1 r1 ⟨rfl, g', rfl, hg'⟩
              rw [va_up_up]
              have hn := ihu (s + 1) g' (by omega) (by rw [e]; exact hg')
              rw [nI_succ, e, List.length_append, List.length_singleton, nI_succ] at hn
              repeat (refine zw_go rfl rfl (fun _ _ => rfl) ?_)
              exact zw_kp hn
            · have hn := no (by rw [hb, er, ha]; rfl)
              repeat (refine zw_go rfl rfl (fun _ _ => rfl) ?_)
              exact zw_kp hn
      have hi2 := inner 16 0 g (by omega) hg
      refine zw_nx rfl (fun _ _ => rfl) ?_
      repeat (refine zw_go rfl rfl (fun _ _ => rfl) ?_)
      first | refine zw_br rfl (fun _ _ => rfl) (fun h9 => absurd h9 (show ¬ I 35 ≤ nI i by rw [h35]; exact nI_ge (by omega) (by omega))) (fun _ => ?_) | refine zw_nx rfl (fun _ _ => rfl) ?_
      repeat (refine zw_go rfl rfl (fun _ _ => rfl) ?_)
      refine zw_br rfl (fun _ _ => rfl) (fun h9 => absurd h9 (nI_ge (a := i) (b := 5) (by omega) (by omega))) (fun _ => ?_)
      repeat (refine zw_go rfl rfl (fun _ _ => rfl) ?_)
      exact zw_kp hi2
  have st := outer m 0 (fun j => if j < 31 then 0 else B 10 j) (by omega) (fun t ht => by
    show (if t < 31 then (0 : Int64) else _) = _
    rw [if_pos ht, ← mk_false 55]
    exact mk_cong (fun g _ => (gm_hi (Nat.zero_le _)).symm))
  repeat (refine zw_go rfl rfl (fun _ _ => rfl) ?_)
  exact zw_kp st
end

/-! the reference: gather, findCommons -/
theorem bitI1 {q i : Nat} (hi : i < 32) : (nI q >>> (nI i &&& 31)) &&& 1 = if q.testBit i then 1 else 0 := by
  rw [ib_low, ib_sshr _ hi, ib_nat hi]
section
variable (sc : sm_S) (I : Nat → Int32) (A : Nat → Nat → Int32) (B : Nat → Nat → Int64) (f : Nat → va_E) (w h n : Nat) (V : Nat → Int32)
set_option maxHeartbeats 4000000 in
set_option maxRecDepth 20000 in
theorem mGather (hM : MH I A w h n V) : zC 5 sc 231 [.ref 47] (mm f I A B) (fun M r => r = none ∧ ∃ x g A' B', M = mm f (upd I 21 (nI x)) (va_up A' 22 g) B' ∧ x ≤ 6 ∧ MK I A B I A' B' ∧ ((5 < x ∧ 5 < (gat (uL V w) h).length) ∨ ((gat (uL V w) h).length ≤ 5 ∧ x = (gat (uL V w) h).length ∧ ∀ i, i < (gat (uL V w) h).length → g i = li (gat (uL V w) h) i))) := by
  have hMM := hM
  obtain ⟨h0, h1, hw1, hw, hh1, hh, h4, hn, hv, hV⟩ := hM
  refine zc_of hkX11_gather rfl ?_
  repeat (refine zw_go rfl rfl (fun _ _ => rfl) ?_)
  refine zw_call rfl (fun _ _ => rfl) (mD sc I A B f w h n V hMM) (by decide) ?_
  rintro M1 r1 ⟨rfl, A', B', rfl, hD⟩
  repeat (refine zw_go rfl rfl (fun _ _ => rfl) ?_)
  refine zw_call rfl (fun _ _ => rfl) (mUsed sc I A' B' f w h n V (mh_mk hMM (dr_mk hD)) hD.1) (by decide) ?_
  rintro M1 r1 ⟨rfl, rfl⟩
  have hF : ∀ p, p < h → A' 7 p &&& usF V w = uL V w p := fun p hp => by rw [hD.2.2.2.1 p hp]; rfl
  have key : ∀ (k p : Nat) (g : Nat → Int32), p + k = h → (gat (uL V w) p).length ≤ 6 → (∀ i, i < (gat (uL V w) p).length → g i = li (gat (uL V w) p) i) → zW 4 sc miX11_gather 16 [some (.ref 47), some (.int (usF V w)), some (.int (nI p)), none, none, none] [] (mm f (upd I 21 (nI (gat (uL V w) p).length)) (va_up A' 22 g) B') (fun M r => r = none ∧ ∃ x g A' B', M = mm f (upd I 21 (nI x)) (va_up A' 22 g) B' ∧ x ≤ 6 ∧ MK I A B I A' B' ∧ ((5 < x ∧ 5 < (gat (uL V w) h).length) ∨ ((gat (uL V w) h).length ≤ 5 ∧ x = (gat (uL V w) h).length ∧ ∀ i, i < (gat (uL V w) h).length → g i = li (gat (uL V w) h) i))) := by
    intro k
    induction k with
    | zero =>
      intro p g hp hl hg
      have e : p = h := by omega
      subst e
      refine zw_nx rfl (fun _ _ => rfl) ?_
      repeat (refine zw_go rfl rfl (fun _ _ => rfl) ?_)
      first | refine zw_br rfl (fun _ _ => rfl) (fun _ => ?_) (fun h9 => absurd (show I 1 ≤ nI p by rw [h1]; exact Int32.le_refl _) h9) | refine zw_nx rfl (fun _ _ => rfl) ?_
      refine zw_ret rfl (fun _ _ => rfl) ?_
      refine ⟨rfl, _, g, A', B', rfl, hl, dr_mk hD, ?_⟩
      rcases Nat.lt_or_ge 5 (gat (uL V w) p).length with h5 | h5
      · exact Or.inl ⟨h5, h5⟩
      · exact Or.inr ⟨h5, rfl, hg⟩
    | succ k ih =>
      intro p g hp hl hg
      refine zw_nx rfl (fun _ _ => rfl) ?_
      repeat (refine zw_go rfl rfl (fun _ _ => rfl) ?_)
      first | refine zw_br rfl (fun _ _ => rfl) (fun h9 => absurd h9 (show ¬ I 1 ≤ nI p by rw [h1]; exact nI_ge (by omega) (by omega))) (fun _ => ?_) | refine zw_nx rfl (fun _ _ => rfl) ?_
      repeat (refine zw_go rfl rfl (fun _ _ => rfl) ?_)
      rw [show upd I 21 (nI (gat (uL V w) p).length) 21 = nI (gat (uL V w) p).length from rfl]
      by_cases h6 : 5 < (gat (uL V w) p).length
      · first | refine zw_br rfl (fun _ _ => rfl) (fun _ => ?_) (fun h9 => absurd (nI_lt (a := 5) (b := (gat (uL V w) p).length) h6 (by omega)) h9) | refine zw_nx rfl (fun _ _ => rfl) ?_
        refine zw_ret rfl (fun _ _ => rfl) ?_
        exact ⟨rfl, _, g, A', B', rfl, hl, dr_mk hD, Or.inl ⟨h6, Nat.lt_of_lt_of_le h6 (gat_le (by omega))⟩⟩
      · first | refine zw_br rfl (fun _ _ => rfl) (fun h9 => absurd h9 (nI_nlt (a := 5) (b := (gat (uL V w) p).length) (by omega) (by omega))) (fun _ => ?_) | refine zw_nx rfl (fun _ _ => rfl) ?_
        repeat (refine zw_go rfl rfl (fun _ _ => rfl) ?_)
        refine zw_ix rfl (fun _ _ => rfl) (show vp_in (nI (p)) _ from vp_in_nI (by omega) (by omega)) ?_
        rw [show (nI (p)).toNatClampNeg = p from nI_clamp (by omega)]
        repeat (refine zw_go rfl rfl (fun _ _ => rfl) ?_)
        rw [show va_up A' 22 g 7 p &&& usF V w = uL V w p from hF p (by omega)]
        have same : (uL V w p = 0 ∨ uL V w p ∈ gat (uL V w) p) → ∀ x5 : Int32, zW 4 sc miX11_gather 93 [some (.ref 47), some (.int (usF V w)), some (.int (nI p)), some (.int (uL V w p)), some (.int 0), some (.int x5)] [] (mm f (upd I 21 (nI (gat (uL V w) p).length)) (va_up A' 22 g) B') (fun M r => r = none ∧ ∃ x g A' B', M = mm f (upd I 21 (nI x)) (va_up A' 22 g) B' ∧ x ≤ 6 ∧ MK I A B I A' B' ∧ ((5 < x ∧ 5 < (gat (uL V w) h).length) ∨ ((gat (uL V w) h).length ≤ 5 ∧ x = (gat (uL V w) h).length ∧ ∀ i, i < (gat (uL V w) h).length → g i = li (gat (uL V w) h) i))) := fun hs x5 => by
          have e : gat (uL V w) (p + 1) = gat (uL V w) p := by rw [gat, if_pos hs]
          have hn := ih (p + 1) g (by omega) (by rw [e]; exact hl) (by rw [e]; exact hg)
          rw [nI_succ, e] at hn
          repeat (refine zw_go rfl rfl (fun _ _ => rfl) ?_)
          exact zw_kp hn
        have inner : ¬ uL V w p = 0 → ∀ (z i : Nat), i + z = (gat (uL V w) p).length → (∀ j, j < i → g j ≠ uL V w p) → zW 4 sc miX11_gather 55 [some (.ref 47), some (.int (usF V w)), some (.int (nI p)), some (.int (uL V w p)), some (.int 1), some (.int (nI i))] [] (mm f (upd I 21 (nI (gat (uL V w) p).length)) (va_up A' 22 g) B') (fun M r => r = none ∧ ∃ x g A' B', M = mm f (upd I 21 (nI x)) (va_up A' 22 g) B' ∧ x ≤ 6 ∧ MK I A B I A' B' ∧ ((5 < x ∧ 5 < (gat (uL V w) h).length) ∨ ((gat (uL V w) h).length ≤ 5 ∧ x = (gat (uL V w) h).length ∧ ∀ i, i < (gat (uL V w) h).length → g i = li (gat (uL V w) h) i))) := by
          intro hv z
          induction z with
          | zero =>
            intro i hi hno
            have hnm : ¬ uL V w p ∈ gat (uL V w) p := fun hm => by
              obtain ⟨j, j1, j2⟩ := mem_li hm
              exact hno j (by omega) (by rw [hg j j1]; exact j2)
            have e : gat (uL V w) (p + 1) = gat (uL V w) p ++ [uL V w p] := by rw [gat, if_neg (fun q => q.elim hv hnm)]
            have hn := ih (p + 1) (upd g (gat (uL V w) p).length (uL V w p)) (by omega) (by rw [e, List.length_append, List.length_singleton]; omega) (fun i hi => by
              rw [e] at hi ⊢
              rw [List.length_append, List.length_singleton] at hi
              unfold upd
              by_cases h7 : i = (gat (uL V w) p).length
              · rw [if_pos h7, h7, li_end]
              · rw [if_neg h7, li_app (by omega)]; exact hg i (by omega))
            rw [nI_succ, e, List.length_append, List.length_singleton, nI_succ] at hn
            refine zw_nx rfl (fun _ _ => rfl) ?_
            repeat (refine zw_go rfl rfl (fun _ _ => rfl) ?_)
            first | refine zw_br rfl (fun _ _ => rfl) (fun _ => ?_) (fun h9 => absurd (show nI (gat (uL V w) p).length ≤ nI i from nI_le (by omega) (by omega)) h9) | refine zw_nx rfl (fun _ _ => rfl) ?_
            repeat (refine zw_go rfl rfl (fun _ _ => rfl) ?_)
            rw [show upd I 21 (nI (gat (uL V w) p).length) 21 = nI (gat (uL V w) p).length from rfl]
            refine zw_ix rfl (fun _ _ => rfl) (show vp_in (nI ((gat (uL V w) p).length)) _ from vp_in_nI (by omega) (by omega)) ?_
            rw [show (nI ((gat (uL V w) p).length)).toNatClampNeg = (gat (uL V w) p).length from nI_clamp (by omega)]
            repeat (refine zw_go rfl rfl (fun _ _ => rfl) ?_)
            exact zw_kp hn
          | succ z ihz =>
            intro i hi hno
            refine zw_nx rfl (fun _ _ => rfl) ?_
            repeat (refine zw_go rfl rfl (fun _ _ => rfl) ?_)
            first | refine zw_br rfl (fun _ _ => rfl) (fun h9 => absurd h9 (show ¬ nI (gat (uL V w) p).length ≤ nI i from nI_ge (by omega) (by omega))) (fun _ => ?_) | refine zw_nx rfl (fun _ _ => rfl) ?_
            repeat (refine zw_go rfl rfl (fun _ _ => rfl) ?_)
            refine zw_ix rfl (fun _ _ => rfl) (show vp_in (nI (i)) _ from vp_in_nI (by omega) (by omega)) ?_
            rw [show (nI (i)).toNatClampNeg = i from nI_clamp (by omega)]
            repeat (refine zw_go rfl rfl (fun _ _ => rfl) ?_)
            refine zw_br rfl (fun _ _ => rfl) (fun (hc : g i = uL V w p) => ?_) (fun (hc : ¬ (g i = uL V w p)) => ?_)
            · have hs := same (Or.inr (by rw [← hc, hg i (by omega)]; exact li_mem (by omega))) (nI i + 1)
              repeat (refine zw_go rfl rfl (fun _ _ => rfl) ?_)
              by_cases h8 : i + 1 < (gat (uL V w) p).length
              · refine zw_nx rfl (fun _ _ => rfl) ?_
                repeat (refine zw_go rfl rfl (fun _ _ => rfl) ?_)
                first | refine zw_br rfl (fun _ _ => rfl) (fun h9 => absurd h9 (show ¬ nI (gat (uL V w) p).length ≤ nI i + 1 by rw [← nI_succ]; exact nI_ge (by omega) (by omega))) (fun _ => ?_) | refine zw_nx rfl (fun _ _ => rfl) ?_
                refine zw_nx rfl (fun _ _ => rfl) ?_
                refine zw_nx rfl (fun _ _ => rfl) ?_
                exact hs
              · refine zw_nx rfl (fun _ _ => rfl) ?_
                repeat (refine zw_go rfl rfl (fun _ _ => rfl) ?_)
                first | refine zw_br rfl (fun _ _ => rfl) (fun _ => ?_) (fun h9 => absurd (show nI (gat (uL V w) p).length ≤ nI i + 1 by rw [← nI_succ]; exact nI_le (by omega) (by omega)) h9) | refine zw_nx rfl (fun _ _ => rfl) ?_
                exact hs
            · have hn := ihz (i + 1) (by omega) (fun j hj => by
                by_cases h8 : j = i
                · subst h8; exact hc
                · exact hno j (by omega))
              rw [nI_succ] at hn
              repeat (refine zw_go rfl rfl (fun _ _ => rfl) ?_)
              exact zw_kp hn
        refine zw_br rfl (fun _ _ => rfl) (fun (hz : uL V w p = 0) => ?_) (fun (hz : ¬ (uL V w p = 0)) => ?_)
        · have hs := same (Or.inl hz) 0
          repeat (refine zw_go rfl rfl (fun _ _ => rfl) ?_)
          by_cases h8 : 0 < (gat (uL V w) p).length
          · refine zw_nx rfl (fun _ _ => rfl) ?_
            repeat (refine zw_go rfl rfl (fun _ _ => rfl) ?_)
            first | refine zw_br rfl (fun _ _ => rfl) (fun h9 => absurd h9 (show ¬ nI (gat (uL V w) p).length ≤ nI 0 from nI_ge h8 (by omega))) (fun _ => ?_) | refine zw_nx rfl (fun _ _ => rfl) ?_
            refine zw_nx rfl (fun _ _ => rfl) ?_
            refine zw_nx rfl (fun _ _ => rfl) ?_
            exact hs
          · refine zw_nx rfl (fun _ _ => rfl) ?_
            repeat (refine zw_go rfl rfl (fun _ _ => rfl) ?_)
            first | refine zw_br rfl (fun _ _ => rfl) (fun _ => ?_) (fun h9 => absurd (show nI (gat (uL V w) p).length ≤ nI 0 from nI_le (by omega) (by omega)) h9) | refine zw_nx rfl (fun _ _ => rfl) ?_
            exact hs
        · have hi := inner hz (gat (uL V w) p).length 0 (by omega) (fun j hj => by omega)
          repeat (refine zw_go rfl rfl (fun _ _ => rfl) ?_)
          exact zw_kp hi
  have st := key h 0 (A' 22) (by omega) (by rw [gat]; exact Nat.zero_le _) (fun i hi => by rw [gat] at hi; exact absurd hi (Nat.not_lt_zero _))
  rw [va_up_id] at st
  repeat (refine zw_go rfl rfl (fun _ _ => rfl) ?_)
  exact zw_kp st
set_option maxHeartbeats 4000000 in
set_option maxRecDepth 20000 in
theorem mFindCommons (L : Nat → Int32) (m : Nat) (hm : m ≤ 5) (h21 : I 21 = nI m) (hL : ∀ i, i < m → A 22 i = L i) : zC 1 sc 232 [.ref 47] (mm f I A B) (fun M r => r = none ∧ ∃ K k, M = mm f (upd I 22 (nI k)) (va_up A 23 K) B ∧ k ≤ 31 ∧ Enm K k (tieS L m (2 ^ m))) := by
  have p5 := pow5 m hm
  have key : ∀ (j q : Nat) (K : Nat → Int32) (k : Nat), q + j = 2 ^ m → 1 ≤ q → k + 1 ≤ q → Enm K k (tieS L m q) → zW 0 sc miX11_findCommons 7 [some (.ref 47), some (.int (nI q)), none, none, none] [] (mm f (upd I 22 (nI k)) (va_up A 23 K) B) (fun M r => r = none ∧ ∃ K k, M = mm f (upd I 22 (nI k)) (va_up A 23 K) B ∧ k ≤ 31 ∧ Enm K k (tieS L m (2 ^ m))) := by
    intro j
    induction j with
    | zero =>
      intro q K k hq h1 hk hE
      have e : q = 2 ^ m := by omega
      subst e
      refine zw_nx rfl (fun _ _ => rfl) ?_
      repeat (refine zw_go rfl rfl (fun _ _ => rfl) ?_)
      rw [show upd I 22 (nI k) 21 = nI m from h21, shl_pow m hm]
      first | refine zw_br rfl (fun _ _ => rfl) (fun _ => ?_) (fun h9 => absurd (Int32.le_refl _) h9) | refine zw_nx rfl (fun _ _ => rfl) ?_
      exact zw_ret rfl (fun _ _ => rfl) (⟨rfl, K, k, rfl, by omega, hE⟩)
    | succ j ih =>
      intro q K k hq h1 hk hE
      have same : (anF L q m = 0 ∨ tieS L m q (anF L q m)) → ∀ u : Nat, zW 0 sc miX11_findCommons 156 [some (.ref 47), some (.int (nI q)), some (.int (anF L q m)), some (.int (nI u)), none] [] (mm f (upd I 22 (nI k)) (va_up A 23 K) B) (fun M r => r = none ∧ ∃ K k, M = mm f (upd I 22 (nI k)) (va_up A 23 K) B ∧ k ≤ 31 ∧ Enm K k (tieS L m (2 ^ m))) := fun hs u => by
        have hn := ih (q + 1) K k (by omega) (by omega) (by omega) (enm_S hE (tie_no hs))
        rw [nI_succ] at hn
        repeat (refine zw_go rfl rfl (fun _ _ => rfl) ?_)
        exact zw_kp hn
      have shift : ∀ u, u ≤ k → (∀ i, i < u → K i < anF L q m) → (∀ i, u ≤ i → i < k → anF L q m < K i) → ¬ anF L q m = 0 → ∀ (z : Nat) (g : Nat → Int32), u + z ≤ k → (∀ i, i ≤ u + z → i < k → g i = K i) → (∀ i, u + z < i → i ≤ k → g i = K (i - 1)) → zW 0 sc miX11_findCommons 111 [some (.ref 47), some (.int (nI q)), some (.int (anF L q m)), some (.int (nI u)), some (.int (nI (u + z)))] [] (mm f (upd I 22 (nI k)) (va_up A 23 g) B) (fun M r => r = none ∧ ∃ K k, M = mm f (upd I 22 (nI k)) (va_up A 23 K) B ∧ k ≤ 31 ∧ Enm K k (tieS L m (2 ^ m))) := by
        intro u hu u1 u2 hv z
        induction z with
        | zero =>
          intro g hz g1 g2
          have hn := ih (q + 1) (upd g u (anF L q m)) (k + 1) (by omega) (by omega) (by omega) (enm_S (enm_cong (enm_ins hE hu u1 u2) (fun i hi => by
            unfold insK upd
            by_cases h5 : i = u
            · rw [if_pos h5, if_neg (by omega), if_pos h5]
            · rw [if_neg h5]
              by_cases h6 : i < u
              · rw [if_pos h6]; exact g1 i (by omega) (by omega)
              · rw [if_neg h6, if_neg h5]; exact g2 i (by omega) (by omega))) (tie_yes h1 hv))
          rw [nI_succ q, nI_succ k] at hn
          refine zw_nx rfl (fun _ _ => rfl) ?_
          repeat (refine zw_go rfl rfl (fun _ _ => rfl) ?_)
          first | refine zw_br rfl (fun _ _ => rfl) (fun _ => ?_) (fun h9 => absurd (Int32.le_refl _) h9) | refine zw_nx rfl (fun _ _ => rfl) ?_
          repeat (refine zw_go rfl rfl (fun _ _ => rfl) ?_)
          refine zw_ix rfl (fun _ _ => rfl) (show vp_in (nI (u)) _ from vp_in_nI (by omega) (by omega)) ?_
          rw [show (nI (u)).toNatClampNeg = u from nI_clamp (by omega)]
          repeat (refine zw_go rfl rfl (fun _ _ => rfl) ?_)
          exact zw_kp hn
        | succ z ihz =>
          intro g hz g1 g2
          have hn := ihz (upd g (u + z + 1) (g (u + z))) (by omega) (fun i h5 h6 => by
            unfold upd
            rw [if_neg (by omega)]; exact g1 i (by omega) h6) (fun i h5 h6 => by
            unfold upd
            by_cases h7 : i = u + z + 1
            · rw [if_pos h7, h7, Nat.add_sub_cancel]; exact g1 (u + z) (by omega) (by omega)
            · rw [if_neg h7]; exact g2 i (by omega) h6)
          rw [show u + (z + 1) = u + z + 1 by omega]
          refine zw_nx rfl (fun _ _ => rfl) ?_
          repeat (refine zw_go rfl rfl (fun _ _ => rfl) ?_)
          first | refine zw_br rfl (fun _ _ => rfl) (fun h9 => absurd h9 (show ¬ nI (u + z + 1) ≤ nI u from nI_ge (by omega) (by omega))) (fun _ => ?_) | refine zw_nx rfl (fun _ _ => rfl) ?_
          repeat (refine zw_go rfl rfl (fun _ _ => rfl) ?_)
          rw [show nI (u + z + 1) - Int32.ofInt 1 = nI (u + z) from nI_pred (u + z)]
          refine zw_ix rfl (fun _ _ => rfl) (show vp_in (nI ((u + z))) _ from vp_in_nI (by omega) (by omega)) ?_
          rw [show (nI ((u + z))).toNatClampNeg = (u + z) from nI_clamp (by omega)]
          repeat (refine zw_go rfl rfl (fun _ _ => rfl) ?_)
          refine zw_ix rfl (fun _ _ => rfl) (show vp_in (nI ((u + z + 1))) _ from vp_in_nI (by omega) (by omega)) ?_
          rw [show (nI ((u + z + 1))).toNatClampNeg = (u + z + 1) from nI_clamp (by omega)]
          repeat (refine zw_go rfl rfl (fun _ _ => rfl) ?_)
          rw [nI_dn]
          exact zw_kp hn
      have find : ∀ (z u : Nat), u + z = k → (∀ i, i < u → K i < anF L q m) → zW 0 sc miX11_findCommons 56 [some (.ref 47), some (.int (nI q)), some (.int (anF L q m)), some (.int (nI u)), none] [] (mm f (upd I 22 (nI k)) (va_up A 23 K) B) (fun M r => r = none ∧ ∃ K k, M = mm f (upd I 22 (nI k)) (va_up A 23 K) B ∧ k ≤ 31 ∧ Enm K k (tieS L m (2 ^ m))) := by
        intro z
        have fin : ∀ u, u ≤ k → (∀ i, i < u → K i < anF L q m) → (u < k → anF L q m ≤ K u) → zW 0 sc miX11_findCommons 80 [some (.ref 47), some (.int (nI q)), some (.int (anF L q m)), some (.int (nI u)), none] [] (mm f (upd I 22 (nI k)) (va_up A 23 K) B) (fun M r => r = none ∧ ∃ K k, M = mm f (upd I 22 (nI k)) (va_up A 23 K) B ∧ k ≤ 31 ∧ Enm K k (tieS L m (2 ^ m))) := by
          intro u hu u1 u2
          refine zw_nx rfl (fun _ _ => rfl) ?_
          refine zw_br rfl (fun _ _ => rfl) (fun (hv : anF L q m = 0) => ?_) (fun (hv : ¬ (anF L q m = 0)) => ?_)
          · exact same (Or.inl hv) u
          · repeat (refine zw_go rfl rfl (fun _ _ => rfl) ?_)
            rw [show upd I 22 (nI k) 22 = nI k from rfl]
            by_cases huk : u < k
            · first | refine zw_br rfl (fun _ _ => rfl) (fun h9 => absurd h9 (nI_ge (a := u) (b := k) huk (by omega))) (fun _ => ?_) | refine zw_nx rfl (fun _ _ => rfl) ?_
              repeat (refine zw_go rfl rfl (fun _ _ => rfl) ?_)
              refine zw_ix rfl (fun _ _ => rfl) (show vp_in (nI (u)) _ from vp_in_nI (by omega) (by omega)) ?_
              rw [show (nI (u)).toNatClampNeg = u from nI_clamp (by omega)]
              repeat (refine zw_go rfl rfl (fun _ _ => rfl) ?_)
              refine zw_br rfl (fun _ _ => rfl) (fun (hc : K u = anF L q m) => ?_) (fun (hc : ¬ (K u = anF L q m)) => ?_)
              · have hs := same (Or.inr ((hE.2 _).mp ⟨u, huk, hc⟩)) u
                refine zw_nx rfl (fun _ _ => rfl) ?_
                exact hs
              · have hlt : anF L q m < K u := Int32.lt_of_le_of_ne (u2 huk) (fun z => hc z.symm)
                have hs := shift u hu u1 (fun i h5 h6 => by
                  by_cases h7 : i = u
                  · subst h7; exact hlt
                  · exact Int32.lt_trans hlt (hE.1 u i (by omega) h6)) hv (k - u) K (by omega) (fun _ _ _ => rfl) (fun i h5 h6 => by omega)
                rw [show u + (k - u) = k by omega] at hs
                repeat (refine zw_go rfl rfl (fun _ _ => rfl) ?_)
                exact zw_kp hs
            · have e : u = k := by omega
              subst e
              have hs := shift u hu u1 (fun i h5 h6 => by omega) hv 0 K (by omega) (fun _ _ _ => rfl) (fun i h5 h6 => by omega)
              first | refine zw_br rfl (fun _ _ => rfl) (fun _ => ?_) (fun h9 => absurd (Int32.le_refl _) h9) | refine zw_nx rfl (fun _ _ => rfl) ?_
              repeat (refine zw_go rfl rfl (fun _ _ => rfl) ?_)
              exact zw_kp hs
        induction z with
        | zero =>
          intro u hu u1
          have e : u = k := by omega
          subst e
          refine zw_nx rfl (fun _ _ => rfl) ?_
          repeat (refine zw_go rfl rfl (fun _ _ => rfl) ?_)
          first | refine zw_br rfl (fun _ _ => rfl) (fun _ => ?_) (fun h9 => absurd (show nI u ≤ nI u from Int32.le_refl _) h9) | refine zw_nx rfl (fun _ _ => rfl) ?_
          exact fin u (Nat.le_refl _) u1 (fun h5 => by omega)
        | succ z ihz =>
          intro u hu u1
          refine zw_nx rfl (fun _ _ => rfl) ?_
          repeat (refine zw_go rfl rfl (fun _ _ => rfl) ?_)
          first | refine zw_br rfl (fun _ _ => rfl) (fun h9 => absurd h9 (show ¬ nI k ≤ nI u from nI_ge (by omega) (by omega))) (fun _ => ?_) | refine zw_nx rfl (fun _ _ => rfl) ?_
          repeat (refine zw_go rfl rfl (fun _ _ => rfl) ?_)
          refine zw_ix rfl (fun _ _ => rfl) (show vp_in (nI (u)) _ from vp_in_nI (by omega) (by omega)) ?_
          rw [show (nI (u)).toNatClampNeg = u from nI_clamp (by omega)]
          repeat (refine zw_go rfl rfl (fun _ _ => rfl) ?_)
          refine zw_br rfl (fun _ _ => rfl) (fun (hc : anF L q m ≤ K u) => ?_) (fun (hc : ¬ (anF L q m ≤ K u)) => ?_)
          · exact fin u (by omega) u1 (fun _ => hc)
          · have hn := ihz (u + 1) (by omega) (fun i hi => by
              by_cases h7 : i = u
              · subst h7; exact Int32.not_le.mp hc
              · exact u1 i (by omega))
            rw [nI_succ] at hn
            repeat (refine zw_go rfl rfl (fun _ _ => rfl) ?_)
            exact zw_kp hn
      have inner : ∀ (z i : Nat), i + z = m → zW 0 sc miX11_findCommons 22 [some (.ref 47), some (.int (nI q)), some (.int (anF L q i)), some (.int (nI i)), none] [] (mm f (upd I 22 (nI k)) (va_up A 23 K) B) (fun M r => r = none ∧ ∃ K k, M = mm f (upd I 22 (nI k)) (va_up A 23 K) B ∧ k ≤ 31 ∧ Enm K k (tieS L m (2 ^ m))) := by
        intro z
        induction z with
        | zero =>
          intro i hi
          have e : i = m := by omega
          subst e
          have hf := find k 0 (by omega) (fun i hi => by omega)
          refine zw_nx rfl (fun _ _ => rfl) ?_
          repeat (refine zw_go rfl rfl (fun _ _ => rfl) ?_)
          first | refine zw_br rfl (fun _ _ => rfl) (fun _ => ?_) (fun h9 => absurd (show I 21 ≤ nI i by rw [h21]; exact Int32.le_refl _) h9) | refine zw_nx rfl (fun _ _ => rfl) ?_
          repeat (refine zw_go rfl rfl (fun _ _ => rfl) ?_)
          exact zw_kp hf
        | succ z ihz =>
          intro i hi
          have hn := ihz (i + 1) (by omega)
          rw [nI_succ, anF] at hn
          refine zw_nx rfl (fun _ _ => rfl) ?_
          repeat (refine zw_go rfl rfl (fun _ _ => rfl) ?_)
          first | refine zw_br rfl (fun _ _ => rfl) (fun h9 => absurd h9 (show ¬ I 21 ≤ nI i by rw [h21]; exact nI_ge (by omega) (by omega))) (fun _ => ?_) | refine zw_nx rfl (fun _ _ => rfl) ?_
          repeat (refine zw_go rfl rfl (fun _ _ => rfl) ?_)
          rw [show (nI q >>> (nI i &&& 31)) &&& Int32.ofInt 1 = if q.testBit i then 1 else 0 from bitI1 (by omega)]
          cases hb : q.testBit i
          · rw [hb, if_neg (by decide)] at hn
            repeat (refine zw_go rfl rfl (fun _ _ => rfl) ?_)
            exact zw_kp hn
          · rw [hb, if_pos (by decide), ← hL i (by omega)] at hn
            repeat (refine zw_go rfl rfl (fun _ _ => rfl) ?_)
            refine zw_ix rfl (fun _ _ => rfl) (show vp_in (nI (i)) _ from vp_in_nI (by omega) (by omega)) ?_
            rw [show (nI (i)).toNatClampNeg = i from nI_clamp (by omega)]
            repeat (refine zw_go rfl rfl (fun _ _ => rfl) ?_)
            exact zw_kp hn
      have hn := inner m 0 (by omega)
      refine zw_nx rfl (fun _ _ => rfl) ?_
      repeat (refine zw_go rfl rfl (fun _ _ => rfl) ?_)
      rw [show upd I 22 (nI k) 21 = nI m from h21, shl_pow m hm]
      first | refine zw_br rfl (fun _ _ => rfl) (fun h9 => absurd h9 (nI_ge (a := q) (b := 2 ^ m) (by omega) (by omega))) (fun _ => ?_) | refine zw_nx rfl (fun _ _ => rfl) ?_
      repeat (refine zw_go rfl rfl (fun _ _ => rfl) ?_)
      exact zw_kp hn
  refine zc_of hkX11_findCommons rfl ?_
  repeat (refine zw_go rfl rfl (fun _ _ => rfl) ?_)
  have st := key (2 ^ m - 1) 1 (A 23) 0 (by have := Nat.one_le_two_pow (n := m); omega) (by omega) (by omega) ⟨fun i j _ h2 => by omega, fun x => ⟨fun ⟨i, h1, _⟩ => by omega, fun ⟨_, z, h1, h2, _⟩ => by omega⟩⟩
  rw [va_up_id] at st
  exact zw_kp st
end

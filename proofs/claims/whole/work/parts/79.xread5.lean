/-! the class: its reader, clauses that end; steps -/
section
variable (sc : sm_S) (I : Nat → Int32) (J : Nat → Int64) (A : Nat → Nat → Int32) (B : Nat → Nat → Int64) (tl : sm_M) (f : Nat → va_E) (n : Nat) (b : Nat → Nat) (w h n0 t0 p : Nat) (cl tg sh fi fp it : Nat) (cur : List Nat) (fr : tF) (bk : Nat → List Nat) (en : tE)
theorem min200 {k : Nat} (hk : k ≤ 200) : (if (Int16.ofInt 200).toInt32 < nI k then (Int16.ofInt 200).toInt32 else nI k) = nI k := by
  rw [if_neg (show ¬ (Int16.ofInt 200).toInt32 < nI k from nI_nlt (a := 200) (b := k) hk (by omega))]
set_option maxHeartbeats 4000000 in
set_option maxRecDepth 20000 in
theorem xKeepBlock (hX : XN cur [] I A) (xb : XB bk A) (htg : tg < 8) (h22 : I 22 = nI tg) (hc : cur.length ≤ 200) (hbk : ∀ l, (bk l).length ≤ 200) : zC 2 sc 80 [.ref 16] (xm I J A B tl) (fun M r => r = none ∧ ∃ A', M = xm I J A' B tl ∧ XB (fun z => if z = tg then cur else bk z) A' ∧ ∀ a, a ≠ 11 → a ≠ 12 → A' a = A a) := by
  have e18 : I 18 = nI cur.length := hX.1
  have vc : ∀ i, i < cur.length → A 7 i = nI (gl cur i) := hX.2.2.2
  have loop : ∀ (z i : Nat) (g : Nat → Int32), i + z = cur.length → (∀ l, l < 8 → l ≠ tg → ∀ j, j < 200 → g (l * 200 + j) = A 11 (l * 200 + j)) → (∀ j, j < i → g (tg * 200 + j) = nI (gl cur j)) → zW 1 sc miX6_keepBlock 38 [some (.ref 16), some (.int (nI i))] [] (xm I J (va_up (va_up A 12 (upd (A 12) tg (nI cur.length))) 11 g) B tl) (fun M r => r = none ∧ ∃ A', M = xm I J A' B tl ∧ (∀ l, l < 8 → A' 12 l = (if l = tg then nI cur.length else A 12 l)) ∧ (∀ l, l < 8 → l ≠ tg → ∀ j, j < 200 → A' 11 (l * 200 + j) = A 11 (l * 200 + j)) ∧ (∀ j, j < cur.length → A' 11 (tg * 200 + j) = nI (gl cur j)) ∧ ∀ a, a ≠ 11 → a ≠ 12 → A' a = A a) := by
    intro z
    induction z with
    | zero =>
      intro i g hi h1 h2
      refine zw_nx rfl (fun _ _ => rfl) ?_
      repeat (refine zw_go rfl rfl (fun _ _ => rfl) ?_)
      rw [e18]
      first | refine zw_br rfl (fun _ _ => rfl) (fun _ => ?_) (fun h9 => absurd (nI_le (a := cur.length) (b := i) (by omega) (by omega)) h9) | refine zw_nx rfl (fun _ _ => rfl) ?_
      refine zw_ret rfl (fun _ _ => rfl) ?_
      refine ⟨rfl, _, rfl, fun l hl => rfl, h1, fun j hj => h2 j (by omega), fun a h3 h4 => ?_⟩
      unfold va_up
      rw [if_neg h3, if_neg h4]
    | succ z ih =>
      intro i g hi h1 h2
      have hne := ih (i + 1) (upd g (tg * 200 + i) (A 7 i)) (by omega) (fun l hl hlt j hj => by
        unfold upd
        rw [if_neg (by
          intro h5
          rcases Nat.lt_or_gt_of_ne hlt with h6 | h6
          · have : (l + 1) * 200 ≤ tg * 200 := Nat.mul_le_mul_right 200 h6
            omega
          · have : (tg + 1) * 200 ≤ l * 200 := Nat.mul_le_mul_right 200 h6
            omega)]
        exact h1 l hl hlt j hj) (fun j hj => by
        unfold upd
        by_cases h5 : j = i
        · rw [if_pos (by omega), h5]; exact vc i (by omega)
        · rw [if_neg (by omega)]; exact h2 j (by omega))
      rw [nI_succ] at hne
      refine zw_nx rfl (fun _ _ => rfl) ?_
      repeat (refine zw_go rfl rfl (fun _ _ => rfl) ?_)
      rw [e18]
      first | refine zw_br rfl (fun _ _ => rfl) (fun h9 => absurd h9 (nI_ge (a := i) (b := cur.length) (by omega) (by omega))) (fun _ => ?_) | refine zw_nx rfl (fun _ _ => rfl) ?_
      repeat (refine zw_go rfl rfl (fun _ _ => rfl) ?_)
      refine zw_br rfl (fun _ _ => rfl) (fun h9 => absurd h9 (nI_ge (a := i) (b := 200) (by omega) (by omega))) (fun _ => ?_)
      repeat (refine zw_go rfl rfl (fun _ _ => rfl) ?_)
      refine zw_call rfl (fun _ _ => rfl) (xNumberAt sc I J (va_up (va_up A 12 (upd (A 12) tg (nI cur.length))) 11 g) B tl i (by omega)) (by decide) ?_
      rintro M1 r1 ⟨rfl, rfl⟩
      repeat (refine zw_go rfl rfl (fun _ _ => rfl) ?_)
      rw [h22, show nI tg * (Int16.ofInt 200).toInt32 + nI i = nI (tg * 200 + i) from by rw [show nI tg * (Int16.ofInt 200).toInt32 = nI (tg * 200) from nI_mul tg 200, nI_add]]
      refine zw_ix rfl (fun _ _ => rfl) (show vp_in (nI ((tg * 200 + i))) _ from vp_in_nI (by omega) (by omega)) ?_
      rw [show (nI ((tg * 200 + i))).toNatClampNeg = (tg * 200 + i) from nI_clamp (by omega)]
      repeat (refine zw_go rfl rfl (fun _ _ => rfl) ?_)
      exact zw_kp hne
  refine zc_of hkX6_keepBlock rfl ?_
  repeat (refine zw_go rfl rfl (fun _ _ => rfl) ?_)
  rw [h22]
  first | refine zw_br rfl (fun _ _ => rfl) (fun h9 => absurd h9 (nI_neg (show tg < 2 ^ 31 by omega))) (fun _ => ?_) | refine zw_nx rfl (fun _ _ => rfl) ?_
  repeat (refine zw_go rfl rfl (fun _ _ => rfl) ?_)
  rw [h22]
  first | refine zw_br rfl (fun _ _ => rfl) (fun _ => ?_) (fun h9 => absurd (nI_lt (a := tg) (b := 8) htg (by omega)) h9) | refine zw_nx rfl (fun _ _ => rfl) ?_
  repeat (refine zw_go rfl rfl (fun _ _ => rfl) ?_)
  rw [h22, e18, min200 hc]
  refine zw_ix rfl (fun _ _ => rfl) (show vp_in (nI (tg)) _ from vp_in_nI (by omega) (by omega)) ?_
  rw [show (nI (tg)).toNatClampNeg = tg from nI_clamp (by omega)]
  repeat (refine zw_go rfl rfl (fun _ _ => rfl) ?_)
  have st := loop cur.length 0 (A 11) (by omega) (fun _ _ _ _ _ => rfl) (fun j hj => by omega)
  rw [show va_up (va_up A 12 (upd (A 12) tg (nI cur.length))) 11 (A 11) = va_up A 12 (upd (A 12) tg (nI cur.length)) from va_up_id (va_up A 12 (upd (A 12) tg (nI cur.length))) 11] at st
  refine zw_post (zw_kp st) ?_
  rintro M r ⟨rfl, A', rfl, q1, q2, q3, q4⟩
  refine ⟨rfl, A', rfl, fun l hl => ?_, q4⟩
  show A' 12 l = nI (if l = tg then cur else bk l).length ∧ ∀ i, i < (if l = tg then cur else bk l).length → A' 11 (l * 200 + i) = nI (gl (if l = tg then cur else bk l) i)
  by_cases h5 : l = tg
  · subst h5
    rw [if_pos rfl, q1 l hl, if_pos rfl]
    exact ⟨rfl, q3⟩
  · rw [if_neg h5, q1 l hl, if_neg h5]
    refine ⟨(xb l hl).1, fun i hi => ?_⟩
    have hx := (xb l hl).2 i hi
    rw [q2 l hl h5 i (by have := hbk l; omega)]; exact hx
set_option maxHeartbeats 4000000 in
set_option maxRecDepth 20000 in
theorem xStageTie (hX : XN cur [] I A) (xe : XE n0 t0 en I A) (htg : tg < 16) (h22 : I 22 = nI tg) (hc : cur.length ≤ 200) (hn : n0 + en.length < 100000) : zC 2 sc 82 [.ref 16] (xm I J A B tl) (fun M r => r = none ∧ ∃ A', M = xm (upd I 3 (nI (n0 + en.length + 1))) J A' B tl ∧ XE n0 t0 (en ++ [(1, tg, stI cur cur.length)]) (upd I 3 (nI (n0 + en.length + 1))) A' ∧ (∀ a, 2 < a → A' a = A a) ∧ ∀ a i, a ≤ 2 → i < n0 → A' a i = A a i) := by
  have e18 : I 18 = nI cur.length := hX.1
  have vc : ∀ i, i < cur.length → A 7 i = nI (gl cur i) := hX.2.2.2
  have loop : ∀ (z i : Nat), i + z = cur.length → zW 1 sc miX6_stageTie 4 [some (.ref 16), some (.int (stI cur i)), some (.int (nI i))] [] (xm I J A B tl) (fun M r => r = none ∧ ∃ A', M = xm (upd I 3 (nI (n0 + en.length + 1))) J A' B tl ∧ XE n0 t0 (en ++ [(1, tg, stI cur cur.length)]) (upd I 3 (nI (n0 + en.length + 1))) A' ∧ (∀ a, 2 < a → A' a = A a) ∧ ∀ a i, a ≤ 2 → i < n0 → A' a i = A a i) := by
    intro z
    induction z with
    | zero =>
      intro i hi
      have e : i = cur.length := by omega
      subst e
      refine zw_nx rfl (fun _ _ => rfl) ?_
      repeat (refine zw_go rfl rfl (fun _ _ => rfl) ?_)
      rw [e18]
      first | refine zw_br rfl (fun _ _ => rfl) (fun _ => ?_) (fun h9 => absurd (Int32.le_refl _) h9) | refine zw_nx rfl (fun _ _ => rfl) ?_
      repeat (refine zw_go rfl rfl (fun _ _ => rfl) ?_)
      rw [h22, show (Int8.ofInt 48).toInt32 + nI tg = nI (sb 1 + tg) from nI_add 48 tg]
      refine zw_call rfl (fun _ _ => rfl) (cStage sc I J A B tl (nI (sb 1 + tg)) (stI cur cur.length) (n0 + en.length) xe.1 (by omega)) (by decide) ?_
      rintro M1 r1 ⟨rfl, rfl⟩
      exact zw_ret rfl (fun _ _ => rfl) (⟨rfl, _, rfl, xe_add xe, fun a ha => st_hi ha, fun a i ha hi => st_lo ha (by omega)⟩)
    | succ z ih =>
      intro i hi
      have hne := ih (i + 1) (by omega)
      rw [nI_succ, stI] at hne
      refine zw_nx rfl (fun _ _ => rfl) ?_
      repeat (refine zw_go rfl rfl (fun _ _ => rfl) ?_)
      rw [e18]
      first | refine zw_br rfl (fun _ _ => rfl) (fun h9 => absurd h9 (nI_ge (a := i) (b := cur.length) (by omega) (by omega))) (fun _ => ?_) | refine zw_nx rfl (fun _ _ => rfl) ?_
      repeat (refine zw_go rfl rfl (fun _ _ => rfl) ?_)
      refine zw_call rfl (fun _ _ => rfl) (xNumberAt sc I J A B tl i (by omega)) (by decide) ?_
      rintro M1 r1 ⟨rfl, rfl⟩
      rw [vc i (by omega)]
      repeat (refine zw_go rfl rfl (fun _ _ => rfl) ?_)
      exact zw_kp hne
  refine zc_of hkX6_stageTie rfl ?_
  repeat (refine zw_go rfl rfl (fun _ _ => rfl) ?_)
  exact zw_kp (loop cur.length 0 (by omega))
set_option maxHeartbeats 4000000 in
set_option maxRecDepth 20000 in
theorem xStageT (k : Nat) (hk : k ≤ 48) (hX : XN cur [] I A) (xe : XE n0 t0 en I A) (h21 : I 21 = nI 5) (hc : cur.length ≤ 200) (hpos : 0 < cur.length) (hn : n0 + en.length < 100000) : zC 2 sc 81 [.ref 16, .int (nI 0), .int (nI k)] (xm I J A B tl) (fun M r => r = none ∧ ∃ A', M = xm (upd I 3 (nI (n0 + (en ++ tabE (thE cur) k).length))) J A' B tl ∧ XE n0 t0 (en ++ tabE (thE cur) k) (upd I 3 (nI (n0 + (en ++ tabE (thE cur) k).length))) A' ∧ (∀ a, 2 < a → A' a = A a) ∧ ∀ a i, a ≤ 2 → i < n0 → A' a i = A a i) := by
  have e18 : I 18 = nI cur.length := hX.1
  have vc : ∀ i, i < cur.length → A 7 i = nI (gl cur i) := hX.2.2.2
  have loop : ∀ (z i : Nat) (A1 : Nat → Nat → Int32), i + z = k → XE n0 t0 (en ++ tabE (thE cur) i) (upd I 3 (nI (n0 + (en ++ tabE (thE cur) i).length))) A1 → (∀ a, 2 < a → A1 a = A a) → (∀ a i, a ≤ 2 → i < n0 → A1 a i = A a i) → zW 1 sc miX6_stageAlong 5 [some (.ref 16), some (.int (nI 0)), some (.int (nI k)), some (.int (nI (i % cur.length))), some (.int (nI i)), none] [] (xm (upd I 3 (nI (n0 + (en ++ tabE (thE cur) i).length))) J A1 B tl) (fun M r => r = none ∧ ∃ A', M = xm (upd I 3 (nI (n0 + (en ++ tabE (thE cur) k).length))) J A' B tl ∧ XE n0 t0 (en ++ tabE (thE cur) k) (upd I 3 (nI (n0 + (en ++ tabE (thE cur) k).length))) A' ∧ (∀ a, 2 < a → A' a = A a) ∧ ∀ a i, a ≤ 2 → i < n0 → A' a i = A a i) := by
    intro z
    induction z with
    | zero =>
      intro i A1 hi x1 x2 x3
      have e : i = k := by omega
      subst e
      refine zw_nx rfl (fun _ _ => rfl) ?_
      repeat (refine zw_go rfl rfl (fun _ _ => rfl) ?_)
      first | refine zw_br rfl (fun _ _ => rfl) (fun _ => ?_) (fun h9 => absurd (Int32.le_refl _) h9) | refine zw_nx rfl (fun _ _ => rfl) ?_
      exact zw_ret rfl (fun _ _ => rfl) (⟨rfl, A1, rfl, x1, x2, x3⟩)
    | succ z ih =>
      intro i A1 hi x1 x2 x3
      have hm := Nat.mod_lt i hpos
      have hlen : (en ++ tabE (thE cur) i).length = en.length + i := by rw [List.length_append, tabE_len]
      have hlen2 : (en ++ tabE (thE cur) (i + 1)).length = en.length + i + 1 := by rw [List.length_append, tabE_len]; omega
      have xa := xe_add (a := 0) (b := i) (v := (thE cur i).2.2) x1
      rw [show (en ++ tabE (thE cur) i) ++ [(0, i, (thE cur i).2.2)] = en ++ tabE (thE cur) (i + 1) from by rw [tabE, ← List.append_assoc]; rfl] at xa
      have hne := ih (i + 1) _ (by omega) (by
        rw [hlen2, show n0 + (en.length + i + 1) = n0 + (en ++ tabE (thE cur) i).length + 1 by omega]
        exact xe_cong xa rfl rfl (fun _ _ => rfl)) (fun a ha => (st_hi ha).trans (x2 a ha)) (fun a j ha hj => (st_lo ha (by omega)).trans (x3 a j ha hj))
      rw [nI_succ i, mod_s hpos, hlen2, show n0 + (en.length + i + 1) = n0 + (en ++ tabE (thE cur) i).length + 1 by omega] at hne
      have tail : ∀ x5 : Option Value, zW 1 sc miX6_stageAlong 47 [some (.ref 16), some (.int (nI 0)), some (.int (nI k)), some (.int (nI (i % cur.length))), some (.int (nI i)), x5] [] (xm (upd I 3 (nI (n0 + (en ++ tabE (thE cur) i).length + 1))) J (if n0 + (en ++ tabE (thE cur) i).length < 2000 then stA A1 (n0 + (en ++ tabE (thE cur) i).length) (nI (sb 0 + i)) (thE cur i).2.2 (I 4 + 1) else A1) B tl) (fun M r => r = none ∧ ∃ A', M = xm (upd I 3 (nI (n0 + (en ++ tabE (thE cur) k).length))) J A' B tl ∧ XE n0 t0 (en ++ tabE (thE cur) k) (upd I 3 (nI (n0 + (en ++ tabE (thE cur) k).length))) A' ∧ (∀ a, 2 < a → A' a = A a) ∧ ∀ a i, a ≤ 2 → i < n0 → A' a i = A a i) := by
        intro x5
        repeat (refine zw_go rfl rfl (fun _ _ => rfl) ?_)
        rw [show nI (i % cur.length) + Int32.ofInt 1 = nI (i % cur.length + 1) from nI_1 _, show upd I 3 (nI (n0 + (en ++ tabE (thE cur) i).length + 1)) 18 = nI cur.length from e18]
        by_cases hl : i % cur.length + 1 < cur.length
        · rw [if_pos hl] at hne
          first | refine zw_br rfl (fun _ _ => rfl) (fun h9 => absurd h9 (nI_ge (a := i % cur.length + 1) (b := cur.length) hl (by omega))) (fun _ => ?_) | refine zw_nx rfl (fun _ _ => rfl) ?_
          repeat (refine zw_go rfl rfl (fun _ _ => rfl) ?_)
          rw [show nI (i % cur.length) + Int32.ofInt 1 = nI (i % cur.length + 1) from nI_1 _]
          exact zw_kp hne
        · rw [if_neg hl] at hne
          first | refine zw_br rfl (fun _ _ => rfl) (fun _ => ?_) (fun h9 => absurd (nI_le (a := cur.length) (b := i % cur.length + 1) (by omega) (by omega)) h9) | refine zw_nx rfl (fun _ _ => rfl) ?_
          repeat (refine zw_go rfl rfl (fun _ _ => rfl) ?_)
          exact zw_kp hne
      refine zw_nx rfl (fun _ _ => rfl) ?_
      repeat (refine zw_go rfl rfl (fun _ _ => rfl) ?_)
      first | refine zw_br rfl (fun _ _ => rfl) (fun h9 => absurd h9 (nI_ge (a := i) (b := k) (by omega) (by omega))) (fun _ => ?_) | refine zw_nx rfl (fun _ _ => rfl) ?_
      repeat (refine zw_go rfl rfl (fun _ _ => rfl) ?_)
      refine zw_call rfl (fun _ _ => rfl) (xNumberAt sc _ J A1 B tl (i % cur.length) (by omega)) (by decide) ?_
      rintro M1 r1 ⟨rfl, rfl⟩
      rw [show A1 7 (i % cur.length) = nI (gl cur (i % cur.length)) from by rw [x2 7 (by decide)]; exact vc _ hm]
      repeat (refine zw_go rfl rfl (fun _ _ => rfl) ?_)
      rw [show upd I 3 (nI (n0 + (en ++ tabE (thE cur) i).length)) 21 = nI 5 from h21, show nI 0 + nI i = nI (sb 0 + i) from nI_add 0 i]
      repeat (refine zw_go rfl rfl (fun _ _ => rfl) ?_)
      refine zw_call rfl (fun _ _ => rfl) (cStage sc _ J A1 B tl (nI (sb 0 + i)) (thE cur i).2.2 (n0 + (en ++ tabE (thE cur) i).length) rfl (by omega)) (by decide) ?_
      rintro M1 r1 ⟨rfl, rfl⟩
      exact tail _
  refine zc_of hkX6_stageAlong rfl ?_
  repeat (refine zw_go rfl rfl (fun _ _ => rfl) ?_)
  have st := loop k 0 A (by omega) (by rw [tabE, List.append_nil]; exact xe_cong xe (by show nI _ = _; exact xe.1.symm) rfl (fun _ _ => rfl)) (fun _ _ => rfl) (fun _ _ _ _ => rfl)
  rw [Nat.zero_mod, tabE, List.append_nil, ← xe.1, show upd I 3 (I 3) = I from by funext z; unfold upd; split <;> simp_all] at st
  exact zw_kp st
set_option maxHeartbeats 4000000 in
set_option maxRecDepth 20000 in
theorem xStageR (k : Nat) (hk : k ≤ 48) (hX : XN cur [] I A) (xe : XE n0 t0 en I A) (h21 : I 21 = nI 6) (hc : cur.length ≤ 200) (hpos : 0 < cur.length) (hn : n0 + en.length < 100000) : zC 2 sc 81 [.ref 16, .int (nI 64), .int (nI k)] (xm I J A B tl) (fun M r => r = none ∧ ∃ A', M = xm (upd I 3 (nI (n0 + (en ++ tabE (trE cur) k).length))) J A' B tl ∧ XE n0 t0 (en ++ tabE (trE cur) k) (upd I 3 (nI (n0 + (en ++ tabE (trE cur) k).length))) A' ∧ (∀ a, 2 < a → A' a = A a) ∧ ∀ a i, a ≤ 2 → i < n0 → A' a i = A a i) := by
  have e18 : I 18 = nI cur.length := hX.1
  have vc : ∀ i, i < cur.length → A 7 i = nI (gl cur i) := hX.2.2.2
  have loop : ∀ (z i : Nat) (A1 : Nat → Nat → Int32), i + z = k → XE n0 t0 (en ++ tabE (trE cur) i) (upd I 3 (nI (n0 + (en ++ tabE (trE cur) i).length))) A1 → (∀ a, 2 < a → A1 a = A a) → (∀ a i, a ≤ 2 → i < n0 → A1 a i = A a i) → zW 1 sc miX6_stageAlong 5 [some (.ref 16), some (.int (nI 64)), some (.int (nI k)), some (.int (nI (i % cur.length))), some (.int (nI i)), none] [] (xm (upd I 3 (nI (n0 + (en ++ tabE (trE cur) i).length))) J A1 B tl) (fun M r => r = none ∧ ∃ A', M = xm (upd I 3 (nI (n0 + (en ++ tabE (trE cur) k).length))) J A' B tl ∧ XE n0 t0 (en ++ tabE (trE cur) k) (upd I 3 (nI (n0 + (en ++ tabE (trE cur) k).length))) A' ∧ (∀ a, 2 < a → A' a = A a) ∧ ∀ a i, a ≤ 2 → i < n0 → A' a i = A a i) := by
    intro z
    induction z with
    | zero =>
      intro i A1 hi x1 x2 x3
      have e : i = k := by omega
      subst e
      refine zw_nx rfl (fun _ _ => rfl) ?_
      repeat (refine zw_go rfl rfl (fun _ _ => rfl) ?_)
      first | refine zw_br rfl (fun _ _ => rfl) (fun _ => ?_) (fun h9 => absurd (Int32.le_refl _) h9) | refine zw_nx rfl (fun _ _ => rfl) ?_
      exact zw_ret rfl (fun _ _ => rfl) (⟨rfl, A1, rfl, x1, x2, x3⟩)
    | succ z ih =>
      intro i A1 hi x1 x2 x3
      have hm := Nat.mod_lt i hpos
      have hlen : (en ++ tabE (trE cur) i).length = en.length + i := by rw [List.length_append, tabE_len]
      have hlen2 : (en ++ tabE (trE cur) (i + 1)).length = en.length + i + 1 := by rw [List.length_append, tabE_len]; omega
      have xa := xe_add (a := 2) (b := i) (v := (trE cur i).2.2) x1
      rw [show (en ++ tabE (trE cur) i) ++ [(2, i, (trE cur i).2.2)] = en ++ tabE (trE cur) (i + 1) from by rw [tabE, ← List.append_assoc]; rfl] at xa
      have hne := ih (i + 1) _ (by omega) (by
        rw [hlen2, show n0 + (en.length + i + 1) = n0 + (en ++ tabE (trE cur) i).length + 1 by omega]
        exact xe_cong xa rfl rfl (fun _ _ => rfl)) (fun a ha => (st_hi ha).trans (x2 a ha)) (fun a j ha hj => (st_lo ha (by omega)).trans (x3 a j ha hj))
      rw [nI_succ i, mod_s hpos, hlen2, show n0 + (en.length + i + 1) = n0 + (en ++ tabE (trE cur) i).length + 1 by omega] at hne
      have tail : ∀ x5 : Option Value, zW 1 sc miX6_stageAlong 47 [some (.ref 16), some (.int (nI 64)), some (.int (nI k)), some (.int (nI (i % cur.length))), some (.int (nI i)), x5] [] (xm (upd I 3 (nI (n0 + (en ++ tabE (trE cur) i).length + 1))) J (if n0 + (en ++ tabE (trE cur) i).length < 2000 then stA A1 (n0 + (en ++ tabE (trE cur) i).length) (nI (sb 2 + i)) (trE cur i).2.2 (I 4 + 1) else A1) B tl) (fun M r => r = none ∧ ∃ A', M = xm (upd I 3 (nI (n0 + (en ++ tabE (trE cur) k).length))) J A' B tl ∧ XE n0 t0 (en ++ tabE (trE cur) k) (upd I 3 (nI (n0 + (en ++ tabE (trE cur) k).length))) A' ∧ (∀ a, 2 < a → A' a = A a) ∧ ∀ a i, a ≤ 2 → i < n0 → A' a i = A a i) := by
        intro x5
        repeat (refine zw_go rfl rfl (fun _ _ => rfl) ?_)
        rw [show nI (i % cur.length) + Int32.ofInt 1 = nI (i % cur.length + 1) from nI_1 _, show upd I 3 (nI (n0 + (en ++ tabE (trE cur) i).length + 1)) 18 = nI cur.length from e18]
        by_cases hl : i % cur.length + 1 < cur.length
        · rw [if_pos hl] at hne
          first | refine zw_br rfl (fun _ _ => rfl) (fun h9 => absurd h9 (nI_ge (a := i % cur.length + 1) (b := cur.length) hl (by omega))) (fun _ => ?_) | refine zw_nx rfl (fun _ _ => rfl) ?_
          repeat (refine zw_go rfl rfl (fun _ _ => rfl) ?_)
          rw [show nI (i % cur.length) + Int32.ofInt 1 = nI (i % cur.length + 1) from nI_1 _]
          exact zw_kp hne
        · rw [if_neg hl] at hne
          first | refine zw_br rfl (fun _ _ => rfl) (fun _ => ?_) (fun h9 => absurd (nI_le (a := cur.length) (b := i % cur.length + 1) (by omega) (by omega)) h9) | refine zw_nx rfl (fun _ _ => rfl) ?_
          repeat (refine zw_go rfl rfl (fun _ _ => rfl) ?_)
          exact zw_kp hne
      refine zw_nx rfl (fun _ _ => rfl) ?_
      repeat (refine zw_go rfl rfl (fun _ _ => rfl) ?_)
      first | refine zw_br rfl (fun _ _ => rfl) (fun h9 => absurd h9 (nI_ge (a := i) (b := k) (by omega) (by omega))) (fun _ => ?_) | refine zw_nx rfl (fun _ _ => rfl) ?_
      repeat (refine zw_go rfl rfl (fun _ _ => rfl) ?_)
      refine zw_call rfl (fun _ _ => rfl) (xNumberAt sc _ J A1 B tl (i % cur.length) (by omega)) (by decide) ?_
      rintro M1 r1 ⟨rfl, rfl⟩
      rw [show A1 7 (i % cur.length) = nI (gl cur (i % cur.length)) from by rw [x2 7 (by decide)]; exact vc _ hm]
      repeat (refine zw_go rfl rfl (fun _ _ => rfl) ?_)
      rw [show upd I 3 (nI (n0 + (en ++ tabE (trE cur) i).length)) 21 = nI 6 from h21, show nI 64 + nI i = nI (sb 2 + i) from nI_add 64 i]
      repeat (refine zw_go rfl rfl (fun _ _ => rfl) ?_)
      refine zw_call rfl (fun _ _ => rfl) (cStage sc _ J A1 B tl (nI (sb 2 + i)) (trE cur i).2.2 (n0 + (en ++ tabE (trE cur) i).length) rfl (by omega)) (by decide) ?_
      rintro M1 r1 ⟨rfl, rfl⟩
      exact tail _
  refine zc_of hkX6_stageAlong rfl ?_
  repeat (refine zw_go rfl rfl (fun _ _ => rfl) ?_)
  have st := loop k 0 A (by omega) (by rw [tabE, List.append_nil]; exact xe_cong xe (by show nI _ = _; exact xe.1.symm) rfl (fun _ _ => rfl)) (fun _ _ => rfl) (fun _ _ _ _ => rfl)
  rw [Nat.zero_mod, tabE, List.append_nil, ← xe.1, show upd I 3 (I 3) = I from by funext z; unfold upd; split <;> simp_all] at st
  exact zw_kp st
end

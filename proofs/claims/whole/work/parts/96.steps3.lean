/-! BOTH TOGETHER: tape, sight, look -/
section
variable {E w h n t k nb : Nat} {b : Nat → Nat} {S : Nat → Nat → Bool} {I : Nat → Int32} {J : Nat → Int64} {A : Nat → Nat → Int32} {B : Nat → Nat → Int64} {P : Nat → Int32} {Q : Nat → Nat → Int32} {C : Nat → Nat → Int64}
variable {I' : Nat → Int32} {A' : Nat → Nat → Int32} {P' : Nat → Int32} {Q' : Nat → Nat → Int32} {n' t' k' nb' : Nat} {b' : Nat → Nat}
/-- the same edition -/
theorem gi_s (hG : GI E w h n t k nb b S I J A B P Q C) (l : LInv I' A' n t k) (hA : ∀ a i, a ≤ 2 → i < n → A' a i = A a i) (h3 : A' 3 = A 3) (ha : ∀ a, a = 5 ∨ 12 < a → A' a = A a) (hz : ∀ z, z < 2 ∨ (5 < z ∧ z < 11) ∨ (15 < z ∧ z < 18) ∨ 27 < z → I' z = I z) (tx : TpX I' A' b' nb') (tm : TpM P' Q' b' nb') (f6 : I' 26 = P' 6) (f7 : I' 27 = P' 7) (m : MInv P' Q' n t k) (r : RelE A Q' n) (p0 : P' 0 = P 0) (p1 : P' 1 = P 1) : GI E w h n t k nb' b' S I' J A' B P' Q' C := by
  obtain ⟨⟨_, e, _, _⟩, ⟨hW, q0, q1⟩, ⟨_, _, i16, i17, _, _⟩, hs, hc, he⟩ := hG
  have z6 := hz 6 (by omega)
  have z10 := hz 10 (by omega)
  have z9 := hz 9 (by omega)
  refine ⟨⟨l, eok_cong e hA, m, rel_cong r (fun i hi => hA 0 i (by omega) hi) (fun i hi => hA 1 i (by omega) hi) (fun i hi => hA 2 i (by omega) hi)⟩, ⟨?_, by rw [p0]; exact q0, by rw [p1]; exact q1⟩, ⟨tx, tm, by rw [hz 16 (by omega)]; exact i16, by rw [hz 17 (by omega)]; exact i17, f6, f7⟩, hs, ⟨?_, ?_, ?_⟩, ed_q he z6 (Or.inl z10) (Or.inl (hz 34 (by omega))) (Or.inl (hz 39 (by omega))) (Or.inl (hz 45 (by omega))) (hz 40 (by omega)) (Or.inl (hz 46 (by omega)))⟩
  · obtain ⟨w0, w1, w7, w8, w2, w3, w4, w5, wJ, wV, wC, wR⟩ := hW
    refine ⟨by rw [hz 0 (by omega)]; exact w0, by rw [hz 1 (by omega)]; exact w1, by rw [hz 7 (by omega)]; exact w7, by rw [hz 8 (by omega)]; exact w8, w2, w3, w4, w5, wJ, by rw [h3]; exact wV, ?_, wR⟩
    rw [z10, z6]
    intro hq
    have := wC hq
    unfold ClOk xUp xTi xTr xSh at this ⊢
    rw [h3, ha 5 (by omega), z9]
    exact this
  · rw [hz 34 (by omega), z6, h3]
    exact fun z => lyc_cong (hc.1 z) (fun q h1 h2 => hz q (by omega)) (ha 14 (by omega))
  · rw [hz 39 (by omega), z6, h3]
    exact fun z => cvc_cong (hc.2.1 z) (hz 38 (by omega)) (ha 18 (by omega))
  · rw [hz 45 (by omega), z6, hz 46 (by omega), hz 40 (by omega), h3]
    exact fun z z2 => mdc_cong (hc.2.2 z z2) (fun q h1 h2 => hz q (by omega)) (ha 19 (by omega))
/-- a new edition -/
theorem gi_e (hE : E < 100000) (hG : GI E w h n t k nb b S I J A B P Q C) (l : LInv I' A' n' t' k') (e : EOk A' n') (m : MInv P' Q' n' t' k') (r : RelE A' Q' n') (tx : TpX I' A' b' nb') (tm : TpM P' Q' b' nb') (f6 : I' 26 = P' 6) (f7 : I' 27 = P' 7) (hz : ∀ z, z < 2 ∨ (6 < z ∧ z < 11) ∨ (15 < z ∧ z < 18) ∨ 27 < z → I' z = I z) (h6 : I' 6 = I 6 + 1) (p0 : P' 0 = P 0) (p1 : P' 1 = P 1) : GI (E + 1) w h n' t' k' nb' b' S I' J A' B P' Q' C := by
  obtain ⟨_, ⟨hW, q0, q1⟩, ⟨_, _, i16, i17, _, _⟩, hs, hc, he⟩ := hG
  obtain ⟨ed, d10, d34, d39, d45⟩ := ed_up hE he h6 (hz 10 (by omega)) (hz 34 (by omega)) (hz 39 (by omega)) (hz 45 (by omega)) (hz 40 (by omega)) (hz 46 (by omega))
  obtain ⟨w0, w1, w7, w8, w2, w3, w4, w5, wJ, wV, wC, wR⟩ := hW
  exact ⟨⟨l, e, m, r⟩, ⟨⟨by rw [hz 0 (by omega)]; exact w0, by rw [hz 1 (by omega)]; exact w1, by rw [hz 7 (by omega)]; exact w7, by rw [hz 8 (by omega)]; exact w8, w2, w3, w4, w5, wJ, vok_V l e, fun z => absurd z d10, wR⟩, by rw [p0]; exact q0, by rw [p1]; exact q1⟩, ⟨tx, tm, by rw [hz 16 (by omega)]; exact i16, by rw [hz 17 (by omega)]; exact i17, f6, f7⟩, hs, ⟨fun z => absurd z d34, fun z => absurd z d39, fun z => absurd z d45⟩, ed⟩
theorem minv_cong (m : MInv P Q n t k) (h2 : P' 2 = P 2) (h3 : P' 3 = P 3) (h4 : P' 4 = P 4) (q0 : ∀ a i, a ≤ 3 → i < n → Q' a i = Q a i) : MInv P' Q' n t k := by
  obtain ⟨m1, m2, m3, m4, m5, m6, m7⟩ := m
  refine ⟨by rw [h4]; exact m1, by rw [h2]; exact m2, by rw [h3]; exact m3, m4, m5, m6, fun i hi => ?_⟩
  rw [q0 0 i (by omega) hi, q0 1 i (by omega) hi]
  exact m7 i hi
theorem sFeed (sc : sm_S) (hG : GI E w h n t k nb b S I J A B P Q C) (x y z u v : Int32) : SP E w h sc 120 183 [.int x, .int y, .int z, .int u, .int v] (xm I J A B (mt P Q C)) := by
  have hGG := hG
  obtain ⟨⟨l, e, m, r⟩, _, ⟨tx, tm, i16, i17, f6, f7⟩, _⟩ := hG
  refine zc_up (zc_post (xFeed (ht := tx) ..) ?_) (show 2 ≤ 12 by decide)
  rintro M rr (⟨c1, rfl, g, rfl, hg⟩ | ⟨c1, rfl, rfl⟩)
  · refine ⟨_, rfl, vk_i (by decide), xM, ?_⟩
    rw [xm_mm]
    refine zc_up (zc_post (mFeed (ht := tm) ..) ?_) (show 2 ≤ 12 by decide)
    rintro M rr (⟨c2, rfl, g', rfl, hg'⟩ | ⟨c2, _⟩)
    · refine ⟨rfl, n, t, k, nb + 20, _, S, upd I 11 (nI (nb + 20)), J, va_up A 6 g, B, upd P 5 (nI (nb + 20)), va_up Q 8 g', C, rfl, gi_mono (gi_s hGG (linv_cong l rfl rfl rfl (fun a i h1 _ => ?_) rfl rfl) (fun a i h1 _ => ?_) rfl (fun a ha => ?_) (fun z hz => ?_) ⟨rfl, c1, hg⟩ ⟨rfl, c1, hg'⟩ f6 f7 (minv_cong m rfl rfl rfl (fun a i h1 _ => ?_)) r rfl rfl)⟩
      · unfold va_up; rw [if_neg (by omega)]
      · unfold va_up; rw [if_neg (by omega)]
      · unfold va_up; rw [if_neg (by omega)]
      · unfold upd; rw [if_neg (by omega)]
      · unfold va_up; rw [if_neg (by omega)]
    · omega
  · refine ⟨_, rfl, vk_i (by decide), xM, ?_⟩
    rw [xm_mm]
    refine zc_up (zc_post (mFeed (ht := tm) ..) ?_) (show 2 ≤ 12 by decide)
    rintro M rr (⟨c2, _⟩ | ⟨c2, rfl, rfl⟩)
    · omega
    · exact ⟨rfl, n, t, k, nb, b, S, I, J, A, B, P, Q, C, rfl, gi_mono hGG⟩
theorem sEnd (sc : sm_S) (hG : GI E w h n t k nb b S I J A B P Q C) (x : Int32) : SP E w h sc 121 184 [.int x] (xm I J A B (mt P Q C)) := by
  have hGG := hG
  obtain ⟨⟨l, e, m, r⟩, _, ⟨tx, tm, i16, i17, f6, f7⟩, _⟩ := hG
  refine zc_up (zc_post (xEnd (n := nb) (h11 := tx.1) ..) ?_) (show 1 ≤ 12 by decide)
  rintro M rr (⟨c1, rfl, rfl⟩ | ⟨c1, rfl, rfl⟩)
  · refine ⟨_, rfl, vk_i (by decide), xM, ?_⟩
    rw [xm_mm]
    refine zc_up (zc_post (mEnd (n := nb) (h5 := tm.1) ..) ?_) (show 2 ≤ 12 by decide)
    rintro M rr (⟨c2, rfl, rfl⟩ | ⟨c2, _⟩)
    · have hn := tx.2.1
      obtain ⟨q, hq, rfl⟩ := nI_of (Int32.not_lt.mpr c1.1)
      have hqn : q ≤ nb := (nI_leI (by omega) (by omega)).mp c1.2
      refine ⟨rfl, n, t, k, q, b, S, upd I 11 (nI q), J, A, B, upd P 5 (nI q), Q, C, rfl, gi_mono (gi_s hGG (linv_cong l rfl rfl rfl (fun a i h1 _ => rfl) rfl rfl) (fun a i h1 _ => rfl) rfl (fun a ha => rfl) (fun z hz => ?_) ⟨rfl, by omega, fun i hi => tx.2.2 i (by omega)⟩ ⟨rfl, by omega, fun i hi => tm.2.2 i (by omega)⟩ f6 f7 (minv_cong m rfl rfl rfl (fun a i h1 _ => rfl)) r rfl rfl)⟩
      unfold upd; rw [if_neg (by omega)]
    · exact absurd c1 c2
  · refine ⟨_, rfl, vk_i (by decide), xM, ?_⟩
    rw [xm_mm]
    refine zc_up (zc_post (mEnd (n := nb) (h5 := tm.1) ..) ?_) (show 2 ≤ 12 by decide)
    rintro M rr (⟨c2, _⟩ | ⟨c2, rfl, rfl⟩)
    · exact absurd c2 c1
    · exact ⟨rfl, n, t, k, nb, b, S, I, J, A, B, P, Q, C, rfl, gi_mono hGG⟩
theorem sLook (sc : sm_S) (hE : E < 100000) (hG : GI E w h n t k nb b S I J A B P Q C) (x : Int32) : SP E w h sc 124 175 [.int x] (xm I J A B (mt P Q C)) := by
  have hGG := hG
  obtain ⟨⟨l, e, m, r⟩, _, ⟨tx, tm, i16, i17, f6, f7⟩, _⟩ := hG
  refine zc_up (zc_post (xLook (hL := l) ..) ?_) (show 5 ≤ 12 by decide)
  rintro M rr ⟨c1, c2⟩
  by_cases hx : 0 ≤ x ∧ x ≤ nI t
  · obtain ⟨rfl, A', q, rfl, hq, rfl, ha, l'⟩ := c1 hx
    refine ⟨_, rfl, vk_i (by decide), xM, ?_⟩
    rw [xm_mm]
    refine zc_up (zc_post (mLook ..) ?_) (show 2 ≤ 12 by decide)
    rintro M rr ⟨d1, d2⟩
    obtain ⟨rfl, rfl⟩ := d1 (by rw [m.2.1]; exact hx)
    refine ⟨rfl, n, t, q, nb, b, S, upd (upd I 5 (nI q)) 6 (I 6 + 1), J, A', B, upd P 3 (nI q), Q, C, rfl, gi_e hE hGG l' (eok_cong e (fun a i h1 _ => by rw [ha a (by omega) (by omega)])) ⟨m.1, m.2.1, rfl, m.2.2.2.1, m.2.2.2.2.1, hq, m.2.2.2.2.2.2⟩ (rel_cong r (fun i _ => by rw [ha 0 (by decide) (by decide)]) (fun i _ => by rw [ha 1 (by decide) (by decide)]) (fun i _ => by rw [ha 2 (by decide) (by decide)])) ⟨tx.1, tx.2.1, by rw [ha 6 (by decide) (by decide)]; exact tx.2.2⟩ tm f6 f7 (fun z hz => ?_) rfl rfl rfl⟩
    unfold upd; rw [if_neg (by omega), if_neg (by omega)]
  · obtain ⟨rfl, rfl⟩ := c2 hx
    refine ⟨_, rfl, vk_i (by decide), xM, ?_⟩
    rw [xm_mm]
    refine zc_up (zc_post (mLook ..) ?_) (show 2 ≤ 12 by decide)
    rintro M rr ⟨d1, d2⟩
    obtain ⟨rfl, rfl⟩ := d2 (by rw [m.2.1]; exact hx)
    exact ⟨rfl, n, t, k, nb, b, S, I, J, A, B, P, Q, C, rfl, gi_mono hGG⟩
theorem sSeen (sc : sm_S) (hE : E < 100000) (hG : GI E w h n t k nb b S I J A B P Q C) (y : Int32) (x : Int64) : SP E w h sc 139 236 [.int y, .long x] (xm I J A B (mt P Q C)) := by
  have hGG := hG
  have hM := gi_mh hG
  obtain ⟨⟨l, e, m, r⟩, ⟨hW, q0, q1⟩, ⟨tx, tm, i16, i17, f6, f7⟩, ⟨so, ro⟩, hc, he⟩ := hG
  refine zc_up (zc_post (xSeen (hW := hW) (hS := so) ..) ?_) (show 3 ≤ 12 by decide)
  rintro M rr ⟨rfl, (⟨c, rfl⟩ | ⟨c, B', rfl, so', hb⟩)⟩
  · refine ⟨_, rfl, vk_i (by decide), xM, ?_⟩
    rw [xm_mm]
    refine zc_up (zc_post (mSeen (hM := hM) (hS := ro) ..) ?_) (show 3 ≤ 12 by decide)
    rintro M rr ⟨rfl, (⟨c2, rfl⟩ | ⟨c2, _⟩)⟩
    · exact ⟨rfl, n, t, k, nb, b, S, I, J, A, B, P, Q, C, rfl, gi_mono hGG⟩
    · exact absurd c2 c
  · refine ⟨_, rfl, vk_i (by decide), xM, ?_⟩
    rw [xm_mm]
    refine zc_up (zc_post (mSeen (hM := hM) (hS := ro) ..) ?_) (show 3 ≤ 12 by decide)
    rintro M rr ⟨rfl, (⟨c2, _⟩ | ⟨c2, C', rfl, ro', hcb⟩)⟩
    · exact absurd c c2
    · obtain ⟨ed, d46⟩ := ed_up40 (I' := upd I 40 (I 40 + 1)) hE he rfl rfl rfl rfl rfl rfl rfl
      obtain ⟨w0, w1, w7, w8, w2, w3, w4, w5, wJ, wV, wC, wR⟩ := hW
      refine ⟨rfl, n, t, k, nb, b, _, upd I 40 (I 40 + 1), J, A, B', P, Q, C', rfl, ⟨linv_cong l rfl rfl rfl (fun _ _ _ _ => rfl) rfl rfl, e, m, r⟩, ⟨⟨w0, w1, w7, w8, w2, w3, w4, w5, wJ, wV, fun hq => ?_, ?_⟩, q0, q1⟩, ⟨tx, tm, i16, i17, f6, f7⟩, ⟨so', ro'⟩, ⟨fun z => lyc_cong (hc.1 z) (fun q h1 h2 => ?_) rfl, fun z => cvc_cong (hc.2.1 z) rfl rfl, fun _ z2 => absurd z2 d46⟩, ed⟩
      · have := wC hq
        unfold ClOk at this ⊢
        rw [hb 0 (by decide) (by decide), hb 1 (by decide) (by decide), hb 2 (by decide) (by decide), hb 3 (by decide) (by decide), hb 4 (by decide) (by decide)]
        exact this
      · unfold RoZ; rw [hb 0 (by decide) (by decide)]; exact wR
      · unfold upd; rw [if_neg (by omega)]
end

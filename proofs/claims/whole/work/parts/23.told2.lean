/-! colour, look, shaft; the reference's tellings -/
def gCol (w : Nat) (e c : Int32) : Prop := (0 ≤ e ∧ e < nI w) ∧ (0 ≤ c ∧ c < 10)
set_option maxHeartbeats 4000000 in
set_option maxRecDepth 20000 in
theorem xColourE (sc : sm_S) (I : Nat → Int32) (J : Nat → Int64) (A : Nat → Nat → Int32) (B : Nat → Nat → Int64) (tl : sm_M) (e s : Int32) (n t k w : Nat) (hL : LInv I A n t k) (hI : I 0 = nI w) (hw : w ≤ 48) : zC 6 sc 119 [.ref 0, .int 1, .int e, .int s] (xm I J A B tl) (xtPost I J A B tl n t k (gCol w e s) (sb 3 + e.toNatClampNeg) s) := by
  refine zc_of hkX10_colour rfl ?_
  repeat (refine zw_nx rfl (fun _ _ => rfl) ?_)
  refine zw_call rfl (fun _ _ => rfl) (xIsEnd sc I J A B tl e w hI) (by decide) ?_
  rintro M1 r1 ⟨rfl, rfl⟩
  repeat (refine zw_nx rfl (fun _ _ => rfl) ?_)
  refine zw_br rfl (fun _ _ => rfl) (fun (hc : bI (0 ≤ e ∧ e < nI w) = 0) => ?_) (fun (hc : ¬ (bI (0 ≤ e ∧ e < nI w) = 0)) => ?_)
  · refine zw_nx rfl (fun _ _ => rfl) ?_
    exact zw_ret rfl (fun _ _ => rfl) (xt_no hL (fun z => bI_0.mp hc z.1))
  · have he : 0 ≤ e ∧ e < nI w := by
      by_cases h : 0 ≤ e ∧ e < nI w
      · exact h
      · exact absurd (bI_0.mpr h) hc
    repeat (refine zw_nx rfl (fun _ _ => rfl) ?_)
    refine zw_call rfl (fun _ _ => rfl) (xIsColour sc (xm I J A B tl) s) (by decide) ?_
    rintro M1 r1 ⟨rfl, rfl⟩
    refine zw_br rfl (fun _ _ => rfl) (fun (hd : bI (0 ≤ s ∧ s < 10) = 0) => ?_) (fun (hd : ¬ (bI (0 ≤ s ∧ s < 10) = 0)) => ?_)
    · refine zw_nx rfl (fun _ _ => rfl) ?_
      exact zw_ret rfl (fun _ _ => rfl) (xt_no hL (fun z => bI_0.mp hd z.2))
    · have hs : 0 ≤ s ∧ s < 10 := by
        by_cases h : 0 ≤ s ∧ s < 10
        · exact h
        · exact absurd (bI_0.mpr h) hd
      obtain ⟨j, hj, rfl⟩ := inR_of he (by omega)
      have ej : (nI j).toNatClampNeg = j := nI_clamp (by omega)
      repeat (refine zw_nx rfl (fun _ _ => rfl) ?_)
      rw [show (Int8.ofInt 112).toInt32 + nI j = nI (sb 3 + (nI j).toNatClampNeg) from by rw [ej]; exact nI_add 112 j]
      refine zw_call rfl (fun _ _ => rfl) (xt_one (g := gCol w (nI j) s) hL (by rw [ej]; simp only [sb]; omega) ⟨he, hs⟩) (by decide) ?_
      intro M1 r1 hp
      obtain ⟨z, rfl⟩ : ∃ z, r1 = some (.int z) := by
        by_cases hq : gCol w (nI j) s ∧ t < 400 ∧ n < 2000
        · exact ⟨_, (hp.1 hq).1⟩
        · exact ⟨_, (hp.2 hq).1⟩
      exact zw_ret rfl (fun _ _ => rfl) (hp)
set_option maxHeartbeats 4000000 in
set_option maxRecDepth 20000 in
theorem xColourP (sc : sm_S) (I : Nat → Int32) (J : Nat → Int64) (A : Nat → Nat → Int32) (B : Nat → Nat → Int64) (tl : sm_M) (e s : Int32) (n t k w : Nat) (hL : LInv I A n t k) (hI : I 1 = nI w) (hw : w ≤ 48) : zC 6 sc 119 [.ref 0, .int 0, .int e, .int s] (xm I J A B tl) (xtPost I J A B tl n t k (gCol w e s) (sb 4 + e.toNatClampNeg) s) := by
  refine zc_of hkX10_colour rfl ?_
  repeat (refine zw_nx rfl (fun _ _ => rfl) ?_)
  refine zw_call rfl (fun _ _ => rfl) (xIsPick sc I J A B tl e w hI) (by decide) ?_
  rintro M1 r1 ⟨rfl, rfl⟩
  repeat (refine zw_nx rfl (fun _ _ => rfl) ?_)
  refine zw_br rfl (fun _ _ => rfl) (fun (hc : bI (0 ≤ e ∧ e < nI w) = 0) => ?_) (fun (hc : ¬ (bI (0 ≤ e ∧ e < nI w) = 0)) => ?_)
  · refine zw_nx rfl (fun _ _ => rfl) ?_
    exact zw_ret rfl (fun _ _ => rfl) (xt_no hL (fun z => bI_0.mp hc z.1))
  · have he : 0 ≤ e ∧ e < nI w := by
      by_cases h : 0 ≤ e ∧ e < nI w
      · exact h
      · exact absurd (bI_0.mpr h) hc
    repeat (refine zw_nx rfl (fun _ _ => rfl) ?_)
    refine zw_call rfl (fun _ _ => rfl) (xIsColour sc (xm I J A B tl) s) (by decide) ?_
    rintro M1 r1 ⟨rfl, rfl⟩
    refine zw_br rfl (fun _ _ => rfl) (fun (hd : bI (0 ≤ s ∧ s < 10) = 0) => ?_) (fun (hd : ¬ (bI (0 ≤ s ∧ s < 10) = 0)) => ?_)
    · refine zw_nx rfl (fun _ _ => rfl) ?_
      exact zw_ret rfl (fun _ _ => rfl) (xt_no hL (fun z => bI_0.mp hd z.2))
    · have hs : 0 ≤ s ∧ s < 10 := by
        by_cases h : 0 ≤ s ∧ s < 10
        · exact h
        · exact absurd (bI_0.mpr h) hd
      obtain ⟨j, hj, rfl⟩ := inR_of he (by omega)
      have ej : (nI j).toNatClampNeg = j := nI_clamp (by omega)
      repeat (refine zw_nx rfl (fun _ _ => rfl) ?_)
      rw [show (Int16.ofInt 160).toInt32 + nI j = nI (sb 4 + (nI j).toNatClampNeg) from by rw [ej]; exact nI_add 160 j]
      refine zw_call rfl (fun _ _ => rfl) (xt_one (g := gCol w (nI j) s) hL (by rw [ej]; simp only [sb]; omega) ⟨he, hs⟩) (by decide) ?_
      intro M1 r1 hp
      obtain ⟨z, rfl⟩ : ∃ z, r1 = some (.int z) := by
        by_cases hq : gCol w (nI j) s ∧ t < 400 ∧ n < 2000
        · exact ⟨_, (hp.1 hq).1⟩
        · exact ⟨_, (hp.2 hq).1⟩
      exact zw_ret rfl (fun _ _ => rfl) (hp)
set_option maxHeartbeats 4000000 in
set_option maxRecDepth 20000 in
/-- look(x) -/
theorem xLook (sc : sm_S) (I : Nat → Int32) (J : Nat → Int64) (A : Nat → Nat → Int32) (B : Nat → Nat → Int64) (tl : sm_M) (x : Int32) (n t k : Nat) (hL : LInv I A n t k) : zC 5 sc 124 [.ref 0, .int x] (xm I J A B tl) (fun M r => (0 ≤ x ∧ x ≤ nI t → r = some (.int 1) ∧ ∃ A' q, x = nI q ∧ q ≤ t ∧ M = xm (upd (upd I 5 (nI q)) 6 (I 6 + 1)) J A' B tl ∧ (∀ a, a ≠ 3 → a ≠ 4 → A' a = A a) ∧ LInv (upd (upd I 5 (nI q)) 6 (I 6 + 1)) A' n t q) ∧ (¬ (0 ≤ x ∧ x ≤ nI t) → r = some (.int 0) ∧ M = xm I J A B tl)) := by
  have h2 : I 4 = nI t := hL.2.1
  have ht : t ≤ 400 := hL.2.2.2.2.1
  refine zc_of hkX10_look rfl ?_
  refine zw_nx rfl (fun _ _ => rfl) ?_
  refine zw_br rfl (fun _ _ => rfl) (fun (h1 : x < 0) => ?_) (fun (h1 : ¬ (x < 0)) => ?_)
  · refine zw_nx rfl (fun _ _ => rfl) ?_
    refine zw_ret rfl (fun _ _ => rfl) ?_
    exact ⟨fun z => absurd h1 (Int32.not_lt.mpr z.1), fun _ => ⟨rfl, rfl⟩⟩
  · repeat (refine zw_nx rfl (fun _ _ => rfl) ?_)
    refine zw_br rfl (fun _ _ => rfl) (fun (h3 : x ≤ I 4) => ?_) (fun (h3 : ¬ (x ≤ I 4)) => ?_)
    · rw [h2] at h3
      obtain ⟨q, hq, rfl⟩ := nI_of h1
      have hqt : q ≤ t := (nI_leI hq (by omega)).mp h3
      repeat (refine zw_nx rfl (fun _ _ => rfl) ?_)
      refine zw_call rfl (fun _ _ => rfl) (cLookAt sc I J A B tl n t k q hL hqt) (by decide) ?_
      rintro M1 r1 ⟨rfl, A', rfl, p1, p2⟩
      repeat (refine zw_nx rfl (fun _ _ => rfl) ?_)
      refine zw_ret rfl (fun _ _ => rfl) ?_
      exact ⟨fun _ => ⟨rfl, A', q, rfl, hqt, rfl, p1, p2⟩, fun z => absurd ⟨Int32.not_lt.mp h1, h3⟩ z⟩
    · rw [h2] at h3
      repeat (refine zw_nx rfl (fun _ _ => rfl) ?_)
      refine zw_ret rfl (fun _ _ => rfl) ?_
      exact ⟨fun z => absurd z.2 h3, fun _ => ⟨rfl, rfl⟩⟩
set_option maxHeartbeats 4000000 in
set_option maxRecDepth 20000 in
/-- shaft(x) -/
theorem xShaft (sc : sm_S) (I : Nat → Int32) (J : Nat → Int64) (A : Nat → Nat → Int32) (B : Nat → Nat → Int64) (tl : sm_M) (x : Int32) (w : Nat) (hI : I 0 = nI w) (hw : w ≤ 48) : zC 2 sc 125 [.ref 0, .int x] (xm I J A B tl) (zR (xm I J A B tl) (.int (if 0 ≤ x ∧ x < nI w then A 3 x.toNatClampNeg else -1))) := by
  refine zc_of hkX10_shaft rfl ?_
  refine zw_nx rfl (fun _ _ => rfl) ?_
  refine zw_nx rfl (fun _ _ => rfl) ?_
  refine zw_call rfl (fun _ _ => rfl) (xIsEnd sc I J A B tl x w hI) (by decide) ?_
  rintro M1 r1 ⟨rfl, rfl⟩
  refine zw_br rfl (fun _ _ => rfl) (fun (hc : bI (0 ≤ x ∧ x < nI w) = 0) => ?_) (fun (hc : ¬ (bI (0 ≤ x ∧ x < nI w) = 0)) => ?_)
  · repeat (refine zw_nx rfl (fun _ _ => rfl) ?_)
    exact zw_ret rfl (fun _ _ => rfl) (⟨rfl, by rw [if_neg (bI_0.mp hc)]; rfl⟩)
  · have he : 0 ≤ x ∧ x < nI w := by
      by_cases h : 0 ≤ x ∧ x < nI w
      · exact h
      · exact absurd (bI_0.mpr h) hc
    rw [if_pos he]
    obtain ⟨j, hj, rfl⟩ := inR_of he (by omega)
    have ej : (nI j).toNatClampNeg = j := nI_clamp (by omega)
    repeat (refine zw_nx rfl (fun _ _ => rfl) ?_)
    rw [show (Int32.ofInt 0) + nI j = nI j from by rw [show (Int32.ofInt 0) = nI 0 from rfl, nI_add, Nat.zero_add]]
    refine zw_call rfl (fun _ _ => rfl) (cValueOf sc I J A B tl j (by omega)) (by decide) ?_
    rintro M1 r1 ⟨rfl, rfl⟩
    repeat (refine zw_nx rfl (fun _ _ => rfl) ?_)
    exact zw_ret rfl (fun _ _ => rfl) (⟨rfl, by rw [ej]⟩)
set_option maxHeartbeats 4000000 in
set_option maxRecDepth 20000 in
theorem mThread (sc : sm_S) (f : Nat → va_E) (I : Nat → Int32) (A : Nat → Nat → Int32) (B : Nat → Nat → Int64) (e s : Int32) (n t k w : Nat) (hM : MInv I A n t k) (hI : I 0 = nI w) (h1 : 1 ≤ w) (hw : w ≤ 48) : zC 3 sc 169 [.ref 47, .int e, .int s] (mm f I A B) (mtPost f I A B n t (gThread w e s) 0 e s) := by
  obtain ⟨m1, m2, m3, m4, m5, m6, m7⟩ := hM
  have hint : ∀ M1 r1, mtPost f I A B n t (gThread w e s) 0 e s M1 r1 → ∃ z, r1 = some (.int z) := by
    intro M1 r1 hp
    by_cases hq : gThread w e s ∧ t < 400 ∧ n < 2000
    · exact ⟨_, (hp.1 hq).1⟩
    · exact ⟨_, (hp.2 hq).1⟩
  have key : ∀ g : Prop, [Decidable g] → (g ↔ gThread w e s) → zC 2 sc 167 [.ref 47, .int (bI g), .int 0, .int e, .int s] (mm f I A B) (mtPost f I A B n t (gThread w e s) 0 e s) := by
    intro g _ hg
    refine zc_post (mTelling sc f I A B 0 e s n t g m1 m4 m2 m5) (fun M r h => ?_)
    exact ⟨fun z => h.1 ⟨hg.mpr z.1, z.2⟩, fun z => h.2 (fun y => z ⟨hg.mp y.1, y.2⟩)⟩
  refine zc_of hkX11_thread rfl ?_
  repeat (refine zw_nx rfl (fun _ _ => rfl) ?_)
  refine zw_call rfl (fun _ _ => rfl) (mIsEnd sc f I A B e w hI h1 hw) (by decide) ?_
  rintro M1 r1 ⟨rfl, rfl⟩
  refine zw_br rfl (fun _ _ => rfl) (fun (hc : bI (0 ≤ e ∧ e < nI w) = 0) => ?_) (fun (hc : ¬ (bI (0 ≤ e ∧ e < nI w) = 0)) => ?_)
  · repeat (refine zw_nx rfl (fun _ _ => rfl) ?_)
    refine zw_call rfl (fun _ _ => rfl) (key False ⟨fun z => z.elim, fun z => absurd z.1 (bI_0.mp hc)⟩) (by decide) ?_
    intro M1 r1 hp
    obtain ⟨z, rfl⟩ := hint M1 r1 hp
    exact zw_ret rfl (fun _ _ => rfl) (hp)
  · have he : 0 ≤ e ∧ e < nI w := by
      by_cases h : 0 ≤ e ∧ e < nI w
      · exact h
      · exact absurd (bI_0.mpr h) hc
    repeat (refine zw_nx rfl (fun _ _ => rfl) ?_)
    refine zw_call rfl (fun _ _ => rfl) (mIsIn sc (mm f I A B) s (-1) 15) (by decide) ?_
    rintro M1 r1 ⟨rfl, rfl⟩
    have e15 : s ≤ 15 ↔ s < 16 := le_pred (x := s) (w := 16) (by decide) (by decide)
    refine zw_br rfl (fun _ _ => rfl) (fun (hd : bI (-1 ≤ s ∧ s ≤ 15) = 0) => ?_) (fun (hd : ¬ (bI (-1 ≤ s ∧ s ≤ 15) = 0)) => ?_)
    · repeat (refine zw_nx rfl (fun _ _ => rfl) ?_)
      refine zw_call rfl (fun _ _ => rfl) (key False ⟨fun z => z.elim, fun z => absurd ⟨z.2.1, e15.mpr z.2.2⟩ (bI_0.mp hd)⟩) (by decide) ?_
      intro M1 r1 hp
      obtain ⟨z, rfl⟩ := hint M1 r1 hp
      exact zw_ret rfl (fun _ _ => rfl) (hp)
    · have hs : -1 ≤ s ∧ s ≤ 15 := by
        by_cases h : -1 ≤ s ∧ s ≤ 15
        · exact h
        · exact absurd (bI_0.mpr h) hd
      repeat (refine zw_nx rfl (fun _ _ => rfl) ?_)
      refine zw_call rfl (fun _ _ => rfl) (key True ⟨fun _ => ⟨he, hs.1, e15.mp hs.2⟩, fun _ => trivial⟩) (by decide) ?_
      intro M1 r1 hp
      obtain ⟨z, rfl⟩ := hint M1 r1 hp
      exact zw_ret rfl (fun _ _ => rfl) (hp)
set_option maxHeartbeats 4000000 in
set_option maxRecDepth 20000 in
theorem mTie (sc : sm_S) (f : Nat → va_E) (I : Nat → Int32) (A : Nat → Nat → Int32) (B : Nat → Nat → Int64) (e s : Int32) (n t k : Nat) (hM : MInv I A n t k) : zC 3 sc 170 [.ref 47, .int e, .int s] (mm f I A B) (mtPost f I A B n t (gTie e s) 1 e s) := by
  obtain ⟨m1, m2, m3, m4, m5, m6, m7⟩ := hM
  have hint : ∀ M1 r1, mtPost f I A B n t (gTie e s) 1 e s M1 r1 → ∃ z, r1 = some (.int z) := by
    intro M1 r1 hp
    by_cases hq : gTie e s ∧ t < 400 ∧ n < 2000
    · exact ⟨_, (hp.1 hq).1⟩
    · exact ⟨_, (hp.2 hq).1⟩
  have key : ∀ g : Prop, [Decidable g] → (g ↔ gTie e s) → zC 2 sc 167 [.ref 47, .int (bI g), .int 1, .int e, .int s] (mm f I A B) (mtPost f I A B n t (gTie e s) 1 e s) := by
    intro g _ hg
    refine zc_post (mTelling sc f I A B 1 e s n t g m1 m4 m2 m5) (fun M r h => ?_)
    exact ⟨fun z => h.1 ⟨hg.mpr z.1, z.2⟩, fun z => h.2 (fun y => z ⟨hg.mp y.1, y.2⟩)⟩
  have e15 : e ≤ 15 ↔ e < 16 := le_pred (x := e) (w := 16) (by decide) (by decide)
  have e6 : s ≤ 65535 ↔ s < 65536 := le_pred (x := s) (w := 65536) (by decide) (by decide)
  refine zc_of hkX11_tie rfl ?_
  repeat (refine zw_nx rfl (fun _ _ => rfl) ?_)
  refine zw_call rfl (fun _ _ => rfl) (mIsIn sc (mm f I A B) e 0 15) (by decide) ?_
  rintro M1 r1 ⟨rfl, rfl⟩
  refine zw_br rfl (fun _ _ => rfl) (fun (hc : bI (0 ≤ e ∧ e ≤ 15) = 0) => ?_) (fun (hc : ¬ (bI (0 ≤ e ∧ e ≤ 15) = 0)) => ?_)
  · repeat (refine zw_nx rfl (fun _ _ => rfl) ?_)
    refine zw_call rfl (fun _ _ => rfl) (key False ⟨fun z => z.elim, fun z => absurd ⟨z.1.1, e15.mpr z.1.2⟩ (bI_0.mp hc)⟩) (by decide) ?_
    intro M1 r1 hp
    obtain ⟨z, rfl⟩ := hint M1 r1 hp
    exact zw_ret rfl (fun _ _ => rfl) (hp)
  · have he : 0 ≤ e ∧ e ≤ 15 := by
      by_cases h : 0 ≤ e ∧ e ≤ 15
      · exact h
      · exact absurd (bI_0.mpr h) hc
    repeat (refine zw_nx rfl (fun _ _ => rfl) ?_)
    refine zw_call rfl (fun _ _ => rfl) (mIsIn sc (mm f I A B) s 0 65535) (by decide) ?_
    rintro M1 r1 ⟨rfl, rfl⟩
    refine zw_br rfl (fun _ _ => rfl) (fun (hd : bI (0 ≤ s ∧ s ≤ 65535) = 0) => ?_) (fun (hd : ¬ (bI (0 ≤ s ∧ s ≤ 65535) = 0)) => ?_)
    · repeat (refine zw_nx rfl (fun _ _ => rfl) ?_)
      refine zw_call rfl (fun _ _ => rfl) (key False ⟨fun z => z.elim, fun z => absurd ⟨z.2.1, e6.mpr z.2.2⟩ (bI_0.mp hd)⟩) (by decide) ?_
      intro M1 r1 hp
      obtain ⟨z, rfl⟩ := hint M1 r1 hp
      exact zw_ret rfl (fun _ _ => rfl) (hp)
    · have hs : 0 ≤ s ∧ s ≤ 65535 := by
        by_cases h : 0 ≤ s ∧ s ≤ 65535
        · exact h
        · exact absurd (bI_0.mpr h) hd
      repeat (refine zw_nx rfl (fun _ _ => rfl) ?_)
      refine zw_call rfl (fun _ _ => rfl) (key True ⟨fun _ => ⟨⟨he.1, e15.mp he.2⟩, hs.1, e6.mp hs.2⟩, fun _ => trivial⟩) (by decide) ?_
      intro M1 r1 hp
      obtain ⟨z, rfl⟩ := hint M1 r1 hp
      exact zw_ret rfl (fun _ _ => rfl) (hp)
set_option maxHeartbeats 4000000 in
set_option maxRecDepth 20000 in
theorem mTread (sc : sm_S) (f : Nat → va_E) (I : Nat → Int32) (A : Nat → Nat → Int32) (B : Nat → Nat → Int64) (e s : Int32) (n t k w : Nat) (hM : MInv I A n t k) (hI : I 1 = nI w) (h1 : 1 ≤ w) (hw : w ≤ 48) : zC 3 sc 171 [.ref 47, .int e, .int s] (mm f I A B) (mtPost f I A B n t (gTread w e s) 2 e s) := by
  obtain ⟨m1, m2, m3, m4, m5, m6, m7⟩ := hM
  have hint : ∀ M1 r1, mtPost f I A B n t (gTread w e s) 2 e s M1 r1 → ∃ z, r1 = some (.int z) := by
    intro M1 r1 hp
    by_cases hq : gTread w e s ∧ t < 400 ∧ n < 2000
    · exact ⟨_, (hp.1 hq).1⟩
    · exact ⟨_, (hp.2 hq).1⟩
  have key : ∀ g : Prop, [Decidable g] → (g ↔ gTread w e s) → zC 2 sc 167 [.ref 47, .int (bI g), .int 2, .int e, .int s] (mm f I A B) (mtPost f I A B n t (gTread w e s) 2 e s) := by
    intro g _ hg
    refine zc_post (mTelling sc f I A B 2 e s n t g m1 m4 m2 m5) (fun M r h => ?_)
    exact ⟨fun z => h.1 ⟨hg.mpr z.1, z.2⟩, fun z => h.2 (fun y => z ⟨hg.mp y.1, y.2⟩)⟩
  have e6 : s ≤ 65535 ↔ s < 65536 := le_pred (x := s) (w := 65536) (by decide) (by decide)
  refine zc_of hkX11_tread rfl ?_
  repeat (refine zw_nx rfl (fun _ _ => rfl) ?_)
  refine zw_call rfl (fun _ _ => rfl) (mIsPick sc f I A B e w hI h1 hw) (by decide) ?_
  rintro M1 r1 ⟨rfl, rfl⟩
  refine zw_br rfl (fun _ _ => rfl) (fun (hc : bI (0 ≤ e ∧ e < nI w) = 0) => ?_) (fun (hc : ¬ (bI (0 ≤ e ∧ e < nI w) = 0)) => ?_)
  · repeat (refine zw_nx rfl (fun _ _ => rfl) ?_)
    refine zw_call rfl (fun _ _ => rfl) (key False ⟨fun z => z.elim, fun z => absurd z.1 (bI_0.mp hc)⟩) (by decide) ?_
    intro M1 r1 hp
    obtain ⟨z, rfl⟩ := hint M1 r1 hp
    exact zw_ret rfl (fun _ _ => rfl) (hp)
  · have he : 0 ≤ e ∧ e < nI w := by
      by_cases h : 0 ≤ e ∧ e < nI w
      · exact h
      · exact absurd (bI_0.mpr h) hc
    repeat (refine zw_nx rfl (fun _ _ => rfl) ?_)
    refine zw_call rfl (fun _ _ => rfl) (mIsIn sc (mm f I A B) s 0 65535) (by decide) ?_
    rintro M1 r1 ⟨rfl, rfl⟩
    refine zw_br rfl (fun _ _ => rfl) (fun (hd : bI (0 ≤ s ∧ s ≤ 65535) = 0) => ?_) (fun (hd : ¬ (bI (0 ≤ s ∧ s ≤ 65535) = 0)) => ?_)
    · repeat (refine zw_nx rfl (fun _ _ => rfl) ?_)
      refine zw_call rfl (fun _ _ => rfl) (key False ⟨fun z => z.elim, fun z => absurd ⟨z.2.1, e6.mpr z.2.2⟩ (bI_0.mp hd)⟩) (by decide) ?_
      intro M1 r1 hp
      obtain ⟨z, rfl⟩ := hint M1 r1 hp
      exact zw_ret rfl (fun _ _ => rfl) (hp)
    · have hs : 0 ≤ s ∧ s ≤ 65535 := by
        by_cases h : 0 ≤ s ∧ s ≤ 65535
        · exact h
        · exact absurd (bI_0.mpr h) hd
      repeat (refine zw_nx rfl (fun _ _ => rfl) ?_)
      refine zw_call rfl (fun _ _ => rfl) (key True ⟨fun _ => ⟨he, hs.1, e6.mp hs.2⟩, fun _ => trivial⟩) (by decide) ?_
      intro M1 r1 hp
      obtain ⟨z, rfl⟩ := hint M1 r1 hp
      exact zw_ret rfl (fun _ _ => rfl) (hp)
set_option maxHeartbeats 4000000 in
set_option maxRecDepth 20000 in
theorem mColourE (sc : sm_S) (f : Nat → va_E) (I : Nat → Int32) (A : Nat → Nat → Int32) (B : Nat → Nat → Int64) (e s : Int32) (n t k w : Nat) (hM : MInv I A n t k) (hI : I 0 = nI w) (h1 : 1 ≤ w) (hw : w ≤ 48) : zC 3 sc 172 [.ref 47, .int 1, .int e, .int s] (mm f I A B) (mtPost f I A B n t (gCol w e s) 3 e s) := by
  obtain ⟨m1, m2, m3, m4, m5, m6, m7⟩ := hM
  have hint : ∀ M1 r1, mtPost f I A B n t (gCol w e s) 3 e s M1 r1 → ∃ z, r1 = some (.int z) := by
    intro M1 r1 hp
    by_cases hq : gCol w e s ∧ t < 400 ∧ n < 2000
    · exact ⟨_, (hp.1 hq).1⟩
    · exact ⟨_, (hp.2 hq).1⟩
  have key : ∀ g : Prop, [Decidable g] → (g ↔ gCol w e s) → zC 2 sc 167 [.ref 47, .int (bI g), .int 3, .int e, .int s] (mm f I A B) (mtPost f I A B n t (gCol w e s) 3 e s) := by
    intro g _ hg
    refine zc_post (mTelling sc f I A B 3 e s n t g m1 m4 m2 m5) (fun M r h => ?_)
    exact ⟨fun z => h.1 ⟨hg.mpr z.1, z.2⟩, fun z => h.2 (fun y => z ⟨hg.mp y.1, y.2⟩)⟩
  have e6 : s ≤ 9 ↔ s < 10 := le_pred (x := s) (w := 10) (by decide) (by decide)
  refine zc_of hkX11_colour rfl ?_
  repeat (refine zw_nx rfl (fun _ _ => rfl) ?_)
  refine zw_call rfl (fun _ _ => rfl) (mIsEnd sc f I A B e w hI h1 hw) (by decide) ?_
  rintro M1 r1 ⟨rfl, rfl⟩
  refine zw_br rfl (fun _ _ => rfl) (fun (hc : bI (0 ≤ e ∧ e < nI w) = 0) => ?_) (fun (hc : ¬ (bI (0 ≤ e ∧ e < nI w) = 0)) => ?_)
  · repeat (refine zw_nx rfl (fun _ _ => rfl) ?_)
    refine zw_call rfl (fun _ _ => rfl) (key False ⟨fun z => z.elim, fun z => absurd z.1 (bI_0.mp hc)⟩) (by decide) ?_
    intro M1 r1 hp
    obtain ⟨z, rfl⟩ := hint M1 r1 hp
    exact zw_ret rfl (fun _ _ => rfl) (hp)
  · have he : 0 ≤ e ∧ e < nI w := by
      by_cases h : 0 ≤ e ∧ e < nI w
      · exact h
      · exact absurd (bI_0.mpr h) hc
    repeat (refine zw_nx rfl (fun _ _ => rfl) ?_)
    refine zw_call rfl (fun _ _ => rfl) (mIsIn sc (mm f I A B) s 0 9) (by decide) ?_
    rintro M1 r1 ⟨rfl, rfl⟩
    refine zw_br rfl (fun _ _ => rfl) (fun (hd : bI (0 ≤ s ∧ s ≤ 9) = 0) => ?_) (fun (hd : ¬ (bI (0 ≤ s ∧ s ≤ 9) = 0)) => ?_)
    · repeat (refine zw_nx rfl (fun _ _ => rfl) ?_)
      refine zw_call rfl (fun _ _ => rfl) (key False ⟨fun z => z.elim, fun z => absurd ⟨z.2.1, e6.mpr z.2.2⟩ (bI_0.mp hd)⟩) (by decide) ?_
      intro M1 r1 hp
      obtain ⟨z, rfl⟩ := hint M1 r1 hp
      exact zw_ret rfl (fun _ _ => rfl) (hp)
    · have hs : 0 ≤ s ∧ s ≤ 9 := by
        by_cases h : 0 ≤ s ∧ s ≤ 9
        · exact h
        · exact absurd (bI_0.mpr h) hd
      repeat (refine zw_nx rfl (fun _ _ => rfl) ?_)
      refine zw_call rfl (fun _ _ => rfl) (key True ⟨fun _ => ⟨he, hs.1, e6.mp hs.2⟩, fun _ => trivial⟩) (by decide) ?_
      intro M1 r1 hp
      obtain ⟨z, rfl⟩ := hint M1 r1 hp
      exact zw_ret rfl (fun _ _ => rfl) (hp)
set_option maxHeartbeats 4000000 in
set_option maxRecDepth 20000 in
theorem mColourP (sc : sm_S) (f : Nat → va_E) (I : Nat → Int32) (A : Nat → Nat → Int32) (B : Nat → Nat → Int64) (e s : Int32) (n t k w : Nat) (hM : MInv I A n t k) (hI : I 1 = nI w) (h1 : 1 ≤ w) (hw : w ≤ 48) : zC 3 sc 172 [.ref 47, .int 0, .int e, .int s] (mm f I A B) (mtPost f I A B n t (gCol w e s) 4 e s) := by
  obtain ⟨m1, m2, m3, m4, m5, m6, m7⟩ := hM
  have hint : ∀ M1 r1, mtPost f I A B n t (gCol w e s) 4 e s M1 r1 → ∃ z, r1 = some (.int z) := by
    intro M1 r1 hp
    by_cases hq : gCol w e s ∧ t < 400 ∧ n < 2000
    · exact ⟨_, (hp.1 hq).1⟩
    · exact ⟨_, (hp.2 hq).1⟩
  have key : ∀ g : Prop, [Decidable g] → (g ↔ gCol w e s) → zC 2 sc 167 [.ref 47, .int (bI g), .int 4, .int e, .int s] (mm f I A B) (mtPost f I A B n t (gCol w e s) 4 e s) := by
    intro g _ hg
    refine zc_post (mTelling sc f I A B 4 e s n t g m1 m4 m2 m5) (fun M r h => ?_)
    exact ⟨fun z => h.1 ⟨hg.mpr z.1, z.2⟩, fun z => h.2 (fun y => z ⟨hg.mp y.1, y.2⟩)⟩
  have e6 : s ≤ 9 ↔ s < 10 := le_pred (x := s) (w := 10) (by decide) (by decide)
  refine zc_of hkX11_colour rfl ?_
  repeat (refine zw_nx rfl (fun _ _ => rfl) ?_)
  refine zw_call rfl (fun _ _ => rfl) (mIsPick sc f I A B e w hI h1 hw) (by decide) ?_
  rintro M1 r1 ⟨rfl, rfl⟩
  refine zw_br rfl (fun _ _ => rfl) (fun (hc : bI (0 ≤ e ∧ e < nI w) = 0) => ?_) (fun (hc : ¬ (bI (0 ≤ e ∧ e < nI w) = 0)) => ?_)
  · repeat (refine zw_nx rfl (fun _ _ => rfl) ?_)
    refine zw_call rfl (fun _ _ => rfl) (key False ⟨fun z => z.elim, fun z => absurd z.1 (bI_0.mp hc)⟩) (by decide) ?_
    intro M1 r1 hp
    obtain ⟨z, rfl⟩ := hint M1 r1 hp
    exact zw_ret rfl (fun _ _ => rfl) (hp)
  · have he : 0 ≤ e ∧ e < nI w := by
      by_cases h : 0 ≤ e ∧ e < nI w
      · exact h
      · exact absurd (bI_0.mpr h) hc
    repeat (refine zw_nx rfl (fun _ _ => rfl) ?_)
    refine zw_call rfl (fun _ _ => rfl) (mIsIn sc (mm f I A B) s 0 9) (by decide) ?_
    rintro M1 r1 ⟨rfl, rfl⟩
    refine zw_br rfl (fun _ _ => rfl) (fun (hd : bI (0 ≤ s ∧ s ≤ 9) = 0) => ?_) (fun (hd : ¬ (bI (0 ≤ s ∧ s ≤ 9) = 0)) => ?_)
    · repeat (refine zw_nx rfl (fun _ _ => rfl) ?_)
      refine zw_call rfl (fun _ _ => rfl) (key False ⟨fun z => z.elim, fun z => absurd ⟨z.2.1, e6.mpr z.2.2⟩ (bI_0.mp hd)⟩) (by decide) ?_
      intro M1 r1 hp
      obtain ⟨z, rfl⟩ := hint M1 r1 hp
      exact zw_ret rfl (fun _ _ => rfl) (hp)
    · have hs : 0 ≤ s ∧ s ≤ 9 := by
        by_cases h : 0 ≤ s ∧ s ≤ 9
        · exact h
        · exact absurd (bI_0.mpr h) hd
      repeat (refine zw_nx rfl (fun _ _ => rfl) ?_)
      refine zw_call rfl (fun _ _ => rfl) (key True ⟨fun _ => ⟨he, hs.1, e6.mp hs.2⟩, fun _ => trivial⟩) (by decide) ?_
      intro M1 r1 hp
      obtain ⟨z, rfl⟩ := hint M1 r1 hp
      exact zw_ret rfl (fun _ _ => rfl) (hp)
set_option maxHeartbeats 4000000 in
set_option maxRecDepth 20000 in
theorem mShaft (sc : sm_S) (f : Nat → va_E) (I : Nat → Int32) (A : Nat → Nat → Int32) (B : Nat → Nat → Int64) (x : Int32) (n w : Nat) (hn : I 4 = nI n) (hnb : n ≤ 2000) (hI : I 0 = nI w) (h1 : 1 ≤ w) (hw : w ≤ 48) : zC 3 sc 178 [.ref 47, .int x] (mm f I A B) (zR (mm f I A B) (.int (if 0 ≤ x ∧ x < nI w then mVal A n 0 x (I 3) else -1))) := by
  refine zc_of hkX11_shaft rfl ?_
  repeat (refine zw_nx rfl (fun _ _ => rfl) ?_)
  refine zw_call rfl (fun _ _ => rfl) (mIsEnd sc f I A B x w hI h1 hw) (by decide) ?_
  rintro M1 r1 ⟨rfl, rfl⟩
  refine zw_br rfl (fun _ _ => rfl) (fun (hc : bI (0 ≤ x ∧ x < nI w) = 0) => ?_) (fun (hc : ¬ (bI (0 ≤ x ∧ x < nI w) = 0)) => ?_)
  · repeat (refine zw_nx rfl (fun _ _ => rfl) ?_)
    exact zw_ret rfl (fun _ _ => rfl) (⟨rfl, by rw [if_neg (bI_0.mp hc)]; rfl⟩)
  · have he : 0 ≤ x ∧ x < nI w := by
      by_cases h : 0 ≤ x ∧ x < nI w
      · exact h
      · exact absurd (bI_0.mpr h) hc
    repeat (refine zw_nx rfl (fun _ _ => rfl) ?_)
    refine zw_call rfl (fun _ _ => rfl) (mValueOf sc f I A B 0 x n hn hnb) (by decide) ?_
    rintro M1 r1 ⟨rfl, rfl⟩
    repeat (refine zw_nx rfl (fun _ _ => rfl) ?_)
    exact zw_ret rfl (fun _ _ => rfl) (⟨rfl, by rw [if_pos he]⟩)

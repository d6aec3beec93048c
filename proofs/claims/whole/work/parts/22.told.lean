/-! thread, tie, tread, colour, shaft: the class's, the reference's -/
set_option maxHeartbeats 4000000 in
set_option maxRecDepth 20000 in
theorem xIsEnd (sc : sm_S) (I : Nat → Int32) (J : Nat → Int64) (A : Nat → Nat → Int32) (B : Nat → Nat → Int64) (tl : sm_M) (x : Int32) (w : Nat) (hI : I 0 = nI w) : zC 1 sc 146 [.ref 0, .int x] (xm I J A B tl) (zR (xm I J A B tl) (.int (bI (0 ≤ x ∧ x < nI w)))) := by
  refine zc_of hkX10_isEnd rfl ?_
  refine zw_nx rfl (fun _ _ => rfl) ?_
  refine zw_br rfl (fun _ _ => rfl) (fun (hc : x < 0) => ?_) (fun (hc : ¬ (x < 0)) => ?_)
  · refine zw_nx rfl (fun _ _ => rfl) ?_
    refine zw_ret rfl (fun _ _ => rfl) ?_
    exact ⟨rfl, by rw [bI_f (fun z => Int32.not_lt.mpr z.1 hc)]; rfl⟩
  · refine zw_nx rfl (fun _ _ => rfl) ?_
    refine zw_nx rfl (fun _ _ => rfl) ?_
    refine zw_nx rfl (fun _ _ => rfl) ?_
    refine zw_br rfl (fun _ _ => rfl) (fun (hd : I 0 ≤ x) => ?_) (fun (hd : ¬ (I 0 ≤ x)) => ?_)
    · refine zw_nx rfl (fun _ _ => rfl) ?_
      refine zw_ret rfl (fun _ _ => rfl) ?_
      exact ⟨rfl, by rw [bI_f (fun z => Int32.not_lt.mpr (by rw [← hI]; exact hd) z.2)]; rfl⟩
    · refine zw_nx rfl (fun _ _ => rfl) ?_
      refine zw_nx rfl (fun _ _ => rfl) ?_
      refine zw_ret rfl (fun _ _ => rfl) ?_
      exact ⟨rfl, by rw [bI_t ⟨Int32.not_lt.mp hc, by rw [← hI]; exact Int32.not_le.mp hd⟩]; rfl⟩
set_option maxHeartbeats 4000000 in
set_option maxRecDepth 20000 in
theorem xIsPick (sc : sm_S) (I : Nat → Int32) (J : Nat → Int64) (A : Nat → Nat → Int32) (B : Nat → Nat → Int64) (tl : sm_M) (x : Int32) (w : Nat) (hI : I 1 = nI w) : zC 1 sc 147 [.ref 0, .int x] (xm I J A B tl) (zR (xm I J A B tl) (.int (bI (0 ≤ x ∧ x < nI w)))) := by
  refine zc_of hkX10_isPick rfl ?_
  refine zw_nx rfl (fun _ _ => rfl) ?_
  refine zw_br rfl (fun _ _ => rfl) (fun (hc : x < 0) => ?_) (fun (hc : ¬ (x < 0)) => ?_)
  · refine zw_nx rfl (fun _ _ => rfl) ?_
    refine zw_ret rfl (fun _ _ => rfl) ?_
    exact ⟨rfl, by rw [bI_f (fun z => Int32.not_lt.mpr z.1 hc)]; rfl⟩
  · refine zw_nx rfl (fun _ _ => rfl) ?_
    refine zw_nx rfl (fun _ _ => rfl) ?_
    refine zw_nx rfl (fun _ _ => rfl) ?_
    refine zw_br rfl (fun _ _ => rfl) (fun (hd : I 1 ≤ x) => ?_) (fun (hd : ¬ (I 1 ≤ x)) => ?_)
    · refine zw_nx rfl (fun _ _ => rfl) ?_
      refine zw_ret rfl (fun _ _ => rfl) ?_
      exact ⟨rfl, by rw [bI_f (fun z => Int32.not_lt.mpr (by rw [← hI]; exact hd) z.2)]; rfl⟩
    · refine zw_nx rfl (fun _ _ => rfl) ?_
      refine zw_nx rfl (fun _ _ => rfl) ?_
      refine zw_ret rfl (fun _ _ => rfl) ?_
      exact ⟨rfl, by rw [bI_t ⟨Int32.not_lt.mp hc, by rw [← hI]; exact Int32.not_le.mp hd⟩]; rfl⟩
set_option maxHeartbeats 4000000 in
set_option maxRecDepth 20000 in
theorem xIsColour (sc : sm_S) (M : sm_M) (x : Int32) : zC 1 sc 149 [.int x] M (zR M (.int (bI (0 ≤ x ∧ x < 10)))) := by
  refine zc_of hkX10_isColour rfl ?_
  refine zw_nx rfl (fun _ _ => rfl) ?_
  refine zw_br rfl (fun _ _ => rfl) (fun (hc : x < 0) => ?_) (fun (hc : ¬ (x < 0)) => ?_)
  · refine zw_nx rfl (fun _ _ => rfl) ?_
    refine zw_ret rfl (fun _ _ => rfl) ?_
    exact ⟨rfl, by rw [bI_f (fun z => Int32.not_lt.mpr z.1 hc)]; rfl⟩
  · refine zw_nx rfl (fun _ _ => rfl) ?_
    refine zw_nx rfl (fun _ _ => rfl) ?_
    refine zw_br rfl (fun _ _ => rfl) (fun (hd : 10 ≤ x) => ?_) (fun (hd : ¬ (10 ≤ x)) => ?_)
    · refine zw_nx rfl (fun _ _ => rfl) ?_
      refine zw_ret rfl (fun _ _ => rfl) ?_
      exact ⟨rfl, by rw [bI_f (fun z => Int32.not_lt.mpr hd z.2)]; rfl⟩
    · refine zw_nx rfl (fun _ _ => rfl) ?_
      refine zw_nx rfl (fun _ _ => rfl) ?_
      refine zw_ret rfl (fun _ _ => rfl) ?_
      exact ⟨rfl, by rw [bI_t ⟨Int32.not_lt.mp hc, Int32.not_le.mp hd⟩]; rfl⟩
/-- what a telling of the class does -/
def xtPost (I : Nat → Int32) (J : Nat → Int64) (A : Nat → Nat → Int32) (B : Nat → Nat → Int64) (tl : sm_M) (n t k : Nat) (g : Prop) (q : Nat) (v : Int32) : sm_M → Option Value → Prop := fun M r =>
  (g ∧ t < 400 ∧ n < 2000 → r = some (.int (nI (t + 1))) ∧ ∃ A', M = xm (tkI (upd I 3 (nI (n + 1))) (n + 1) t) J A' B tl ∧ (∀ a, a ≠ 3 → a ≠ 4 → A' a = stA A n (nI q) v (nI (t + 1)) a) ∧ LInv (tkI (upd I 3 (nI (n + 1))) (n + 1) t) A' (n + 1) (t + 1) (t + 1)) ∧
  (¬ (g ∧ t < 400 ∧ n < 2000) → r = some (.int (-1)) ∧ ∃ I' A', M = xm I' J A' B tl ∧ (∀ z, z ≠ 3 → I' z = I z) ∧ (∀ a, 2 < a → A' a = A a) ∧ (∀ a i, i < n → A' a i = A a i) ∧ LInv I' A' n t k)
theorem xt_no {I : Nat → Int32} {J : Nat → Int64} {A : Nat → Nat → Int32} {B : Nat → Nat → Int64} {tl : sm_M} {n t k : Nat} {g : Prop} {q : Nat} {v : Int32} (hL : LInv I A n t k) (hg : ¬ g) : xtPost I J A B tl n t k g q v (xm I J A B tl) (some (.int (-1))) := ⟨fun z => absurd z.1 hg, fun _ => ⟨rfl, I, A, rfl, fun _ _ => rfl, fun _ _ => rfl, fun _ _ _ => rfl, hL⟩⟩
theorem xt_one {sc : sm_S} {I : Nat → Int32} {J : Nat → Int64} {A : Nat → Nat → Int32} {B : Nat → Nat → Int64} {tl : sm_M} {n t k : Nat} {g : Prop} {q : Nat} {v : Int32} (hL : LInv I A n t k) (hq : q < 208) (hg : g) : zC 5 sc 34 [.ref 1, .int (nI q), .int v] (xm I J A B tl) (xtPost I J A B tl n t k g q v) := by
  refine zc_post (cTellOne sc I J A B tl n t k q v hL hq) (fun M r h => ?_)
  by_cases hc : t < 400 ∧ n < 2000
  · rw [if_pos hc] at h
    exact ⟨fun _ => h, fun z => absurd ⟨hg, hc⟩ z⟩
  · rw [if_neg hc] at h
    exact ⟨fun z => absurd z.2 hc, fun _ => h⟩
theorem nI_lit (a b : Nat) : nI a + nI b = nI (a + b) := nI_add a b
/-- thread, tie, tread, colour: when they are good -/
def gThread (w : Nat) (e s : Int32) : Prop := (0 ≤ e ∧ e < nI w) ∧ (-1 ≤ s ∧ s < 16)
def gTie (a s : Int32) : Prop := (0 ≤ a ∧ a < 16) ∧ (0 ≤ s ∧ s < 65536)
def gTread (h : Nat) (p s : Int32) : Prop := (0 ≤ p ∧ p < nI h) ∧ (0 ≤ s ∧ s < 65536)
set_option maxHeartbeats 4000000 in
set_option maxRecDepth 20000 in
theorem xThread (sc : sm_S) (I : Nat → Int32) (J : Nat → Int64) (A : Nat → Nat → Int32) (B : Nat → Nat → Int64) (tl : sm_M) (e s : Int32) (n t k w : Nat) (hL : LInv I A n t k) (hI : I 0 = nI w) (hw : w ≤ 48) : zC 6 sc 116 [.ref 0, .int e, .int s] (xm I J A B tl) (xtPost I J A B tl n t k (gThread w e s) (sb 0 + e.toNatClampNeg) s) := by
  refine zc_of hkX10_thread rfl ?_
  refine zw_nx rfl (fun _ _ => rfl) ?_
  refine zw_nx rfl (fun _ _ => rfl) ?_
  refine zw_call rfl (fun _ _ => rfl) (xIsEnd sc I J A B tl e w hI) (by decide) ?_
  rintro M1 r1 ⟨rfl, rfl⟩
  refine zw_br rfl (fun _ _ => rfl) (fun (hc : bI (0 ≤ e ∧ e < nI w) = 0) => ?_) (fun (hc : ¬ (bI (0 ≤ e ∧ e < nI w) = 0)) => ?_)
  · refine zw_nx rfl (fun _ _ => rfl) ?_
    exact zw_ret rfl (fun _ _ => rfl) (xt_no hL (fun z => bI_0.mp hc z.1))
  · have he : 0 ≤ e ∧ e < nI w := by
      by_cases h : 0 ≤ e ∧ e < nI w
      · exact h
      · exact absurd (bI_0.mpr h) hc
    refine zw_nx rfl (fun _ _ => rfl) ?_
    refine zw_nx rfl (fun _ _ => rfl) ?_
    refine zw_br rfl (fun _ _ => rfl) (fun (h1 : s < -1) => ?_) (fun (h1 : ¬ (s < -1)) => ?_)
    · refine zw_nx rfl (fun _ _ => rfl) ?_
      exact zw_ret rfl (fun _ _ => rfl) (xt_no hL (fun z => Int32.not_lt.mpr z.2.1 h1))
    · refine zw_nx rfl (fun _ _ => rfl) ?_
      refine zw_nx rfl (fun _ _ => rfl) ?_
      refine zw_br rfl (fun _ _ => rfl) (fun (h2 : s < 16) => ?_) (fun (h2 : ¬ (s < 16)) => ?_)
      · obtain ⟨j, hj, rfl⟩ := inR_of he (by omega)
        have ej : (nI j).toNatClampNeg = j := nI_clamp (by omega)
        repeat (refine zw_nx rfl (fun _ _ => rfl) ?_)
        rw [show (Int32.ofInt 0) + nI j = nI (sb 0 + (nI j).toNatClampNeg) from by rw [ej]; exact nI_add 0 j]
        refine zw_call rfl (fun _ _ => rfl) (xt_one (g := gThread w (nI j) s) hL (by rw [ej]; simp only [sb]; omega) ⟨he, Int32.not_lt.mp h1, h2⟩) (by decide) ?_
        intro M1 r1 hp
        obtain ⟨z, rfl⟩ : ∃ z, r1 = some (.int z) := by
          by_cases hq : gThread w (nI j) s ∧ t < 400 ∧ n < 2000
          · exact ⟨_, (hp.1 hq).1⟩
          · exact ⟨_, (hp.2 hq).1⟩
        exact zw_ret rfl (fun _ _ => rfl) (hp)
      · refine zw_nx rfl (fun _ _ => rfl) ?_
        exact zw_ret rfl (fun _ _ => rfl) (xt_no hL (fun z => h2 z.2.2))
set_option maxHeartbeats 4000000 in
set_option maxRecDepth 20000 in
theorem xTie (sc : sm_S) (I : Nat → Int32) (J : Nat → Int64) (A : Nat → Nat → Int32) (B : Nat → Nat → Int64) (tl : sm_M) (e s : Int32) (n t k : Nat) (hL : LInv I A n t k) : zC 6 sc 117 [.ref 0, .int e, .int s] (xm I J A B tl) (xtPost I J A B tl n t k (gTie e s) (sb 1 + e.toNatClampNeg) s) := by
  refine zc_of hkX10_tie rfl ?_
  refine zw_nx rfl (fun _ _ => rfl) ?_
  refine zw_br rfl (fun _ _ => rfl) (fun (h1 : e < 0) => ?_) (fun (h1 : ¬ (e < 0)) => ?_)
  · refine zw_nx rfl (fun _ _ => rfl) ?_
    exact zw_ret rfl (fun _ _ => rfl) (xt_no hL (fun z => Int32.not_lt.mpr z.1.1 h1))
  · refine zw_nx rfl (fun _ _ => rfl) ?_
    refine zw_nx rfl (fun _ _ => rfl) ?_
    refine zw_br rfl (fun _ _ => rfl) (fun (h2 : 16 ≤ e) => ?_) (fun (h2 : ¬ (16 ≤ e)) => ?_)
    · refine zw_nx rfl (fun _ _ => rfl) ?_
      exact zw_ret rfl (fun _ _ => rfl) (xt_no hL (fun z => Int32.not_lt.mpr h2 z.1.2))
    · refine zw_nx rfl (fun _ _ => rfl) ?_
      refine zw_br rfl (fun _ _ => rfl) (fun (h3 : s < 0) => ?_) (fun (h3 : ¬ (s < 0)) => ?_)
      · refine zw_nx rfl (fun _ _ => rfl) ?_
        exact zw_ret rfl (fun _ _ => rfl) (xt_no hL (fun z => Int32.not_lt.mpr z.2.1 h3))
      · refine zw_nx rfl (fun _ _ => rfl) ?_
        refine zw_nx rfl (fun _ _ => rfl) ?_
        refine zw_br rfl (fun _ _ => rfl) (fun (h4 : s < 65536) => ?_) (fun (h4 : ¬ (s < 65536)) => ?_)
        · have he : inR e 16 := ⟨Int32.not_lt.mp h1, Int32.not_le.mp h2⟩
          have hg : gTie e s := ⟨⟨Int32.not_lt.mp h1, Int32.not_le.mp h2⟩, Int32.not_lt.mp h3, h4⟩
          obtain ⟨j, hj, rfl⟩ := inR_of he (by omega)
          have ej : (nI j).toNatClampNeg = j := nI_clamp (by omega)
          repeat (refine zw_nx rfl (fun _ _ => rfl) ?_)
          rw [show (Int8.ofInt 48).toInt32 + nI j = nI (sb 1 + (nI j).toNatClampNeg) from by rw [ej]; exact nI_add 48 j]
          refine zw_call rfl (fun _ _ => rfl) (xt_one (g := gTie (nI j) s) hL (by rw [ej]; simp only [sb]; omega) hg) (by decide) ?_
          intro M1 r1 hp
          obtain ⟨z, rfl⟩ : ∃ z, r1 = some (.int z) := by
            by_cases hq : gTie (nI j) s ∧ t < 400 ∧ n < 2000
            · exact ⟨_, (hp.1 hq).1⟩
            · exact ⟨_, (hp.2 hq).1⟩
          exact zw_ret rfl (fun _ _ => rfl) (hp)
        · refine zw_nx rfl (fun _ _ => rfl) ?_
          exact zw_ret rfl (fun _ _ => rfl) (xt_no hL (fun z => h4 z.2.2))
set_option maxHeartbeats 4000000 in
set_option maxRecDepth 20000 in
theorem xTread (sc : sm_S) (I : Nat → Int32) (J : Nat → Int64) (A : Nat → Nat → Int32) (B : Nat → Nat → Int64) (tl : sm_M) (e s : Int32) (n t k w : Nat) (hL : LInv I A n t k) (hI : I 1 = nI w) (hw : w ≤ 48) : zC 6 sc 118 [.ref 0, .int e, .int s] (xm I J A B tl) (xtPost I J A B tl n t k (gTread w e s) (sb 2 + e.toNatClampNeg) s) := by
  refine zc_of hkX10_tread rfl ?_
  refine zw_nx rfl (fun _ _ => rfl) ?_
  refine zw_nx rfl (fun _ _ => rfl) ?_
  refine zw_call rfl (fun _ _ => rfl) (xIsPick sc I J A B tl e w hI) (by decide) ?_
  rintro M1 r1 ⟨rfl, rfl⟩
  refine zw_br rfl (fun _ _ => rfl) (fun (hc : bI (0 ≤ e ∧ e < nI w) = 0) => ?_) (fun (hc : ¬ (bI (0 ≤ e ∧ e < nI w) = 0)) => ?_)
  · refine zw_nx rfl (fun _ _ => rfl) ?_
    exact zw_ret rfl (fun _ _ => rfl) (xt_no hL (fun z => bI_0.mp hc z.1))
  · have he : 0 ≤ e ∧ e < nI w := by
      by_cases h : 0 ≤ e ∧ e < nI w
      · exact h
      · exact absurd (bI_0.mpr h) hc
    refine zw_nx rfl (fun _ _ => rfl) ?_
    refine zw_br rfl (fun _ _ => rfl) (fun (h1 : s < 0) => ?_) (fun (h1 : ¬ (s < 0)) => ?_)
    · refine zw_nx rfl (fun _ _ => rfl) ?_
      exact zw_ret rfl (fun _ _ => rfl) (xt_no hL (fun z => Int32.not_lt.mpr z.2.1 h1))
    · refine zw_nx rfl (fun _ _ => rfl) ?_
      refine zw_nx rfl (fun _ _ => rfl) ?_
      refine zw_br rfl (fun _ _ => rfl) (fun (h2 : s < 65536) => ?_) (fun (h2 : ¬ (s < 65536)) => ?_)
      · obtain ⟨j, hj, rfl⟩ := inR_of he (by omega)
        have ej : (nI j).toNatClampNeg = j := nI_clamp (by omega)
        repeat (refine zw_nx rfl (fun _ _ => rfl) ?_)
        rw [show (Int8.ofInt 64).toInt32 + nI j = nI (sb 2 + (nI j).toNatClampNeg) from by rw [ej]; exact nI_add 64 j]
        refine zw_call rfl (fun _ _ => rfl) (xt_one (g := gTread w (nI j) s) hL (by rw [ej]; simp only [sb]; omega) ⟨he, Int32.not_lt.mp h1, h2⟩) (by decide) ?_
        intro M1 r1 hp
        obtain ⟨z, rfl⟩ : ∃ z, r1 = some (.int z) := by
          by_cases hq : gTread w (nI j) s ∧ t < 400 ∧ n < 2000
          · exact ⟨_, (hp.1 hq).1⟩
          · exact ⟨_, (hp.2 hq).1⟩
        exact zw_ret rfl (fun _ _ => rfl) (hp)
      · refine zw_nx rfl (fun _ _ => rfl) ?_
        exact zw_ret rfl (fun _ _ => rfl) (xt_no hL (fun z => h2 z.2.2))

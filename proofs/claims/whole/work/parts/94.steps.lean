/-! BOTH TOGETHER: queries -/
section
variable {E w h n t k nb : Nat} {b : Nat → Nat} {S : Nat → Nat → Bool} {I : Nat → Int32} {J : Nat → Int64} {A : Nat → Nat → Int32} {B : Nat → Nat → Int64} {P : Nat → Int32} {Q : Nat → Nat → Int32} {C : Nat → Nat → Int64}
theorem dr_mr2 {f : Nat → va_E} {V : Nat → Int32} {M : sm_M} (hp : M = mm f P Q C ∨ ∃ A' B', M = mm f P A' B' ∧ Dr Q C w h V A' B') : MR f P Q C M := by
  rcases hp with rfl | ⟨A', B', rfl, d1, d2, d3, d4, d5, d6, d7, d8⟩
  · exact ⟨P, Q, C, rfl, mk_rfl⟩
  · exact ⟨P, A', B', rfl, fun _ _ => rfl, fun a ha => d7 a (by omega) (by omega) (by omega) (by omega), d7 8 (by decide) (by decide) (by decide) (by decide), d8 4 (by decide)⟩
theorem xq_w {tl M : sm_M} {I' : Nat → Int32} {A' : Nat → Nat → Int32} {B' : Nat → Nat → Int64} (e : M = xm I' J A' B' tl) (hW : WH w h I' J A' B') (hK : WK I A B I' A' B') : XQ tl w h I J A B M := ⟨I', A', B', e, hW, wk_xk hK⟩
theorem xq_rfl {tl : sm_M} (hW : WH w h I J A B) : XQ tl w h I J A B (xm I J A B tl) := ⟨I, A, B, rfl, hW, xk_rfl⟩
theorem mr_rfl {f : Nat → va_E} : MR f P Q C (mm f P Q C) := ⟨P, Q, C, rfl, mk_rfl⟩
theorem sFault (sc : sm_S) (hG : GI E w h n t k nb b S I J A B P Q C) (x : Int32) : SP E w h sc 123 206 [.int x] (xm I J A B (mt P Q C)) := by
  have h6 := hG.2.2.1.2.2.2.2.1
  have h7 := hG.2.2.1.2.2.2.2.2
  refine sp_q1 (.int (aFault (I 26) (I 27) x)) hG (zc_post (xFault (x := x) ..) ?_) (fun f => zc_post (mFault (x := x) ..) ?_) (by decide) (by decide)
  · rintro M r ⟨rfl, rfl⟩; exact ⟨rfl, xq_rfl hG.2.1.1⟩
  · rintro M r ⟨rfl, rfl⟩; exact ⟨by rw [h6, h7], mr_rfl⟩
theorem sShaft (sc : sm_S) (hG : GI E w h n t k nb b S I J A B P Q C) (x : Int32) : SP E w h sc 125 178 [.int x] (xm I J A B (mt P Q C)) := by
  obtain ⟨p0, p1, w1, w2, h1, h2, m4, mn, mv, hV⟩ := gi_mh hG
  have hW := hG.2.1.1
  refine sp_q1 (.int (if 0 ≤ x ∧ x < nI w then A 3 x.toNatClampNeg else -1)) hG (zc_post (xShaft (w := w) (hI := hW.1) (hw := w2) ..) ?_) (fun f => zc_post (mShaft (n := n) (w := w) (hn := m4) (hnb := mn) (hI := p0) (h1 := w1) (hw := w2) ..) ?_) (by decide) (by decide)
  · rintro M r ⟨rfl, rfl⟩; exact ⟨rfl, xq_rfl hW⟩
  · rintro M r ⟨rfl, rfl⟩
    refine ⟨?_, mr_rfl⟩
    by_cases hx : 0 ≤ x ∧ x < nI w
    · rw [if_pos hx, if_pos hx]
      obtain ⟨q, hq, rfl⟩ := nI_of (Int32.not_lt.mpr hx.1)
      have hq2 : q < w := by have := hx.2; rw [nI_ltI (by omega) (by omega)] at this; exact this
      have := mv 0 q (by omega) (by show q < 48; omega)
      rw [show nI 0 = (0 : Int32) from rfl] at this
      rw [this, nI_clamp (by omega)]
      rw [show sb 0 + q = q from Nat.zero_add q]
    · rw [if_neg hx, if_neg hx]
theorem sLift (sc : sm_S) (hG : GI E w h n t k nb b S I J A B P Q C) (x : Int32) : SP E w h sc 126 179 [.int x] (xm I J A B (mt P Q C)) :=
  sp_q1 _ hG (zc_post (xLift (hW := hG.2.1.1) ..) (fun M r hp => ⟨hp.1, by
    obtain ⟨I', A', B', e, h1, h2⟩ := hp.2
    exact xq_w e h1 h2⟩)) (fun f => zc_post (mLift (hM := gi_mh hG) ..) (fun M r hp => ⟨hp.1, dr_mr2 hp.2⟩)) (by decide) (by decide)
theorem sRow (sc : sm_S) (hG : GI E w h n t k nb b S I J A B P Q C) (x : Int32) : SP E w h sc 127 180 [.int x] (xm I J A B (mt P Q C)) :=
  sp_q1 _ hG (zc_post (xRow (hW := hG.2.1.1) ..) (fun M r hp => ⟨hp.1, by
    obtain ⟨I', A', B', e, h1, h2⟩ := hp.2
    exact xq_w e h1 h2⟩)) (fun f => zc_post (mRow (hM := gi_mh hG) ..) (fun M r hp => ⟨hp.1, dr_mr2 hp.2⟩)) (by decide) (by decide)
theorem sLead (sc : sm_S) (hG : GI E w h n t k nb b S I J A B P Q C) (x y z : Int32) : SP E w h sc 128 181 [.int x, .int y, .int z] (xm I J A B (mt P Q C)) :=
  sp_q1 _ hG (zc_post (xLead (hW := hG.2.1.1) ..) (fun M r hp => ⟨hp.2, by rw [hp.1]; exact xq_rfl hG.2.1.1⟩)) (fun f => mLead (hM := gi_mh hG) (hT := gi_tm hG) ..) (by decide) (by decide)
theorem sLongest (sc : sm_S) (hG : GI E w h n t k nb b S I J A B P Q C) (x y : Bool) : SP E w h sc 129 209 [.int (bb x), .int (bb y)] (xm I J A B (mt P Q C)) := sp_q1 _ hG (xLongest (hW := hG.2.1.1) ..) (fun f => mLongest (hM := gi_mh hG) ..) (by decide) (by decide)
theorem sFloats (sc : sm_S) (hG : GI E w h n t k nb b S I J A B P Q C) (x y : Bool) (m : Int32) : SP E w h sc 130 210 [.int (bb x), .int (bb y), .int m] (xm I J A B (mt P Q C)) := sp_q1 _ hG (xFloats (hW := hG.2.1.1) ..) (fun f => mFloats (hM := gi_mh hG) ..) (by decide) (by decide)
theorem sSeenColour (sc : sm_S) (hG : GI E w h n t k nb b S I J A B P Q C) (x y : Int32) : SP E w h sc 133 221 [.int x, .int y] (xm I J A B (mt P Q C)) := sp_q1 _ hG (xSeenColour (hW := hG.2.1.1) ..) (fun f => mSeenColour (hM := gi_mh hG) ..) (by decide) (by decide)
theorem sColoured (sc : sm_S) (hG : GI E w h n t k nb b S I J A B P Q C) (x : Int32) : SP E w h sc 134 223 [.int x] (xm I J A B (mt P Q C)) := sp_q1 _ hG (xColoured (hW := hG.2.1.1) ..) (fun f => mColoured (hM := gi_mh hG) ..) (by decide) (by decide)
theorem sPeriod (sc : sm_S) (hG : GI E w h n t k nb b S I J A B P Q C) (x y : Bool) : SP E w h sc 135 225 [.int (bb x), .int (bb y)] (xm I J A B (mt P Q C)) :=
  sp_q (fun v => ∃ m, v = .int (nI m) ∧ Per (alk (A 3) y x w h) (if x then w else h) m) (fun u v h1 h2 => by
    obtain ⟨m, rfl, h1⟩ := h1
    obtain ⟨m', rfl, h2⟩ := h2
    rw [per_uniq h1 h2]) (fun v hv => by obtain ⟨m, rfl, _⟩ := hv; exact vk_i (by decide)) hG (zc_post (xPeriod (hW := hG.2.1.1) ..) (fun M r hp => by
    obtain ⟨⟨m, e, hm⟩, hq⟩ := hp
    obtain ⟨I', A', B', e2, g⟩ := gi_xq hG hq
    exact ⟨⟨_, e, m, rfl, hm⟩, I', J, A', B', e2, g⟩)) (fun f => zc_post (mPeriod (hM := gi_mh hG) ..) (fun M r hp => by
    obtain ⟨⟨m, e, hm⟩, hq⟩ := hp
    exact ⟨⟨_, e, m, rfl, hm⟩, hq⟩)) (by decide) (by decide)
theorem sFewest (sc : sm_S) (hG : GI E w h n t k nb b S I J A B P Q C) (x : Bool) : SP E w h sc 136 227 [.int (bb x)] (xm I J A B (mt P Q C)) := sp_q1 _ hG (xFewest (hW := hG.2.1.1) ..) (fun f => mFewest (hM := gi_mh hG) ..) (by decide) (by decide)
theorem sPegs (sc : sm_S) (hG : GI E w h n t k nb b S I J A B P Q C) (x : Bool) : SP E w h sc 137 230 [.int (bb x)] (xm I J A B (mt P Q C)) := sp_q1 _ hG (xPegs (hW := hG.2.1.1) ..) (fun f => mPegs (hM := gi_mh hG) ..) (by decide) (by decide)
theorem sWrong (sc : sm_S) (hG : GI E w h n t k nb b S I J A B P Q C) (x : Int32) : SP E w h sc 140 240 [.int x] (xm I J A B (mt P Q C)) := sp_q1 _ hG (xWrong (hW := hG.2.1.1) (hS := hG.2.2.2.1.1) ..) (fun f => mWrong (hM := gi_mh hG) (hS := hG.2.2.2.1.2) ..) (by decide) (by decide)
theorem sNearest (sc : sm_S) (hG : GI E w h n t k nb b S I J A B P Q C) (x y : Int32) : SP E w h sc 141 242 [.int x, .int y] (xm I J A B (mt P Q C)) := sp_q1 _ hG (xNearest (hW := hG.2.1.1) (hS := hG.2.2.2.1.1) ..) (fun f => mNearest (hM := gi_mh hG) (hS := hG.2.2.2.1.2) ..) (by decide) (by decide)
theorem sShifted (sc : sm_S) (hG : GI E w h n t k nb b S I J A B P Q C) (x : Bool) : SP E w h sc 144 248 [.int (bb x)] (xm I J A B (mt P Q C)) :=
  sp_q (fun v => ∃ q, v = .int q ∧ Sh (fun dx dy => Mv (A 3) S w h dx dy) w h x q) (fun u v h1 h2 => by
    obtain ⟨m, rfl, h1⟩ := h1
    obtain ⟨m', rfl, h2⟩ := h2
    rw [sh_uniq h1 h2]) (fun v hv => by obtain ⟨m, rfl, _⟩ := hv; exact vk_i (by decide)) hG (zc_post (xShifted (hW := hG.2.1.1) (hS := hG.2.2.2.1.1) ..) (fun M r hp => by
    obtain ⟨⟨m, e, hm⟩, hq⟩ := hp
    obtain ⟨I', A', B', e2, g⟩ := gi_xq hG hq
    exact ⟨⟨_, e, m, rfl, hm⟩, I', J, A', B', e2, g⟩)) (fun f => zc_post (mShifted (hM := gi_mh hG) (hS := hG.2.2.2.1.2) ..) (fun M r hp => by
    obtain ⟨⟨m, e, hm⟩, hq⟩ := hp
    exact ⟨⟨_, e, m, rfl, hm⟩, hq⟩)) (by decide) (by decide)
theorem sAbout (sc : sm_S) (hG : GI E w h n t k nb b S I J A B P Q C) (x : Int32) : SP E w h sc 145 249 [.int x] (xm I J A B (mt P Q C)) :=
  sp_q1 _ hG (xAbout (t := t) (k := k) (s := nb) (n := n) (hW := hG.2.1.1) (h4 := hG.1.1.2.1) (h5 := hG.1.1.2.2.1) (h2 := hG.1.1.1) (h11 := hG.2.2.1.1.1) ..) (fun f => mAbout (t := t) (k := k) (s := nb) (hM := gi_mh hG) (h2 := hG.1.2.2.1.2.1) (h3 := hG.1.2.2.1.2.2.1) (h5 := hG.2.2.1.2.1.1) ..) (by decide) (by decide)
end

/-! BOTH TOGETHER: what holds between two calls -/
def mt (I : Nat → Int32) (A : Nat → Nat → Int32) (B : Nat → Nat → Int64) : sm_M := [
  .inr (11, [.int (I 0), .int (I 1), .int (I 2), .int (I 3), .int (I 4), .ref 48, .ref 49, .ref 50, .ref 51, .ref 52, .ref 53, .ref 54, .ref 55, .ref 56, .ref 57, .ref 58, .int (I 5), .int (I 6), .int (I 7), .int (I 8), .int (I 9), .int (I 10), .int (I 11), .int (I 12), .int (I 13), .ref 59, .ref 60, .ref 61, .int (I 14), .ref 62, .ref 63, .ref 64, .ref 65, .int (I 15), .int (I 16), .int (I 17), .int (I 18), .ref 66, .ref 67, .ref 68, .ref 69, .int (I 19), .ref 70, .ref 71, .ref 72, .int (I 20), .ref 73, .ref 74, .int (I 21), .ref 75, .int (I 22), .ref 76, .ref 77, .int (I 23), .int (I 24), .int (I 25)]),
  .inl (0, 2000, .inl (A 0)),
  .inl (0, 2000, .inl (A 1)),
  .inl (0, 2000, .inl (A 2)),
  .inl (0, 2000, .inl (A 3)),
  .inl (0, 48, .inl (A 4)),
  .inl (0, 16, .inl (A 5)),
  .inl (0, 48, .inl (A 6)),
  .inl (0, 48, .inl (A 7)),
  .inl (1, 48, .inr (.inl (B 0))),
  .inl (1, 48, .inr (.inl (B 1))),
  .inl (0, 300, .inl (A 8)),
  .inl (0, 8, .inl (A 9)),
  .inl (0, 8, .inl (A 10)),
  .inl (0, 1600, .inl (A 11)),
  .inl (0, 4000, .inl (A 12)),
  .inl (0, 9, .inl (A 13)),
  .inl (0, 9, .inl (A 14)),
  .inl (0, 10, .inl (A 15)),
  .inl (0, 5000, .inl (A 16)),
  .inl (0, 5000, .inl (A 17)),
  .inl (0, 5000, .inl (A 18)),
  .inl (0, 2400, .inl (A 19)),
  .inl (1, 96, .inr (.inl (B 2))),
  .inl (1, 96, .inr (.inl (B 3))),
  .inl (0, 96, .inl (A 20)),
  .inl (0, 2304, .inl (A 21)),
  .inl (0, 7, .inl (A 22)),
  .inl (0, 64, .inl (A 23)),
  .inl (0, 6, .inl (A 24)),
  .inl (1, 48, .inr (.inl (B 4)))]
/-- the class's cells -/
def xf (I : Nat → Int32) (J : Nat → Int64) (A : Nat → Nat → Int32) (B : Nat → Nat → Int64) (i : Nat) : va_E := (xm I J A B []).getD i (.inr (0, []))
theorem xm_mm {I : Nat → Int32} {J : Nat → Int64} {A : Nat → Nat → Int32} {B : Nat → Nat → Int64} {P : Nat → Int32} {Q : Nat → Nat → Int32} {C : Nat → Nat → Int64} : xm I J A B (mt P Q C) = mm (xf I J A B) P Q C := rfl
/-- a value fits its slot -/
def vOk (s : Nat) (v : Int32) : Prop := (s < 48 → shOk v) ∧ (48 ≤ s → s < 112 → seOk v) ∧ (112 ≤ s → ∃ q, q < 10 ∧ v = nI q)
def EOk (A : Nat → Nat → Int32) (n : Nat) : Prop := ∀ i, i < n → ∃ s, s < 208 ∧ A 0 i = nI s ∧ vOk s (A 1 i)
theorem eok_cong {A A' : Nat → Nat → Int32} {n : Nat} (h : EOk A n) (hA : ∀ a i, a ≤ 2 → i < n → A' a i = A a i) : EOk A' n := fun i hi => by
  rw [hA 0 i (by omega) hi, hA 1 i (by omega) hi]
  exact h i hi
theorem vok_of {I : Nat → Int32} {A : Nat → Nat → Int32} {n t k : Nat} (hL : LInv I A n t k) (hE : EOk A n) : ∀ s, s < 208 → vOk s (A 3 s) := by
  obtain ⟨h1, h2, h3, h4, h5, h6, h7, h8, h9, h10⟩ := hL
  intro s hs
  rw [(h10 s hs).1]
  cases hz : zlast (fun j => decide (A 0 j = nI s ∧ A 2 j ≤ nI k)) n with
  | none =>
    show vOk s (if s < 48 then -1 else 0)
    by_cases h : s < 48
    · rw [if_pos h]
      exact ⟨fun _ => Or.inl rfl, fun z => by omega, fun z => by omega⟩
    · rw [if_neg h]
      exact ⟨fun z => absurd z h, fun _ _ => ⟨0, by omega, rfl⟩, fun _ => ⟨0, by omega, rfl⟩⟩
  | some j =>
    show vOk s (A 1 j)
    obtain ⟨g1, g2, _⟩ := zlast_some hz
    obtain ⟨q, q1, q2, q3⟩ := hE j g1
    have e := (decide_eq_true_eq.mp g2).1
    rw [q2] at e
    have e2 : q = s := (nI_eq (by omega) (by omega)).mp e
    rw [← e2]; exact q3
theorem vok_V {I : Nat → Int32} {A : Nat → Nat → Int32} {n t k : Nat} (hL : LInv I A n t k) (hE : EOk A n) : VOk (A 3) :=
  ⟨fun e he => (vok_of hL hE e (by omega)).1 he, fun s h1 h2 => (vok_of hL hE s (by omega)).2.1 h1 h2, fun s h1 h2 => (vok_of hL hE s h2).2.2 h1⟩
theorem mdc_cong {I I' : Nat → Int32} {A A' : Nat → Nat → Int32} {V : Nat → Int32} {S : Nat → Nat → Bool} {w h : Nat} (hc : MdC I A V S w h) (hI : ∀ z, 41 ≤ z → z ≤ 44 → I' z = I z) (hA : A' 19 = A 19) : MdC I' A' V S w h := by
  unfold MdC MdS at *
  rw [hI 41 (by decide) (by decide), hI 42 (by decide) (by decide), hI 43 (by decide) (by decide), hI 44 (by decide) (by decide), hA]
  exact hc
/-- editions -/
def ED (E : Nat) (I : Nat → Int32) : Prop := ∃ e6 e10 e34 e39 e45 e40 e46, I 6 = nI e6 ∧ I 10 = nI e10 ∧ I 34 = nI e34 ∧ I 39 = nI e39 ∧ I 45 = nI e45 ∧ I 40 = nI e40 ∧ I 46 = nI e46 ∧ e10 ≤ e6 ∧ e34 ≤ e6 ∧ e39 ≤ e6 ∧ e45 ≤ e6 ∧ e46 ≤ e40 ∧ e6 ≤ E ∧ e40 ≤ E
theorem ed_mono {E : Nat} {I : Nat → Int32} (h : ED E I) : ED (E + 1) I := by
  obtain ⟨e6, e10, e34, e39, e45, e40, e46, h1, h2, h3, h4, h5, h6, h7, h8, h9, h10, h11, h12, h13, h14⟩ := h
  exact ⟨e6, e10, e34, e39, e45, e40, e46, h1, h2, h3, h4, h5, h6, h7, h8, h9, h10, h11, h12, by omega, by omega⟩
theorem ed_q {E : Nat} {I I' : Nat → Int32} (h : ED E I) (a6 : I' 6 = I 6) (a10 : I' 10 = I 10 ∨ I' 10 = I 6) (a34 : I' 34 = I 34 ∨ I' 34 = I 6) (a39 : I' 39 = I 39 ∨ I' 39 = I 6) (a45 : I' 45 = I 45 ∨ I' 45 = I 6) (a40 : I' 40 = I 40) (a46 : I' 46 = I 46 ∨ I' 46 = I 40) : ED E I' := by
  obtain ⟨e6, e10, e34, e39, e45, e40, e46, h1, h2, h3, h4, h5, h6, h7, h8, h9, h10, h11, h12, h13, h14⟩ := h
  obtain ⟨f10, k10, l10⟩ : ∃ q, I' 10 = nI q ∧ q ≤ e6 := a10.elim (fun z => ⟨e10, z.trans h2, h8⟩) (fun z => ⟨e6, z.trans h1, Nat.le_refl _⟩)
  obtain ⟨f34, k34, l34⟩ : ∃ q, I' 34 = nI q ∧ q ≤ e6 := a34.elim (fun z => ⟨e34, z.trans h3, h9⟩) (fun z => ⟨e6, z.trans h1, Nat.le_refl _⟩)
  obtain ⟨f39, k39, l39⟩ : ∃ q, I' 39 = nI q ∧ q ≤ e6 := a39.elim (fun z => ⟨e39, z.trans h4, h10⟩) (fun z => ⟨e6, z.trans h1, Nat.le_refl _⟩)
  obtain ⟨f45, k45, l45⟩ : ∃ q, I' 45 = nI q ∧ q ≤ e6 := a45.elim (fun z => ⟨e45, z.trans h5, h11⟩) (fun z => ⟨e6, z.trans h1, Nat.le_refl _⟩)
  obtain ⟨f46, k46, l46⟩ : ∃ q, I' 46 = nI q ∧ q ≤ e40 := a46.elim (fun z => ⟨e46, z.trans h7, h12⟩) (fun z => ⟨e40, z.trans h6, Nat.le_refl _⟩)
  exact ⟨e6, f10, f34, f39, f45, e40, f46, a6.trans h1, k10, k34, k39, k45, a40.trans h6, k46, l10, l34, l39, l45, l46, h13, h14⟩
theorem ed_up {E : Nat} {I I' : Nat → Int32} (hE : E < 100000) (h : ED E I) (a6 : I' 6 = I 6 + 1) (a10 : I' 10 = I 10) (a34 : I' 34 = I 34) (a39 : I' 39 = I 39) (a45 : I' 45 = I 45) (a40 : I' 40 = I 40) (a46 : I' 46 = I 46) : ED (E + 1) I' ∧ I' 10 ≠ I' 6 ∧ I' 34 ≠ I' 6 ∧ I' 39 ≠ I' 6 ∧ I' 45 ≠ I' 6 := by
  obtain ⟨e6, e10, e34, e39, e45, e40, e46, h1, h2, h3, h4, h5, h6, h7, h8, h9, h10, h11, h12, h13, h14⟩ := h
  have k6 : I' 6 = nI (e6 + 1) := by rw [a6, h1]; exact nI_1 e6
  refine ⟨⟨e6 + 1, e10, e34, e39, e45, e40, e46, k6, a10.trans h2, a34.trans h3, a39.trans h4, a45.trans h5, a40.trans h6, a46.trans h7, by omega, by omega, by omega, by omega, h12, by omega, by omega⟩, ?_, ?_, ?_, ?_⟩
  · rw [k6, a10, h2]; exact fun z => by have := (nI_eq (by omega) (by omega)).mp z; omega
  · rw [k6, a34, h3]; exact fun z => by have := (nI_eq (by omega) (by omega)).mp z; omega
  · rw [k6, a39, h4]; exact fun z => by have := (nI_eq (by omega) (by omega)).mp z; omega
  · rw [k6, a45, h5]; exact fun z => by have := (nI_eq (by omega) (by omega)).mp z; omega
theorem ed_up40 {E : Nat} {I I' : Nat → Int32} (hE : E < 100000) (h : ED E I) (a6 : I' 6 = I 6) (a10 : I' 10 = I 10) (a34 : I' 34 = I 34) (a39 : I' 39 = I 39) (a45 : I' 45 = I 45) (a40 : I' 40 = I 40 + 1) (a46 : I' 46 = I 46) : ED (E + 1) I' ∧ I' 46 ≠ I' 40 := by
  obtain ⟨e6, e10, e34, e39, e45, e40, e46, h1, h2, h3, h4, h5, h6, h7, h8, h9, h10, h11, h12, h13, h14⟩ := h
  have k40 : I' 40 = nI (e40 + 1) := by rw [a40, h6]; exact nI_1 e40
  refine ⟨⟨e6, e10, e34, e39, e45, e40 + 1, e46, a6.trans h1, a10.trans h2, a34.trans h3, a39.trans h4, a45.trans h5, k40, a46.trans h7, h8, h9, h10, h11, by omega, by omega, by omega⟩, ?_⟩
  rw [k40, a46, h7]; exact fun z => by have := (nI_eq (by omega) (by omega)).mp z; omega
/-- the class and the reference, side by side -/
def GI (E w h n t k nb : Nat) (b : Nat → Nat) (S : Nat → Nat → Bool) (I : Nat → Int32) (J : Nat → Int64) (A : Nat → Nat → Int32) (B : Nat → Nat → Int64) (P : Nat → Int32) (Q : Nat → Nat → Int32) (C : Nat → Nat → Int64) : Prop :=
  (LInv I A n t k ∧ EOk A n ∧ MInv P Q n t k ∧ RelE A Q n) ∧ (WH w h I J A B ∧ P 0 = nI w ∧ P 1 = nI h) ∧ (TpX I A b nb ∧ TpM P Q b nb ∧ I 16 = nI w ∧ I 17 = nI h ∧ I 26 = P 6 ∧ I 27 = P 7) ∧ (SOk B w h S ∧ RSOk C w h S) ∧ ((I 34 = I 6 → LyC I A (A 3) w h) ∧ (I 39 = I 6 → CvC I A (A 3) w h) ∧ (I 45 = I 6 → I 46 = I 40 → MdC I A (A 3) S w h)) ∧ ED E I
def GM (E w h : Nat) (M : sm_M) : Prop := ∃ n t k nb b S I J A B P Q C, M = xm I J A B (mt P Q C) ∧ GI E w h n t k nb b S I J A B P Q C
/-- the kind of an answer -/
def vK (X : Nat) (v : Value) : Prop := if X = 127 then ∃ x, v = .long x else ∃ x, v = .int x
theorem vk_i {X : Nat} (h : X ≠ 127) {x : Int32} : vK X (.int x) := by
  unfold vK
  rw [if_neg h]
  exact ⟨x, rfl⟩
theorem vk_l {x : Int64} : vK 127 (.long x) := by
  unfold vK
  rw [if_pos rfl]
  exact ⟨x, rfl⟩
def XM (M : sm_M) : Prop := ∃ I J A B P Q C, M = xm I J A B (mt P Q C)
theorem xM {I : Nat → Int32} {J : Nat → Int64} {A : Nat → Nat → Int32} {B : Nat → Nat → Int64} {P : Nat → Int32} {Q : Nat → Nat → Int32} {C : Nat → Nat → Int64} : XM (xm I J A B (mt P Q C)) := ⟨I, J, A, B, P, Q, C, rfl⟩
/-- one call of both -/
def SP (E w h : Nat) (sc : sm_S) (X Y : Nat) (as : List Value) (M : sm_M) : Prop := zC 12 sc X (.ref 0 :: as) M (fun M1 r => ∃ v, r = some v ∧ vK X v ∧ XM M1 ∧ zC 12 sc Y (.ref 47 :: as) M1 (fun M2 r' => r' = some v ∧ GM (E + 1) w h M2))
section
variable {E w h n t k nb : Nat} {b : Nat → Nat} {S : Nat → Nat → Bool} {I : Nat → Int32} {J : Nat → Int64} {A : Nat → Nat → Int32} {B : Nat → Nat → Int64} {P : Nat → Int32} {Q : Nat → Nat → Int32} {C : Nat → Nat → Int64}
theorem gi_mono (hG : GI E w h n t k nb b S I J A B P Q C) : GI (E + 1) w h n t k nb b S I J A B P Q C := ⟨hG.1, hG.2.1, hG.2.2.1, hG.2.2.2.1, hG.2.2.2.2.1, ed_mono hG.2.2.2.2.2⟩
theorem gi_mh (hG : GI E w h n t k nb b S I J A B P Q C) : MH P Q w h n (A 3) := by
  obtain ⟨⟨l, e, m, r⟩, ⟨hW, p0, p1⟩, _⟩ := hG
  obtain ⟨m4, m2, m3, mn, mt', mk', me⟩ := m
  refine ⟨p0, p1, hW.2.2.2.2.1, hW.2.2.2.2.2.1, hW.2.2.2.2.2.2.1, hW.2.2.2.2.2.2.2.1, m4, mn, fun a c ha hc => ?_, vok_V l e⟩
  rw [m3]
  exact (rel_val l r ha hc).symm
theorem gi_tm (hG : GI E w h n t k nb b S I J A B P Q C) : ∀ a c, a ≤ 4 → c < ksz a → mTim Q n (nI a) (nI c) (P 3) = A 4 (sb a + c) := by
  obtain ⟨⟨l, e, m, r⟩, _⟩ := hG
  intro a c ha hc
  rw [m.2.2.1]
  exact (rel_tim l r ha hc).symm
/-- a query of the class -/
theorem gi_x {I' : Nat → Int32} {J' : Nat → Int64} {A' : Nat → Nat → Int32} {B' : Nat → Nat → Int64} (hG : GI E w h n t k nb b S I J A B P Q C) (hW : WH w h I' J' A' B') (hz : ∀ z, z ≤ 8 ∨ (10 < z ∧ z < 28) ∨ z = 40 → I' z = I z) (ha : ∀ a, a ≤ 4 ∨ a = 6 → A' a = A a) (hb : ∀ c, c = 13 ∨ c = 14 → B' c = B c) (hl : I' 34 = I' 6 → LyC I' A' (A 3) w h) (hc : I' 39 = I' 6 → CvC I' A' (A 3) w h) (hm : I' 45 = I' 6 → I' 46 = I' 40 → MdC I' A' (A 3) S w h) (he : ED E I') : GI E w h n t k nb b S I' J' A' B' P Q C := by
  obtain ⟨⟨l, e, m, r⟩, ⟨_, p0, p1⟩, ⟨tx, tm, i16, i17, i26, i27⟩, ⟨so, ro⟩, _, _⟩ := hG
  have e3 := ha 3 (by omega)
  refine ⟨⟨linv_cong l (hz 2 (by omega)) (hz 4 (by omega)) (hz 5 (by omega)) (fun a i h1 _ => by rw [ha a (by omega)]) e3 (ha 4 (by omega)), eok_cong e (fun a i h1 _ => by rw [ha a (by omega)]), m, rel_cong r (fun i _ => by rw [ha 0 (by omega)]) (fun i _ => by rw [ha 1 (by omega)]) (fun i _ => by rw [ha 2 (by omega)])⟩, ⟨hW, p0, p1⟩, ⟨⟨by rw [hz 11 (by omega)]; exact tx.1, tx.2.1, by rw [ha 6 (by omega)]; exact tx.2.2⟩, tm, by rw [hz 16 (by omega)]; exact i16, by rw [hz 17 (by omega)]; exact i17, by rw [hz 26 (by omega)]; exact i26, by rw [hz 27 (by omega)]; exact i27⟩, ⟨?_, ro⟩, ⟨?_, ?_, ?_⟩, he⟩
  · unfold SOk
    rw [hb 13 (by omega), hb 14 (by omega)]
    exact so
  · rw [e3]; exact hl
  · rw [e3]; exact hc
  · rw [e3]; exact hm
/-- a query of the reference -/
theorem gi_m {P' : Nat → Int32} {Q' : Nat → Nat → Int32} {C' : Nat → Nat → Int64} (hG : GI E w h n t k nb b S I J A B P Q C) (hK : MK P Q C P' Q' C') : GI E w h n t k nb b S I J A B P' Q' C' := by
  obtain ⟨⟨l, e, m, r⟩, ⟨hW, p0, p1⟩, ⟨tx, tm, i16, i17, i26, i27⟩, ⟨so, ro⟩, hc, he⟩ := hG
  obtain ⟨k1, k2, k3, k4⟩ := hK
  obtain ⟨m1, m2, m3, m4, m5, m6, m7⟩ := m
  refine ⟨⟨l, e, ⟨by rw [k1 4 (by omega)]; exact m1, by rw [k1 2 (by omega)]; exact m2, by rw [k1 3 (by omega)]; exact m3, m4, m5, m6, by rw [k2 0 (by omega), k2 1 (by omega)]; exact m7⟩, ?_⟩, ⟨hW, by rw [k1 0 (by omega)]; exact p0, by rw [k1 1 (by omega)]; exact p1⟩, ⟨tx, ⟨by rw [k1 5 (by omega)]; exact tm.1, tm.2.1, by rw [k3]; exact tm.2.2⟩, i16, i17, by rw [k1 6 (by omega)]; exact i26, by rw [k1 7 (by omega)]; exact i27⟩, ⟨so, ?_⟩, hc, he⟩
  · unfold RelE
    rw [k2 0 (by omega), k2 1 (by omega), k2 2 (by omega), k2 3 (by omega)]
    exact r
  · unfold RSOk
    rw [k4]; exact ro
theorem gi_xq {M : sm_M} {tl : sm_M} (hG : GI E w h n t k nb b S I J A B P Q C) (hx : XQ tl w h I J A B M) : ∃ I' A' B', M = xm I' J A' B' tl ∧ GI E w h n t k nb b S I' J A' B' P Q C := by
  obtain ⟨I', A', B', rfl, hW, hK⟩ := hx
  obtain ⟨k1, k2, k3, k4⟩ := hK
  have hc := hG.2.2.2.2.1
  have i6 := k1 6 (by decide) (by decide) (by decide)
  refine ⟨I', A', B', rfl, gi_x hG hW (fun z hz => k1 z (by omega) (by omega) (by omega)) (fun a ha => k2 a (by omega) (by omega)) (fun c hc => k3 c (by omega)) ?_ ?_ ?_ (ed_q hG.2.2.2.2.2 i6 k4 (Or.inl (k1 34 (by decide) (by decide) (by decide))) (Or.inl (k1 39 (by decide) (by decide) (by decide))) (Or.inl (k1 45 (by decide) (by decide) (by decide))) (k1 40 (by decide) (by decide) (by decide)) (Or.inl (k1 46 (by decide) (by decide) (by decide))))⟩
  · rw [k1 34 (by decide) (by decide) (by decide), i6]
    exact fun z => lyc_cong (hc.1 z) (fun q h1 h2 => k1 q (by omega) (by omega) (by omega)) (k2 14 (by decide) (by decide))
  · rw [k1 39 (by decide) (by decide) (by decide), i6]
    exact fun z => cvc_cong (hc.2.1 z) (k1 38 (by decide) (by decide) (by decide)) (k2 18 (by decide) (by decide))
  · rw [k1 45 (by decide) (by decide) (by decide), i6, k1 46 (by decide) (by decide) (by decide), k1 40 (by decide) (by decide) (by decide)]
    exact fun z z2 => mdc_cong (hc.2.2 z z2) (fun q h1 h2 => k1 q (by omega) (by omega) (by omega)) (k2 19 (by decide) (by decide))
/-- a query of both -/
theorem sp_q {sc : sm_S} {X Y d1 d2 : Nat} {as : List Value} (Ans : Value → Prop) (hu : ∀ x y, Ans x → Ans y → x = y) (hk : ∀ x, Ans x → vK X x) (hG : GI E w h n t k nb b S I J A B P Q C) (hx : zC d1 sc X (.ref 0 :: as) (xm I J A B (mt P Q C)) (fun M r => (∃ v, r = some v ∧ Ans v) ∧ ∃ I' J' A' B', M = xm I' J' A' B' (mt P Q C) ∧ GI E w h n t k nb b S I' J' A' B' P Q C)) (hm : ∀ f, zC d2 sc Y (.ref 47 :: as) (mm f P Q C) (fun M r => (∃ v, r = some v ∧ Ans v) ∧ MR f P Q C M)) (hd1 : d1 ≤ 12) (hd2 : d2 ≤ 12) : SP E w h sc X Y as (xm I J A B (mt P Q C)) := by
  refine zc_up (zc_post hx ?_) hd1
  rintro M r ⟨⟨v, rfl, hv⟩, I', J', A', B', rfl, hG'⟩
  refine ⟨v, rfl, hk v hv, xM, ?_⟩
  rw [xm_mm]
  refine zc_up (zc_post (hm (xf I' J' A' B')) ?_) hd2
  rintro M r ⟨⟨v', rfl, hv'⟩, P', Q', C', rfl, hK⟩
  exact ⟨by rw [hu v v' hv hv'], n, t, k, nb, b, S, I', J', A', B', P', Q', C', rfl, gi_mono (gi_m hG' hK)⟩
/-- a query of both that has one answer -/
theorem sp_q1 {sc : sm_S} {X Y d1 d2 : Nat} {as : List Value} (v : Value) (hG : GI E w h n t k nb b S I J A B P Q C) (hx : zC d1 sc X (.ref 0 :: as) (xm I J A B (mt P Q C)) (fun M r => r = some v ∧ XQ (mt P Q C) w h I J A B M)) (hm : ∀ f, zC d2 sc Y (.ref 47 :: as) (mm f P Q C) (fun M r => r = some v ∧ MR f P Q C M)) (hd1 : d1 ≤ 12) (hd2 : d2 ≤ 12) (hk : vK X v := by first | exact vk_i (by decide) | exact vk_l) : SP E w h sc X Y as (xm I J A B (mt P Q C)) :=
  sp_q (fun x => x = v) (fun x y h1 h2 => h1.trans h2.symm) (fun x hx => by rw [hx]; exact hk) hG (zc_post hx (fun M r hp => ⟨⟨v, hp.1, rfl⟩, by
    obtain ⟨I', A', B', e, g⟩ := gi_xq hG hp.2
    exact ⟨I', J, A', B', e, g⟩⟩)) (fun f => zc_post (hm f) (fun M r hp => ⟨⟨v, hp.1, rfl⟩, hp.2⟩)) hd1 hd2
end

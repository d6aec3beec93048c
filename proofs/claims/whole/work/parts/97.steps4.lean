/-! BOTH TOGETHER: tellings, text -/
section
variable {E w h n t k nb : Nat} {b : Nat → Nat} {S : Nat → Nat → Bool} {I : Nat → Int32} {J : Nat → Int64} {A : Nat → Nat → Int32} {B : Nat → Nat → Int64} {P : Nat → Int32} {Q : Nat → Nat → Int32} {C : Nat → Nat → Int64}
/-- one telling, in both -/
theorem sp_tell {sc : sm_S} {X Y d1 d2 : Nat} {as : List Value} (a : Nat) (c v : Int32) (g : Prop) (ha : a ≤ 4) (hE : E < 100000) (hG : GI E w h n t k nb b S I J A B P Q C) (hg : g → 0 ≤ c ∧ c.toNatClampNeg < ksz a ∧ vOk (sb a + c.toNatClampNeg) v) (hx : zC d1 sc X (.ref 0 :: as) (xm I J A B (mt P Q C)) (xtPost I J A B (mt P Q C) n t k g (sb a + c.toNatClampNeg) v)) (hm : ∀ f, zC d2 sc Y (.ref 47 :: as) (mm f P Q C) (mtPost f P Q C n t g (nI a) c v)) (hd1 : d1 ≤ 12) (hd2 : d2 ≤ 12) (hX : X ≠ 127 := by decide) : SP E w h sc X Y as (xm I J A B (mt P Q C)) := by
  have hGG := hG
  obtain ⟨⟨l, e, m, r⟩, _, ⟨tx, tm, i16, i17, f6, f7⟩, _⟩ := hG
  refine zc_up (zc_post hx ?_) hd1
  rintro M rr ⟨c1, c2⟩
  by_cases hq : g ∧ t < 400 ∧ n < 2000
  · obtain ⟨rfl, A', rfl, ha', l'⟩ := c1 hq
    refine ⟨_, rfl, vk_i hX, xM, ?_⟩
    rw [xm_mm]
    refine zc_up (zc_post (hm _) ?_) hd2
    rintro M rr ⟨d1, d2⟩
    obtain ⟨rfl, rfl⟩ := d1 hq
    obtain ⟨g1, g2, g3⟩ := hg hq.1
    obtain ⟨q, hq2, rfl⟩ := nI_of (Int32.not_lt.mpr g1)
    rw [nI_clamp (by omega)] at g2 g3 ha'
    have hsb := sb_lt ha g2
    have e0 : A' 0 = upd (A 0) n (nI (sb a + q)) := ha' 0 (by decide) (by decide)
    have e1 : A' 1 = upd (A 1) n v := ha' 1 (by decide) (by decide)
    have e2 : A' 2 = upd (A 2) n (nI (t + 1)) := ha' 2 (by decide) (by decide)
    have r' : RelE A' (mtA Q n (nI a) (nI q) v (nI (t + 1))) (n + 1) := rel_add r ha g2 e0 e1 e2
    refine ⟨rfl, n + 1, t + 1, t + 1, nb, b, S, tkI (upd I 3 (nI (n + 1))) (n + 1) t, J, A', B, mtI P n t, mtA Q n (nI a) (nI q) v (nI (t + 1)), C, rfl, gi_e hE hGG l' (fun i hi => ?_) ⟨rfl, rfl, rfl, by omega, by omega, Nat.le_refl _, fun i hi => ?_⟩ r' ⟨tx.1, tx.2.1, by rw [ha' 6 (by decide) (by decide)]; exact tx.2.2⟩ ⟨tm.1, tm.2.1, tm.2.2⟩ f6 f7 (fun z hz => ?_) rfl rfl rfl⟩
    · rw [e0, e1]
      unfold upd
      by_cases h1 : i = n
      · rw [if_pos h1, if_pos h1]; exact ⟨_, hsb, rfl, g3⟩
      · rw [if_neg h1, if_neg h1]; exact e i (by omega)
    · obtain ⟨a2, c2, u1, u2, u3, u4, _⟩ := r' i hi
      exact ⟨a2, c2, u1, u2, u3, u4⟩
    · unfold tkI upd
      rw [if_neg (by omega), if_neg (by omega), if_neg (by omega), if_neg (by omega), if_neg (by omega)]
  · obtain ⟨rfl, I', A', rfl, hz, ha', hlo, l'⟩ := c2 hq
    refine ⟨_, rfl, vk_i hX, xM, ?_⟩
    rw [xm_mm]
    refine zc_up (zc_post (hm _) ?_) hd2
    rintro M rr ⟨d1, d2⟩
    obtain ⟨rfl, rfl⟩ := d2 hq
    exact ⟨rfl, n, t, k, nb, b, S, I', J, A', B, P, Q, C, rfl, gi_mono (gi_s hGG l' (fun a i _ hi => hlo a i hi) (ha' 3 (by omega)) (fun a h1 => ha' a (by omega)) (fun z h1 => hz z (by omega)) ⟨by rw [hz 11 (by decide)]; exact tx.1, tx.2.1, by rw [ha' 6 (by omega)]; exact tx.2.2⟩ tm (by rw [hz 26 (by decide)]; exact f6) (by rw [hz 27 (by decide)]; exact f7) m r rfl rfl)⟩
theorem in_lt {c : Int32} {w : Nat} (hw : w ≤ 48) (h : 0 ≤ c ∧ c < nI w) : c.toNatClampNeg < w := by
  obtain ⟨q, hq, rfl⟩ := nI_of (Int32.not_lt.mpr h.1)
  rw [nI_clamp (by omega)]
  exact (nI_ltI (by omega) (by omega)).mp h.2
theorem se_in {s : Int32} (h : 0 ≤ s ∧ s < 65536) : seOk s := by
  obtain ⟨q, hq, rfl⟩ := nI_of (Int32.not_lt.mpr h.1)
  exact ⟨q, (nI_ltI (b := 65536) (by omega) (by omega)).mp h.2, rfl⟩
theorem sh_in {s : Int32} (h : -1 ≤ s ∧ s < 16) : shOk s := by
  by_cases h0 : s < 0
  · left
    have h1 := Int32.le_iff_toInt_le.mp h.1
    have h2 := Int32.lt_iff_toInt_lt.mp h0
    apply Int32.toInt_inj.mp
    rw [show (-1 : Int32).toInt = -1 by decide] at h1 ⊢
    rw [show (0 : Int32).toInt = 0 by decide] at h2
    omega
  · right
    obtain ⟨q, hq, rfl⟩ := nI_of h0
    exact ⟨q, (nI_ltI (b := 16) (by omega) (by omega)).mp h.2, rfl⟩
theorem co_in {s : Int32} (h : 0 ≤ s ∧ s < 10) : ∃ q, q < 10 ∧ s = nI q := by
  obtain ⟨q, hq, rfl⟩ := nI_of (Int32.not_lt.mpr h.1)
  exact ⟨q, (nI_ltI (b := 10) (by omega) (by omega)).mp h.2, rfl⟩
theorem sThread (sc : sm_S) (hE : E < 100000) (hG : GI E w h n t k nb b S I J A B P Q C) (x y : Int32) : SP E w h sc 116 169 [.int x, .int y] (xm I J A B (mt P Q C)) := by
  obtain ⟨p0, p1, w1, w2, h1, h2, m4, mn, mv, hV⟩ := gi_mh hG
  refine sp_tell 0 x y (gThread w x y) (by decide) hE hG (fun hg => ?_) (xThread (hL := hG.1.1) (hI := hG.2.1.1.1) (hw := w2) ..) (fun f => mThread (k := k) (hM := hG.1.2.2.1) (hI := p0) (h1 := w1) (hw := w2) ..) (by decide) (by decide)
  have hc := in_lt w2 hg.1
  exact ⟨hg.1.1, show _ < 48 by omega, fun _ => sh_in hg.2, fun z => by have : sb 0 = 0 := rfl; omega, fun z => by have : sb 0 = 0 := rfl; omega⟩
theorem sTie (sc : sm_S) (hE : E < 100000) (hG : GI E w h n t k nb b S I J A B P Q C) (x y : Int32) : SP E w h sc 117 170 [.int x, .int y] (xm I J A B (mt P Q C)) := by
  refine sp_tell 1 x y (gTie x y) (by decide) hE hG (fun hg => ?_) (xTie (hL := hG.1.1) ..) (fun f => mTie (k := k) (hM := hG.1.2.2.1) ..) (by decide) (by decide)
  have hc : x.toNatClampNeg < 16 := in_lt (w := 16) (by decide) hg.1
  exact ⟨hg.1.1, hc, fun z => by have : sb 1 = 48 := rfl; omega, fun _ _ => se_in hg.2, fun z => by have : sb 1 = 48 := rfl; omega⟩
theorem sTread (sc : sm_S) (hE : E < 100000) (hG : GI E w h n t k nb b S I J A B P Q C) (x y : Int32) : SP E w h sc 118 171 [.int x, .int y] (xm I J A B (mt P Q C)) := by
  obtain ⟨p0, p1, w1, w2, h1, h2, m4, mn, mv, hV⟩ := gi_mh hG
  refine sp_tell 2 x y (gTread h x y) (by decide) hE hG (fun hg => ?_) (xTread (hL := hG.1.1) (hI := hG.2.1.1.2.1) (hw := h2) ..) (fun f => mTread (k := k) (hM := hG.1.2.2.1) (hI := p1) (h1 := h1) (hw := h2) ..) (by decide) (by decide)
  have hc := in_lt h2 hg.1
  exact ⟨hg.1.1, show _ < 48 by omega, fun z => by have : sb 2 = 64 := rfl; omega, fun _ _ => se_in hg.2, fun z => by have : sb 2 = 64 := rfl; omega⟩
theorem sColour (sc : sm_S) (hE : E < 100000) (hG : GI E w h n t k nb b S I J A B P Q C) (c : Bool) (x y : Int32) : SP E w h sc 119 172 [.int (bb c), .int x, .int y] (xm I J A B (mt P Q C)) := by
  obtain ⟨p0, p1, w1, w2, h1, h2, m4, mn, mv, hV⟩ := gi_mh hG
  cases c with
  | true =>
    refine sp_tell 3 x y (gCol w x y) (by decide) hE hG (fun hg => ?_) (xColourE (hL := hG.1.1) (hI := hG.2.1.1.1) (hw := w2) ..) (fun f => mColourE (k := k) (hM := hG.1.2.2.1) (hI := p0) (h1 := w1) (hw := w2) ..) (by decide) (by decide)
    have hc := in_lt w2 hg.1
    exact ⟨hg.1.1, show _ < 48 by omega, fun z => by have : sb 3 = 112 := rfl; omega, fun _ z => by have : sb 3 = 112 := rfl; omega, fun _ => co_in hg.2⟩
  | false =>
    refine sp_tell 4 x y (gCol h x y) (by decide) hE hG (fun hg => ?_) (xColourP (hL := hG.1.1) (hI := hG.2.1.1.2.1) (hw := h2) ..) (fun f => mColourP (k := k) (hM := hG.1.2.2.1) (hI := p1) (h1 := h1) (hw := h2) ..) (by decide) (by decide)
    have hc := in_lt h2 hg.1
    exact ⟨hg.1.1, show _ < 48 by omega, fun z => by have : sb 4 = 160 := rfl; omega, fun _ z => by have : sb 4 = 160 := rfl; omega, fun _ => co_in hg.2⟩
theorem enK_v {w h : Nat} {e : Nat × Nat × Int32} (he : enK w h e) (hw : w ≤ 48) (hh : h ≤ 48) : vOk (sb e.1 + e.2.1) e.2.2 := by
  rcases he with ⟨h1, h2, x, h3, h4⟩ | ⟨h1, h2, h3⟩ | ⟨h1, h2, h3⟩
  · rw [h1, h4]
    have : sb 0 = 0 := rfl
    exact ⟨fun _ => Or.inr ⟨x, h3, rfl⟩, fun z => by omega, fun z => by omega⟩
  · rw [h1]
    have : sb 1 = 48 := rfl
    exact ⟨fun z => by omega, fun _ _ => h3, fun z => by omega⟩
  · rw [h1]
    have : sb 2 = 64 := rfl
    exact ⟨fun z => by omega, fun _ _ => h3, fun z => by omega⟩
theorem sText (sc : sm_S) (hE : E < 100000) (hG : GI E w h n t k nb b S I J A B P Q C) : SP E w h sc 122 205 [] (xm I J A B (mt P Q C)) := by
  have hGG := hG
  obtain ⟨p0, p1, w1, w2, h1, h2, m4, mn, mv, hV⟩ := gi_mh hG
  obtain ⟨⟨l, e, m, r⟩, _, ⟨tx, tm, i16, i17, f6, f7⟩, _⟩ := hG
  refine zc_up (zc_post (xText (hw := w2) (hh := h2) (hL := l) (hTp := tx) (h16 := i16) (h17 := i17) ..) ?_) (show 11 ≤ 12 by decide)
  rintro M rr ⟨R, hO, I', A', rfl, x11, x26, x27, xz, xa, xlo, hx⟩
  have hO2 := hO
  obtain ⟨mm0, hm⟩ := hO2
  obtain ⟨-, rlen, ren⟩ := out_en w2 h2 tx.2.1 (Nat.zero_le _) ti_0 hm
  obtain ⟨v, rfl⟩ : ∃ v, rr = some (.int v) := hx.elim (fun z => ⟨_, z.2.2.2.1⟩) (fun z => ⟨_, z.2.1⟩)
  refine ⟨_, rfl, vk_i (by decide), xM, ?_⟩
  rw [xm_mm]
  refine zc_up (zc_post (mText (b := b) (n := nb) (n0 := n) (t := t) (hw := w2) (hh := h2) (hTp := tm) (h0 := p0) (h1 := p1) (h4 := m.1) (h2 := m.2.1) (hn0 := m.2.2.2.1) (ht := m.2.2.2.2.1) ..) ?_) (show 9 ≤ 12 by decide)
  rintro M rr ⟨R', hO', P', Q', rfl, y5, y6, y7, yz, ya, ylo, hy⟩
  have eR := out_u hO' hO
  subst eR
  have tx' : TpX I' A' b 0 := ⟨x11, by omega, fun i hi => absurd hi (Nat.not_lt_zero _)⟩
  have tm' : TpM P' Q' b 0 := ⟨y5, by omega, fun i hi => absurd hi (Nat.not_lt_zero _)⟩
  rcases hx with ⟨c0, c1, c2, ev, l', x6, xe⟩ | ⟨c, ev, l', x6, x3, x4⟩
  · rcases hy with ⟨_, _, _, rfl, y4, y2, y3, ye⟩ | ⟨d, _⟩
    · have r' := rel_text w2 h2 r ren xlo ylo xe ye
      refine ⟨ev.symm ▸ rfl, n + R'.2.2.length, t + 1, t + 1, 0, b, S, I', J, A', B, P', Q', C, rfl, gi_e hE hGG l' (fun i hi => ?_) ⟨y4, y2, y3, c2, by omega, Nat.le_refl _, fun i hi => ?_⟩ r' tx' tm' (by rw [x26, y6]) (by rw [x27, y7]) (fun z hz => xz z hz) x6 (yz 0 (by omega)) (yz 1 (by omega))⟩
      · by_cases hin : i < n
        · rw [xlo 0 i (by omega) hin, xlo 1 i (by omega) hin]; exact e i hin
        · have hj : i - n < R'.2.2.length := by omega
          have hxi := xe (i - n) hj
          rw [show n + (i - n) = i by omega] at hxi
          have hk := ren _ (gE_mem hj)
          have hsb := enK_sb w2 h2 hk
          exact ⟨_, sb_lt hsb.1 hsb.2, hxi.1, by rw [hxi.2.1]; exact enK_v hk w2 h2⟩
      · obtain ⟨a2, c2, u1, u2, u3, u4, _⟩ := r' i hi
        exact ⟨a2, c2, u1, u2, u3, u4⟩
    · exact absurd ⟨c0, c1, c2⟩ d
  · rcases hy with ⟨d0, d1, d2, _⟩ | ⟨_, rfl, y2, y3, y4, ya3⟩
    · exact absurd ⟨d0, d1, d2⟩ c
    · refine ⟨ev.symm ▸ rfl, n, t, k, 0, b, S, I', J, A', B, P', Q', C, rfl, gi_mono (gi_s hGG l' xlo x3 (fun a ha => xa a (by omega) (by omega)) (fun z hz => ?_) tx' tm' (by rw [x26, y6]) (by rw [x27, y7]) (minv_cong m y2 y3 y4 (fun a i h1 _ => by rw [ya3 a h1])) ?_ (yz 0 (by omega)) (yz 1 (by omega)))⟩
      · by_cases h6 : z = 6
        · rw [h6]; exact x6
        · exact xz z (by omega)
      · unfold RelE
        rw [ya3 0 (by omega), ya3 1 (by omega), ya3 2 (by omega), ya3 3 (by omega)]
        exact r
end

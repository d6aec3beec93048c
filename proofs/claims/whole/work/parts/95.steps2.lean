/-! BOTH TOGETHER: queries with caches; feed, end, seen, look -/
section
variable {E w h n t k nb : Nat} {b : Nat → Nat} {S : Nat → Nat → Bool} {I : Nat → Int32} {J : Nat → Int64} {A : Nat → Nat → Int32} {B : Nat → Nat → Int64} {P : Nat → Int32} {Q : Nat → Nat → Int32} {C : Nat → Nat → Int64}
theorem gi_ly {M tl : sm_M} (hG : GI E w h n t k nb b S I J A B P Q C) (hx : LyQ tl w h I J A B M) : ∃ I' J' A' B', M = xm I' J' A' B' tl ∧ GI E w h n t k nb b S I' J' A' B' P Q C := by
  obtain ⟨I', J', A', B', rfl, hW, hl, hz, h34, _, ha, hb, h10⟩ := hx
  have hc := hG.2.2.2.2.1
  have i6 := hz 6 (by decide) (by decide) (by omega)
  refine ⟨I', J', A', B', rfl, gi_x hG hW (fun z hq => hz z (by omega) (by omega) (by omega)) (fun a hq => ha a (by omega) (by omega)) (fun c hq => hb c (by omega) (by omega)) hl ?_ ?_ (ed_q hG.2.2.2.2.2 i6 h10 h34 (Or.inl (hz 39 (by decide) (by decide) (by omega))) (Or.inl (hz 45 (by decide) (by decide) (by omega))) (hz 40 (by decide) (by decide) (by omega)) (Or.inl (hz 46 (by decide) (by decide) (by omega))))⟩
  · rw [hz 39 (by decide) (by decide) (by omega), i6]
    exact fun z => cvc_cong (hc.2.1 z) (hz 38 (by decide) (by decide) (by omega)) (ha 18 (by decide) (by decide))
  · rw [hz 45 (by decide) (by decide) (by omega), i6, hz 46 (by decide) (by decide) (by omega), hz 40 (by decide) (by decide) (by omega)]
    exact fun z z2 => mdc_cong (hc.2.2 z z2) (fun q h1 h2 => hz q (by omega) (by omega) (by omega)) (ha 19 (by decide) (by decide))
theorem gi_cv {M tl : sm_M} (hG : GI E w h n t k nb b S I J A B P Q C) (hx : CvQ tl w h I J A B M) : ∃ I' J' A' B', M = xm I' J' A' B' tl ∧ GI E w h n t k nb b S I' J' A' B' P Q C := by
  obtain ⟨I', A', B', rfl, hW, hl, hz, h39, ha, hb, h10⟩ := hx
  have hc := hG.2.2.2.2.1
  have i6 := hz 6 (by decide) (by decide) (by omega)
  refine ⟨I', J, A', B', rfl, gi_x hG hW (fun z hq => hz z (by omega) (by omega) (by omega)) (fun a hq => ha a (by omega) (by omega)) (fun c hq => hb c (by omega) (by omega)) ?_ hl ?_ (ed_q hG.2.2.2.2.2 i6 h10 (Or.inl (hz 34 (by decide) (by decide) (by omega))) h39 (Or.inl (hz 45 (by decide) (by decide) (by omega))) (hz 40 (by decide) (by decide) (by omega)) (Or.inl (hz 46 (by decide) (by decide) (by omega))))⟩
  · rw [hz 34 (by decide) (by decide) (by omega), i6]
    exact fun z => lyc_cong (hc.1 z) (fun q h1 h2 => hz q (by omega) (by omega) (by omega)) (ha 14 (by decide) (by omega))
  · rw [hz 45 (by decide) (by decide) (by omega), i6, hz 46 (by decide) (by decide) (by omega), hz 40 (by decide) (by decide) (by omega)]
    exact fun z z2 => mdc_cong (hc.2.2 z z2) (fun q h1 h2 => hz q (by omega) (by omega) (by omega)) (ha 19 (by decide) (by omega))
theorem gi_md {M tl : sm_M} (hG : GI E w h n t k nb b S I J A B P Q C) (hx : MdQ tl w h S I J A B M) : ∃ I' J' A' B', M = xm I' J' A' B' tl ∧ GI E w h n t k nb b S I' J' A' B' P Q C := by
  obtain ⟨I', J', A', B', rfl, hW, hm, hz, h45, h46, _, ha, hb, h10⟩ := hx
  have hc := hG.2.2.2.2.1
  have i6 := hz 6 (by decide) (by decide) (by omega)
  refine ⟨I', J', A', B', rfl, gi_x hG hW (fun z hq => hz z (by omega) (by omega) (by omega)) (fun a hq => ha a (by omega) (by omega)) (fun c hq => hb c (by omega) (by omega)) ?_ ?_ hm (ed_q hG.2.2.2.2.2 i6 h10 (Or.inl (hz 34 (by decide) (by decide) (by omega))) (Or.inl (hz 39 (by decide) (by decide) (by omega))) h45 (hz 40 (by decide) (by decide) (by omega)) h46)⟩
  · rw [hz 34 (by decide) (by decide) (by omega), i6]
    exact fun z => lyc_cong (hc.1 z) (fun q h1 h2 => hz q (by omega) (by omega) (by omega)) (ha 14 (by decide) (by decide))
  · rw [hz 39 (by decide) (by decide) (by omega), i6]
    exact fun z => cvc_cong (hc.2.1 z) (hz 38 (by decide) (by decide) (by omega)) (ha 18 (by decide) (by decide))
theorem sLayers (sc : sm_S) (hG : GI E w h n t k nb b S I J A B P Q C) (x y u v : Int32) : SP E w h sc 131 218 [.int x, .int y, .int u, .int v] (xm I J A B (mt P Q C)) :=
  sp_q (fun z => ∃ q, z = .int q ∧ LayAns (A 3) w h x y u v q) (fun a c h1 h2 => by
    obtain ⟨m, rfl, h1⟩ := h1
    obtain ⟨m', rfl, h2⟩ := h2
    rw [layAns_u (gi_mh hG).2.2.2.1 (gi_mh hG).2.2.2.2.2.1 h1 h2]) (fun v hv => by obtain ⟨m, rfl, _⟩ := hv; exact vk_i (by decide)) hG (zc_post (xLayers (hW := hG.2.1.1) (hc := hG.2.2.2.2.1.1) ..) (fun M r hp => by
    obtain ⟨m, e, hm, hq⟩ := hp
    exact ⟨⟨_, e, m, rfl, hm⟩, gi_ly hG hq⟩)) (fun f => zc_post (mLayers (hM := gi_mh hG) ..) (fun M r hp => by
    obtain ⟨m, e, hm, hq⟩ := hp
    exact ⟨⟨_, e, m, rfl, hm⟩, hq⟩)) (by decide) (by decide)
theorem sLayer (sc : sm_S) (hG : GI E w h n t k nb b S I J A B P Q C) (x y u v o : Int32) : SP E w h sc 132 219 [.int x, .int y, .int u, .int v, .int o] (xm I J A B (mt P Q C)) :=
  sp_q (fun z => ∃ q, z = .int q ∧ LayrAns (A 3) w h x y u v o q) (fun a c h1 h2 => by
    obtain ⟨m, rfl, h1⟩ := h1
    obtain ⟨m', rfl, h2⟩ := h2
    rw [layrAns_u (gi_mh hG).2.2.2.1 (gi_mh hG).2.2.2.2.2.1 h1 h2]) (fun v hv => by obtain ⟨m, rfl, _⟩ := hv; exact vk_i (by decide)) hG (zc_post (xLayer (hW := hG.2.1.1) (hc := hG.2.2.2.2.1.1) ..) (fun M r hp => by
    obtain ⟨m, e, hm, hq⟩ := hp
    exact ⟨⟨_, e, m, rfl, hm⟩, gi_ly hG hq⟩)) (fun f => zc_post (mLayer (hM := gi_mh hG) ..) (fun M r hp => by
    obtain ⟨m, e, hm, hq⟩ := hp
    exact ⟨⟨_, e, m, rfl, hm⟩, hq⟩)) (by decide) (by decide)
theorem sCover (sc : sm_S) (hG : GI E w h n t k nb b S I J A B P Q C) (x : Int32) : SP E w h sc 138 235 [.int x] (xm I J A B (mt P Q C)) :=
  sp_q (fun z => ∃ q, z = .int q ∧ CovAns (A 3) w h x q) (fun a c h1 h2 => by
    obtain ⟨m, rfl, h1⟩ := h1
    obtain ⟨m', rfl, h2⟩ := h2
    rw [covAns_u (vok_V hG.1.1 hG.1.2.1) h1 h2]) (fun v hv => by obtain ⟨m, rfl, _⟩ := hv; exact vk_i (by decide)) hG (zc_post (xCover (hW := hG.2.1.1) (hc := hG.2.2.2.2.1.2.1) ..) (fun M r hp => by
    obtain ⟨m, e, hm, hq⟩ := hp
    exact ⟨⟨_, e, m, rfl, hm⟩, gi_cv hG hq⟩)) (fun f => zc_post (mCover (hM := gi_mh hG) ..) (fun M r hp => by
    obtain ⟨m, e, hm, hq⟩ := hp
    exact ⟨⟨_, e, m, rfl, hm⟩, hq⟩)) (by decide) (by decide)
theorem sMended (sc : sm_S) (hG : GI E w h n t k nb b S I J A B P Q C) (x : Int32) : SP E w h sc 142 245 [.int x] (xm I J A B (mt P Q C)) :=
  sp_q (fun z => z = .int (aMended (A 3) S w h x)) (fun a c h1 h2 => h1.trans h2.symm) (fun v hv => by rw [hv]; exact vk_i (by decide)) hG (zc_post (xMended (hW := hG.2.1.1) (hS := hG.2.2.2.1.1) (hc := hG.2.2.2.2.1.2.2) ..) (fun M r hp => ⟨⟨_, hp.1, rfl⟩, gi_md hG hp.2⟩)) (fun f => zc_post (mMended (hM := gi_mh hG) (hS := hG.2.2.2.1.2) ..) (fun M r hp => ⟨⟨_, hp.1, rfl⟩, hp.2⟩)) (by decide) (by decide)
theorem sMendedShaft (sc : sm_S) (hG : GI E w h n t k nb b S I J A B P Q C) (x : Int32) : SP E w h sc 143 246 [.int x] (xm I J A B (mt P Q C)) :=
  sp_q (fun z => z = .int (aMendS (A 3) S w h x)) (fun a c h1 h2 => h1.trans h2.symm) (fun v hv => by rw [hv]; exact vk_i (by decide)) hG (zc_post (xMendedShaft (hW := hG.2.1.1) (hS := hG.2.2.2.1.1) (hc := hG.2.2.2.2.1.2.2) ..) (fun M r hp => ⟨⟨_, hp.1, rfl⟩, gi_md hG hp.2⟩)) (fun f => zc_post (mMendedShaft (hM := gi_mh hG) (hS := hG.2.2.2.1.2) ..) (fun M r hp => ⟨⟨_, hp.1, rfl⟩, hp.2⟩)) (by decide) (by decide)
end

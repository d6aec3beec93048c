/-! the class: text -/
theorem gE_mem {l : tE} {i : Nat} (h : i < l.length) : gE l i ∈ l := by
  unfold gE
  rw [List.getD_eq_getElem?_getD, List.getElem?_eq_getElem h]
  exact List.getElem_mem h
theorem enK_sb {w h : Nat} (hw : w ≤ 48) (hh : h ≤ 48) {e : Nat × Nat × Int32} (he : enK w h e) : e.1 ≤ 4 ∧ e.2.1 < ksz e.1 := by
  rcases he with ⟨h1, h2, _⟩ | ⟨h1, h2, _⟩ | ⟨h1, h2, _⟩
  · rw [h1]; exact ⟨by omega, by show e.2.1 < 48; omega⟩
  · rw [h1]; exact ⟨by omega, h2⟩
  · rw [h1]; exact ⟨by omega, by show e.2.1 < 48; omega⟩
/-- the place of a FAULT -/
def rP (r : tR) : Int32 := if r.1 = 0 then -1 else nI r.2.1
section
variable (sc : sm_S) (I : Nat → Int32) (J : Nat → Int64) (A : Nat → Nat → Int32) (B : Nat → Nat → Int64) (tl : sm_M) (f : Nat → va_E) (n : Nat) (b : Nat → Nat) (w h n0 t k : Nat)
/-- what text leaves -/
def TxX (n0 t k : Nat) (R : tR) (tl : sm_M) (I : Nat → Int32) (J : Nat → Int64) (A : Nat → Nat → Int32) (B : Nat → Nat → Int64) (M : sm_M) (r : Option Value) : Prop := ∃ I' A', M = xm I' J A' B tl ∧ I' 11 = 0 ∧ I' 26 = nI R.1 ∧ I' 27 = rP R ∧ (∀ z, z < 2 ∨ (6 < z ∧ z < 11) ∨ (15 < z ∧ z < 18) ∨ 27 < z → I' z = I z) ∧ (∀ a, 4 < a → a < 7 ∨ 12 < a → A' a = A a) ∧ (∀ a i, a ≤ 2 → i < n0 → A' a i = A a i) ∧ ((R.1 = 0 ∧ t < 400 ∧ n0 + R.2.2.length ≤ 2000 ∧ r = some (.int (nI (t + 1))) ∧ LInv I' A' (n0 + R.2.2.length) (t + 1) (t + 1) ∧ I' 6 = I 6 + 1 ∧ ∀ i, i < R.2.2.length → A' 0 (n0 + i) = nI (sb (gE R.2.2 i).1 + (gE R.2.2 i).2.1) ∧ A' 1 (n0 + i) = (gE R.2.2 i).2.2 ∧ A' 2 (n0 + i) = nI (t + 1)) ∨ (¬ (R.1 = 0 ∧ t < 400 ∧ n0 + R.2.2.length ≤ 2000) ∧ r = some (.int (-1)) ∧ LInv I' A' n0 t k ∧ I' 6 = I 6 ∧ A' 3 = A 3 ∧ A' 4 = A 4))
set_option maxHeartbeats 4000000 in
set_option maxRecDepth 20000 in
theorem xText (hw : w ≤ 48) (hh : h ≤ 48) (hL : LInv I A n0 t k) (hTp : TpX I A b n) (h16 : I 16 = nI w) (h17 : I 17 = nI h) : zC 11 sc 122 [.ref 0] (xm I J A B tl) (fun M r => ∃ R, Out w h b n tS0 0 R ∧ TxX n0 t k R tl I J A B M r) := by
  have hLL := hL
  obtain ⟨g1, g2, g3, g4, g5, g6, g7, g8, g9, g10⟩ := hL
  refine zc_of hkX10_text rfl ?_
  repeat (refine zw_go rfl rfl (fun _ _ => rfl) ?_)
  refine zw_call rfl (fun _ _ => rfl) (xReadTape sc I J A B tl n b w h n0 t g4 hw hh g1 g2 hTp h16 h17) (by decide) ?_
  rintro M1 r1 ⟨rfl, R, I1, A1, rfl, hO, ⟨x26, x27, x0⟩, hG⟩
  obtain ⟨m, hm⟩ := hO
  obtain ⟨r5, rlen, ren⟩ := out_en hw hh hTp.2.1 (Nat.zero_le _) ti_0 hm
  have hL1 : LInv (upd I1 11 0) A1 n0 t k := linv_cong hLL (hG.1 2 (by omega)) (hG.1 4 (by omega)) (hG.1 5 (by omega)) hG.2.2 (hG.2.1 3 (by omega) (by omega)) (hG.2.1 4 (by omega) (by omega))
  have fr1 : ∀ z, z < 2 ∨ (6 < z ∧ z < 11) ∨ (15 < z ∧ z < 18) ∨ 27 < z → upd I1 11 0 z = I z := fun z hz => by
    unfold upd
    rw [if_neg (by omega)]; exact hG.1 z (by omega)
  by_cases hR : R.1 = 0
  · obtain ⟨y27, ye⟩ := x0 hR
    have eP : rP R = -1 := by unfold rP; rw [if_pos hR]
    repeat (refine zw_go rfl rfl (fun _ _ => rfl) ?_)
    rw [x26, hR]
    repeat (refine zw_go rfl rfl (fun _ _ => rfl) ?_)
    have hst : StOk A1 n0 (n0 + R.2.2.length) t := fun i h1 h2 h3 => by
      have hx := ye.2.2 (i - n0) (by omega) (by omega)
      rw [show n0 + (i - n0) = i by omega] at hx
      have hk := enK_sb hw hh (ren _ (gE_mem (l := R.2.2) (i := i - n0) (by omega)))
      exact ⟨⟨_, sb_lt hk.1 hk.2, hx.1⟩, hx.2.2⟩
    refine zw_call rfl (fun _ _ => rfl) (cTake sc (upd I1 11 0) J A1 B tl n0 t k (n0 + R.2.2.length) hL1 ye.1 (by omega) (by omega) hst) (by decide) ?_
    intro M1 r1 hp
    by_cases hok : t < 400 ∧ n0 + R.2.2.length ≤ 2000
    · rw [if_pos hok] at hp
      obtain ⟨rfl, A', rfl, p1, p2⟩ := hp
      repeat (refine zw_go rfl rfl (fun _ _ => rfl) ?_)
      refine zw_ret rfl (fun _ _ => rfl) ?_
      refine ⟨R, ⟨m, hm⟩, _, A', rfl, rfl, by rw [← x26]; rfl, by rw [eP, ← y27]; rfl, fun z hz => ?_, fun a h4 ha => ?_, fun a i ha hi => ?_, Or.inl ⟨hR, hok.1, hok.2, rfl, p2, ?_, fun i hi => ?_⟩⟩
      · unfold tkI upd
        rw [if_neg (by omega), if_neg (by omega), if_neg (by omega), if_neg (by omega), if_neg (by omega)]
        exact hG.1 z (by omega)
      · rw [p1 a (by omega) (by omega), hG.2.1 a (by omega) ha]
      · rw [p1 a (by omega) (by omega), hG.2.2 a i ha hi]
      · show upd I1 11 0 6 + 1 = I 6 + 1
        rw [show upd I1 11 0 6 = I 6 from hG.1 6 (by omega)]
      · rw [p1 0 (by decide) (by decide), p1 1 (by decide) (by decide), p1 2 (by decide) (by decide)]
        exact ye.2.2 i hi (by omega)
    · rw [if_neg hok] at hp
      obtain ⟨rfl, rfl⟩ := hp
      repeat (refine zw_go rfl rfl (fun _ _ => rfl) ?_)
      refine zw_ret rfl (fun _ _ => rfl) ?_
      exact ⟨R, ⟨m, hm⟩, _, A1, rfl, rfl, by rw [← x26]; rfl, by rw [eP, ← y27]; rfl, fr1, fun a h4 ha => hG.2.1 a (by omega) ha, hG.2.2, Or.inr ⟨fun z => hok z.2, rfl, hL1, hG.1 6 (by omega), hG.2.1 3 (by omega) (by omega), hG.2.1 4 (by omega) (by omega)⟩⟩
  · have y27 := x27 hR
    have eP : rP R = nI R.2.1 := by unfold rP; rw [if_neg hR]
    repeat (refine zw_go rfl rfl (fun _ _ => rfl) ?_)
    rw [x26]
    first | refine zw_br rfl (fun _ _ => rfl) (fun h9 => absurd h9 (nI_ne0 (n := R.1) (by omega) (by omega))) (fun _ => ?_) | refine zw_nx rfl (fun _ _ => rfl) ?_
    repeat (refine zw_go rfl rfl (fun _ _ => rfl) ?_)
    refine zw_ret rfl (fun _ _ => rfl) ?_
    exact ⟨R, ⟨m, hm⟩, _, A1, rfl, rfl, by rw [← x26]; rfl, by rw [eP, ← y27]; rfl, fr1, fun a h4 ha => hG.2.1 a (by omega) ha, hG.2.2, Or.inr ⟨fun z => hR z.1, rfl, hL1, hG.1 6 (by omega), hG.2.1 3 (by omega) (by omega), hG.2.1 4 (by omega) (by omega)⟩⟩
end

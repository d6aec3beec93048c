/-! BOTH TOGETHER: the beginning -/
theorem gi_0 {w h : Nat} (w1 : 1 ≤ w) (w2 : w ≤ 48) (h1 : 1 ≤ h) (h2 : h ≤ 48) : GI 1 w h 0 0 0 0 (fun _ => 0) (fun _ _ => false) (iI w h) (iJ w) iA iB (jI w h) (fun _ _ => 0) (fun _ _ => 0) := by
  have l : LInv (iI w h) iA 0 0 0 := by
    refine ⟨rfl, rfl, rfl, by omega, by omega, by omega, fun i hi => absurd hi (Nat.not_lt_zero _), fun i hi => absurd hi (Nat.not_lt_zero _), fun i j _ hj => absurd hj (Nat.not_lt_zero _), fun s hs => ⟨?_, ?_⟩⟩
    · show fgI s = if s < 48 then -1 else 0
      unfold fgI fgV
      by_cases hq : s < 48
      · rw [if_pos hq, if_pos hq]
      · rw [if_neg hq, if_neg hq, if_pos hs]
    · show fgT s = -1
      unfold fgT
      rw [if_pos hs]
  have e : EOk iA 0 := fun i hi => absurd hi (Nat.not_lt_zero _)
  refine ⟨⟨l, e, ⟨rfl, rfl, rfl, by omega, by omega, by omega, fun i hi => absurd hi (Nat.not_lt_zero _)⟩, fun i hi => absurd hi (Nat.not_lt_zero _)⟩, ⟨⟨rfl, rfl, rfl, rfl, w1, w2, h1, h2, bits_low w (by omega), vok_V l e, fun z => absurd z (by decide : ¬ (0 : Int32) = 1), fun p _ _ => rfl⟩, rfl, rfl⟩, ⟨⟨rfl, by omega, fun i hi => absurd hi (Nat.not_lt_zero _)⟩, ⟨rfl, by omega, fun i hi => absurd hi (Nat.not_lt_zero _)⟩, rfl, rfl, rfl, rfl⟩, ⟨⟨fun p _ => (mk_false w).symm, fun p _ _ => rfl, fun e _ => (mk_false h).symm⟩, fun p _ => (mk_false w).symm⟩, ⟨fun z => absurd z (by decide : ¬ (0 : Int32) = 1), fun z => absurd z (by decide : ¬ (0 : Int32) = 1), fun z => absurd z (by decide : ¬ (0 : Int32) = 1)⟩, 1, 0, 0, 0, 0, 0, 0, rfl, rfl, rfl, rfl, rfl, rfl, rfl, by omega, by omega, by omega, by omega, by omega, by omega, by omega⟩
theorem vk_is {X : Nat} {v : Value} (h : vK X v) (hX : X ≠ 127) : ∃ q, v = .int q := by
  unfold vK at h
  rw [if_neg hX] at h
  exact h
theorem vk_il {v : Value} (h : vK 127 v) : ∃ q, v = .long q := by
  unfold vK at h
  rw [if_pos rfl] at h
  exact h

/-! the class: followChains, relate -/
section
variable (sc : sm_S) (I : Nat → Int32) (J : Nat → Int64) (A : Nat → Nat → Int32) (B : Nat → Nat → Int64) (tl : sm_M) (f : Nat → va_E) (w h n : Nat) (V : Nat → Int32) (a b c d : Nat)
set_option maxHeartbeats 4000000 in
set_option maxRecDepth 20000 in
theorem xChainsB (r : Nat → Nat → Bool) (h30 : I 30 = nI a) (h31 : I 31 = nI b) (h32 : I 32 = nI c) (h33 : I 33 = nI d) (hab : a ≤ b) (hb : b < 48) (hcd : c ≤ d) (hd : d < 48) (g0 g1 : Nat → Int64) (hR : RwOk (inP a b c d) r 96 g0 g1) (hr : ∀ m t, r m t = true → inP a b c d m = true) : zC 2 sc 25 [.ref 27, .ref 28, .ref 29] (xm I J A (va_up (va_up B 6 g0) 7 g1) tl) (fun M u => u = none ∧ ∃ k0 k1 T, M = xm I J A (va_up (va_up B 6 k0) 7 k1) tl ∧ RwOk (inP a b c d) T 96 k0 k1 ∧ ∀ s t, T s t = true ↔ tg r s t) := by
  refine zc_of hkX2_followChains rfl ?_
  repeat (refine zw_go rfl rfl (fun _ _ => rfl) ?_)
  rw [h30]
  have picks : ∀ (k i : Nat) (g0 g1 : Nat → Int64) (T : Nat → Nat → Bool), i + k = d + 1 → c ≤ i → RwOk (inP a b c d) T 96 g0 g1 → WI r T (fun m => inP a b c d m = true ∧ m < 48 + i) → zW 1 sc miX2_followChains 31 [some (.ref 27), some (.ref 28), some (.ref 29), some (.int (nI i))] [] (xm I J A (va_up (va_up B 6 g0) 7 g1) tl) (fun M u => u = none ∧ ∃ k0 k1 T, M = xm I J A (va_up (va_up B 6 k0) 7 k1) tl ∧ RwOk (inP a b c d) T 96 k0 k1 ∧ ∀ s t, T s t = true ↔ tg r s t) := by
    intro k
    induction k with
    | zero =>
      intro i g0 g1 T hi hci hRw hW
      refine zw_nx rfl (fun _ _ => rfl) ?_
      repeat (refine zw_go rfl rfl (fun _ _ => rfl) ?_)
      first | refine zw_br rfl (fun _ _ => rfl) (fun _ => ?_) (fun h9 => absurd (show I 33 < nI i by rw [h33]; exact nI_lt (by omega) (by omega)) h9) | refine zw_nx rfl (fun _ _ => rfl) ?_
      refine zw_ret rfl (fun _ _ => rfl) ?_
      refine ⟨rfl, g0, g1, T, rfl, hRw, fun s t => ws_fin hW (fun m t hm => ⟨hr m t hm, ?_⟩)⟩
      have h1 := hr m t hm
      by_cases h2 : m < 48
      · omega
      · rw [show m = 48 + (m - 48) by omega, inP_p] at h1
        have := of_decide_eq_true h1
        omega
    | succ k ih =>
      intro i g0 g1 T hi hci hRw hW
      have hin : inP a b c d (48+i) = true := by rw [inP_p]; exact decide_eq_true ⟨hci, by omega⟩
      refine zw_nx rfl (fun _ _ => rfl) ?_
      repeat (refine zw_go rfl rfl (fun _ _ => rfl) ?_)
      first | refine zw_br rfl (fun _ _ => rfl) (fun h9 => absurd h9 (show ¬ I 33 < nI i by rw [h33]; exact nI_nlt (by omega) (by omega))) (fun _ => ?_) | refine zw_nx rfl (fun _ _ => rfl) ?_
      repeat (refine zw_go rfl rfl (fun _ _ => rfl) ?_)
      rw [show (Int8.ofInt 48).toInt32 + nI i = nI (48+i) from nI_add 48 i]
      refine zw_call rfl (fun _ _ => rfl) (xFTBp sc I J A B tl a b c d T i hin (by omega) h30 h31 h32 h33 hab hb hcd hd g0 g1 hRw) (by decide) ?_
      rintro M1 r1 ⟨rfl, k0, k1, rfl, hRw2⟩
      have hn := ih (i + 1) k0 k1 (wsh T (48+i)) (by omega) (by omega) hRw2 (ws_cong (ws_step hW) (fun m hm => by
        by_cases h5 : m = 48 + i
        · exact Or.inr h5
        · exact Or.inl ⟨hm.1, by omega⟩))
      rw [nI_succ] at hn
      repeat (refine zw_go rfl rfl (fun _ _ => rfl) ?_)
      exact zw_kp hn
  have ends : ∀ (k i : Nat) (g0 g1 : Nat → Int64) (T : Nat → Nat → Bool), i + k = b + 1 → a ≤ i → RwOk (inP a b c d) T 96 g0 g1 → WI r T (fun m => inP a b c d m = true ∧ m < i) → zW 1 sc miX2_followChains 5 [some (.ref 27), some (.ref 28), some (.ref 29), some (.int (nI i))] [] (xm I J A (va_up (va_up B 6 g0) 7 g1) tl) (fun M u => u = none ∧ ∃ k0 k1 T, M = xm I J A (va_up (va_up B 6 k0) 7 k1) tl ∧ RwOk (inP a b c d) T 96 k0 k1 ∧ ∀ s t, T s t = true ↔ tg r s t) := by
    intro k
    induction k with
    | zero =>
      intro i g0 g1 T hi hai hRw hW
      refine zw_nx rfl (fun _ _ => rfl) ?_
      repeat (refine zw_go rfl rfl (fun _ _ => rfl) ?_)
      first | refine zw_br rfl (fun _ _ => rfl) (fun _ => ?_) (fun h9 => absurd (show I 31 < nI i by rw [h31]; exact nI_lt (by omega) (by omega)) h9) | refine zw_nx rfl (fun _ _ => rfl) ?_
      repeat (refine zw_go rfl rfl (fun _ _ => rfl) ?_)
      rw [h32]
      refine zw_kp (picks (d + 1 - c) c g0 g1 T (by omega) (Nat.le_refl c) hRw (ws_cong hW (fun m hm => ⟨hm.1, ?_⟩)))
      have h1 := hm.1
      by_cases h2 : m < 48
      · rw [inP_e h2] at h1
        have := of_decide_eq_true h1
        omega
      · rw [show m = 48 + (m - 48) by omega, inP_p] at h1
        have := of_decide_eq_true h1
        omega
    | succ k ih =>
      intro i g0 g1 T hi hai hRw hW
      have hin : inP a b c d i = true := by rw [inP_e (by omega)]; exact decide_eq_true ⟨hai, by omega⟩
      refine zw_nx rfl (fun _ _ => rfl) ?_
      repeat (refine zw_go rfl rfl (fun _ _ => rfl) ?_)
      first | refine zw_br rfl (fun _ _ => rfl) (fun h9 => absurd h9 (show ¬ I 31 < nI i by rw [h31]; exact nI_nlt (by omega) (by omega))) (fun _ => ?_) | refine zw_nx rfl (fun _ _ => rfl) ?_
      repeat (refine zw_go rfl rfl (fun _ _ => rfl) ?_)
      refine zw_call rfl (fun _ _ => rfl) (xFTBe sc I J A B tl a b c d T i hin (by omega) h30 h31 h32 h33 hab hb hcd hd g0 g1 hRw) (by decide) ?_
      rintro M1 r1 ⟨rfl, k0, k1, rfl, hRw2⟩
      have hn := ih (i + 1) k0 k1 (wsh T i) (by omega) (by omega) hRw2 (ws_cong (ws_step hW) (fun m hm => by
        by_cases h5 : m = i
        · exact Or.inr h5
        · exact Or.inl ⟨hm.1, by omega⟩))
      rw [nI_succ] at hn
      repeat (refine zw_go rfl rfl (fun _ _ => rfl) ?_)
      exact zw_kp hn
  exact zw_kp (ends (b + 1 - a) a g0 g1 r (by omega) (Nat.le_refl a) hR ⟨fun s t h => Relation.TransGen.single h, fun s t h => h, fun m hm s t _ _ => by
    have h1 := hm.1
    rw [inP_e (by omega)] at h1
    have := of_decide_eq_true h1
    omega⟩)
set_option maxHeartbeats 4000000 in
set_option maxRecDepth 20000 in
theorem xChainsA (r : Nat → Nat → Bool) (h30 : I 30 = nI a) (h31 : I 31 = nI b) (h32 : I 32 = nI c) (h33 : I 33 = nI d) (hab : a ≤ b) (hb : b < 48) (hcd : c ≤ d) (hd : d < 48) (g0 g1 : Nat → Int64) (hR : RwOk (inP a b c d) r 96 g0 g1) (hr : ∀ m t, r m t = true → inP a b c d m = true) : zC 2 sc 25 [.ref 27, .ref 30, .ref 31] (xm I J A (va_up (va_up B 8 g0) 9 g1) tl) (fun M u => u = none ∧ ∃ k0 k1 T, M = xm I J A (va_up (va_up B 8 k0) 9 k1) tl ∧ RwOk (inP a b c d) T 96 k0 k1 ∧ ∀ s t, T s t = true ↔ tg r s t) := by
  refine zc_of hkX2_followChains rfl ?_
  repeat (refine zw_go rfl rfl (fun _ _ => rfl) ?_)
  rw [h30]
  have picks : ∀ (k i : Nat) (g0 g1 : Nat → Int64) (T : Nat → Nat → Bool), i + k = d + 1 → c ≤ i → RwOk (inP a b c d) T 96 g0 g1 → WI r T (fun m => inP a b c d m = true ∧ m < 48 + i) → zW 1 sc miX2_followChains 31 [some (.ref 27), some (.ref 30), some (.ref 31), some (.int (nI i))] [] (xm I J A (va_up (va_up B 8 g0) 9 g1) tl) (fun M u => u = none ∧ ∃ k0 k1 T, M = xm I J A (va_up (va_up B 8 k0) 9 k1) tl ∧ RwOk (inP a b c d) T 96 k0 k1 ∧ ∀ s t, T s t = true ↔ tg r s t) := by
    intro k
    induction k with
    | zero =>
      intro i g0 g1 T hi hci hRw hW
      refine zw_nx rfl (fun _ _ => rfl) ?_
      repeat (refine zw_go rfl rfl (fun _ _ => rfl) ?_)
      first | refine zw_br rfl (fun _ _ => rfl) (fun _ => ?_) (fun h9 => absurd (show I 33 < nI i by rw [h33]; exact nI_lt (by omega) (by omega)) h9) | refine zw_nx rfl (fun _ _ => rfl) ?_
      refine zw_ret rfl (fun _ _ => rfl) ?_
      refine ⟨rfl, g0, g1, T, rfl, hRw, fun s t => ws_fin hW (fun m t hm => ⟨hr m t hm, ?_⟩)⟩
      have h1 := hr m t hm
      by_cases h2 : m < 48
      · omega
      · rw [show m = 48 + (m - 48) by omega, inP_p] at h1
        have := of_decide_eq_true h1
        omega
    | succ k ih =>
      intro i g0 g1 T hi hci hRw hW
      have hin : inP a b c d (48+i) = true := by rw [inP_p]; exact decide_eq_true ⟨hci, by omega⟩
      refine zw_nx rfl (fun _ _ => rfl) ?_
      repeat (refine zw_go rfl rfl (fun _ _ => rfl) ?_)
      first | refine zw_br rfl (fun _ _ => rfl) (fun h9 => absurd h9 (show ¬ I 33 < nI i by rw [h33]; exact nI_nlt (by omega) (by omega))) (fun _ => ?_) | refine zw_nx rfl (fun _ _ => rfl) ?_
      repeat (refine zw_go rfl rfl (fun _ _ => rfl) ?_)
      rw [show (Int8.ofInt 48).toInt32 + nI i = nI (48+i) from nI_add 48 i]
      refine zw_call rfl (fun _ _ => rfl) (xFTAp sc I J A B tl a b c d T i hin (by omega) h30 h31 h32 h33 hab hb hcd hd g0 g1 hRw) (by decide) ?_
      rintro M1 r1 ⟨rfl, k0, k1, rfl, hRw2⟩
      have hn := ih (i + 1) k0 k1 (wsh T (48+i)) (by omega) (by omega) hRw2 (ws_cong (ws_step hW) (fun m hm => by
        by_cases h5 : m = 48 + i
        · exact Or.inr h5
        · exact Or.inl ⟨hm.1, by omega⟩))
      rw [nI_succ] at hn
      repeat (refine zw_go rfl rfl (fun _ _ => rfl) ?_)
      exact zw_kp hn
  have ends : ∀ (k i : Nat) (g0 g1 : Nat → Int64) (T : Nat → Nat → Bool), i + k = b + 1 → a ≤ i → RwOk (inP a b c d) T 96 g0 g1 → WI r T (fun m => inP a b c d m = true ∧ m < i) → zW 1 sc miX2_followChains 5 [some (.ref 27), some (.ref 30), some (.ref 31), some (.int (nI i))] [] (xm I J A (va_up (va_up B 8 g0) 9 g1) tl) (fun M u => u = none ∧ ∃ k0 k1 T, M = xm I J A (va_up (va_up B 8 k0) 9 k1) tl ∧ RwOk (inP a b c d) T 96 k0 k1 ∧ ∀ s t, T s t = true ↔ tg r s t) := by
    intro k
    induction k with
    | zero =>
      intro i g0 g1 T hi hai hRw hW
      refine zw_nx rfl (fun _ _ => rfl) ?_
      repeat (refine zw_go rfl rfl (fun _ _ => rfl) ?_)
      first | refine zw_br rfl (fun _ _ => rfl) (fun _ => ?_) (fun h9 => absurd (show I 31 < nI i by rw [h31]; exact nI_lt (by omega) (by omega)) h9) | refine zw_nx rfl (fun _ _ => rfl) ?_
      repeat (refine zw_go rfl rfl (fun _ _ => rfl) ?_)
      rw [h32]
      refine zw_kp (picks (d + 1 - c) c g0 g1 T (by omega) (Nat.le_refl c) hRw (ws_cong hW (fun m hm => ⟨hm.1, ?_⟩)))
      have h1 := hm.1
      by_cases h2 : m < 48
      · rw [inP_e h2] at h1
        have := of_decide_eq_true h1
        omega
      · rw [show m = 48 + (m - 48) by omega, inP_p] at h1
        have := of_decide_eq_true h1
        omega
    | succ k ih =>
      intro i g0 g1 T hi hai hRw hW
      have hin : inP a b c d i = true := by rw [inP_e (by omega)]; exact decide_eq_true ⟨hai, by omega⟩
      refine zw_nx rfl (fun _ _ => rfl) ?_
      repeat (refine zw_go rfl rfl (fun _ _ => rfl) ?_)
      first | refine zw_br rfl (fun _ _ => rfl) (fun h9 => absurd h9 (show ¬ I 31 < nI i by rw [h31]; exact nI_nlt (by omega) (by omega))) (fun _ => ?_) | refine zw_nx rfl (fun _ _ => rfl) ?_
      repeat (refine zw_go rfl rfl (fun _ _ => rfl) ?_)
      refine zw_call rfl (fun _ _ => rfl) (xFTAe sc I J A B tl a b c d T i hin (by omega) h30 h31 h32 h33 hab hb hcd hd g0 g1 hRw) (by decide) ?_
      rintro M1 r1 ⟨rfl, k0, k1, rfl, hRw2⟩
      have hn := ih (i + 1) k0 k1 (wsh T i) (by omega) (by omega) hRw2 (ws_cong (ws_step hW) (fun m hm => by
        by_cases h5 : m = i
        · exact Or.inr h5
        · exact Or.inl ⟨hm.1, by omega⟩))
      rw [nI_succ] at hn
      repeat (refine zw_go rfl rfl (fun _ _ => rfl) ?_)
      exact zw_kp hn
  exact zw_kp (ends (b + 1 - a) a g0 g1 r (by omega) (Nat.le_refl a) hR ⟨fun s t h => Relation.TransGen.single h, fun s t h => h, fun m hm s t _ _ => by
    have h1 := hm.1
    rw [inP_e (by omega)] at h1
    have := of_decide_eq_true h1
    omega⟩)
end

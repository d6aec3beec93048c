/-! THE LAW at the machine, over what is asked of the start -/
theorem xM_len {M : sm_M} (h : XM M) : M.length = 78 := by
  obtain ⟨I, J, A, B, P, Q, C, rfl⟩ := h
  rfl
set_option maxRecDepth 100000 in
theorem xM_sl {M : sm_M} (h : XM M) : sm_sl M ≤ 7302249 := by
  obtain ⟨I, J, A, B, P, Q, C, rfl⟩ := h
  have e : sm_sl (xm I J A B (mt P Q C)) = sm_sl (xm (fun _ => 0) (fun _ => 0) (fun _ _ => 0) (fun _ _ => 0) (mt (fun _ => 0) (fun _ _ => 0) (fun _ _ => 0))) := rfl
  rw [e]
  decide +kernel
/-- the law's run, as the simulator has it -/
theorem law_sim (g : Nat → Int32) (len : Nat) (hl : len < 50000) : ∃ M' N, XM M' ∧ sm_run (sm_sim sm_pg sm_bi (some (len, g)) 12 N) (some (len, g)) miL_law N 0 [some (.ref 1000), none, none, none] [] [] = some (M', some (.int 1)) := by
  obtain ⟨M', r, ⟨rfl, hx⟩, n0, h⟩ := law_start g len hl
  exact ⟨M', n0, hx, h n0 12 n0 (Nat.le_refl _) (Nat.le_refl _) (Nat.le_refl _)⟩

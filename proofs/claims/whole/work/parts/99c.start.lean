/-! THE LAW: from its beginning -/
def ceV (g : Nat → Int32) (len k : Nat) : Int32 := if nI len ≤ nI k then 0 else g k
set_option maxHeartbeats 4000000 in
set_option maxRecDepth 20000 in
theorem lCell (g : Nat → Int32) (len k : Nat) (hk : k < 2) (M : sm_M) (hl : len < 100000) : zC 1 (some (len, g)) 256 [.ref 1000, .int (nI k)] M (zR M (.int (ceV g len k))) := by
  refine zc_of hkL_cell rfl ?_
  repeat (refine zw_go rfl rfl (fun _ _ => rfl) ?_)
  by_cases hc : nI len ≤ nI k
  · have e : ceV g len k = 0 := if_pos hc
    first | refine zw_br rfl (fun _ _ => rfl) (fun _ => ?_) (fun h9 => absurd (hc) h9) | refine zw_nx rfl (fun _ _ => rfl) ?_
    repeat (refine zw_go rfl rfl (fun _ _ => rfl) ?_)
    rw [e]
    exact zw_ret rfl (fun _ _ => rfl) (⟨rfl, rfl⟩)
  · have e : ceV g len k = g k := if_neg hc
    have hlt : k < len := by
      rw [nI_leI (by omega) (by omega)] at hc
      omega
    first | refine zw_br rfl (fun _ _ => rfl) (fun h9 => absurd h9 (hc)) (fun _ => ?_) | refine zw_nx rfl (fun _ _ => rfl) ?_
    repeat (refine zw_go rfl rfl (fun _ _ => rfl) ?_)
    refine zw_ix rfl (fun _ _ => rfl) (show vp_in (nI k) len from vp_in_nI (by omega) (by omega)) ?_
    rw [nI_clamp (by omega)]
    repeat (refine zw_go rfl rfl (fun _ _ => rfl) ?_)
    rw [e]
    exact zw_ret rfl (fun _ _ => rfl) (⟨rfl, rfl⟩)
set_option maxHeartbeats 4000000 in
set_option maxRecDepth 20000 in
theorem law_start (g : Nat → Int32) (len : Nat) (hl0 : len < 50000) : zW 12 (some (len, g)) miL_law 0 [some (.ref 1000), none, none, none] [] [] (fun M r => r = some (.int 1) ∧ XM M) := by
  have hl : len < 100000 := by omega
  repeat (refine zw_go rfl rfl (fun _ _ => rfl) ?_)
  refine zw_call rfl (fun _ _ => rfl) (lCell g len 0 (by decide) _ hl) (by decide) ?_
  rintro M1 r1 ⟨rfl, rfl⟩
  repeat (refine zw_go rfl rfl (fun _ _ => rfl) ?_)
  refine zw_call rfl (fun _ _ => rfl) (lCell g len 1 (by decide) _ hl) (by decide) ?_
  rintro M1 r1 ⟨rfl, rfl⟩
  refine zw_call rfl (fun _ _ => rfl) (xInit (some (len, g)) (ceV g len 0) (ceV g len 1)) (by decide) ?_
  rintro M1 r1 ⟨rfl, rfl⟩
  have ok1 := (clN_ok (ceV g len 0)).2
  have ok2 := (clN_ok (ceV g len 1)).2
  have mi := mInit (some (len, g)) (xf (iI (clN (ceV g len 0)) (clN (ceV g len 1))) (iJ (clN (ceV g len 0))) iA iB) (ceV g len 0) (ceV g len 1)
  generalize clN (ceV g len 0) = w at *
  generalize clN (ceV g len 1) = h at *
  repeat (refine zw_go rfl rfl (fun _ _ => rfl) ?_)
  refine zw_call rfl (fun _ _ => rfl) (lCell g len 0 (by decide) _ hl) (by decide) ?_
  rintro M1 r1 ⟨rfl, rfl⟩
  repeat (refine zw_go rfl rfl (fun _ _ => rfl) ?_)
  refine zw_call rfl (fun _ _ => rfl) (lCell g len 1 (by decide) _ hl) (by decide) ?_
  rintro M1 r1 ⟨rfl, rfl⟩
  refine zw_call rfl (fun _ _ => rfl) (mi) (by decide) ?_
  rintro M1 r1 ⟨rfl, rfl⟩
  have st := law_loop (w := w) (h := h) g len hl len 2 1 (mm (xf (iI w h) (iJ w) iA iB) (jI w h) (fun _ _ => 0) (fun _ _ => 0)) (by omega) (by omega) (by omega) ⟨0, 0, 0, 0, fun _ => 0, fun _ _ => false, iI w h, iJ w, iA, iB, jI w h, fun _ _ => 0, fun _ _ => 0, rfl, gi_0 ok1.1 ok1.2 ok2.1 ok2.2⟩
  repeat (refine zw_go rfl rfl (fun _ _ => rfl) ?_)
  exact zw_kp st

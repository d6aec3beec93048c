/-! the class and the reference: their constructors -/
/-- from 1 to 48 -/
def clI (x : Int32) : Int32 := if 1 < (if x < 48 then x else 48) then (if x < 48 then x else 48) else 1
def clN (x : Int32) : Nat := (clI x).toNatClampNeg
theorem clI_toInt (x : Int32) : (clI x).toInt = if x.toInt < 1 then 1 else if 48 < x.toInt then 48 else x.toInt := by
  unfold clI
  have e1 : (1 : Int32).toInt = 1 := by decide
  have e48 : (48 : Int32).toInt = 48 := by decide
  by_cases h1 : x < 48
  · rw [if_pos h1]
    rw [Int32.lt_iff_toInt_lt, e48] at h1
    by_cases h2 : 1 < x
    · rw [if_pos h2]
      rw [Int32.lt_iff_toInt_lt, e1] at h2
      rw [if_neg (by omega), if_neg (by omega)]
    · rw [if_neg h2, e1]
      rw [Int32.lt_iff_toInt_lt, e1] at h2
      by_cases h3 : x.toInt < 1
      · rw [if_pos h3]
      · rw [if_neg h3, if_neg (by omega)]; omega
  · rw [if_neg h1, if_pos (by decide)]
    rw [Int32.lt_iff_toInt_lt, e48] at h1
    rw [if_neg (by omega), e48]
    by_cases h3 : 48 < x.toInt
    · rw [if_pos h3]
    · rw [if_neg h3]; omega
theorem clN_ok (x : Int32) : clI x = nI (clN x) ∧ 1 ≤ clN x ∧ clN x ≤ 48 := by
  have h := clI_toInt x
  have h1 : 1 ≤ (clI x).toInt := by rw [h]; split; omega; split <;> omega
  have h2 : (clI x).toInt ≤ 48 := by rw [h]; split; omega; split <;> omega
  have e : ((clN x : Nat) : Int) = (clI x).toInt := by
    unfold clN
    show (((clI x).toInt.toNat : Nat) : Int) = _
    omega
  refine ⟨?_, by omega, by omega⟩
  apply Int32.toInt_inj.mp
  rw [← e, nI_toInt (by omega)]
theorem clM (x : Int32) : (if 1 ≤ x then (if x ≤ 48 then x else 48) else 1) = clI x := by
  apply Int32.toInt_inj.mp
  rw [clI_toInt]
  have e1 : (1 : Int32).toInt = 1 := by decide
  have e48 : (48 : Int32).toInt = 48 := by decide
  by_cases h1 : 1 ≤ x
  · rw [if_pos h1]
    rw [Int32.le_iff_toInt_le, e1] at h1
    rw [if_neg (show ¬ x.toInt < 1 by omega)]
    by_cases h2 : x ≤ 48
    · rw [if_pos h2]
      rw [Int32.le_iff_toInt_le, e48] at h2
      rw [if_neg (show ¬ 48 < x.toInt by omega)]
    · rw [if_neg h2]
      rw [Int32.le_iff_toInt_le, e48] at h2
      rw [if_pos (show 48 < x.toInt by omega), e48]
  · rw [if_neg h1]
    rw [Int32.le_iff_toInt_le, e1] at h1
    rw [if_pos (show x.toInt < 1 by omega), e1]
/-- what the class begins with -/
def iI (w h : Nat) : Nat → Int32 := upd (upd (upd (upd (upd (upd (upd (upd (upd (fun _ => 0) 0 (nI w)) 1 (nI h)) 6 1) 7 (nI w)) 8 (nI h)) 16 (nI w)) 17 (nI h)) 26 (-1)) 27 (-1)
def iJ (w : Nat) : Nat → Int64 := fun z => if z = 0 then fb w else 0
def iA : Nat → Nat → Int32 := va_up (va_up (fun _ _ => 0) 3 fgI) 4 fgT
def iB : Nat → Nat → Int64 := fun _ _ => 0
set_option maxRecDepth 20000 in
set_option maxHeartbeats 1000000 in
theorem xInit (sc : sm_S) (x y : Int32) : zC 4 sc 115 [.ref 0, .int x, .int y] [.inr (10, [.int 0, .int 0, .null, .null, .null, .null, .null, .null, .null, .null, .null, .null])] (fun M r => r = none ∧ M = xm (iI (clN x) (clN y)) (iJ (clN x)) iA iB []) := by
  have ew := (clN_ok x).1
  have eh := (clN_ok y).1
  generalize clN x = w at ew ⊢
  generalize clN y = h at eh ⊢
  refine zc_of hkX10_init rfl ?_
  refine zw_nx rfl (fun _ _ => rfl) ?_
  refine zw_nx rfl (fun _ _ => rfl) ?_
  refine zw_nx rfl (fun _ _ => rfl) ?_
  refine zw_nx rfl (fun _ _ => rfl) ?_
  refine zw_nx rfl (fun _ _ => rfl) ?_
  refine zw_nx rfl (fun _ _ => rfl) ?_
  refine zw_nx rfl (fun _ _ => rfl) ?_
  refine zw_nx rfl (fun _ _ => rfl) ?_
  show zW _ sc miX10_init _ _ [.int (clI x), .ref 0] _ _
  rw [ew]
  refine zw_nx rfl (fun _ _ => rfl) ?_
  show zW _ sc miX10_init _ _ _ [.inr (10, [.int (nI w), .int 0, .null, .null, .null, .null, .null, .null, .null, .null, .null, .null])] _
  refine zw_nx rfl (fun _ _ => rfl) ?_
  refine zw_nx rfl (fun _ _ => rfl) ?_
  refine zw_nx rfl (fun _ _ => rfl) ?_
  refine zw_nx rfl (fun _ _ => rfl) ?_
  refine zw_nx rfl (fun _ _ => rfl) ?_
  refine zw_nx rfl (fun _ _ => rfl) ?_
  show zW _ sc miX10_init _ _ [.int (clI y), .ref 0] _ _
  rw [eh]
  refine zw_nx rfl (fun _ _ => rfl) ?_
  show zW _ sc miX10_init _ _ _ [.inr (10, [.int (nI w), .int (nI h), .null, .null, .null, .null, .null, .null, .null, .null, .null, .null])] _
  refine zw_nx rfl (fun _ _ => rfl) ?_
  refine zw_nx rfl (fun _ _ => rfl) ?_
  refine zw_nx rfl (fun _ _ => rfl) ?_
  show zW _ sc miX10_init _ _ [.ref 1, .ref 1, .ref 0] [.inr (10, [.int (nI w), .int (nI h), .null, .null, .null, .null, .null, .null, .null, .null, .null, .null]), .inr (3, [.null, .null, .null, .null, .null, .int 0, .int 0, .int 0, .int 0, .int 0])] _
  refine zw_call rfl (fun _ _ => rfl) (iX3 sc w h) (by decide) ?_
  rintro M1 v ⟨rfl, rfl⟩
  refine zw_nx rfl (fun _ _ => rfl) ?_
  show zW _ sc miX10_init _ _ _ [.inr (10, [.int (nI w), .int (nI h), .ref 1, .null, .null, .null, .null, .null, .null, .null, .null, .null]), .inr (3, [.ref 2, .ref 3, .ref 4, .ref 5, .ref 6, .int 0, .int 0, .int 0, .int 0, .int (1)]), .inl (0, 2000, .inl (fun _ => 0)), .inl (0, 2000, .inl (fun _ => 0)), .inl (0, 2000, .inl (fun _ => 0)), .inl (0, 208, .inl fgI), .inl (0, 208, .inl fgT)] _
  refine zw_nx rfl (fun _ _ => rfl) ?_
  refine zw_nx rfl (fun _ _ => rfl) ?_
  refine zw_nx rfl (fun _ _ => rfl) ?_
  refine zw_nx rfl (fun _ _ => rfl) ?_
  refine zw_nx rfl (fun _ _ => rfl) ?_
  refine zw_nx rfl (fun _ _ => rfl) ?_
  refine zw_nx rfl (fun _ _ => rfl) ?_
  refine zw_nx rfl (fun _ _ => rfl) ?_
  refine zw_nx rfl (fun _ _ => rfl) ?_
  show zW _ sc miX10_init _ _ [.int (nI h), .int (nI w), .ref 1, .ref 7, .ref 7, .ref 0] [.inr (10, [.int (nI w), .int (nI h), .ref 1, .null, .null, .null, .null, .null, .null, .null, .null, .null]), .inr (3, [.ref 2, .ref 3, .ref 4, .ref 5, .ref 6, .int 0, .int 0, .int 0, .int 0, .int (1)]), .inl (0, 2000, .inl (fun _ => 0)), .inl (0, 2000, .inl (fun _ => 0)), .inl (0, 2000, .inl (fun _ => 0)), .inl (0, 208, .inl fgI), .inl (0, 208, .inl fgT), .inr (0, [.null, .int 0, .int 0, .long 0, .null, .null, .null, .null, .null, .null, .int 0, .int 0])] _
  refine zw_call rfl (fun _ _ => rfl) (iX0 sc w h) (by decide) ?_
  rintro M1 v ⟨rfl, rfl⟩
  refine zw_nx rfl (fun _ _ => rfl) ?_
  show zW _ sc miX10_init _ _ _ [.inr (10, [.int (nI w), .int (nI h), .ref 1, .ref 7, .null, .null, .null, .null, .null, .null, .null, .null]), .inr (3, [.ref 2, .ref 3, .ref 4, .ref 5, .ref 6, .int 0, .int 0, .int 0, .int 0, .int (1)]), .inl (0, 2000, .inl (fun _ => 0)), .inl (0, 2000, .inl (fun _ => 0)), .inl (0, 2000, .inl (fun _ => 0)), .inl (0, 208, .inl fgI), .inl (0, 208, .inl fgT), .inr (0, [.ref 1, .int (nI w), .int (nI h), .long (fb w), .ref 8, .ref 9, .ref 10, .ref 11, .ref 12, .ref 13, .int 0, .int 0]), .inl (0, 48, .inl (fun _ => 0)), .inl (1, 48, .inr (.inl (fun _ => 0))), .inl (1, 48, .inr (.inl (fun _ => 0))), .inl (1, 16, .inr (.inl (fun _ => 0))), .inl (1, 16, .inr (.inl (fun _ => 0))), .inl (1, 16, .inr (.inl (fun _ => 0)))] _
  refine zw_nx rfl (fun _ _ => rfl) ?_
  refine zw_nx rfl (fun _ _ => rfl) ?_
  refine zw_nx rfl (fun _ _ => rfl) ?_
  show zW _ sc miX10_init _ _ [.ref 14, .ref 14, .ref 0] [.inr (10, [.int (nI w), .int (nI h), .ref 1, .ref 7, .null, .null, .null, .null, .null, .null, .null, .null]), .inr (3, [.ref 2, .ref 3, .ref 4, .ref 5, .ref 6, .int 0, .int 0, .int 0, .int 0, .int (1)]), .inl (0, 2000, .inl (fun _ => 0)), .inl (0, 2000, .inl (fun _ => 0)), .inl (0, 2000, .inl (fun _ => 0)), .inl (0, 208, .inl fgI), .inl (0, 208, .inl fgT), .inr (0, [.ref 1, .int (nI w), .int (nI h), .long (fb w), .ref 8, .ref 9, .ref 10, .ref 11, .ref 12, .ref 13, .int 0, .int 0]), .inl (0, 48, .inl (fun _ => 0)), .inl (1, 48, .inr (.inl (fun _ => 0))), .inl (1, 48, .inr (.inl (fun _ => 0))), .inl (1, 16, .inr (.inl (fun _ => 0))), .inl (1, 16, .inr (.inl (fun _ => 0))), .inl (1, 16, .inr (.inl (fun _ => 0))), .inr (9, [.null, .int 0, .int 0, .int 0, .int 0, .int 0])] _
  refine zw_call rfl (fun _ _ => rfl) (iX9 sc w h) (by decide) ?_
  rintro M1 v ⟨rfl, rfl⟩
  refine zw_nx rfl (fun _ _ => rfl) ?_
  show zW _ sc miX10_init _ _ _ [.inr (10, [.int (nI w), .int (nI h), .ref 1, .ref 7, .ref 14, .null, .null, .null, .null, .null, .null, .null]), .inr (3, [.ref 2, .ref 3, .ref 4, .ref 5, .ref 6, .int 0, .int 0, .int 0, .int 0, .int (1)]), .inl (0, 2000, .inl (fun _ => 0)), .inl (0, 2000, .inl (fun _ => 0)), .inl (0, 2000, .inl (fun _ => 0)), .inl (0, 208, .inl fgI), .inl (0, 208, .inl fgT), .inr (0, [.ref 1, .int (nI w), .int (nI h), .long (fb w), .ref 8, .ref 9, .ref 10, .ref 11, .ref 12, .ref 13, .int 0, .int 0]), .inl (0, 48, .inl (fun _ => 0)), .inl (1, 48, .inr (.inl (fun _ => 0))), .inl (1, 48, .inr (.inl (fun _ => 0))), .inl (1, 16, .inr (.inl (fun _ => 0))), .inl (1, 16, .inr (.inl (fun _ => 0))), .inl (1, 16, .inr (.inl (fun _ => 0))), .inr (9, [.ref 15, .int 0, .int 0, .int 0, .int 0, .int 0]), .inl (0, 300, .inl (fun _ => 0))] _
  refine zw_nx rfl (fun _ _ => rfl) ?_
  refine zw_nx rfl (fun _ _ => rfl) ?_
  refine zw_nx rfl (fun _ _ => rfl) ?_
  refine zw_nx rfl (fun _ _ => rfl) ?_
  refine zw_nx rfl (fun _ _ => rfl) ?_
  refine zw_nx rfl (fun _ _ => rfl) ?_
  refine zw_nx rfl (fun _ _ => rfl) ?_
  refine zw_nx rfl (fun _ _ => rfl) ?_
  refine zw_nx rfl (fun _ _ => rfl) ?_
  refine zw_nx rfl (fun _ _ => rfl) ?_
  refine zw_nx rfl (fun _ _ => rfl) ?_
  show zW _ sc miX10_init _ _ [.int (nI h), .int (nI w), .ref 1, .ref 14, .ref 16, .ref 16, .ref 0] [.inr (10, [.int (nI w), .int (nI h), .ref 1, .ref 7, .ref 14, .null, .null, .null, .null, .null, .null, .null]), .inr (3, [.ref 2, .ref 3, .ref 4, .ref 5, .ref 6, .int 0, .int 0, .int 0, .int 0, .int (1)]), .inl (0, 2000, .inl (fun _ => 0)), .inl (0, 2000, .inl (fun _ => 0)), .inl (0, 2000, .inl (fun _ => 0)), .inl (0, 208, .inl fgI), .inl (0, 208, .inl fgT), .inr (0, [.ref 1, .int (nI w), .int (nI h), .long (fb w), .ref 8, .ref 9, .ref 10, .ref 11, .ref 12, .ref 13, .int 0, .int 0]), .inl (0, 48, .inl (fun _ => 0)), .inl (1, 48, .inr (.inl (fun _ => 0))), .inl (1, 48, .inr (.inl (fun _ => 0))), .inl (1, 16, .inr (.inl (fun _ => 0))), .inl (1, 16, .inr (.inl (fun _ => 0))), .inl (1, 16, .inr (.inl (fun _ => 0))), .inr (9, [.ref 15, .int 0, .int 0, .int 0, .int 0, .int 0]), .inl (0, 300, .inl (fun _ => 0)), .inr (6, [.null, .null, .int 0, .int 0, .null, .null, .null, .null, .null, .null, .int 0, .int 0, .int 0, .int 0, .int 0, .int 0, .int 0, .int 0, .int 0, .int 0])] _
  refine zw_call rfl (fun _ _ => rfl) (iX6 sc w h) (by decide) ?_
  rintro M1 v ⟨rfl, rfl⟩
  refine zw_nx rfl (fun _ _ => rfl) ?_
  show zW _ sc miX10_init _ _ _ [.inr (10, [.int (nI w), .int (nI h), .ref 1, .ref 7, .ref 14, .ref 16, .null, .null, .null, .null, .null, .null]), .inr (3, [.ref 2, .ref 3, .ref 4, .ref 5, .ref 6, .int 0, .int 0, .int 0, .int 0, .int (1)]), .inl (0, 2000, .inl (fun _ => 0)), .inl (0, 2000, .inl (fun _ => 0)), .inl (0, 2000, .inl (fun _ => 0)), .inl (0, 208, .inl fgI), .inl (0, 208, .inl fgT), .inr (0, [.ref 1, .int (nI w), .int (nI h), .long (fb w), .ref 8, .ref 9, .ref 10, .ref 11, .ref 12, .ref 13, .int 0, .int 0]), .inl (0, 48, .inl (fun _ => 0)), .inl (1, 48, .inr (.inl (fun _ => 0))), .inl (1, 48, .inr (.inl (fun _ => 0))), .inl (1, 16, .inr (.inl (fun _ => 0))), .inl (1, 16, .inr (.inl (fun _ => 0))), .inl (1, 16, .inr (.inl (fun _ => 0))), .inr (9, [.ref 15, .int 0, .int 0, .int 0, .int 0, .int 0]), .inl (0, 300, .inl (fun _ => 0)), .inr (6, [.ref 14, .ref 1, .int (nI w), .int (nI h), .ref 17, .ref 18, .ref 19, .ref 20, .ref 21, .ref 22, .int 0, .int 0, .int 0, .int 0, .int 0, .int 0, .int 0, .int 0, .int (-1), .int (-1)]), .inl (0, 1800, .inl (fun _ => 0)), .inl (0, 9, .inl (fun _ => 0)), .inl (0, 9, .inl (fun _ => 0)), .inl (0, 9, .inl (fun _ => 0)), .inl (0, 1600, .inl (fun _ => 0)), .inl (0, 8, .inl (fun _ => 0))] _
  refine zw_nx rfl (fun _ _ => rfl) ?_
  refine zw_nx rfl (fun _ _ => rfl) ?_
  refine zw_nx rfl (fun _ _ => rfl) ?_
  refine zw_nx rfl (fun _ _ => rfl) ?_
  refine zw_nx rfl (fun _ _ => rfl) ?_
  show zW _ sc miX10_init _ _ [.ref 7, .ref 23, .ref 23, .ref 0] [.inr (10, [.int (nI w), .int (nI h), .ref 1, .ref 7, .ref 14, .ref 16, .null, .null, .null, .null, .null, .null]), .inr (3, [.ref 2, .ref 3, .ref 4, .ref 5, .ref 6, .int 0, .int 0, .int 0, .int 0, .int (1)]), .inl (0, 2000, .inl (fun _ => 0)), .inl (0, 2000, .inl (fun _ => 0)), .inl (0, 2000, .inl (fun _ => 0)), .inl (0, 208, .inl fgI), .inl (0, 208, .inl fgT), .inr (0, [.ref 1, .int (nI w), .int (nI h), .long (fb w), .ref 8, .ref 9, .ref 10, .ref 11, .ref 12, .ref 13, .int 0, .int 0]), .inl (0, 48, .inl (fun _ => 0)), .inl (1, 48, .inr (.inl (fun _ => 0))), .inl (1, 48, .inr (.inl (fun _ => 0))), .inl (1, 16, .inr (.inl (fun _ => 0))), .inl (1, 16, .inr (.inl (fun _ => 0))), .inl (1, 16, .inr (.inl (fun _ => 0))), .inr (9, [.ref 15, .int 0, .int 0, .int 0, .int 0, .int 0]), .inl (0, 300, .inl (fun _ => 0)), .inr (6, [.ref 14, .ref 1, .int (nI w), .int (nI h), .ref 17, .ref 18, .ref 19, .ref 20, .ref 21, .ref 22, .int 0, .int 0, .int 0, .int 0, .int 0, .int 0, .int 0, .int 0, .int (-1), .int (-1)]), .inl (0, 1800, .inl (fun _ => 0)), .inl (0, 9, .inl (fun _ => 0)), .inl (0, 9, .inl (fun _ => 0)), .inl (0, 9, .inl (fun _ => 0)), .inl (0, 1600, .inl (fun _ => 0)), .inl (0, 8, .inl (fun _ => 0)), .inr (7, [.null, .null])] _
  refine zw_call rfl (fun _ _ => rfl) (iX7 sc w h) (by decide) ?_
  rintro M1 v ⟨rfl, rfl⟩
  refine zw_nx rfl (fun _ _ => rfl) ?_
  show zW _ sc miX10_init _ _ _ [.inr (10, [.int (nI w), .int (nI h), .ref 1, .ref 7, .ref 14, .ref 16, .ref 23, .null, .null, .null, .null, .null]), .inr (3, [.ref 2, .ref 3, .ref 4, .ref 5, .ref 6, .int 0, .int 0, .int 0, .int 0, .int (1)]), .inl (0, 2000, .inl (fun _ => 0)), .inl (0, 2000, .inl (fun _ => 0)), .inl (0, 2000, .inl (fun _ => 0)), .inl (0, 208, .inl fgI), .inl (0, 208, .inl fgT), .inr (0, [.ref 1, .int (nI w), .int (nI h), .long (fb w), .ref 8, .ref 9, .ref 10, .ref 11, .ref 12, .ref 13, .int 0, .int 0]), .inl (0, 48, .inl (fun _ => 0)), .inl (1, 48, .inr (.inl (fun _ => 0))), .inl (1, 48, .inr (.inl (fun _ => 0))), .inl (1, 16, .inr (.inl (fun _ => 0))), .inl (1, 16, .inr (.inl (fun _ => 0))), .inl (1, 16, .inr (.inl (fun _ => 0))), .inr (9, [.ref 15, .int 0, .int 0, .int 0, .int 0, .int 0]), .inl (0, 300, .inl (fun _ => 0)), .inr (6, [.ref 14, .ref 1, .int (nI w), .int (nI h), .ref 17, .ref 18, .ref 19, .ref 20, .ref 21, .ref 22, .int 0, .int 0, .int 0, .int 0, .int 0, .int 0, .int 0, .int 0, .int (-1), .int (-1)]), .inl (0, 1800, .inl (fun _ => 0)), .inl (0, 9, .inl (fun _ => 0)), .inl (0, 9, .inl (fun _ => 0)), .inl (0, 9, .inl (fun _ => 0)), .inl (0, 1600, .inl (fun _ => 0)), .inl (0, 8, .inl (fun _ => 0)), .inr (7, [.ref 7, .ref 24]), .inl (0, 49, .inl (fun _ => 0))] _
  refine zw_nx rfl (fun _ _ => rfl) ?_
  refine zw_nx rfl (fun _ _ => rfl) ?_
  refine zw_nx rfl (fun _ _ => rfl) ?_
  refine zw_nx rfl (fun _ _ => rfl) ?_
  refine zw_nx rfl (fun _ _ => rfl) ?_
  refine zw_nx rfl (fun _ _ => rfl) ?_
  refine zw_nx rfl (fun _ _ => rfl) ?_
  show zW _ sc miX10_init _ _ [.ref 1, .ref 7, .ref 25, .ref 25, .ref 0] [.inr (10, [.int (nI w), .int (nI h), .ref 1, .ref 7, .ref 14, .ref 16, .ref 23, .null, .null, .null, .null, .null]), .inr (3, [.ref 2, .ref 3, .ref 4, .ref 5, .ref 6, .int 0, .int 0, .int 0, .int 0, .int (1)]), .inl (0, 2000, .inl (fun _ => 0)), .inl (0, 2000, .inl (fun _ => 0)), .inl (0, 2000, .inl (fun _ => 0)), .inl (0, 208, .inl fgI), .inl (0, 208, .inl fgT), .inr (0, [.ref 1, .int (nI w), .int (nI h), .long (fb w), .ref 8, .ref 9, .ref 10, .ref 11, .ref 12, .ref 13, .int 0, .int 0]), .inl (0, 48, .inl (fun _ => 0)), .inl (1, 48, .inr (.inl (fun _ => 0))), .inl (1, 48, .inr (.inl (fun _ => 0))), .inl (1, 16, .inr (.inl (fun _ => 0))), .inl (1, 16, .inr (.inl (fun _ => 0))), .inl (1, 16, .inr (.inl (fun _ => 0))), .inr (9, [.ref 15, .int 0, .int 0, .int 0, .int 0, .int 0]), .inl (0, 300, .inl (fun _ => 0)), .inr (6, [.ref 14, .ref 1, .int (nI w), .int (nI h), .ref 17, .ref 18, .ref 19, .ref 20, .ref 21, .ref 22, .int 0, .int 0, .int 0, .int 0, .int 0, .int 0, .int 0, .int 0, .int (-1), .int (-1)]), .inl (0, 1800, .inl (fun _ => 0)), .inl (0, 9, .inl (fun _ => 0)), .inl (0, 9, .inl (fun _ => 0)), .inl (0, 9, .inl (fun _ => 0)), .inl (0, 1600, .inl (fun _ => 0)), .inl (0, 8, .inl (fun _ => 0)), .inr (7, [.ref 7, .ref 24]), .inl (0, 49, .inl (fun _ => 0)), .inr (5, [.null, .null, .null, .int 0])] _
  refine zw_call rfl (fun _ _ => rfl) (iX5 sc w h) (by decide) ?_
  rintro M1 v ⟨rfl, rfl⟩
  refine zw_nx rfl (fun _ _ => rfl) ?_
  show zW _ sc miX10_init _ _ _ [.inr (10, [.int (nI w), .int (nI h), .ref 1, .ref 7, .ref 14, .ref 16, .ref 23, .ref 25, .null, .null, .null, .null]), .inr (3, [.ref 2, .ref 3, .ref 4, .ref 5, .ref 6, .int 0, .int 0, .int 0, .int 0, .int (1)]), .inl (0, 2000, .inl (fun _ => 0)), .inl (0, 2000, .inl (fun _ => 0)), .inl (0, 2000, .inl (fun _ => 0)), .inl (0, 208, .inl fgI), .inl (0, 208, .inl fgT), .inr (0, [.ref 1, .int (nI w), .int (nI h), .long (fb w), .ref 8, .ref 9, .ref 10, .ref 11, .ref 12, .ref 13, .int 0, .int 0]), .inl (0, 48, .inl (fun _ => 0)), .inl (1, 48, .inr (.inl (fun _ => 0))), .inl (1, 48, .inr (.inl (fun _ => 0))), .inl (1, 16, .inr (.inl (fun _ => 0))), .inl (1, 16, .inr (.inl (fun _ => 0))), .inl (1, 16, .inr (.inl (fun _ => 0))), .inr (9, [.ref 15, .int 0, .int 0, .int 0, .int 0, .int 0]), .inl (0, 300, .inl (fun _ => 0)), .inr (6, [.ref 14, .ref 1, .int (nI w), .int (nI h), .ref 17, .ref 18, .ref 19, .ref 20, .ref 21, .ref 22, .int 0, .int 0, .int 0, .int 0, .int 0, .int 0, .int 0, .int 0, .int (-1), .int (-1)]), .inl (0, 1800, .inl (fun _ => 0)), .inl (0, 9, .inl (fun _ => 0)), .inl (0, 9, .inl (fun _ => 0)), .inl (0, 9, .inl (fun _ => 0)), .inl (0, 1600, .inl (fun _ => 0)), .inl (0, 8, .inl (fun _ => 0)), .inr (7, [.ref 7, .ref 24]), .inl (0, 49, .inl (fun _ => 0)), .inr (5, [.ref 7, .ref 1, .ref 26, .int 0]), .inl (1, 192, .inr (.inl (fun _ => 0)))] _
  refine zw_nx rfl (fun _ _ => rfl) ?_
  refine zw_nx rfl (fun _ _ => rfl) ?_
  refine zw_nx rfl (fun _ _ => rfl) ?_
  refine zw_nx rfl (fun _ _ => rfl) ?_
  refine zw_nx rfl (fun _ _ => rfl) ?_
  show zW _ sc miX10_init _ _ [.ref 7, .ref 27, .ref 27, .ref 0] [.inr (10, [.int (nI w), .int (nI h), .ref 1, .ref 7, .ref 14, .ref 16, .ref 23, .ref 25, .null, .null, .null, .null]), .inr (3, [.ref 2, .ref 3, .ref 4, .ref 5, .ref 6, .int 0, .int 0, .int 0, .int 0, .int (1)]), .inl (0, 2000, .inl (fun _ => 0)), .inl (0, 2000, .inl (fun _ => 0)), .inl (0, 2000, .inl (fun _ => 0)), .inl (0, 208, .inl fgI), .inl (0, 208, .inl fgT), .inr (0, [.ref 1, .int (nI w), .int (nI h), .long (fb w), .ref 8, .ref 9, .ref 10, .ref 11, .ref 12, .ref 13, .int 0, .int 0]), .inl (0, 48, .inl (fun _ => 0)), .inl (1, 48, .inr (.inl (fun _ => 0))), .inl (1, 48, .inr (.inl (fun _ => 0))), .inl (1, 16, .inr (.inl (fun _ => 0))), .inl (1, 16, .inr (.inl (fun _ => 0))), .inl (1, 16, .inr (.inl (fun _ => 0))), .inr (9, [.ref 15, .int 0, .int 0, .int 0, .int 0, .int 0]), .inl (0, 300, .inl (fun _ => 0)), .inr (6, [.ref 14, .ref 1, .int (nI w), .int (nI h), .ref 17, .ref 18, .ref 19, .ref 20, .ref 21, .ref 22, .int 0, .int 0, .int 0, .int 0, .int 0, .int 0, .int 0, .int 0, .int (-1), .int (-1)]), .inl (0, 1800, .inl (fun _ => 0)), .inl (0, 9, .inl (fun _ => 0)), .inl (0, 9, .inl (fun _ => 0)), .inl (0, 9, .inl (fun _ => 0)), .inl (0, 1600, .inl (fun _ => 0)), .inl (0, 8, .inl (fun _ => 0)), .inr (7, [.ref 7, .ref 24]), .inl (0, 49, .inl (fun _ => 0)), .inr (5, [.ref 7, .ref 1, .ref 26, .int 0]), .inl (1, 192, .inr (.inl (fun _ => 0))), .inr (2, [.null, .null, .null, .null, .null, .null, .int 0, .int 0, .int 0, .int 0, .int 0, .long 0, .long 0, .int 0])] _
  refine zw_call rfl (fun _ _ => rfl) (iX2 sc w h) (by decide) ?_
  rintro M1 v ⟨rfl, rfl⟩
  refine zw_nx rfl (fun _ _ => rfl) ?_
  show zW _ sc miX10_init _ _ _ [.inr (10, [.int (nI w), .int (nI h), .ref 1, .ref 7, .ref 14, .ref 16, .ref 23, .ref 25, .ref 27, .null, .null, .null]), .inr (3, [.ref 2, .ref 3, .ref 4, .ref 5, .ref 6, .int 0, .int 0, .int 0, .int 0, .int (1)]), .inl (0, 2000, .inl (fun _ => 0)), .inl (0, 2000, .inl (fun _ => 0)), .inl (0, 2000, .inl (fun _ => 0)), .inl (0, 208, .inl fgI), .inl (0, 208, .inl fgT), .inr (0, [.ref 1, .int (nI w), .int (nI h), .long (fb w), .ref 8, .ref 9, .ref 10, .ref 11, .ref 12, .ref 13, .int 0, .int 0]), .inl (0, 48, .inl (fun _ => 0)), .inl (1, 48, .inr (.inl (fun _ => 0))), .inl (1, 48, .inr (.inl (fun _ => 0))), .inl (1, 16, .inr (.inl (fun _ => 0))), .inl (1, 16, .inr (.inl (fun _ => 0))), .inl (1, 16, .inr (.inl (fun _ => 0))), .inr (9, [.ref 15, .int 0, .int 0, .int 0, .int 0, .int 0]), .inl (0, 300, .inl (fun _ => 0)), .inr (6, [.ref 14, .ref 1, .int (nI w), .int (nI h), .ref 17, .ref 18, .ref 19, .ref 20, .ref 21, .ref 22, .int 0, .int 0, .int 0, .int 0, .int 0, .int 0, .int 0, .int 0, .int (-1), .int (-1)]), .inl (0, 1800, .inl (fun _ => 0)), .inl (0, 9, .inl (fun _ => 0)), .inl (0, 9, .inl (fun _ => 0)), .inl (0, 9, .inl (fun _ => 0)), .inl (0, 1600, .inl (fun _ => 0)), .inl (0, 8, .inl (fun _ => 0)), .inr (7, [.ref 7, .ref 24]), .inl (0, 49, .inl (fun _ => 0)), .inr (5, [.ref 7, .ref 1, .ref 26, .int 0]), .inl (1, 192, .inr (.inl (fun _ => 0))), .inr (2, [.ref 7, .ref 28, .ref 29, .ref 30, .ref 31, .ref 32, .int 0, .int 0, .int 0, .int 0, .int 0, .long 0, .long 0, .int 0]), .inl (1, 96, .inr (.inl (fun _ => 0))), .inl (1, 96, .inr (.inl (fun _ => 0))), .inl (1, 96, .inr (.inl (fun _ => 0))), .inl (1, 96, .inr (.inl (fun _ => 0))), .inl (0, 96, .inl (fun _ => 0))] _
  refine zw_nx rfl (fun _ _ => rfl) ?_
  refine zw_nx rfl (fun _ _ => rfl) ?_
  refine zw_nx rfl (fun _ _ => rfl) ?_
  refine zw_nx rfl (fun _ _ => rfl) ?_
  refine zw_nx rfl (fun _ _ => rfl) ?_
  show zW _ sc miX10_init _ _ [.ref 7, .ref 33, .ref 33, .ref 0] [.inr (10, [.int (nI w), .int (nI h), .ref 1, .ref 7, .ref 14, .ref 16, .ref 23, .ref 25, .ref 27, .null, .null, .null]), .inr (3, [.ref 2, .ref 3, .ref 4, .ref 5, .ref 6, .int 0, .int 0, .int 0, .int 0, .int (1)]), .inl (0, 2000, .inl (fun _ => 0)), .inl (0, 2000, .inl (fun _ => 0)), .inl (0, 2000, .inl (fun _ => 0)), .inl (0, 208, .inl fgI), .inl (0, 208, .inl fgT), .inr (0, [.ref 1, .int (nI w), .int (nI h), .long (fb w), .ref 8, .ref 9, .ref 10, .ref 11, .ref 12, .ref 13, .int 0, .int 0]), .inl (0, 48, .inl (fun _ => 0)), .inl (1, 48, .inr (.inl (fun _ => 0))), .inl (1, 48, .inr (.inl (fun _ => 0))), .inl (1, 16, .inr (.inl (fun _ => 0))), .inl (1, 16, .inr (.inl (fun _ => 0))), .inl (1, 16, .inr (.inl (fun _ => 0))), .inr (9, [.ref 15, .int 0, .int 0, .int 0, .int 0, .int 0]), .inl (0, 300, .inl (fun _ => 0)), .inr (6, [.ref 14, .ref 1, .int (nI w), .int (nI h), .ref 17, .ref 18, .ref 19, .ref 20, .ref 21, .ref 22, .int 0, .int 0, .int 0, .int 0, .int 0, .int 0, .int 0, .int 0, .int (-1), .int (-1)]), .inl (0, 1800, .inl (fun _ => 0)), .inl (0, 9, .inl (fun _ => 0)), .inl (0, 9, .inl (fun _ => 0)), .inl (0, 9, .inl (fun _ => 0)), .inl (0, 1600, .inl (fun _ => 0)), .inl (0, 8, .inl (fun _ => 0)), .inr (7, [.ref 7, .ref 24]), .inl (0, 49, .inl (fun _ => 0)), .inr (5, [.ref 7, .ref 1, .ref 26, .int 0]), .inl (1, 192, .inr (.inl (fun _ => 0))), .inr (2, [.ref 7, .ref 28, .ref 29, .ref 30, .ref 31, .ref 32, .int 0, .int 0, .int 0, .int 0, .int 0, .long 0, .long 0, .int 0]), .inl (1, 96, .inr (.inl (fun _ => 0))), .inl (1, 96, .inr (.inl (fun _ => 0))), .inl (1, 96, .inr (.inl (fun _ => 0))), .inl (1, 96, .inr (.inl (fun _ => 0))), .inl (0, 96, .inl (fun _ => 0)), .inr (1, [.null, .null, .int 0, .null, .int 0, .null, .null, .null, .int 0, .null, .null, .int 0, .int 0])] _
  refine zw_call rfl (fun _ _ => rfl) (iX1 sc w h) (by decide) ?_
  rintro M1 v ⟨rfl, rfl⟩
  refine zw_nx rfl (fun _ _ => rfl) ?_
  show zW _ sc miX10_init _ _ _ [.inr (10, [.int (nI w), .int (nI h), .ref 1, .ref 7, .ref 14, .ref 16, .ref 23, .ref 25, .ref 27, .ref 33, .null, .null]), .inr (3, [.ref 2, .ref 3, .ref 4, .ref 5, .ref 6, .int 0, .int 0, .int 0, .int 0, .int (1)]), .inl (0, 2000, .inl (fun _ => 0)), .inl (0, 2000, .inl (fun _ => 0)), .inl (0, 2000, .inl (fun _ => 0)), .inl (0, 208, .inl fgI), .inl (0, 208, .inl fgT), .inr (0, [.ref 1, .int (nI w), .int (nI h), .long (fb w), .ref 8, .ref 9, .ref 10, .ref 11, .ref 12, .ref 13, .int 0, .int 0]), .inl (0, 48, .inl (fun _ => 0)), .inl (1, 48, .inr (.inl (fun _ => 0))), .inl (1, 48, .inr (.inl (fun _ => 0))), .inl (1, 16, .inr (.inl (fun _ => 0))), .inl (1, 16, .inr (.inl (fun _ => 0))), .inl (1, 16, .inr (.inl (fun _ => 0))), .inr (9, [.ref 15, .int 0, .int 0, .int 0, .int 0, .int 0]), .inl (0, 300, .inl (fun _ => 0)), .inr (6, [.ref 14, .ref 1, .int (nI w), .int (nI h), .ref 17, .ref 18, .ref 19, .ref 20, .ref 21, .ref 22, .int 0, .int 0, .int 0, .int 0, .int 0, .int 0, .int 0, .int 0, .int (-1), .int (-1)]), .inl (0, 1800, .inl (fun _ => 0)), .inl (0, 9, .inl (fun _ => 0)), .inl (0, 9, .inl (fun _ => 0)), .inl (0, 9, .inl (fun _ => 0)), .inl (0, 1600, .inl (fun _ => 0)), .inl (0, 8, .inl (fun _ => 0)), .inr (7, [.ref 7, .ref 24]), .inl (0, 49, .inl (fun _ => 0)), .inr (5, [.ref 7, .ref 1, .ref 26, .int 0]), .inl (1, 192, .inr (.inl (fun _ => 0))), .inr (2, [.ref 7, .ref 28, .ref 29, .ref 30, .ref 31, .ref 32, .int 0, .int 0, .int 0, .int 0, .int 0, .long 0, .long 0, .int 0]), .inl (1, 96, .inr (.inl (fun _ => 0))), .inl (1, 96, .inr (.inl (fun _ => 0))), .inl (1, 96, .inr (.inl (fun _ => 0))), .inl (1, 96, .inr (.inl (fun _ => 0))), .inl (0, 96, .inl (fun _ => 0)), .inr (1, [.ref 7, .ref 34, .int 0, .ref 35, .int 0, .ref 36, .ref 37, .ref 38, .int 0, .ref 39, .ref 40, .int 0, .int 0]), .inl (0, 5, .inl (fun _ => 0)), .inl (0, 31, .inl (fun _ => 0)), .inl (1, 31, .inr (.inl (fun _ => 0))), .inl (1, 32, .inr (.inl (fun _ => 0))), .inl (1, 55, .inr (.inl (fun _ => 0))), .inl (0, 16, .inl (fun _ => 0)), .inl (0, 5, .inl (fun _ => 0))] _
  refine zw_nx rfl (fun _ _ => rfl) ?_
  refine zw_nx rfl (fun _ _ => rfl) ?_
  refine zw_nx rfl (fun _ _ => rfl) ?_
  refine zw_nx rfl (fun _ _ => rfl) ?_
  refine zw_nx rfl (fun _ _ => rfl) ?_
  show zW _ sc miX10_init _ _ [.ref 7, .ref 41, .ref 41, .ref 0] [.inr (10, [.int (nI w), .int (nI h), .ref 1, .ref 7, .ref 14, .ref 16, .ref 23, .ref 25, .ref 27, .ref 33, .null, .null]), .inr (3, [.ref 2, .ref 3, .ref 4, .ref 5, .ref 6, .int 0, .int 0, .int 0, .int 0, .int (1)]), .inl (0, 2000, .inl (fun _ => 0)), .inl (0, 2000, .inl (fun _ => 0)), .inl (0, 2000, .inl (fun _ => 0)), .inl (0, 208, .inl fgI), .inl (0, 208, .inl fgT), .inr (0, [.ref 1, .int (nI w), .int (nI h), .long (fb w), .ref 8, .ref 9, .ref 10, .ref 11, .ref 12, .ref 13, .int 0, .int 0]), .inl (0, 48, .inl (fun _ => 0)), .inl (1, 48, .inr (.inl (fun _ => 0))), .inl (1, 48, .inr (.inl (fun _ => 0))), .inl (1, 16, .inr (.inl (fun _ => 0))), .inl (1, 16, .inr (.inl (fun _ => 0))), .inl (1, 16, .inr (.inl (fun _ => 0))), .inr (9, [.ref 15, .int 0, .int 0, .int 0, .int 0, .int 0]), .inl (0, 300, .inl (fun _ => 0)), .inr (6, [.ref 14, .ref 1, .int (nI w), .int (nI h), .ref 17, .ref 18, .ref 19, .ref 20, .ref 21, .ref 22, .int 0, .int 0, .int 0, .int 0, .int 0, .int 0, .int 0, .int 0, .int (-1), .int (-1)]), .inl (0, 1800, .inl (fun _ => 0)), .inl (0, 9, .inl (fun _ => 0)), .inl (0, 9, .inl (fun _ => 0)), .inl (0, 9, .inl (fun _ => 0)), .inl (0, 1600, .inl (fun _ => 0)), .inl (0, 8, .inl (fun _ => 0)), .inr (7, [.ref 7, .ref 24]), .inl (0, 49, .inl (fun _ => 0)), .inr (5, [.ref 7, .ref 1, .ref 26, .int 0]), .inl (1, 192, .inr (.inl (fun _ => 0))), .inr (2, [.ref 7, .ref 28, .ref 29, .ref 30, .ref 31, .ref 32, .int 0, .int 0, .int 0, .int 0, .int 0, .long 0, .long 0, .int 0]), .inl (1, 96, .inr (.inl (fun _ => 0))), .inl (1, 96, .inr (.inl (fun _ => 0))), .inl (1, 96, .inr (.inl (fun _ => 0))), .inl (1, 96, .inr (.inl (fun _ => 0))), .inl (0, 96, .inl (fun _ => 0)), .inr (1, [.ref 7, .ref 34, .int 0, .ref 35, .int 0, .ref 36, .ref 37, .ref 38, .int 0, .ref 39, .ref 40, .int 0, .int 0]), .inl (0, 5, .inl (fun _ => 0)), .inl (0, 31, .inl (fun _ => 0)), .inl (1, 31, .inr (.inl (fun _ => 0))), .inl (1, 32, .inr (.inl (fun _ => 0))), .inl (1, 55, .inr (.inl (fun _ => 0))), .inl (0, 16, .inl (fun _ => 0)), .inl (0, 5, .inl (fun _ => 0)), .inr (8, [.null, .null, .null, .int 0])] _
  refine zw_call rfl (fun _ _ => rfl) (iX8 sc w h) (by decide) ?_
  rintro M1 v ⟨rfl, rfl⟩
  refine zw_nx rfl (fun _ _ => rfl) ?_
  show zW _ sc miX10_init _ _ _ [.inr (10, [.int (nI w), .int (nI h), .ref 1, .ref 7, .ref 14, .ref 16, .ref 23, .ref 25, .ref 27, .ref 33, .ref 41, .null]), .inr (3, [.ref 2, .ref 3, .ref 4, .ref 5, .ref 6, .int 0, .int 0, .int 0, .int 0, .int (1)]), .inl (0, 2000, .inl (fun _ => 0)), .inl (0, 2000, .inl (fun _ => 0)), .inl (0, 2000, .inl (fun _ => 0)), .inl (0, 208, .inl fgI), .inl (0, 208, .inl fgT), .inr (0, [.ref 1, .int (nI w), .int (nI h), .long (fb w), .ref 8, .ref 9, .ref 10, .ref 11, .ref 12, .ref 13, .int 0, .int 0]), .inl (0, 48, .inl (fun _ => 0)), .inl (1, 48, .inr (.inl (fun _ => 0))), .inl (1, 48, .inr (.inl (fun _ => 0))), .inl (1, 16, .inr (.inl (fun _ => 0))), .inl (1, 16, .inr (.inl (fun _ => 0))), .inl (1, 16, .inr (.inl (fun _ => 0))), .inr (9, [.ref 15, .int 0, .int 0, .int 0, .int 0, .int 0]), .inl (0, 300, .inl (fun _ => 0)), .inr (6, [.ref 14, .ref 1, .int (nI w), .int (nI h), .ref 17, .ref 18, .ref 19, .ref 20, .ref 21, .ref 22, .int 0, .int 0, .int 0, .int 0, .int 0, .int 0, .int 0, .int 0, .int (-1), .int (-1)]), .inl (0, 1800, .inl (fun _ => 0)), .inl (0, 9, .inl (fun _ => 0)), .inl (0, 9, .inl (fun _ => 0)), .inl (0, 9, .inl (fun _ => 0)), .inl (0, 1600, .inl (fun _ => 0)), .inl (0, 8, .inl (fun _ => 0)), .inr (7, [.ref 7, .ref 24]), .inl (0, 49, .inl (fun _ => 0)), .inr (5, [.ref 7, .ref 1, .ref 26, .int 0]), .inl (1, 192, .inr (.inl (fun _ => 0))), .inr (2, [.ref 7, .ref 28, .ref 29, .ref 30, .ref 31, .ref 32, .int 0, .int 0, .int 0, .int 0, .int 0, .long 0, .long 0, .int 0]), .inl (1, 96, .inr (.inl (fun _ => 0))), .inl (1, 96, .inr (.inl (fun _ => 0))), .inl (1, 96, .inr (.inl (fun _ => 0))), .inl (1, 96, .inr (.inl (fun _ => 0))), .inl (0, 96, .inl (fun _ => 0)), .inr (1, [.ref 7, .ref 34, .int 0, .ref 35, .int 0, .ref 36, .ref 37, .ref 38, .int 0, .ref 39, .ref 40, .int 0, .int 0]), .inl (0, 5, .inl (fun _ => 0)), .inl (0, 31, .inl (fun _ => 0)), .inl (1, 31, .inr (.inl (fun _ => 0))), .inl (1, 32, .inr (.inl (fun _ => 0))), .inl (1, 55, .inr (.inl (fun _ => 0))), .inl (0, 16, .inl (fun _ => 0)), .inl (0, 5, .inl (fun _ => 0)), .inr (8, [.ref 7, .ref 42, .ref 43, .int 0]), .inl (1, 48, .inr (.inl (fun _ => 0))), .inl (1, 48, .inr (.inl (fun _ => 0)))] _
  refine zw_nx rfl (fun _ _ => rfl) ?_
  refine zw_nx rfl (fun _ _ => rfl) ?_
  refine zw_nx rfl (fun _ _ => rfl) ?_
  refine zw_nx rfl (fun _ _ => rfl) ?_
  refine zw_nx rfl (fun _ _ => rfl) ?_
  refine zw_nx rfl (fun _ _ => rfl) ?_
  refine zw_nx rfl (fun _ _ => rfl) ?_
  refine zw_nx rfl (fun _ _ => rfl) ?_
  refine zw_nx rfl (fun _ _ => rfl) ?_
  show zW _ sc miX10_init _ _ [.ref 41, .ref 1, .ref 7, .ref 44, .ref 44, .ref 0] [.inr (10, [.int (nI w), .int (nI h), .ref 1, .ref 7, .ref 14, .ref 16, .ref 23, .ref 25, .ref 27, .ref 33, .ref 41, .null]), .inr (3, [.ref 2, .ref 3, .ref 4, .ref 5, .ref 6, .int 0, .int 0, .int 0, .int 0, .int (1)]), .inl (0, 2000, .inl (fun _ => 0)), .inl (0, 2000, .inl (fun _ => 0)), .inl (0, 2000, .inl (fun _ => 0)), .inl (0, 208, .inl fgI), .inl (0, 208, .inl fgT), .inr (0, [.ref 1, .int (nI w), .int (nI h), .long (fb w), .ref 8, .ref 9, .ref 10, .ref 11, .ref 12, .ref 13, .int 0, .int 0]), .inl (0, 48, .inl (fun _ => 0)), .inl (1, 48, .inr (.inl (fun _ => 0))), .inl (1, 48, .inr (.inl (fun _ => 0))), .inl (1, 16, .inr (.inl (fun _ => 0))), .inl (1, 16, .inr (.inl (fun _ => 0))), .inl (1, 16, .inr (.inl (fun _ => 0))), .inr (9, [.ref 15, .int 0, .int 0, .int 0, .int 0, .int 0]), .inl (0, 300, .inl (fun _ => 0)), .inr (6, [.ref 14, .ref 1, .int (nI w), .int (nI h), .ref 17, .ref 18, .ref 19, .ref 20, .ref 21, .ref 22, .int 0, .int 0, .int 0, .int 0, .int 0, .int 0, .int 0, .int 0, .int (-1), .int (-1)]), .inl (0, 1800, .inl (fun _ => 0)), .inl (0, 9, .inl (fun _ => 0)), .inl (0, 9, .inl (fun _ => 0)), .inl (0, 9, .inl (fun _ => 0)), .inl (0, 1600, .inl (fun _ => 0)), .inl (0, 8, .inl (fun _ => 0)), .inr (7, [.ref 7, .ref 24]), .inl (0, 49, .inl (fun _ => 0)), .inr (5, [.ref 7, .ref 1, .ref 26, .int 0]), .inl (1, 192, .inr (.inl (fun _ => 0))), .inr (2, [.ref 7, .ref 28, .ref 29, .ref 30, .ref 31, .ref 32, .int 0, .int 0, .int 0, .int 0, .int 0, .long 0, .long 0, .int 0]), .inl (1, 96, .inr (.inl (fun _ => 0))), .inl (1, 96, .inr (.inl (fun _ => 0))), .inl (1, 96, .inr (.inl (fun _ => 0))), .inl (1, 96, .inr (.inl (fun _ => 0))), .inl (0, 96, .inl (fun _ => 0)), .inr (1, [.ref 7, .ref 34, .int 0, .ref 35, .int 0, .ref 36, .ref 37, .ref 38, .int 0, .ref 39, .ref 40, .int 0, .int 0]), .inl (0, 5, .inl (fun _ => 0)), .inl (0, 31, .inl (fun _ => 0)), .inl (1, 31, .inr (.inl (fun _ => 0))), .inl (1, 32, .inr (.inl (fun _ => 0))), .inl (1, 55, .inr (.inl (fun _ => 0))), .inl (0, 16, .inl (fun _ => 0)), .inl (0, 5, .inl (fun _ => 0)), .inr (8, [.ref 7, .ref 42, .ref 43, .int 0]), .inl (1, 48, .inr (.inl (fun _ => 0))), .inl (1, 48, .inr (.inl (fun _ => 0))), .inr (4, [.null, .null, .null, .null, .long 0, .long 0, .long 0, .long 0, .int 0, .int 0, .int 0, .int 0, .null, .int 0, .int 0])] _
  refine zw_call rfl (fun _ _ => rfl) (iX4 sc w h) (by decide) ?_
  rintro M1 v ⟨rfl, rfl⟩
  refine zw_nx rfl (fun _ _ => rfl) ?_
  show zW _ sc miX10_init _ _ _ [.inr (10, [.int (nI w), .int (nI h), .ref 1, .ref 7, .ref 14, .ref 16, .ref 23, .ref 25, .ref 27, .ref 33, .ref 41, .ref 44]), .inr (3, [.ref 2, .ref 3, .ref 4, .ref 5, .ref 6, .int 0, .int 0, .int 0, .int 0, .int (1)]), .inl (0, 2000, .inl (fun _ => 0)), .inl (0, 2000, .inl (fun _ => 0)), .inl (0, 2000, .inl (fun _ => 0)), .inl (0, 208, .inl fgI), .inl (0, 208, .inl fgT), .inr (0, [.ref 1, .int (nI w), .int (nI h), .long (fb w), .ref 8, .ref 9, .ref 10, .ref 11, .ref 12, .ref 13, .int 0, .int 0]), .inl (0, 48, .inl (fun _ => 0)), .inl (1, 48, .inr (.inl (fun _ => 0))), .inl (1, 48, .inr (.inl (fun _ => 0))), .inl (1, 16, .inr (.inl (fun _ => 0))), .inl (1, 16, .inr (.inl (fun _ => 0))), .inl (1, 16, .inr (.inl (fun _ => 0))), .inr (9, [.ref 15, .int 0, .int 0, .int 0, .int 0, .int 0]), .inl (0, 300, .inl (fun _ => 0)), .inr (6, [.ref 14, .ref 1, .int (nI w), .int (nI h), .ref 17, .ref 18, .ref 19, .ref 20, .ref 21, .ref 22, .int 0, .int 0, .int 0, .int 0, .int 0, .int 0, .int 0, .int 0, .int (-1), .int (-1)]), .inl (0, 1800, .inl (fun _ => 0)), .inl (0, 9, .inl (fun _ => 0)), .inl (0, 9, .inl (fun _ => 0)), .inl (0, 9, .inl (fun _ => 0)), .inl (0, 1600, .inl (fun _ => 0)), .inl (0, 8, .inl (fun _ => 0)), .inr (7, [.ref 7, .ref 24]), .inl (0, 49, .inl (fun _ => 0)), .inr (5, [.ref 7, .ref 1, .ref 26, .int 0]), .inl (1, 192, .inr (.inl (fun _ => 0))), .inr (2, [.ref 7, .ref 28, .ref 29, .ref 30, .ref 31, .ref 32, .int 0, .int 0, .int 0, .int 0, .int 0, .long 0, .long 0, .int 0]), .inl (1, 96, .inr (.inl (fun _ => 0))), .inl (1, 96, .inr (.inl (fun _ => 0))), .inl (1, 96, .inr (.inl (fun _ => 0))), .inl (1, 96, .inr (.inl (fun _ => 0))), .inl (0, 96, .inl (fun _ => 0)), .inr (1, [.ref 7, .ref 34, .int 0, .ref 35, .int 0, .ref 36, .ref 37, .ref 38, .int 0, .ref 39, .ref 40, .int 0, .int 0]), .inl (0, 5, .inl (fun _ => 0)), .inl (0, 31, .inl (fun _ => 0)), .inl (1, 31, .inr (.inl (fun _ => 0))), .inl (1, 32, .inr (.inl (fun _ => 0))), .inl (1, 55, .inr (.inl (fun _ => 0))), .inl (0, 16, .inl (fun _ => 0)), .inl (0, 5, .inl (fun _ => 0)), .inr (8, [.ref 7, .ref 42, .ref 43, .int 0]), .inl (1, 48, .inr (.inl (fun _ => 0))), .inl (1, 48, .inr (.inl (fun _ => 0))), .inr (4, [.ref 7, .ref 1, .ref 41, .ref 45, .long 0, .long 0, .long 0, .long 0, .int 0, .int 0, .int 0, .int 0, .ref 46, .int 0, .int 0]), .inl (1, 16, .inr (.inl (fun _ => 0))), .inl (0, 48, .inl (fun _ => 0))] _
  exact zw_ret rfl (fun _ _ => rfl) (⟨rfl, rfl⟩)
def jI (w h : Nat) : Nat → Int32 := upd (upd (upd (upd (fun _ => 0) 0 (nI w)) 1 (nI h)) 6 (-1)) 7 (-1)
set_option maxRecDepth 20000 in
set_option maxHeartbeats 1000000 in
theorem mInit (sc : sm_S) (f : Nat → va_E) (x y : Int32) : zC 1 sc 162 [.ref 47, .int x, .int y] (pf f [.inr (11, [.int 0, .int 0, .int 0, .int 0, .int 0, .null, .null, .null, .null, .null, .null, .null, .null, .null, .null, .null, .int 0, .int 0, .int 0, .int 0, .int 0, .int 0, .int 0, .int 0, .int 0, .null, .null, .null, .int 0, .null, .null, .null, .null, .int 0, .int 0, .int 0, .int 0, .null, .null, .null, .null, .int 0, .null, .null, .null, .int 0, .null, .null, .int 0, .null, .int 0, .null, .null, .int 0, .int 0, .int 0])]) (fun M r => r = none ∧ M = mm f (jI (clN x) (clN y)) (fun _ _ => 0) (fun _ _ => 0)) := by
  have ew := (clN_ok x).1
  have eh := (clN_ok y).1
  have mw := clM x
  have mh := clM y
  rw [ew] at mw
  rw [eh] at mh
  generalize clN x = w at mw ⊢
  generalize clN y = h at mh ⊢
  clear ew eh
  refine zc_of hkX11_init rfl ?_
  refine zw_nx rfl (fun _ _ => rfl) ?_
  refine zw_nx rfl (fun _ _ => rfl) ?_
  refine zw_nx rfl (fun _ _ => rfl) ?_
  refine zw_nx rfl (fun _ _ => rfl) ?_
  refine zw_nx rfl (fun _ _ => rfl) ?_
  refine zw_nx rfl (fun _ _ => rfl) ?_
  show zW _ sc miX11_init _ _ _ (pf f [.inr (11, [.int 0, .int 0, .int 0, .int 0, .int 0, .ref 48, .null, .null, .null, .null, .null, .null, .null, .null, .null, .null, .int 0, .int 0, .int 0, .int 0, .int 0, .int 0, .int 0, .int 0, .int 0, .null, .null, .null, .int 0, .null, .null, .null, .null, .int 0, .int 0, .int 0, .int 0, .null, .null, .null, .null, .int 0, .null, .null, .null, .int 0, .null, .null, .int 0, .null, .int 0, .null, .null, .int 0, .int 0, .int 0]), .inl (0, 2000, .inl (fun _ => 0))]) _
  refine zw_nx rfl (fun _ _ => rfl) ?_
  refine zw_nx rfl (fun _ _ => rfl) ?_
  refine zw_nx rfl (fun _ _ => rfl) ?_
  refine zw_nx rfl (fun _ _ => rfl) ?_
  show zW _ sc miX11_init _ _ _ (pf f [.inr (11, [.int 0, .int 0, .int 0, .int 0, .int 0, .ref 48, .ref 49, .null, .null, .null, .null, .null, .null, .null, .null, .null, .int 0, .int 0, .int 0, .int 0, .int 0, .int 0, .int 0, .int 0, .int 0, .null, .null, .null, .int 0, .null, .null, .null, .null, .int 0, .int 0, .int 0, .int 0, .null, .null, .null, .null, .int 0, .null, .null, .null, .int 0, .null, .null, .int 0, .null, .int 0, .null, .null, .int 0, .int 0, .int 0]), .inl (0, 2000, .inl (fun _ => 0)), .inl (0, 2000, .inl (fun _ => 0))]) _
  refine zw_nx rfl (fun _ _ => rfl) ?_
  refine zw_nx rfl (fun _ _ => rfl) ?_
  refine zw_nx rfl (fun _ _ => rfl) ?_
  refine zw_nx rfl (fun _ _ => rfl) ?_
  show zW _ sc miX11_init _ _ _ (pf f [.inr (11, [.int 0, .int 0, .int 0, .int 0, .int 0, .ref 48, .ref 49, .ref 50, .null, .null, .null, .null, .null, .null, .null, .null, .int 0, .int 0, .int 0, .int 0, .int 0, .int 0, .int 0, .int 0, .int 0, .null, .null, .null, .int 0, .null, .null, .null, .null, .int 0, .int 0, .int 0, .int 0, .null, .null, .null, .null, .int 0, .null, .null, .null, .int 0, .null, .null, .int 0, .null, .int 0, .null, .null, .int 0, .int 0, .int 0]), .inl (0, 2000, .inl (fun _ => 0)), .inl (0, 2000, .inl (fun _ => 0)), .inl (0, 2000, .inl (fun _ => 0))]) _
  refine zw_nx rfl (fun _ _ => rfl) ?_
  refine zw_nx rfl (fun _ _ => rfl) ?_
  refine zw_nx rfl (fun _ _ => rfl) ?_
  refine zw_nx rfl (fun _ _ => rfl) ?_
  show zW _ sc miX11_init _ _ _ (pf f [.inr (11, [.int 0, .int 0, .int 0, .int 0, .int 0, .ref 48, .ref 49, .ref 50, .ref 51, .null, .null, .null, .null, .null, .null, .null, .int 0, .int 0, .int 0, .int 0, .int 0, .int 0, .int 0, .int 0, .int 0, .null, .null, .null, .int 0, .null, .null, .null, .null, .int 0, .int 0, .int 0, .int 0, .null, .null, .null, .null, .int 0, .null, .null, .null, .int 0, .null, .null, .int 0, .null, .int 0, .null, .null, .int 0, .int 0, .int 0]), .inl (0, 2000, .inl (fun _ => 0)), .inl (0, 2000, .inl (fun _ => 0)), .inl (0, 2000, .inl (fun _ => 0)), .inl (0, 2000, .inl (fun _ => 0))]) _
  refine zw_nx rfl (fun _ _ => rfl) ?_
  refine zw_nx rfl (fun _ _ => rfl) ?_
  refine zw_nx rfl (fun _ _ => rfl) ?_
  refine zw_nx rfl (fun _ _ => rfl) ?_
  show zW _ sc miX11_init _ _ _ (pf f [.inr (11, [.int 0, .int 0, .int 0, .int 0, .int 0, .ref 48, .ref 49, .ref 50, .ref 51, .ref 52, .null, .null, .null, .null, .null, .null, .int 0, .int 0, .int 0, .int 0, .int 0, .int 0, .int 0, .int 0, .int 0, .null, .null, .null, .int 0, .null, .null, .null, .null, .int 0, .int 0, .int 0, .int 0, .null, .null, .null, .null, .int 0, .null, .null, .null, .int 0, .null, .null, .int 0, .null, .int 0, .null, .null, .int 0, .int 0, .int 0]), .inl (0, 2000, .inl (fun _ => 0)), .inl (0, 2000, .inl (fun _ => 0)), .inl (0, 2000, .inl (fun _ => 0)), .inl (0, 2000, .inl (fun _ => 0)), .inl (0, 48, .inl (fun _ => 0))]) _
  refine zw_nx rfl (fun _ _ => rfl) ?_
  refine zw_nx rfl (fun _ _ => rfl) ?_
  refine zw_nx rfl (fun _ _ => rfl) ?_
  refine zw_nx rfl (fun _ _ => rfl) ?_
  show zW _ sc miX11_init _ _ _ (pf f [.inr (11, [.int 0, .int 0, .int 0, .int 0, .int 0, .ref 48, .ref 49, .ref 50, .ref 51, .ref 52, .ref 53, .null, .null, .null, .null, .null, .int 0, .int 0, .int 0, .int 0, .int 0, .int 0, .int 0, .int 0, .int 0, .null, .null, .null, .int 0, .null, .null, .null, .null, .int 0, .int 0, .int 0, .int 0, .null, .null, .null, .null, .int 0, .null, .null, .null, .int 0, .null, .null, .int 0, .null, .int 0, .null, .null, .int 0, .int 0, .int 0]), .inl (0, 2000, .inl (fun _ => 0)), .inl (0, 2000, .inl (fun _ => 0)), .inl (0, 2000, .inl (fun _ => 0)), .inl (0, 2000, .inl (fun _ => 0)), .inl (0, 48, .inl (fun _ => 0)), .inl (0, 16, .inl (fun _ => 0))]) _
  refine zw_nx rfl (fun _ _ => rfl) ?_
  refine zw_nx rfl (fun _ _ => rfl) ?_
  refine zw_nx rfl (fun _ _ => rfl) ?_
  refine zw_nx rfl (fun _ _ => rfl) ?_
  show zW _ sc miX11_init _ _ _ (pf f [.inr (11, [.int 0, .int 0, .int 0, .int 0, .int 0, .ref 48, .ref 49, .ref 50, .ref 51, .ref 52, .ref 53, .ref 54, .null, .null, .null, .null, .int 0, .int 0, .int 0, .int 0, .int 0, .int 0, .int 0, .int 0, .int 0, .null, .null, .null, .int 0, .null, .null, .null, .null, .int 0, .int 0, .int 0, .int 0, .null, .null, .null, .null, .int 0, .null, .null, .null, .int 0, .null, .null, .int 0, .null, .int 0, .null, .null, .int 0, .int 0, .int 0]), .inl (0, 2000, .inl (fun _ => 0)), .inl (0, 2000, .inl (fun _ => 0)), .inl (0, 2000, .inl (fun _ => 0)), .inl (0, 2000, .inl (fun _ => 0)), .inl (0, 48, .inl (fun _ => 0)), .inl (0, 16, .inl (fun _ => 0)), .inl (0, 48, .inl (fun _ => 0))]) _
  refine zw_nx rfl (fun _ _ => rfl) ?_
  refine zw_nx rfl (fun _ _ => rfl) ?_
  refine zw_nx rfl (fun _ _ => rfl) ?_
  refine zw_nx rfl (fun _ _ => rfl) ?_
  show zW _ sc miX11_init _ _ _ (pf f [.inr (11, [.int 0, .int 0, .int 0, .int 0, .int 0, .ref 48, .ref 49, .ref 50, .ref 51, .ref 52, .ref 53, .ref 54, .ref 55, .null, .null, .null, .int 0, .int 0, .int 0, .int 0, .int 0, .int 0, .int 0, .int 0, .int 0, .null, .null, .null, .int 0, .null, .null, .null, .null, .int 0, .int 0, .int 0, .int 0, .null, .null, .null, .null, .int 0, .null, .null, .null, .int 0, .null, .null, .int 0, .null, .int 0, .null, .null, .int 0, .int 0, .int 0]), .inl (0, 2000, .inl (fun _ => 0)), .inl (0, 2000, .inl (fun _ => 0)), .inl (0, 2000, .inl (fun _ => 0)), .inl (0, 2000, .inl (fun _ => 0)), .inl (0, 48, .inl (fun _ => 0)), .inl (0, 16, .inl (fun _ => 0)), .inl (0, 48, .inl (fun _ => 0)), .inl (0, 48, .inl (fun _ => 0))]) _
  refine zw_nx rfl (fun _ _ => rfl) ?_
  refine zw_nx rfl (fun _ _ => rfl) ?_
  refine zw_nx rfl (fun _ _ => rfl) ?_
  refine zw_nx rfl (fun _ _ => rfl) ?_
  show zW _ sc miX11_init _ _ _ (pf f [.inr (11, [.int 0, .int 0, .int 0, .int 0, .int 0, .ref 48, .ref 49, .ref 50, .ref 51, .ref 52, .ref 53, .ref 54, .ref 55, .ref 56, .null, .null, .int 0, .int 0, .int 0, .int 0, .int 0, .int 0, .int 0, .int 0, .int 0, .null, .null, .null, .int 0, .null, .null, .null, .null, .int 0, .int 0, .int 0, .int 0, .null, .null, .null, .null, .int 0, .null, .null, .null, .int 0, .null, .null, .int 0, .null, .int 0, .null, .null, .int 0, .int 0, .int 0]), .inl (0, 2000, .inl (fun _ => 0)), .inl (0, 2000, .inl (fun _ => 0)), .inl (0, 2000, .inl (fun _ => 0)), .inl (0, 2000, .inl (fun _ => 0)), .inl (0, 48, .inl (fun _ => 0)), .inl (0, 16, .inl (fun _ => 0)), .inl (0, 48, .inl (fun _ => 0)), .inl (0, 48, .inl (fun _ => 0)), .inl (1, 48, .inr (.inl (fun _ => 0)))]) _
  refine zw_nx rfl (fun _ _ => rfl) ?_
  refine zw_nx rfl (fun _ _ => rfl) ?_
  refine zw_nx rfl (fun _ _ => rfl) ?_
  refine zw_nx rfl (fun _ _ => rfl) ?_
  show zW _ sc miX11_init _ _ _ (pf f [.inr (11, [.int 0, .int 0, .int 0, .int 0, .int 0, .ref 48, .ref 49, .ref 50, .ref 51, .ref 52, .ref 53, .ref 54, .ref 55, .ref 56, .ref 57, .null, .int 0, .int 0, .int 0, .int 0, .int 0, .int 0, .int 0, .int 0, .int 0, .null, .null, .null, .int 0, .null, .null, .null, .null, .int 0, .int 0, .int 0, .int 0, .null, .null, .null, .null, .int 0, .null, .null, .null, .int 0, .null, .null, .int 0, .null, .int 0, .null, .null, .int 0, .int 0, .int 0]), .inl (0, 2000, .inl (fun _ => 0)), .inl (0, 2000, .inl (fun _ => 0)), .inl (0, 2000, .inl (fun _ => 0)), .inl (0, 2000, .inl (fun _ => 0)), .inl (0, 48, .inl (fun _ => 0)), .inl (0, 16, .inl (fun _ => 0)), .inl (0, 48, .inl (fun _ => 0)), .inl (0, 48, .inl (fun _ => 0)), .inl (1, 48, .inr (.inl (fun _ => 0))), .inl (1, 48, .inr (.inl (fun _ => 0)))]) _
  refine zw_nx rfl (fun _ _ => rfl) ?_
  refine zw_nx rfl (fun _ _ => rfl) ?_
  refine zw_nx rfl (fun _ _ => rfl) ?_
  refine zw_nx rfl (fun _ _ => rfl) ?_
  show zW _ sc miX11_init _ _ _ (pf f [.inr (11, [.int 0, .int 0, .int 0, .int 0, .int 0, .ref 48, .ref 49, .ref 50, .ref 51, .ref 52, .ref 53, .ref 54, .ref 55, .ref 56, .ref 57, .ref 58, .int 0, .int 0, .int 0, .int 0, .int 0, .int 0, .int 0, .int 0, .int 0, .null, .null, .null, .int 0, .null, .null, .null, .null, .int 0, .int 0, .int 0, .int 0, .null, .null, .null, .null, .int 0, .null, .null, .null, .int 0, .null, .null, .int 0, .null, .int 0, .null, .null, .int 0, .int 0, .int 0]), .inl (0, 2000, .inl (fun _ => 0)), .inl (0, 2000, .inl (fun _ => 0)), .inl (0, 2000, .inl (fun _ => 0)), .inl (0, 2000, .inl (fun _ => 0)), .inl (0, 48, .inl (fun _ => 0)), .inl (0, 16, .inl (fun _ => 0)), .inl (0, 48, .inl (fun _ => 0)), .inl (0, 48, .inl (fun _ => 0)), .inl (1, 48, .inr (.inl (fun _ => 0))), .inl (1, 48, .inr (.inl (fun _ => 0))), .inl (0, 300, .inl (fun _ => 0))]) _
  refine zw_nx rfl (fun _ _ => rfl) ?_
  refine zw_nx rfl (fun _ _ => rfl) ?_
  refine zw_nx rfl (fun _ _ => rfl) ?_
  refine zw_nx rfl (fun _ _ => rfl) ?_
  refine zw_nx rfl (fun _ _ => rfl) ?_
  refine zw_nx rfl (fun _ _ => rfl) ?_
  show zW _ sc miX11_init _ _ _ (pf f [.inr (11, [.int 0, .int 0, .int 0, .int 0, .int 0, .ref 48, .ref 49, .ref 50, .ref 51, .ref 52, .ref 53, .ref 54, .ref 55, .ref 56, .ref 57, .ref 58, .int 0, .int (-1), .int (-1), .int 0, .int 0, .int 0, .int 0, .int 0, .int 0, .null, .null, .null, .int 0, .null, .null, .null, .null, .int 0, .int 0, .int 0, .int 0, .null, .null, .null, .null, .int 0, .null, .null, .null, .int 0, .null, .null, .int 0, .null, .int 0, .null, .null, .int 0, .int 0, .int 0]), .inl (0, 2000, .inl (fun _ => 0)), .inl (0, 2000, .inl (fun _ => 0)), .inl (0, 2000, .inl (fun _ => 0)), .inl (0, 2000, .inl (fun _ => 0)), .inl (0, 48, .inl (fun _ => 0)), .inl (0, 16, .inl (fun _ => 0)), .inl (0, 48, .inl (fun _ => 0)), .inl (0, 48, .inl (fun _ => 0)), .inl (1, 48, .inr (.inl (fun _ => 0))), .inl (1, 48, .inr (.inl (fun _ => 0))), .inl (0, 300, .inl (fun _ => 0))]) _
  refine zw_nx rfl (fun _ _ => rfl) ?_
  refine zw_nx rfl (fun _ _ => rfl) ?_
  refine zw_nx rfl (fun _ _ => rfl) ?_
  refine zw_nx rfl (fun _ _ => rfl) ?_
  show zW _ sc miX11_init _ _ _ (pf f [.inr (11, [.int 0, .int 0, .int 0, .int 0, .int 0, .ref 48, .ref 49, .ref 50, .ref 51, .ref 52, .ref 53, .ref 54, .ref 55, .ref 56, .ref 57, .ref 58, .int 0, .int (-1), .int (-1), .int 0, .int 0, .int 0, .int 0, .int 0, .int 0, .ref 59, .null, .null, .int 0, .null, .null, .null, .null, .int 0, .int 0, .int 0, .int 0, .null, .null, .null, .null, .int 0, .null, .null, .null, .int 0, .null, .null, .int 0, .null, .int 0, .null, .null, .int 0, .int 0, .int 0]), .inl (0, 2000, .inl (fun _ => 0)), .inl (0, 2000, .inl (fun _ => 0)), .inl (0, 2000, .inl (fun _ => 0)), .inl (0, 2000, .inl (fun _ => 0)), .inl (0, 48, .inl (fun _ => 0)), .inl (0, 16, .inl (fun _ => 0)), .inl (0, 48, .inl (fun _ => 0)), .inl (0, 48, .inl (fun _ => 0)), .inl (1, 48, .inr (.inl (fun _ => 0))), .inl (1, 48, .inr (.inl (fun _ => 0))), .inl (0, 300, .inl (fun _ => 0)), .inl (0, 8, .inl (fun _ => 0))]) _
  refine zw_nx rfl (fun _ _ => rfl) ?_
  refine zw_nx rfl (fun _ _ => rfl) ?_
  refine zw_nx rfl (fun _ _ => rfl) ?_
  refine zw_nx rfl (fun _ _ => rfl) ?_
  show zW _ sc miX11_init _ _ _ (pf f [.inr (11, [.int 0, .int 0, .int 0, .int 0, .int 0, .ref 48, .ref 49, .ref 50, .ref 51, .ref 52, .ref 53, .ref 54, .ref 55, .ref 56, .ref 57, .ref 58, .int 0, .int (-1), .int (-1), .int 0, .int 0, .int 0, .int 0, .int 0, .int 0, .ref 59, .ref 60, .null, .int 0, .null, .null, .null, .null, .int 0, .int 0, .int 0, .int 0, .null, .null, .null, .null, .int 0, .null, .null, .null, .int 0, .null, .null, .int 0, .null, .int 0, .null, .null, .int 0, .int 0, .int 0]), .inl (0, 2000, .inl (fun _ => 0)), .inl (0, 2000, .inl (fun _ => 0)), .inl (0, 2000, .inl (fun _ => 0)), .inl (0, 2000, .inl (fun _ => 0)), .inl (0, 48, .inl (fun _ => 0)), .inl (0, 16, .inl (fun _ => 0)), .inl (0, 48, .inl (fun _ => 0)), .inl (0, 48, .inl (fun _ => 0)), .inl (1, 48, .inr (.inl (fun _ => 0))), .inl (1, 48, .inr (.inl (fun _ => 0))), .inl (0, 300, .inl (fun _ => 0)), .inl (0, 8, .inl (fun _ => 0)), .inl (0, 8, .inl (fun _ => 0))]) _
  refine zw_nx rfl (fun _ _ => rfl) ?_
  refine zw_nx rfl (fun _ _ => rfl) ?_
  refine zw_nx rfl (fun _ _ => rfl) ?_
  refine zw_nx rfl (fun _ _ => rfl) ?_
  show zW _ sc miX11_init _ _ _ (pf f [.inr (11, [.int 0, .int 0, .int 0, .int 0, .int 0, .ref 48, .ref 49, .ref 50, .ref 51, .ref 52, .ref 53, .ref 54, .ref 55, .ref 56, .ref 57, .ref 58, .int 0, .int (-1), .int (-1), .int 0, .int 0, .int 0, .int 0, .int 0, .int 0, .ref 59, .ref 60, .ref 61, .int 0, .null, .null, .null, .null, .int 0, .int 0, .int 0, .int 0, .null, .null, .null, .null, .int 0, .null, .null, .null, .int 0, .null, .null, .int 0, .null, .int 0, .null, .null, .int 0, .int 0, .int 0]), .inl (0, 2000, .inl (fun _ => 0)), .inl (0, 2000, .inl (fun _ => 0)), .inl (0, 2000, .inl (fun _ => 0)), .inl (0, 2000, .inl (fun _ => 0)), .inl (0, 48, .inl (fun _ => 0)), .inl (0, 16, .inl (fun _ => 0)), .inl (0, 48, .inl (fun _ => 0)), .inl (0, 48, .inl (fun _ => 0)), .inl (1, 48, .inr (.inl (fun _ => 0))), .inl (1, 48, .inr (.inl (fun _ => 0))), .inl (0, 300, .inl (fun _ => 0)), .inl (0, 8, .inl (fun _ => 0)), .inl (0, 8, .inl (fun _ => 0)), .inl (0, 1600, .inl (fun _ => 0))]) _
  refine zw_nx rfl (fun _ _ => rfl) ?_
  refine zw_nx rfl (fun _ _ => rfl) ?_
  refine zw_nx rfl (fun _ _ => rfl) ?_
  refine zw_nx rfl (fun _ _ => rfl) ?_
  show zW _ sc miX11_init _ _ _ (pf f [.inr (11, [.int 0, .int 0, .int 0, .int 0, .int 0, .ref 48, .ref 49, .ref 50, .ref 51, .ref 52, .ref 53, .ref 54, .ref 55, .ref 56, .ref 57, .ref 58, .int 0, .int (-1), .int (-1), .int 0, .int 0, .int 0, .int 0, .int 0, .int 0, .ref 59, .ref 60, .ref 61, .int 0, .ref 62, .null, .null, .null, .int 0, .int 0, .int 0, .int 0, .null, .null, .null, .null, .int 0, .null, .null, .null, .int 0, .null, .null, .int 0, .null, .int 0, .null, .null, .int 0, .int 0, .int 0]), .inl (0, 2000, .inl (fun _ => 0)), .inl (0, 2000, .inl (fun _ => 0)), .inl (0, 2000, .inl (fun _ => 0)), .inl (0, 2000, .inl (fun _ => 0)), .inl (0, 48, .inl (fun _ => 0)), .inl (0, 16, .inl (fun _ => 0)), .inl (0, 48, .inl (fun _ => 0)), .inl (0, 48, .inl (fun _ => 0)), .inl (1, 48, .inr (.inl (fun _ => 0))), .inl (1, 48, .inr (.inl (fun _ => 0))), .inl (0, 300, .inl (fun _ => 0)), .inl (0, 8, .inl (fun _ => 0)), .inl (0, 8, .inl (fun _ => 0)), .inl (0, 1600, .inl (fun _ => 0)), .inl (0, 4000, .inl (fun _ => 0))]) _
  refine zw_nx rfl (fun _ _ => rfl) ?_
  refine zw_nx rfl (fun _ _ => rfl) ?_
  refine zw_nx rfl (fun _ _ => rfl) ?_
  refine zw_nx rfl (fun _ _ => rfl) ?_
  show zW _ sc miX11_init _ _ _ (pf f [.inr (11, [.int 0, .int 0, .int 0, .int 0, .int 0, .ref 48, .ref 49, .ref 50, .ref 51, .ref 52, .ref 53, .ref 54, .ref 55, .ref 56, .ref 57, .ref 58, .int 0, .int (-1), .int (-1), .int 0, .int 0, .int 0, .int 0, .int 0, .int 0, .ref 59, .ref 60, .ref 61, .int 0, .ref 62, .ref 63, .null, .null, .int 0, .int 0, .int 0, .int 0, .null, .null, .null, .null, .int 0, .null, .null, .null, .int 0, .null, .null, .int 0, .null, .int 0, .null, .null, .int 0, .int 0, .int 0]), .inl (0, 2000, .inl (fun _ => 0)), .inl (0, 2000, .inl (fun _ => 0)), .inl (0, 2000, .inl (fun _ => 0)), .inl (0, 2000, .inl (fun _ => 0)), .inl (0, 48, .inl (fun _ => 0)), .inl (0, 16, .inl (fun _ => 0)), .inl (0, 48, .inl (fun _ => 0)), .inl (0, 48, .inl (fun _ => 0)), .inl (1, 48, .inr (.inl (fun _ => 0))), .inl (1, 48, .inr (.inl (fun _ => 0))), .inl (0, 300, .inl (fun _ => 0)), .inl (0, 8, .inl (fun _ => 0)), .inl (0, 8, .inl (fun _ => 0)), .inl (0, 1600, .inl (fun _ => 0)), .inl (0, 4000, .inl (fun _ => 0)), .inl (0, 9, .inl (fun _ => 0))]) _
  refine zw_nx rfl (fun _ _ => rfl) ?_
  refine zw_nx rfl (fun _ _ => rfl) ?_
  refine zw_nx rfl (fun _ _ => rfl) ?_
  refine zw_nx rfl (fun _ _ => rfl) ?_
  show zW _ sc miX11_init _ _ _ (pf f [.inr (11, [.int 0, .int 0, .int 0, .int 0, .int 0, .ref 48, .ref 49, .ref 50, .ref 51, .ref 52, .ref 53, .ref 54, .ref 55, .ref 56, .ref 57, .ref 58, .int 0, .int (-1), .int (-1), .int 0, .int 0, .int 0, .int 0, .int 0, .int 0, .ref 59, .ref 60, .ref 61, .int 0, .ref 62, .ref 63, .ref 64, .null, .int 0, .int 0, .int 0, .int 0, .null, .null, .null, .null, .int 0, .null, .null, .null, .int 0, .null, .null, .int 0, .null, .int 0, .null, .null, .int 0, .int 0, .int 0]), .inl (0, 2000, .inl (fun _ => 0)), .inl (0, 2000, .inl (fun _ => 0)), .inl (0, 2000, .inl (fun _ => 0)), .inl (0, 2000, .inl (fun _ => 0)), .inl (0, 48, .inl (fun _ => 0)), .inl (0, 16, .inl (fun _ => 0)), .inl (0, 48, .inl (fun _ => 0)), .inl (0, 48, .inl (fun _ => 0)), .inl (1, 48, .inr (.inl (fun _ => 0))), .inl (1, 48, .inr (.inl (fun _ => 0))), .inl (0, 300, .inl (fun _ => 0)), .inl (0, 8, .inl (fun _ => 0)), .inl (0, 8, .inl (fun _ => 0)), .inl (0, 1600, .inl (fun _ => 0)), .inl (0, 4000, .inl (fun _ => 0)), .inl (0, 9, .inl (fun _ => 0)), .inl (0, 9, .inl (fun _ => 0))]) _
  refine zw_nx rfl (fun _ _ => rfl) ?_
  refine zw_nx rfl (fun _ _ => rfl) ?_
  refine zw_nx rfl (fun _ _ => rfl) ?_
  refine zw_nx rfl (fun _ _ => rfl) ?_
  show zW _ sc miX11_init _ _ _ (pf f [.inr (11, [.int 0, .int 0, .int 0, .int 0, .int 0, .ref 48, .ref 49, .ref 50, .ref 51, .ref 52, .ref 53, .ref 54, .ref 55, .ref 56, .ref 57, .ref 58, .int 0, .int (-1), .int (-1), .int 0, .int 0, .int 0, .int 0, .int 0, .int 0, .ref 59, .ref 60, .ref 61, .int 0, .ref 62, .ref 63, .ref 64, .ref 65, .int 0, .int 0, .int 0, .int 0, .null, .null, .null, .null, .int 0, .null, .null, .null, .int 0, .null, .null, .int 0, .null, .int 0, .null, .null, .int 0, .int 0, .int 0]), .inl (0, 2000, .inl (fun _ => 0)), .inl (0, 2000, .inl (fun _ => 0)), .inl (0, 2000, .inl (fun _ => 0)), .inl (0, 2000, .inl (fun _ => 0)), .inl (0, 48, .inl (fun _ => 0)), .inl (0, 16, .inl (fun _ => 0)), .inl (0, 48, .inl (fun _ => 0)), .inl (0, 48, .inl (fun _ => 0)), .inl (1, 48, .inr (.inl (fun _ => 0))), .inl (1, 48, .inr (.inl (fun _ => 0))), .inl (0, 300, .inl (fun _ => 0)), .inl (0, 8, .inl (fun _ => 0)), .inl (0, 8, .inl (fun _ => 0)), .inl (0, 1600, .inl (fun _ => 0)), .inl (0, 4000, .inl (fun _ => 0)), .inl (0, 9, .inl (fun _ => 0)), .inl (0, 9, .inl (fun _ => 0)), .inl (0, 10, .inl (fun _ => 0))]) _
  refine zw_nx rfl (fun _ _ => rfl) ?_
  refine zw_nx rfl (fun _ _ => rfl) ?_
  refine zw_nx rfl (fun _ _ => rfl) ?_
  refine zw_nx rfl (fun _ _ => rfl) ?_
  show zW _ sc miX11_init _ _ _ (pf f [.inr (11, [.int 0, .int 0, .int 0, .int 0, .int 0, .ref 48, .ref 49, .ref 50, .ref 51, .ref 52, .ref 53, .ref 54, .ref 55, .ref 56, .ref 57, .ref 58, .int 0, .int (-1), .int (-1), .int 0, .int 0, .int 0, .int 0, .int 0, .int 0, .ref 59, .ref 60, .ref 61, .int 0, .ref 62, .ref 63, .ref 64, .ref 65, .int 0, .int 0, .int 0, .int 0, .ref 66, .null, .null, .null, .int 0, .null, .null, .null, .int 0, .null, .null, .int 0, .null, .int 0, .null, .null, .int 0, .int 0, .int 0]), .inl (0, 2000, .inl (fun _ => 0)), .inl (0, 2000, .inl (fun _ => 0)), .inl (0, 2000, .inl (fun _ => 0)), .inl (0, 2000, .inl (fun _ => 0)), .inl (0, 48, .inl (fun _ => 0)), .inl (0, 16, .inl (fun _ => 0)), .inl (0, 48, .inl (fun _ => 0)), .inl (0, 48, .inl (fun _ => 0)), .inl (1, 48, .inr (.inl (fun _ => 0))), .inl (1, 48, .inr (.inl (fun _ => 0))), .inl (0, 300, .inl (fun _ => 0)), .inl (0, 8, .inl (fun _ => 0)), .inl (0, 8, .inl (fun _ => 0)), .inl (0, 1600, .inl (fun _ => 0)), .inl (0, 4000, .inl (fun _ => 0)), .inl (0, 9, .inl (fun _ => 0)), .inl (0, 9, .inl (fun _ => 0)), .inl (0, 10, .inl (fun _ => 0)), .inl (0, 5000, .inl (fun _ => 0))]) _
  refine zw_nx rfl (fun _ _ => rfl) ?_
  refine zw_nx rfl (fun _ _ => rfl) ?_
  refine zw_nx rfl (fun _ _ => rfl) ?_
  refine zw_nx rfl (fun _ _ => rfl) ?_
  show zW _ sc miX11_init _ _ _ (pf f [.inr (11, [.int 0, .int 0, .int 0, .int 0, .int 0, .ref 48, .ref 49, .ref 50, .ref 51, .ref 52, .ref 53, .ref 54, .ref 55, .ref 56, .ref 57, .ref 58, .int 0, .int (-1), .int (-1), .int 0, .int 0, .int 0, .int 0, .int 0, .int 0, .ref 59, .ref 60, .ref 61, .int 0, .ref 62, .ref 63, .ref 64, .ref 65, .int 0, .int 0, .int 0, .int 0, .ref 66, .ref 67, .null, .null, .int 0, .null, .null, .null, .int 0, .null, .null, .int 0, .null, .int 0, .null, .null, .int 0, .int 0, .int 0]), .inl (0, 2000, .inl (fun _ => 0)), .inl (0, 2000, .inl (fun _ => 0)), .inl (0, 2000, .inl (fun _ => 0)), .inl (0, 2000, .inl (fun _ => 0)), .inl (0, 48, .inl (fun _ => 0)), .inl (0, 16, .inl (fun _ => 0)), .inl (0, 48, .inl (fun _ => 0)), .inl (0, 48, .inl (fun _ => 0)), .inl (1, 48, .inr (.inl (fun _ => 0))), .inl (1, 48, .inr (.inl (fun _ => 0))), .inl (0, 300, .inl (fun _ => 0)), .inl (0, 8, .inl (fun _ => 0)), .inl (0, 8, .inl (fun _ => 0)), .inl (0, 1600, .inl (fun _ => 0)), .inl (0, 4000, .inl (fun _ => 0)), .inl (0, 9, .inl (fun _ => 0)), .inl (0, 9, .inl (fun _ => 0)), .inl (0, 10, .inl (fun _ => 0)), .inl (0, 5000, .inl (fun _ => 0)), .inl (0, 5000, .inl (fun _ => 0))]) _
  refine zw_nx rfl (fun _ _ => rfl) ?_
  refine zw_nx rfl (fun _ _ => rfl) ?_
  refine zw_nx rfl (fun _ _ => rfl) ?_
  refine zw_nx rfl (fun _ _ => rfl) ?_
  show zW _ sc miX11_init _ _ _ (pf f [.inr (11, [.int 0, .int 0, .int 0, .int 0, .int 0, .ref 48, .ref 49, .ref 50, .ref 51, .ref 52, .ref 53, .ref 54, .ref 55, .ref 56, .ref 57, .ref 58, .int 0, .int (-1), .int (-1), .int 0, .int 0, .int 0, .int 0, .int 0, .int 0, .ref 59, .ref 60, .ref 61, .int 0, .ref 62, .ref 63, .ref 64, .ref 65, .int 0, .int 0, .int 0, .int 0, .ref 66, .ref 67, .ref 68, .null, .int 0, .null, .null, .null, .int 0, .null, .null, .int 0, .null, .int 0, .null, .null, .int 0, .int 0, .int 0]), .inl (0, 2000, .inl (fun _ => 0)), .inl (0, 2000, .inl (fun _ => 0)), .inl (0, 2000, .inl (fun _ => 0)), .inl (0, 2000, .inl (fun _ => 0)), .inl (0, 48, .inl (fun _ => 0)), .inl (0, 16, .inl (fun _ => 0)), .inl (0, 48, .inl (fun _ => 0)), .inl (0, 48, .inl (fun _ => 0)), .inl (1, 48, .inr (.inl (fun _ => 0))), .inl (1, 48, .inr (.inl (fun _ => 0))), .inl (0, 300, .inl (fun _ => 0)), .inl (0, 8, .inl (fun _ => 0)), .inl (0, 8, .inl (fun _ => 0)), .inl (0, 1600, .inl (fun _ => 0)), .inl (0, 4000, .inl (fun _ => 0)), .inl (0, 9, .inl (fun _ => 0)), .inl (0, 9, .inl (fun _ => 0)), .inl (0, 10, .inl (fun _ => 0)), .inl (0, 5000, .inl (fun _ => 0)), .inl (0, 5000, .inl (fun _ => 0)), .inl (0, 5000, .inl (fun _ => 0))]) _
  refine zw_nx rfl (fun _ _ => rfl) ?_
  refine zw_nx rfl (fun _ _ => rfl) ?_
  refine zw_nx rfl (fun _ _ => rfl) ?_
  refine zw_nx rfl (fun _ _ => rfl) ?_
  show zW _ sc miX11_init _ _ _ (pf f [.inr (11, [.int 0, .int 0, .int 0, .int 0, .int 0, .ref 48, .ref 49, .ref 50, .ref 51, .ref 52, .ref 53, .ref 54, .ref 55, .ref 56, .ref 57, .ref 58, .int 0, .int (-1), .int (-1), .int 0, .int 0, .int 0, .int 0, .int 0, .int 0, .ref 59, .ref 60, .ref 61, .int 0, .ref 62, .ref 63, .ref 64, .ref 65, .int 0, .int 0, .int 0, .int 0, .ref 66, .ref 67, .ref 68, .ref 69, .int 0, .null, .null, .null, .int 0, .null, .null, .int 0, .null, .int 0, .null, .null, .int 0, .int 0, .int 0]), .inl (0, 2000, .inl (fun _ => 0)), .inl (0, 2000, .inl (fun _ => 0)), .inl (0, 2000, .inl (fun _ => 0)), .inl (0, 2000, .inl (fun _ => 0)), .inl (0, 48, .inl (fun _ => 0)), .inl (0, 16, .inl (fun _ => 0)), .inl (0, 48, .inl (fun _ => 0)), .inl (0, 48, .inl (fun _ => 0)), .inl (1, 48, .inr (.inl (fun _ => 0))), .inl (1, 48, .inr (.inl (fun _ => 0))), .inl (0, 300, .inl (fun _ => 0)), .inl (0, 8, .inl (fun _ => 0)), .inl (0, 8, .inl (fun _ => 0)), .inl (0, 1600, .inl (fun _ => 0)), .inl (0, 4000, .inl (fun _ => 0)), .inl (0, 9, .inl (fun _ => 0)), .inl (0, 9, .inl (fun _ => 0)), .inl (0, 10, .inl (fun _ => 0)), .inl (0, 5000, .inl (fun _ => 0)), .inl (0, 5000, .inl (fun _ => 0)), .inl (0, 5000, .inl (fun _ => 0)), .inl (0, 2400, .inl (fun _ => 0))]) _
  refine zw_nx rfl (fun _ _ => rfl) ?_
  refine zw_nx rfl (fun _ _ => rfl) ?_
  refine zw_nx rfl (fun _ _ => rfl) ?_
  refine zw_nx rfl (fun _ _ => rfl) ?_
  show zW _ sc miX11_init _ _ _ (pf f [.inr (11, [.int 0, .int 0, .int 0, .int 0, .int 0, .ref 48, .ref 49, .ref 50, .ref 51, .ref 52, .ref 53, .ref 54, .ref 55, .ref 56, .ref 57, .ref 58, .int 0, .int (-1), .int (-1), .int 0, .int 0, .int 0, .int 0, .int 0, .int 0, .ref 59, .ref 60, .ref 61, .int 0, .ref 62, .ref 63, .ref 64, .ref 65, .int 0, .int 0, .int 0, .int 0, .ref 66, .ref 67, .ref 68, .ref 69, .int 0, .ref 70, .null, .null, .int 0, .null, .null, .int 0, .null, .int 0, .null, .null, .int 0, .int 0, .int 0]), .inl (0, 2000, .inl (fun _ => 0)), .inl (0, 2000, .inl (fun _ => 0)), .inl (0, 2000, .inl (fun _ => 0)), .inl (0, 2000, .inl (fun _ => 0)), .inl (0, 48, .inl (fun _ => 0)), .inl (0, 16, .inl (fun _ => 0)), .inl (0, 48, .inl (fun _ => 0)), .inl (0, 48, .inl (fun _ => 0)), .inl (1, 48, .inr (.inl (fun _ => 0))), .inl (1, 48, .inr (.inl (fun _ => 0))), .inl (0, 300, .inl (fun _ => 0)), .inl (0, 8, .inl (fun _ => 0)), .inl (0, 8, .inl (fun _ => 0)), .inl (0, 1600, .inl (fun _ => 0)), .inl (0, 4000, .inl (fun _ => 0)), .inl (0, 9, .inl (fun _ => 0)), .inl (0, 9, .inl (fun _ => 0)), .inl (0, 10, .inl (fun _ => 0)), .inl (0, 5000, .inl (fun _ => 0)), .inl (0, 5000, .inl (fun _ => 0)), .inl (0, 5000, .inl (fun _ => 0)), .inl (0, 2400, .inl (fun _ => 0)), .inl (1, 96, .inr (.inl (fun _ => 0)))]) _
  refine zw_nx rfl (fun _ _ => rfl) ?_
  refine zw_nx rfl (fun _ _ => rfl) ?_
  refine zw_nx rfl (fun _ _ => rfl) ?_
  refine zw_nx rfl (fun _ _ => rfl) ?_
  show zW _ sc miX11_init _ _ _ (pf f [.inr (11, [.int 0, .int 0, .int 0, .int 0, .int 0, .ref 48, .ref 49, .ref 50, .ref 51, .ref 52, .ref 53, .ref 54, .ref 55, .ref 56, .ref 57, .ref 58, .int 0, .int (-1), .int (-1), .int 0, .int 0, .int 0, .int 0, .int 0, .int 0, .ref 59, .ref 60, .ref 61, .int 0, .ref 62, .ref 63, .ref 64, .ref 65, .int 0, .int 0, .int 0, .int 0, .ref 66, .ref 67, .ref 68, .ref 69, .int 0, .ref 70, .ref 71, .null, .int 0, .null, .null, .int 0, .null, .int 0, .null, .null, .int 0, .int 0, .int 0]), .inl (0, 2000, .inl (fun _ => 0)), .inl (0, 2000, .inl (fun _ => 0)), .inl (0, 2000, .inl (fun _ => 0)), .inl (0, 2000, .inl (fun _ => 0)), .inl (0, 48, .inl (fun _ => 0)), .inl (0, 16, .inl (fun _ => 0)), .inl (0, 48, .inl (fun _ => 0)), .inl (0, 48, .inl (fun _ => 0)), .inl (1, 48, .inr (.inl (fun _ => 0))), .inl (1, 48, .inr (.inl (fun _ => 0))), .inl (0, 300, .inl (fun _ => 0)), .inl (0, 8, .inl (fun _ => 0)), .inl (0, 8, .inl (fun _ => 0)), .inl (0, 1600, .inl (fun _ => 0)), .inl (0, 4000, .inl (fun _ => 0)), .inl (0, 9, .inl (fun _ => 0)), .inl (0, 9, .inl (fun _ => 0)), .inl (0, 10, .inl (fun _ => 0)), .inl (0, 5000, .inl (fun _ => 0)), .inl (0, 5000, .inl (fun _ => 0)), .inl (0, 5000, .inl (fun _ => 0)), .inl (0, 2400, .inl (fun _ => 0)), .inl (1, 96, .inr (.inl (fun _ => 0))), .inl (1, 96, .inr (.inl (fun _ => 0)))]) _
  refine zw_nx rfl (fun _ _ => rfl) ?_
  refine zw_nx rfl (fun _ _ => rfl) ?_
  refine zw_nx rfl (fun _ _ => rfl) ?_
  refine zw_nx rfl (fun _ _ => rfl) ?_
  show zW _ sc miX11_init _ _ _ (pf f [.inr (11, [.int 0, .int 0, .int 0, .int 0, .int 0, .ref 48, .ref 49, .ref 50, .ref 51, .ref 52, .ref 53, .ref 54, .ref 55, .ref 56, .ref 57, .ref 58, .int 0, .int (-1), .int (-1), .int 0, .int 0, .int 0, .int 0, .int 0, .int 0, .ref 59, .ref 60, .ref 61, .int 0, .ref 62, .ref 63, .ref 64, .ref 65, .int 0, .int 0, .int 0, .int 0, .ref 66, .ref 67, .ref 68, .ref 69, .int 0, .ref 70, .ref 71, .ref 72, .int 0, .null, .null, .int 0, .null, .int 0, .null, .null, .int 0, .int 0, .int 0]), .inl (0, 2000, .inl (fun _ => 0)), .inl (0, 2000, .inl (fun _ => 0)), .inl (0, 2000, .inl (fun _ => 0)), .inl (0, 2000, .inl (fun _ => 0)), .inl (0, 48, .inl (fun _ => 0)), .inl (0, 16, .inl (fun _ => 0)), .inl (0, 48, .inl (fun _ => 0)), .inl (0, 48, .inl (fun _ => 0)), .inl (1, 48, .inr (.inl (fun _ => 0))), .inl (1, 48, .inr (.inl (fun _ => 0))), .inl (0, 300, .inl (fun _ => 0)), .inl (0, 8, .inl (fun _ => 0)), .inl (0, 8, .inl (fun _ => 0)), .inl (0, 1600, .inl (fun _ => 0)), .inl (0, 4000, .inl (fun _ => 0)), .inl (0, 9, .inl (fun _ => 0)), .inl (0, 9, .inl (fun _ => 0)), .inl (0, 10, .inl (fun _ => 0)), .inl (0, 5000, .inl (fun _ => 0)), .inl (0, 5000, .inl (fun _ => 0)), .inl (0, 5000, .inl (fun _ => 0)), .inl (0, 2400, .inl (fun _ => 0)), .inl (1, 96, .inr (.inl (fun _ => 0))), .inl (1, 96, .inr (.inl (fun _ => 0))), .inl (0, 96, .inl (fun _ => 0))]) _
  refine zw_nx rfl (fun _ _ => rfl) ?_
  refine zw_nx rfl (fun _ _ => rfl) ?_
  refine zw_nx rfl (fun _ _ => rfl) ?_
  refine zw_nx rfl (fun _ _ => rfl) ?_
  show zW _ sc miX11_init _ _ _ (pf f [.inr (11, [.int 0, .int 0, .int 0, .int 0, .int 0, .ref 48, .ref 49, .ref 50, .ref 51, .ref 52, .ref 53, .ref 54, .ref 55, .ref 56, .ref 57, .ref 58, .int 0, .int (-1), .int (-1), .int 0, .int 0, .int 0, .int 0, .int 0, .int 0, .ref 59, .ref 60, .ref 61, .int 0, .ref 62, .ref 63, .ref 64, .ref 65, .int 0, .int 0, .int 0, .int 0, .ref 66, .ref 67, .ref 68, .ref 69, .int 0, .ref 70, .ref 71, .ref 72, .int 0, .ref 73, .null, .int 0, .null, .int 0, .null, .null, .int 0, .int 0, .int 0]), .inl (0, 2000, .inl (fun _ => 0)), .inl (0, 2000, .inl (fun _ => 0)), .inl (0, 2000, .inl (fun _ => 0)), .inl (0, 2000, .inl (fun _ => 0)), .inl (0, 48, .inl (fun _ => 0)), .inl (0, 16, .inl (fun _ => 0)), .inl (0, 48, .inl (fun _ => 0)), .inl (0, 48, .inl (fun _ => 0)), .inl (1, 48, .inr (.inl (fun _ => 0))), .inl (1, 48, .inr (.inl (fun _ => 0))), .inl (0, 300, .inl (fun _ => 0)), .inl (0, 8, .inl (fun _ => 0)), .inl (0, 8, .inl (fun _ => 0)), .inl (0, 1600, .inl (fun _ => 0)), .inl (0, 4000, .inl (fun _ => 0)), .inl (0, 9, .inl (fun _ => 0)), .inl (0, 9, .inl (fun _ => 0)), .inl (0, 10, .inl (fun _ => 0)), .inl (0, 5000, .inl (fun _ => 0)), .inl (0, 5000, .inl (fun _ => 0)), .inl (0, 5000, .inl (fun _ => 0)), .inl (0, 2400, .inl (fun _ => 0)), .inl (1, 96, .inr (.inl (fun _ => 0))), .inl (1, 96, .inr (.inl (fun _ => 0))), .inl (0, 96, .inl (fun _ => 0)), .inl (0, 2304, .inl (fun _ => 0))]) _
  refine zw_nx rfl (fun _ _ => rfl) ?_
  refine zw_nx rfl (fun _ _ => rfl) ?_
  refine zw_nx rfl (fun _ _ => rfl) ?_
  refine zw_nx rfl (fun _ _ => rfl) ?_
  show zW _ sc miX11_init _ _ _ (pf f [.inr (11, [.int 0, .int 0, .int 0, .int 0, .int 0, .ref 48, .ref 49, .ref 50, .ref 51, .ref 52, .ref 53, .ref 54, .ref 55, .ref 56, .ref 57, .ref 58, .int 0, .int (-1), .int (-1), .int 0, .int 0, .int 0, .int 0, .int 0, .int 0, .ref 59, .ref 60, .ref 61, .int 0, .ref 62, .ref 63, .ref 64, .ref 65, .int 0, .int 0, .int 0, .int 0, .ref 66, .ref 67, .ref 68, .ref 69, .int 0, .ref 70, .ref 71, .ref 72, .int 0, .ref 73, .ref 74, .int 0, .null, .int 0, .null, .null, .int 0, .int 0, .int 0]), .inl (0, 2000, .inl (fun _ => 0)), .inl (0, 2000, .inl (fun _ => 0)), .inl (0, 2000, .inl (fun _ => 0)), .inl (0, 2000, .inl (fun _ => 0)), .inl (0, 48, .inl (fun _ => 0)), .inl (0, 16, .inl (fun _ => 0)), .inl (0, 48, .inl (fun _ => 0)), .inl (0, 48, .inl (fun _ => 0)), .inl (1, 48, .inr (.inl (fun _ => 0))), .inl (1, 48, .inr (.inl (fun _ => 0))), .inl (0, 300, .inl (fun _ => 0)), .inl (0, 8, .inl (fun _ => 0)), .inl (0, 8, .inl (fun _ => 0)), .inl (0, 1600, .inl (fun _ => 0)), .inl (0, 4000, .inl (fun _ => 0)), .inl (0, 9, .inl (fun _ => 0)), .inl (0, 9, .inl (fun _ => 0)), .inl (0, 10, .inl (fun _ => 0)), .inl (0, 5000, .inl (fun _ => 0)), .inl (0, 5000, .inl (fun _ => 0)), .inl (0, 5000, .inl (fun _ => 0)), .inl (0, 2400, .inl (fun _ => 0)), .inl (1, 96, .inr (.inl (fun _ => 0))), .inl (1, 96, .inr (.inl (fun _ => 0))), .inl (0, 96, .inl (fun _ => 0)), .inl (0, 2304, .inl (fun _ => 0)), .inl (0, 7, .inl (fun _ => 0))]) _
  refine zw_nx rfl (fun _ _ => rfl) ?_
  refine zw_nx rfl (fun _ _ => rfl) ?_
  refine zw_nx rfl (fun _ _ => rfl) ?_
  refine zw_nx rfl (fun _ _ => rfl) ?_
  show zW _ sc miX11_init _ _ _ (pf f [.inr (11, [.int 0, .int 0, .int 0, .int 0, .int 0, .ref 48, .ref 49, .ref 50, .ref 51, .ref 52, .ref 53, .ref 54, .ref 55, .ref 56, .ref 57, .ref 58, .int 0, .int (-1), .int (-1), .int 0, .int 0, .int 0, .int 0, .int 0, .int 0, .ref 59, .ref 60, .ref 61, .int 0, .ref 62, .ref 63, .ref 64, .ref 65, .int 0, .int 0, .int 0, .int 0, .ref 66, .ref 67, .ref 68, .ref 69, .int 0, .ref 70, .ref 71, .ref 72, .int 0, .ref 73, .ref 74, .int 0, .ref 75, .int 0, .null, .null, .int 0, .int 0, .int 0]), .inl (0, 2000, .inl (fun _ => 0)), .inl (0, 2000, .inl (fun _ => 0)), .inl (0, 2000, .inl (fun _ => 0)), .inl (0, 2000, .inl (fun _ => 0)), .inl (0, 48, .inl (fun _ => 0)), .inl (0, 16, .inl (fun _ => 0)), .inl (0, 48, .inl (fun _ => 0)), .inl (0, 48, .inl (fun _ => 0)), .inl (1, 48, .inr (.inl (fun _ => 0))), .inl (1, 48, .inr (.inl (fun _ => 0))), .inl (0, 300, .inl (fun _ => 0)), .inl (0, 8, .inl (fun _ => 0)), .inl (0, 8, .inl (fun _ => 0)), .inl (0, 1600, .inl (fun _ => 0)), .inl (0, 4000, .inl (fun _ => 0)), .inl (0, 9, .inl (fun _ => 0)), .inl (0, 9, .inl (fun _ => 0)), .inl (0, 10, .inl (fun _ => 0)), .inl (0, 5000, .inl (fun _ => 0)), .inl (0, 5000, .inl (fun _ => 0)), .inl (0, 5000, .inl (fun _ => 0)), .inl (0, 2400, .inl (fun _ => 0)), .inl (1, 96, .inr (.inl (fun _ => 0))), .inl (1, 96, .inr (.inl (fun _ => 0))), .inl (0, 96, .inl (fun _ => 0)), .inl (0, 2304, .inl (fun _ => 0)), .inl (0, 7, .inl (fun _ => 0)), .inl (0, 64, .inl (fun _ => 0))]) _
  refine zw_nx rfl (fun _ _ => rfl) ?_
  refine zw_nx rfl (fun _ _ => rfl) ?_
  refine zw_nx rfl (fun _ _ => rfl) ?_
  refine zw_nx rfl (fun _ _ => rfl) ?_
  show zW _ sc miX11_init _ _ _ (pf f [.inr (11, [.int 0, .int 0, .int 0, .int 0, .int 0, .ref 48, .ref 49, .ref 50, .ref 51, .ref 52, .ref 53, .ref 54, .ref 55, .ref 56, .ref 57, .ref 58, .int 0, .int (-1), .int (-1), .int 0, .int 0, .int 0, .int 0, .int 0, .int 0, .ref 59, .ref 60, .ref 61, .int 0, .ref 62, .ref 63, .ref 64, .ref 65, .int 0, .int 0, .int 0, .int 0, .ref 66, .ref 67, .ref 68, .ref 69, .int 0, .ref 70, .ref 71, .ref 72, .int 0, .ref 73, .ref 74, .int 0, .ref 75, .int 0, .ref 76, .null, .int 0, .int 0, .int 0]), .inl (0, 2000, .inl (fun _ => 0)), .inl (0, 2000, .inl (fun _ => 0)), .inl (0, 2000, .inl (fun _ => 0)), .inl (0, 2000, .inl (fun _ => 0)), .inl (0, 48, .inl (fun _ => 0)), .inl (0, 16, .inl (fun _ => 0)), .inl (0, 48, .inl (fun _ => 0)), .inl (0, 48, .inl (fun _ => 0)), .inl (1, 48, .inr (.inl (fun _ => 0))), .inl (1, 48, .inr (.inl (fun _ => 0))), .inl (0, 300, .inl (fun _ => 0)), .inl (0, 8, .inl (fun _ => 0)), .inl (0, 8, .inl (fun _ => 0)), .inl (0, 1600, .inl (fun _ => 0)), .inl (0, 4000, .inl (fun _ => 0)), .inl (0, 9, .inl (fun _ => 0)), .inl (0, 9, .inl (fun _ => 0)), .inl (0, 10, .inl (fun _ => 0)), .inl (0, 5000, .inl (fun _ => 0)), .inl (0, 5000, .inl (fun _ => 0)), .inl (0, 5000, .inl (fun _ => 0)), .inl (0, 2400, .inl (fun _ => 0)), .inl (1, 96, .inr (.inl (fun _ => 0))), .inl (1, 96, .inr (.inl (fun _ => 0))), .inl (0, 96, .inl (fun _ => 0)), .inl (0, 2304, .inl (fun _ => 0)), .inl (0, 7, .inl (fun _ => 0)), .inl (0, 64, .inl (fun _ => 0)), .inl (0, 6, .inl (fun _ => 0))]) _
  refine zw_nx rfl (fun _ _ => rfl) ?_
  refine zw_nx rfl (fun _ _ => rfl) ?_
  refine zw_nx rfl (fun _ _ => rfl) ?_
  refine zw_nx rfl (fun _ _ => rfl) ?_
  show zW _ sc miX11_init _ _ _ (pf f [.inr (11, [.int 0, .int 0, .int 0, .int 0, .int 0, .ref 48, .ref 49, .ref 50, .ref 51, .ref 52, .ref 53, .ref 54, .ref 55, .ref 56, .ref 57, .ref 58, .int 0, .int (-1), .int (-1), .int 0, .int 0, .int 0, .int 0, .int 0, .int 0, .ref 59, .ref 60, .ref 61, .int 0, .ref 62, .ref 63, .ref 64, .ref 65, .int 0, .int 0, .int 0, .int 0, .ref 66, .ref 67, .ref 68, .ref 69, .int 0, .ref 70, .ref 71, .ref 72, .int 0, .ref 73, .ref 74, .int 0, .ref 75, .int 0, .ref 76, .ref 77, .int 0, .int 0, .int 0]), .inl (0, 2000, .inl (fun _ => 0)), .inl (0, 2000, .inl (fun _ => 0)), .inl (0, 2000, .inl (fun _ => 0)), .inl (0, 2000, .inl (fun _ => 0)), .inl (0, 48, .inl (fun _ => 0)), .inl (0, 16, .inl (fun _ => 0)), .inl (0, 48, .inl (fun _ => 0)), .inl (0, 48, .inl (fun _ => 0)), .inl (1, 48, .inr (.inl (fun _ => 0))), .inl (1, 48, .inr (.inl (fun _ => 0))), .inl (0, 300, .inl (fun _ => 0)), .inl (0, 8, .inl (fun _ => 0)), .inl (0, 8, .inl (fun _ => 0)), .inl (0, 1600, .inl (fun _ => 0)), .inl (0, 4000, .inl (fun _ => 0)), .inl (0, 9, .inl (fun _ => 0)), .inl (0, 9, .inl (fun _ => 0)), .inl (0, 10, .inl (fun _ => 0)), .inl (0, 5000, .inl (fun _ => 0)), .inl (0, 5000, .inl (fun _ => 0)), .inl (0, 5000, .inl (fun _ => 0)), .inl (0, 2400, .inl (fun _ => 0)), .inl (1, 96, .inr (.inl (fun _ => 0))), .inl (1, 96, .inr (.inl (fun _ => 0))), .inl (0, 96, .inl (fun _ => 0)), .inl (0, 2304, .inl (fun _ => 0)), .inl (0, 7, .inl (fun _ => 0)), .inl (0, 64, .inl (fun _ => 0)), .inl (0, 6, .inl (fun _ => 0)), .inl (1, 48, .inr (.inl (fun _ => 0)))]) _
  have s2 : ∀ v, v = nI h → zW 0 sc miX11_init 313 [some (.ref 47), some (.int x), some (.int y)] [.int v, .ref 47] (pf f [.inr (11, [.int (nI w), .int 0, .int 0, .int 0, .int 0, .ref 48, .ref 49, .ref 50, .ref 51, .ref 52, .ref 53, .ref 54, .ref 55, .ref 56, .ref 57, .ref 58, .int 0, .int (-1), .int (-1), .int 0, .int 0, .int 0, .int 0, .int 0, .int 0, .ref 59, .ref 60, .ref 61, .int 0, .ref 62, .ref 63, .ref 64, .ref 65, .int 0, .int 0, .int 0, .int 0, .ref 66, .ref 67, .ref 68, .ref 69, .int 0, .ref 70, .ref 71, .ref 72, .int 0, .ref 73, .ref 74, .int 0, .ref 75, .int 0, .ref 76, .ref 77, .int 0, .int 0, .int 0]), .inl (0, 2000, .inl (fun _ => 0)), .inl (0, 2000, .inl (fun _ => 0)), .inl (0, 2000, .inl (fun _ => 0)), .inl (0, 2000, .inl (fun _ => 0)), .inl (0, 48, .inl (fun _ => 0)), .inl (0, 16, .inl (fun _ => 0)), .inl (0, 48, .inl (fun _ => 0)), .inl (0, 48, .inl (fun _ => 0)), .inl (1, 48, .inr (.inl (fun _ => 0))), .inl (1, 48, .inr (.inl (fun _ => 0))), .inl (0, 300, .inl (fun _ => 0)), .inl (0, 8, .inl (fun _ => 0)), .inl (0, 8, .inl (fun _ => 0)), .inl (0, 1600, .inl (fun _ => 0)), .inl (0, 4000, .inl (fun _ => 0)), .inl (0, 9, .inl (fun _ => 0)), .inl (0, 9, .inl (fun _ => 0)), .inl (0, 10, .inl (fun _ => 0)), .inl (0, 5000, .inl (fun _ => 0)), .inl (0, 5000, .inl (fun _ => 0)), .inl (0, 5000, .inl (fun _ => 0)), .inl (0, 2400, .inl (fun _ => 0)), .inl (1, 96, .inr (.inl (fun _ => 0))), .inl (1, 96, .inr (.inl (fun _ => 0))), .inl (0, 96, .inl (fun _ => 0)), .inl (0, 2304, .inl (fun _ => 0)), .inl (0, 7, .inl (fun _ => 0)), .inl (0, 64, .inl (fun _ => 0)), .inl (0, 6, .inl (fun _ => 0)), .inl (1, 48, .inr (.inl (fun _ => 0)))]) (fun M r => r = none ∧ M = mm f (jI w h) (fun _ _ => 0) (fun _ _ => 0)) := by
    rintro v rfl
    refine zw_nx rfl (fun _ _ => rfl) ?_
    exact zw_ret rfl (fun _ _ => rfl) (⟨rfl, rfl⟩)
  have s1 : ∀ v, v = nI w → zW 0 sc miX11_init 288 [some (.ref 47), some (.int x), some (.int y)] [.int v, .ref 47] (pf f [.inr (11, [.int 0, .int 0, .int 0, .int 0, .int 0, .ref 48, .ref 49, .ref 50, .ref 51, .ref 52, .ref 53, .ref 54, .ref 55, .ref 56, .ref 57, .ref 58, .int 0, .int (-1), .int (-1), .int 0, .int 0, .int 0, .int 0, .int 0, .int 0, .ref 59, .ref 60, .ref 61, .int 0, .ref 62, .ref 63, .ref 64, .ref 65, .int 0, .int 0, .int 0, .int 0, .ref 66, .ref 67, .ref 68, .ref 69, .int 0, .ref 70, .ref 71, .ref 72, .int 0, .ref 73, .ref 74, .int 0, .ref 75, .int 0, .ref 76, .ref 77, .int 0, .int 0, .int 0]), .inl (0, 2000, .inl (fun _ => 0)), .inl (0, 2000, .inl (fun _ => 0)), .inl (0, 2000, .inl (fun _ => 0)), .inl (0, 2000, .inl (fun _ => 0)), .inl (0, 48, .inl (fun _ => 0)), .inl (0, 16, .inl (fun _ => 0)), .inl (0, 48, .inl (fun _ => 0)), .inl (0, 48, .inl (fun _ => 0)), .inl (1, 48, .inr (.inl (fun _ => 0))), .inl (1, 48, .inr (.inl (fun _ => 0))), .inl (0, 300, .inl (fun _ => 0)), .inl (0, 8, .inl (fun _ => 0)), .inl (0, 8, .inl (fun _ => 0)), .inl (0, 1600, .inl (fun _ => 0)), .inl (0, 4000, .inl (fun _ => 0)), .inl (0, 9, .inl (fun _ => 0)), .inl (0, 9, .inl (fun _ => 0)), .inl (0, 10, .inl (fun _ => 0)), .inl (0, 5000, .inl (fun _ => 0)), .inl (0, 5000, .inl (fun _ => 0)), .inl (0, 5000, .inl (fun _ => 0)), .inl (0, 2400, .inl (fun _ => 0)), .inl (1, 96, .inr (.inl (fun _ => 0))), .inl (1, 96, .inr (.inl (fun _ => 0))), .inl (0, 96, .inl (fun _ => 0)), .inl (0, 2304, .inl (fun _ => 0)), .inl (0, 7, .inl (fun _ => 0)), .inl (0, 64, .inl (fun _ => 0)), .inl (0, 6, .inl (fun _ => 0)), .inl (1, 48, .inr (.inl (fun _ => 0)))]) (fun M r => r = none ∧ M = mm f (jI w h) (fun _ _ => 0) (fun _ _ => 0)) := by
    rintro v rfl
    refine zw_nx rfl (fun _ _ => rfl) ?_
    show zW _ sc miX11_init _ _ _ (pf f [.inr (11, [.int (nI w), .int 0, .int 0, .int 0, .int 0, .ref 48, .ref 49, .ref 50, .ref 51, .ref 52, .ref 53, .ref 54, .ref 55, .ref 56, .ref 57, .ref 58, .int 0, .int (-1), .int (-1), .int 0, .int 0, .int 0, .int 0, .int 0, .int 0, .ref 59, .ref 60, .ref 61, .int 0, .ref 62, .ref 63, .ref 64, .ref 65, .int 0, .int 0, .int 0, .int 0, .ref 66, .ref 67, .ref 68, .ref 69, .int 0, .ref 70, .ref 71, .ref 72, .int 0, .ref 73, .ref 74, .int 0, .ref 75, .int 0, .ref 76, .ref 77, .int 0, .int 0, .int 0]), .inl (0, 2000, .inl (fun _ => 0)), .inl (0, 2000, .inl (fun _ => 0)), .inl (0, 2000, .inl (fun _ => 0)), .inl (0, 2000, .inl (fun _ => 0)), .inl (0, 48, .inl (fun _ => 0)), .inl (0, 16, .inl (fun _ => 0)), .inl (0, 48, .inl (fun _ => 0)), .inl (0, 48, .inl (fun _ => 0)), .inl (1, 48, .inr (.inl (fun _ => 0))), .inl (1, 48, .inr (.inl (fun _ => 0))), .inl (0, 300, .inl (fun _ => 0)), .inl (0, 8, .inl (fun _ => 0)), .inl (0, 8, .inl (fun _ => 0)), .inl (0, 1600, .inl (fun _ => 0)), .inl (0, 4000, .inl (fun _ => 0)), .inl (0, 9, .inl (fun _ => 0)), .inl (0, 9, .inl (fun _ => 0)), .inl (0, 10, .inl (fun _ => 0)), .inl (0, 5000, .inl (fun _ => 0)), .inl (0, 5000, .inl (fun _ => 0)), .inl (0, 5000, .inl (fun _ => 0)), .inl (0, 2400, .inl (fun _ => 0)), .inl (1, 96, .inr (.inl (fun _ => 0))), .inl (1, 96, .inr (.inl (fun _ => 0))), .inl (0, 96, .inl (fun _ => 0)), .inl (0, 2304, .inl (fun _ => 0)), .inl (0, 7, .inl (fun _ => 0)), .inl (0, 64, .inl (fun _ => 0)), .inl (0, 6, .inl (fun _ => 0)), .inl (1, 48, .inr (.inl (fun _ => 0)))]) _
    refine zw_nx rfl (fun _ _ => rfl) ?_
    refine zw_nx rfl (fun _ _ => rfl) ?_
    refine zw_nx rfl (fun _ _ => rfl) ?_
    refine zw_br rfl (fun _ _ => rfl) (fun (h1 : 1 ≤ y) => ?_) (fun (h1 : ¬ (1 ≤ y)) => ?_)
    · rw [if_pos h1] at mh
      refine zw_nx rfl (fun _ _ => rfl) ?_
      refine zw_nx rfl (fun _ _ => rfl) ?_
      refine zw_br rfl (fun _ _ => rfl) (fun (h2 : y ≤ 48) => ?_) (fun (h2 : ¬ (y ≤ 48)) => ?_)
      · rw [if_pos h2] at mh
        refine zw_nx rfl (fun _ _ => rfl) ?_
        exact s2 _ mh
      · rw [if_neg h2] at mh
        refine zw_nx rfl (fun _ _ => rfl) ?_
        refine zw_nx rfl (fun _ _ => rfl) ?_
        exact s2 _ mh
    · rw [if_neg h1] at mh
      refine zw_nx rfl (fun _ _ => rfl) ?_
      refine zw_nx rfl (fun _ _ => rfl) ?_
      exact s2 _ mh
  refine zw_nx rfl (fun _ _ => rfl) ?_
  refine zw_nx rfl (fun _ _ => rfl) ?_
  refine zw_nx rfl (fun _ _ => rfl) ?_
  refine zw_br rfl (fun _ _ => rfl) (fun (h1 : 1 ≤ x) => ?_) (fun (h1 : ¬ (1 ≤ x)) => ?_)
  · rw [if_pos h1] at mw
    refine zw_nx rfl (fun _ _ => rfl) ?_
    refine zw_nx rfl (fun _ _ => rfl) ?_
    refine zw_br rfl (fun _ _ => rfl) (fun (h2 : x ≤ 48) => ?_) (fun (h2 : ¬ (x ≤ 48)) => ?_)
    · rw [if_pos h2] at mw
      refine zw_nx rfl (fun _ _ => rfl) ?_
      exact s1 _ mw
    · rw [if_neg h2] at mw
      refine zw_nx rfl (fun _ _ => rfl) ?_
      refine zw_nx rfl (fun _ _ => rfl) ?_
      exact s1 _ mw
  · rw [if_neg h1] at mw
    refine zw_nx rfl (fun _ _ => rfl) ?_
    refine zw_nx rfl (fun _ _ => rfl) ?_
    exact s1 _ mw

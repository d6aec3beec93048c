/-! the class: gifts -/
def ptF (L : Nat → Int32) (s : Nat) : Nat → Int32
  | 0 => 0
  | n + 1 => if ib (L n) s then ptF L s n ||| ((1 : Int32) <<< (nI n &&& 31)) else ptF L s n
theorem ib_pt {L : Nat → Int32} {s i : Nat} (hi : i < 32) : ∀ {n : Nat}, n ≤ 5 → ib (ptF L s n) i = (decide (i < n) && ib (L i) s) := by
  intro n
  induction n with
  | zero => intro _; rw [ptF, ib_0, decide_eq_false (by omega)]; rfl
  | succ n ih =>
    intro hn
    rw [ptF]
    by_cases h1 : i = n
    · subst h1
      rw [decide_eq_true (by omega), Bool.true_and]
      split
      · rename_i h2; rw [ib_or, shl_bit i (by omega) i hi, decide_eq_true rfl, Bool.or_true, h2]
      · rename_i h2
        rw [ih (by omega), decide_eq_false (by omega), Bool.false_and]
        simpa using h2
    · have h3 : decide (i < n + 1) = decide (i < n) := by rw [decide_eq_decide]; omega
      rw [h3, ← ih (by omega)]
      split
      · rw [ib_or, shl_bit n (by omega) i hi, decide_eq_false h1, Bool.or_false]
      · rfl
theorem pt_eq {L : Nat → Int32} {m s t : Nat} (hm : m ≤ 5) : ptF L s m = ptF L t m ↔ ∀ i, i < m → ib (L i) s = ib (L i) t := by
  constructor
  · intro h i hi
    have h1 := ib_pt (L := L) (s := s) (i := i) (by omega) hm
    have h2 := ib_pt (L := L) (s := t) (i := i) (by omega) hm
    rw [h, h2, decide_eq_true hi, Bool.true_and, Bool.true_and] at h1
    exact h1.symm
  · intro h
    refine ib_ext (fun i hi => ?_)
    rw [ib_pt hi hm, ib_pt hi hm]
    by_cases h1 : i < m
    · rw [h i h1]
    · rw [decide_eq_false h1]; rfl
/-- the first of its kind -/
def repB (L : Nat → Int32) (m s : Nat) : Bool := !anyB (fun t => decide (ptF L t m = ptF L s m)) s
theorem rep_ex {L : Nat → Int32} {m : Nat} : ∀ (s : Nat), ∃ r, r ≤ s ∧ repB L m r = true ∧ ptF L r m = ptF L s m := by
  intro s
  induction s using Nat.strongRecOn with
  | _ s ih =>
    by_cases h : repB L m s = true
    · exact ⟨s, Nat.le_refl _, h, rfl⟩
    · have h1 : anyB (fun t => decide (ptF L t m = ptF L s m)) s = true := by
        unfold repB at h
        simpa using h
      obtain ⟨t, h2, h3⟩ := anyB_iff.mp h1
      obtain ⟨r, h4, h5, h6⟩ := ih t h2
      exact ⟨r, by omega, h5, h6.trans (of_decide_eq_true h3)⟩
theorem rep_u {L : Nat → Int32} {m s t : Nat} (h : s < t) (h2 : repB L m t = true) (h3 : ptF L s m = ptF L t m) : False := by
  unfold repB at h2
  have := (anyB_iff (p := fun q => decide (ptF L q m = ptF L t m)) (n := t)).mpr ⟨s, h, decide_eq_true h3⟩
  rw [this] at h2
  cases h2
/-- the gifts -/
def glP (L : Nat → Int32) (m z : Nat) : Bool := ib (L (z / 16)) (z % 16) && repB L m (z % 16)
def glF (L : Nat → Int32) (m : Nat) : Nat → List (Nat × Nat)
  | 0 => []
  | z + 1 => if glP L m z then glF L m z ++ [(z / 16, z % 16)] else glF L m z
theorem gl_len {L : Nat → Int32} {m : Nat} : ∀ {z : Nat}, (glF L m z).length = cnt (glP L m) z := by
  intro z
  induction z with
  | zero => rfl
  | succ z ih =>
    rw [glF, cnt]
    split
    · rw [List.length_append, ih]; rfl
    · rw [ih]; omega
theorem gl_mem {L : Nat → Int32} {m : Nat} {p : Nat × Nat} : ∀ {z : Nat}, p ∈ glF L m z ↔ ∃ y, y < z ∧ glP L m y = true ∧ p = (y / 16, y % 16) := by
  intro z
  induction z with
  | zero => exact ⟨fun h => (by cases h), fun ⟨y, h, _⟩ => (by omega)⟩
  | succ z ih =>
    rw [glF]
    split
    · rename_i h1
      rw [List.mem_append, List.mem_singleton, ih]
      constructor
      · rintro (⟨y, h2, h3⟩ | h2)
        · exact ⟨y, by omega, h3⟩
        · exact ⟨z, by omega, h1, h2⟩
      · rintro ⟨y, h2, h3, h4⟩
        by_cases h5 : y = z
        · subst h5; exact Or.inr h4
        · exact Or.inl ⟨y, by omega, h3, h4⟩
    · rename_i h1
      rw [ih]
      constructor
      · rintro ⟨y, h2, h3⟩; exact ⟨y, by omega, h3⟩
      · rintro ⟨y, h2, h3, h4⟩
        by_cases h5 : y = z
        · subst h5; exact absurd h3 h1
        · exact ⟨y, by omega, h3, h4⟩
def bn (b : Bool) : Nat := if b = true then 1 else 0
theorem cnt_s {p : Nat → Bool} {n : Nat} : cnt p (n + 1) = cnt p n + bn (p n) := rfl
theorem five_s : ∀ r b0 b1 b2 b3 b4 : Bool, bn (b0 && r) + bn (b1 && r) + bn (b2 && r) + bn (b3 && r) + bn (b4 && r) ≤ 3 + (bn (r && (b0 && b1 && b2 && b3 && !b4)) + bn (r && (b0 && b1 && b2 && !b3 && b4)) + bn (r && (b0 && b1 && !b2 && b3 && b4)) + bn (r && (b0 && !b1 && b2 && b3 && b4)) + bn (r && (!b0 && b1 && b2 && b3 && b4)) + 2 * bn (r && (b0 && b1 && b2 && b3 && b4))) := by decide
theorem five {r b0 b1 b2 b3 b4 : Nat → Bool} : ∀ {n : Nat}, cnt (fun s => b0 s && r s) n + cnt (fun s => b1 s && r s) n + cnt (fun s => b2 s && r s) n + cnt (fun s => b3 s && r s) n + cnt (fun s => b4 s && r s) n ≤ 3 * n + (cnt (fun s => r s && (b0 s && b1 s && b2 s && b3 s && !b4 s)) n + cnt (fun s => r s && (b0 s && b1 s && b2 s && !b3 s && b4 s)) n + cnt (fun s => r s && (b0 s && b1 s && !b2 s && b3 s && b4 s)) n + cnt (fun s => r s && (b0 s && !b1 s && b2 s && b3 s && b4 s)) n + cnt (fun s => r s && (!b0 s && b1 s && b2 s && b3 s && b4 s)) n + 2 * cnt (fun s => r s && (b0 s && b1 s && b2 s && b3 s && b4 s)) n) := by
  intro n
  induction n with
  | zero => exact Nat.le_refl _
  | succ n ih =>
    simp only [cnt_s]
    have := five_s (r n) (b0 n) (b1 n) (b2 n) (b3 n) (b4 n)
    omega
theorem gl_cnt {L : Nat → Int32} {m : Nat} : ∀ {i : Nat}, cnt (glP L m) (16 * (i + 1)) = cnt (glP L m) (16 * i) + cnt (fun s => ib (L i) s && repB L m s) 16 := by
  intro i
  rw [show 16 * (i + 1) = 16 * i + 16 by omega, cnt_app]
  refine congrArg (fun z => cnt (glP L m) (16 * i) + z) (cnt_cong (fun s hs => ?_))
  unfold glP
  rw [show (16 * i + s) / 16 = i by omega, show (16 * i + s) % 16 = s by omega]
theorem gl_55 {L : Nat → Int32} {m : Nat} (hm : m ≤ 5) : (glF L m (16 * m)).length ≤ 55 := by
  rw [gl_len]
  have h5 := five (r := repB L m) (b0 := fun s => decide (0 < m) && ib (L 0) s) (b1 := fun s => decide (1 < m) && ib (L 1) s) (b2 := fun s => decide (2 < m) && ib (L 2) s) (b3 := fun s => decide (3 < m) && ib (L 3) s) (b4 := fun s => decide (4 < m) && ib (L 4) s) (n := 16)
  have one : ∀ q : Nat → Bool, (∀ s t, q s = true → q t = true → ∀ i, i < m → ib (L i) s = ib (L i) t) → cnt (fun s => repB L m s && q s) 16 ≤ 1 := fun q hq => cnt_one (fun s t h1 _ h3 h4 => by
    rw [Bool.and_eq_true] at h3 h4
    exact rep_u h1 h4.1 ((pt_eq hm).mpr (hq s t h3.2 h4.2)))
  have hb : ∀ i s, i < m → (decide (i < m) && ib (L i) s) = ib (L i) s := fun i s hi => by rw [decide_eq_true hi, Bool.true_and]
  have tot : cnt (glP L m) (16 * m) = cnt (fun s => (decide (0 < m) && ib (L 0) s) && repB L m s) 16 + cnt (fun s => (decide (1 < m) && ib (L 1) s) && repB L m s) 16 + cnt (fun s => (decide (2 < m) && ib (L 2) s) && repB L m s) 16 + cnt (fun s => (decide (3 < m) && ib (L 3) s) && repB L m s) 16 + cnt (fun s => (decide (4 < m) && ib (L 4) s) && repB L m s) 16 := by
    have z : ∀ p : Nat → Bool, cnt (fun s => (false && p s) && repB L m s) 16 = 0 := fun p => cnt_0 (fun i _ => by rw [Bool.false_and]; rfl)
    rcases (show m = 0 ∨ m = 1 ∨ m = 2 ∨ m = 3 ∨ m = 4 ∨ m = 5 by omega) with h | h | h | h | h | h
    · subst h
      simp only [show decide (0 < 0) = false from rfl, show decide (1 < 0) = false from rfl, show decide (2 < 0) = false from rfl, show decide (3 < 0) = false from rfl, show decide (4 < 0) = false from rfl, z]
      rfl
    · subst h
      simp only [show decide (0 < 1) = true from rfl, show decide (1 < 1) = false from rfl, show decide (2 < 1) = false from rfl, show decide (3 < 1) = false from rfl, show decide (4 < 1) = false from rfl, z, Bool.true_and]
      rw [gl_cnt (i := 0)]; show 0 + _ = _; omega
    · subst h
      simp only [show decide (0 < 2) = true from rfl, show decide (1 < 2) = true from rfl, show decide (2 < 2) = false from rfl, show decide (3 < 2) = false from rfl, show decide (4 < 2) = false from rfl, z, Bool.true_and]
      rw [gl_cnt (i := 1), gl_cnt (i := 0)]; show 0 + _ + _ = _; omega
    · subst h
      simp only [show decide (0 < 3) = true from rfl, show decide (1 < 3) = true from rfl, show decide (2 < 3) = true from rfl, show decide (3 < 3) = false from rfl, show decide (4 < 3) = false from rfl, z, Bool.true_and]
      rw [gl_cnt (i := 2), gl_cnt (i := 1), gl_cnt (i := 0)]; show 0 + _ + _ + _ = _; omega
    · subst h
      simp only [show decide (0 < 4) = true from rfl, show decide (1 < 4) = true from rfl, show decide (2 < 4) = true from rfl, show decide (3 < 4) = true from rfl, show decide (4 < 4) = false from rfl, z, Bool.true_and]
      rw [gl_cnt (i := 3), gl_cnt (i := 2), gl_cnt (i := 1), gl_cnt (i := 0)]; show 0 + _ + _ + _ + _ = _; omega
    · subst h
      simp only [show decide (0 < 5) = true from rfl, show decide (1 < 5) = true from rfl, show decide (2 < 5) = true from rfl, show decide (3 < 5) = true from rfl, show decide (4 < 5) = true from rfl, Bool.true_and]
      rw [gl_cnt (i := 4), gl_cnt (i := 3), gl_cnt (i := 2), gl_cnt (i := 1), gl_cnt (i := 0)]; show 0 + _ + _ + _ + _ + _ = _; omega
  have key : ∀ (c0 c1 c2 c3 c4 : Bool) (b : Nat → Nat → Bool), (∀ i s, b i s = (decide (i < m) && ib (L i) s)) → ∀ s t, (((b 0 s == c0) && (b 1 s == c1) && (b 2 s == c2) && (b 3 s == c3) && (b 4 s == c4)) = true) → (((b 0 t == c0) && (b 1 t == c1) && (b 2 t == c2) && (b 3 t == c3) && (b 4 t == c4)) = true) → ∀ i, i < m → ib (L i) s = ib (L i) t := by
    intro c0 c1 c2 c3 c4 b hb' s t h1 h2 i hi
    simp only [Bool.and_eq_true, beq_iff_eq] at h1 h2
    rw [← hb i s hi, ← hb i t hi, ← hb' i s, ← hb' i t]
    rcases (show i = 0 ∨ i = 1 ∨ i = 2 ∨ i = 3 ∨ i = 4 by omega) with h | h | h | h | h <;> subst h
    · rw [h1.1.1.1.1, h2.1.1.1.1]
    · rw [h1.1.1.1.2, h2.1.1.1.2]
    · rw [h1.1.1.2, h2.1.1.2]
    · rw [h1.1.2, h2.1.2]
    · rw [h1.2, h2.2]
  have bt : ∀ x : Bool, (x == true) = x := fun x => by cases x <;> rfl
  have bf : ∀ x : Bool, (x == false) = !x := fun x => by cases x <;> rfl
  have k1 := one _ (key true true true true false _ (fun _ _ => rfl))
  have k2 := one _ (key true true true false true _ (fun _ _ => rfl))
  have k3 := one _ (key true true false true true _ (fun _ _ => rfl))
  have k4 := one _ (key true false true true true _ (fun _ _ => rfl))
  have k5 := one _ (key false true true true true _ (fun _ _ => rfl))
  have k6 := one _ (key true true true true true _ (fun _ _ => rfl))
  simp only [bt, bf] at k1 k2 k3 k4 k5 k6
  rw [tot]
  omega
/-- a TIE gives a gift -/
def gbB (K L : Nat → Int32) (t : Nat) (p : Nat × Nat) : Bool := ib (K t) p.2 && decide (K t &&& (L p.1 ^^^ (-1)) = 0)
def gmF (K L : Nat → Int32) (k : Nat) (l : List (Nat × Nat)) (t g : Nat) : Bool := decide (t < k) && (match l[g]? with | some p => gbB K L t p | none => false)
theorem gm_hi {K L : Nat → Int32} {k t g : Nat} {l : List (Nat × Nat)} (h : l.length ≤ g) : gmF K L k l t g = false := by
  unfold gmF
  rw [List.getElem?_eq_none h, Bool.and_false]
theorem gm_app {K L : Nat → Int32} {k t g : Nat} {l : List (Nat × Nat)} {p : Nat × Nat} : gmF K L k (l ++ [p]) t g = if g = l.length then decide (t < k) && gbB K L t p else gmF K L k l t g := by
  by_cases h : g = l.length
  · subst h
    rw [if_pos rfl]
    unfold gmF
    rw [List.getElem?_append_right (Nat.le_refl _), Nat.sub_self]
    rfl
  · rw [if_neg h]
    unfold gmF
    rcases Nat.lt_or_ge g l.length with h1 | h1
    · rw [List.getElem?_append_left h1]
    · rw [List.getElem?_eq_none h1, List.getElem?_eq_none (by rw [List.length_append, List.length_singleton]; omega)]
theorem any_dn {p : Nat → Bool} {i : Nat} (hi : i < 31) : anyB (fun t => decide (i ≤ t) && p t) 31 = (anyB (fun t => decide (i + 1 ≤ t) && p t) 31 || p i) := by
  rw [Bool.eq_iff_iff, Bool.or_eq_true, anyB_iff, anyB_iff]
  simp only [Bool.and_eq_true, decide_eq_true_eq]
  constructor
  · rintro ⟨t, h1, h2, h3⟩
    by_cases h4 : t = i
    · subst h4; exact Or.inr h3
    · exact Or.inl ⟨t, h1, by omega, h3⟩
  · rintro (⟨t, h1, h2, h3⟩ | h)
    · exact ⟨t, h1, by omega, h3⟩
    · exact ⟨i, hi, Nat.le_refl _, h⟩
theorem any_hi {p : Nat → Bool} : anyB (fun t => decide (31 ≤ t) && p t) 31 = false := by
  cases h : anyB (fun t => decide (31 ≤ t) && p t) 31
  · rfl
  · obtain ⟨t, h1, h2⟩ := anyB_iff.mp h
    rw [Bool.and_eq_true, decide_eq_true_eq] at h2
    omega
/-- later ones give, like ones give -/
def laB (gm : Nat → Nat → Bool) (i g : Nat) : Bool := anyB (fun t => decide (i ≤ t) && gm t g) 31
def shB (gm : Nat → Nat → Bool) (i g z : Nat) : Bool := anyB (fun t => decide (i ≤ t) && (gm t g && gm t z)) 31
section
variable (sc : sm_S) (I : Nat → Int32) (J : Nat → Int64) (A : Nat → Nat → Int32) (B : Nat → Nat → Int64) (tl : sm_M) (f : Nat → va_E) (w h n : Nat) (V : Nat → Int32)
set_option maxHeartbeats 4000000 in
set_option maxRecDepth 20000 in
theorem xSortShafts (L : Nat → Int32) (m : Nat) (hm : m ≤ 5) (h35 : I 35 = nI m) (hL : ∀ i, i < m → A 15 i = L i) : zC 2 sc 16 [.ref 33] (xm I J A B tl) (fun M r => r = none ∧ M = xm I J (va_up A 17 (wr (fun s => ptF L s m) (A 17) 16)) B tl) := by
  have key : ∀ (k s : Nat), s + k = 16 → zW 1 sc miX1_sortShafts 2 [some (.ref 33), some (.int (nI s)), none, none] [] (xm I J (va_up A 17 (wr (fun s => ptF L s m) (A 17) s)) B tl) (fun M r => r = none ∧ M = xm I J (va_up A 17 (wr (fun s => ptF L s m) (A 17) 16)) B tl) := by
    intro k
    induction k with
    | zero =>
      intro s hs
      have e : s = 16 := by omega
      subst e
      refine zw_nx rfl (fun _ _ => rfl) ?_
      repeat (refine zw_go rfl rfl (fun _ _ => rfl) ?_)
      exact zw_ret rfl (fun _ _ => rfl) (⟨rfl, rfl⟩)
    | succ k ih =>
      intro s hs
      have hn := ih (s + 1) (by omega)
      rw [nI_succ, ← wr_s] at hn
      have inner : ∀ (z i : Nat), i + z = m → zW 1 sc miX1_sortShafts 12 [some (.ref 33), some (.int (nI s)), some (.int (ptF L s i)), some (.int (nI i))] [] (xm I J (va_up A 17 (wr (fun s => ptF L s m) (A 17) s)) B tl) (fun M r => r = none ∧ M = xm I J (va_up A 17 (wr (fun s => ptF L s m) (A 17) 16)) B tl) := by
        intro z
        induction z with
        | zero =>
          intro i hi
          have e : i = m := by omega
          subst e
          refine zw_nx rfl (fun _ _ => rfl) ?_
          repeat (refine zw_go rfl rfl (fun _ _ => rfl) ?_)
          first | refine zw_br rfl (fun _ _ => rfl) (fun _ => ?_) (fun h9 => absurd (show I 35 ≤ nI i by rw [h35]; exact Int32.le_refl _) h9) | refine zw_nx rfl (fun _ _ => rfl) ?_
          repeat (refine zw_go rfl rfl (fun _ _ => rfl) ?_)
          refine zw_ix rfl (fun _ _ => rfl) (show vp_in (nI (s)) _ from vp_in_nI (by omega) (by omega)) ?_
          rw [show (nI (s)).toNatClampNeg = s from nI_clamp (by omega)]
          repeat (refine zw_go rfl rfl (fun _ _ => rfl) ?_)
          exact zw_kp hn
        | succ z ihz =>
          intro i hi
          have hz := ihz (i + 1) (by omega)
          rw [nI_succ, ptF] at hz
          refine zw_nx rfl (fun _ _ => rfl) ?_
          repeat (refine zw_go rfl rfl (fun _ _ => rfl) ?_)
          first | refine zw_br rfl (fun _ _ => rfl) (fun h9 => absurd h9 (show ¬ I 35 ≤ nI i by rw [h35]; exact nI_ge (by omega) (by omega))) (fun _ => ?_) | refine zw_nx rfl (fun _ _ => rfl) ?_
          repeat (refine zw_go rfl rfl (fun _ _ => rfl) ?_)
          refine zw_br rfl (fun _ _ => rfl) (fun h9 => absurd h9 (nI_ge (a := i) (b := 5) (by omega) (by omega))) (fun _ => ?_)
          repeat (refine zw_go rfl rfl (fun _ _ => rfl) ?_)
          refine zw_ix rfl (fun _ _ => rfl) (show vp_in (nI (i)) _ from vp_in_nI (by omega) (by omega)) ?_
          rw [show (nI (i)).toNatClampNeg = i from nI_clamp (by omega)]
          repeat (refine zw_go rfl rfl (fun _ _ => rfl) ?_)
          rw [show va_up A 17 (wr (fun s => ptF L s m) (A 17) s) 15 i = L i from hL i (by omega)]
          refine zw_call rfl (fun _ _ => rfl) (cHasN sc _ (L i).toInt64 (i := s) (by omega)) (by decide) ?_
          rintro M1 r1 ⟨rfl, rfl⟩
          rw [lb_i2l _ (by omega)]
          cases hb : ib (L i) s
          · rw [hb, if_neg (by decide)] at hz
            repeat (refine zw_go rfl rfl (fun _ _ => rfl) ?_)
            exact zw_kp hz
          · rw [hb, if_pos (by decide)] at hz
            repeat (refine zw_go rfl rfl (fun _ _ => rfl) ?_)
            exact zw_kp hz
      have hi := inner m 0 (by omega)
      refine zw_nx rfl (fun _ _ => rfl) ?_
      repeat (refine zw_go rfl rfl (fun _ _ => rfl) ?_)
      refine zw_br rfl (fun _ _ => rfl) (fun h9 => absurd h9 (nI_ge (a := s) (b := 16) (by omega) (by omega))) (fun _ => ?_)
      repeat (refine zw_go rfl rfl (fun _ _ => rfl) ?_)
      exact zw_kp hi
  refine zc_of hkX1_sortShafts rfl ?_
  repeat (refine zw_go rfl rfl (fun _ _ => rfl) ?_)
  have st := key 16 0 (by omega)
  rw [wr_0, va_up_id] at st
  exact zw_kp st
set_option maxHeartbeats 4000000 in
set_option maxRecDepth 20000 in
theorem xMarkGift (K L : Nat → Int32) (k : Nat) (l : List (Nat × Nat)) (i s : Nat) (hs : s < 16) (hk : k ≤ 31) (h36 : I 36 = nI k) (h37 : I 37 = nI l.length) (hl : l.length < 55) (hK : ∀ t, t < k → A 16 t = K t) (hB : ∀ t, t < 31 → B 10 t = mk (gmF K L k l t) 55) : zC 2 sc 17 [.ref 33, .int (L i), .int (nI s)] (xm I J A B tl) (fun M r => r = none ∧ ∃ g, M = xm I J A (va_up B 10 g) tl ∧ ∀ t, t < 31 → g t = mk (gmF K L k (l ++ [(i, s)]) t) 55) := by
  have same : ∀ t, (decide (t < k) && gbB K L t (i, s)) = false → mk (gmF K L k (l ++ [(i, s)]) t) 55 = mk (gmF K L k l t) 55 := fun t ht => mk_cong (fun g _ => by
    rw [gm_app]
    split
    · rename_i h1; rw [ht, h1, gm_hi (Nat.le_refl _)]
    · rfl)
  have more : ∀ t, (decide (t < k) && gbB K L t (i, s)) = true → mk (gmF K L k (l ++ [(i, s)]) t) 55 = mk (gmF K L k l t) 55 ||| bitL l.length := fun t ht => by
    rw [mk_on (by omega) hl]
    refine mk_cong (fun g _ => ?_)
    rw [gm_app, ht]
  have key : ∀ (z t : Nat) (g : Nat → Int64), t + z = k → (∀ u, u < t → g u = mk (gmF K L k (l ++ [(i, s)]) u) 55) → (∀ u, t ≤ u → u < 31 → g u = mk (gmF K L k l u) 55) → zW 1 sc miX1_markGift 2 [some (.ref 33), some (.int (L i)), some (.int (nI s)), some (.int (nI t))] [] (xm I J A (va_up B 10 g) tl) (fun M r => r = none ∧ ∃ g, M = xm I J A (va_up B 10 g) tl ∧ ∀ t, t < 31 → g t = mk (gmF K L k (l ++ [(i, s)]) t) 55) := by
    intro z
    induction z with
    | zero =>
      intro t g ht h1 h2
      have e : t = k := by omega
      subst e
      refine zw_nx rfl (fun _ _ => rfl) ?_
      repeat (refine zw_go rfl rfl (fun _ _ => rfl) ?_)
      first | refine zw_br rfl (fun _ _ => rfl) (fun _ => ?_) (fun h9 => absurd (show I 36 ≤ nI t by rw [h36]; exact Int32.le_refl _) h9) | refine zw_nx rfl (fun _ _ => rfl) ?_
      refine zw_ret rfl (fun _ _ => rfl) ?_
      refine ⟨rfl, g, rfl, fun u hu => ?_⟩
      rcases Nat.lt_or_ge u t with h3 | h3
      · exact h1 u h3
      · rw [same u (by rw [decide_eq_false (by omega)]; rfl)]; exact h2 u h3 hu
    | succ z ih =>
      intro t g ht h1 h2
      have no : (decide (t < k) && gbB K L t (i, s)) = false → zW 1 sc miX1_markGift 2 [some (.ref 33), some (.int (L i)), some (.int (nI s)), some (.int (nI t + 1))] [] (xm I J A (va_up B 10 g) tl) (fun M r => r = none ∧ ∃ g, M = xm I J A (va_up B 10 g) tl ∧ ∀ t, t < 31 → g t = mk (gmF K L k (l ++ [(i, s)]) t) 55) := fun hno => by
        have hn := ih (t + 1) g (by omega) (fun u hu => by
          by_cases h3 : u = t
          · subst h3; rw [same u hno]; exact h2 u (Nat.le_refl _) (by omega)
          · exact h1 u (by omega)) (fun u h3 h4 => h2 u (by omega) h4)
        rw [nI_succ] at hn
        exact hn
      refine zw_nx rfl (fun _ _ => rfl) ?_
      repeat (refine zw_go rfl rfl (fun _ _ => rfl) ?_)
      first | refine zw_br rfl (fun _ _ => rfl) (fun h9 => absurd h9 (show ¬ I 36 ≤ nI t by rw [h36]; exact nI_ge (by omega) (by omega))) (fun _ => ?_) | refine zw_nx rfl (fun _ _ => rfl) ?_
      repeat (refine zw_go rfl rfl (fun _ _ => rfl) ?_)
      refine zw_br rfl (fun _ _ => rfl) (fun h9 => absurd h9 (nI_ge (a := t) (b := 31) (by omega) (by omega))) (fun _ => ?_)
      repeat (refine zw_go rfl rfl (fun _ _ => rfl) ?_)
      refine zw_ix rfl (fun _ _ => rfl) (show vp_in (nI (t)) _ from vp_in_nI (by omega) (by omega)) ?_
      rw [show (nI (t)).toNatClampNeg = t from nI_clamp (by omega)]
      repeat (refine zw_go rfl rfl (fun _ _ => rfl) ?_)
      rw [hK t (by omega)]
      refine zw_call rfl (fun _ _ => rfl) (cHasN sc _ (K t).toInt64 (i := s) (by omega)) (by decide) ?_
      rintro M1 r1 ⟨rfl, rfl⟩
      rw [lb_i2l _ (by omega)]
      cases hb : ib (K t) s
      · have hn := no (by unfold gbB; show (_ && (ib (K t) s && _)) = false; rw [hb, Bool.false_and, Bool.and_false])
        repeat (refine zw_go rfl rfl (fun _ _ => rfl) ?_)
        exact zw_kp hn
      · repeat (refine zw_go rfl rfl (fun _ _ => rfl) ?_)
        refine zw_ix rfl (fun _ _ => rfl) (show vp_in (nI (t)) _ from vp_in_nI (by omega) (by omega)) ?_
        rw [show (nI (t)).toNatClampNeg = t from nI_clamp (by omega)]
        repeat (refine zw_go rfl rfl (fun _ _ => rfl) ?_)
        rw [hK t (by omega)]
        refine zw_br rfl (fun _ _ => rfl) (fun (hc : K t &&& (L i ^^^ (-1)) = 0) => ?_) (fun (hc : ¬ (K t &&& (L i ^^^ (-1)) = 0)) => ?_)
        · have hn := ih (t + 1) (vp_updL g t (g t ||| bitL l.length)) (by omega) (fun u hu => by
            unfold vp_updL
            by_cases h3 : u = t
            · subst h3
              rw [if_pos rfl, more u (by
                rw [decide_eq_true (by omega), Bool.true_and]
                show (ib (K u) s && decide (K u &&& (L i ^^^ (-1)) = 0)) = true
                rw [hb, decide_eq_true hc]; rfl), h2 u (Nat.le_refl _) (by omega)]
            · rw [if_neg h3]; exact h1 u (by omega)) (fun u h3 h4 => by
            unfold vp_updL
            rw [if_neg (by omega)]; exact h2 u (by omega) h4)
          rw [nI_succ] at hn
          repeat (refine zw_go rfl rfl (fun _ _ => rfl) ?_)
          refine zw_ix rfl (fun _ _ => rfl) (show vp_in (nI (t)) _ from vp_in_nI (by omega) (by omega)) ?_
          rw [show (nI (t)).toNatClampNeg = t from nI_clamp (by omega)]
          repeat (refine zw_go rfl rfl (fun _ _ => rfl) ?_)
          rw [h37]
          refine zw_ix rfl (fun _ _ => rfl) (show vp_in (nI (t)) _ from vp_in_nI (by omega) (by omega)) ?_
          rw [show (nI (t)).toNatClampNeg = t from nI_clamp (by omega)]
          repeat (refine zw_go rfl rfl (fun _ _ => rfl) ?_)
          exact zw_kp hn
        · have hn := no (by
            show (decide (t < k) && (ib (K t) s && decide (K t &&& (L i ^^^ (-1)) = 0))) = false
            rw [decide_eq_false hc, Bool.and_false, Bool.and_false])
          repeat (refine zw_go rfl rfl (fun _ _ => rfl) ?_)
          exact zw_kp hn
  refine zc_of hkX1_markGift rfl ?_
  repeat (refine zw_go rfl rfl (fun _ _ => rfl) ?_)
  have st := key k 0 (B 10) (by omega) (fun u hu => by omega) (fun u _ hu => hB u hu)
  rw [va_up_id] at st
  exact zw_kp st
end

/-! pegs, fewest -/
theorem ib_hi : ∀ i, 16 ≤ i → ∀ q, q < 65536 → ib (nI q) i = false := by
  intro i hi q hq
  show (BitVec.ofNat 32 q).toNat.testBit i = false
  rw [BitVec.toNat_ofNat, Nat.mod_eq_of_lt (by omega)]
  exact Nat.testBit_lt_two_pow (Nat.lt_of_lt_of_le hq (Nat.le_trans (by decide : 65536 ≤ 2 ^ 16) (Nat.pow_le_pow_right (by decide) hi)))
theorem se_hi {x : Int32} (h : seOk x) {i : Nat} (hi : 16 ≤ i) : ib x i = false := by
  obtain ⟨q, hq, rfl⟩ := h
  exact ib_hi i hi q hq
theorem orI_hi {p : Nat → Bool} {g : Nat → Int32} {i : Nat} : ∀ {n : Nat}, (∀ t, t < n → ib (g t) i = false) → ib (orI p g n) i = false := by
  intro n
  induction n with
  | zero => intro _; rw [orI, ib_0]
  | succ n ih =>
    intro h
    rw [orI]
    split
    · rw [ib_or, ih (fun t ht => h t (by omega)), h n (by omega)]; rfl
    · exact ih (fun t ht => h t (by omega))
theorem li_hi {V : Nat → Int32} (hV : VOk V) {p i : Nat} (hi : 16 ≤ i) : ib (vLi V p) i = false := orI_hi (fun t ht => se_hi (hV.2.1 (48 + t) (by omega) (by omega)) hi)
theorem shl_bit : ∀ q, q < 16 → ∀ i, i < 32 → ib ((1 : Int32) <<< (nI q &&& 31)) i = decide (i = q) := by decide +kernel
theorem us_bit {V : Nat → Int32} (hV : VOk V) {i : Nat} (hi : i < 32) : ∀ {w : Nat}, w ≤ 48 → (ib (usF V w) i = true ↔ i < 16 ∧ ∃ e, e < w ∧ V e = nI i) := by
  intro w
  induction w with
  | zero => intro _; rw [usF, ib_0]; exact ⟨fun h => absurd h (by simp), fun ⟨_, e, h, _⟩ => by omega⟩
  | succ w ih =>
    intro hw
    rw [usF]
    rcases hV.1 w (by omega) with h1 | ⟨q, hq, h1⟩
    · rw [if_neg (by rw [h1]; decide), ih (by omega)]
      constructor
      · rintro ⟨h2, e, h3, h4⟩; exact ⟨h2, e, by omega, h4⟩
      · rintro ⟨h2, e, h3, h4⟩
        refine ⟨h2, e, ?_, h4⟩
        by_cases h5 : e = w
        · subst h5
          rw [h1] at h4
          exact absurd (by rw [h4]; exact nI_pos' (by omega) : (0 : Int32) ≤ -1) (by decide)
        · omega
    · rw [if_pos (by rw [h1]; exact nI_pos' (by omega)), ib_or, h1, shl_bit q hq i hi, Bool.or_eq_true, ih (by omega), decide_eq_true_eq]
      constructor
      · rintro (⟨h2, e, h3, h4⟩ | h2)
        · exact ⟨h2, e, by omega, h4⟩
        · subst h2; exact ⟨hq, w, by omega, h1⟩
      · rintro ⟨h2, e, h3, h4⟩
        by_cases h5 : e = w
        · subst h5
          rw [h1] at h4
          exact Or.inr ((nI_eq (by omega) (by omega)).mp h4.symm)
        · exact Or.inl ⟨h2, e, by omega, h4⟩
/-- the pegs of a PICK -/
def pegF (V : Nat → Int32) (t : Bool) (w p : Nat) : Int32 := if t then usF V w &&& (vLi V p ^^^ (-1)) else vLi V p
theorem peg_hi {V : Nat → Int32} (hV : VOk V) {t : Bool} {w p i : Nat} (hw : w ≤ 48) (hi : 16 ≤ i) (hi2 : i < 32) : ib (pegF V t w p) i = false := by
  unfold pegF
  split
  · rw [ib_and]
    cases h : ib (usF V w) i
    · rfl
    · have := ((us_bit hV hi2 hw).mp h).1; omega
  · exact li_hi hV hi
theorem peg_cnt {V : Nat → Int32} (hV : VOk V) {t : Bool} {w p : Nat} (hw : w ≤ 48) : cnt (ib (pegF V t w p)) 32 = cnt (ib (pegF V t w p)) 16 := by
  rw [show (32 : Nat) = 16 + 16 from rfl, cnt_app, cnt_0 (p := fun i => ib (pegF V t w p) (16 + i)) (n := 16) (fun i hi => peg_hi hV hw (by omega) (by omega)), Nat.add_zero]
def nPeg (V : Nat → Int32) (t : Bool) (w h : Nat) : Nat := sumN (fun p => cnt (ib (pegF V t w p)) 16) h
/-- a line that is not empty, nor like one ahead of it -/
def frs (g : Nat → Int64) (i : Nat) : Bool := decide (¬ g i = 0) && decide (∀ j, j < i → ¬ g j = g i)
theorem frs_t {g : Nat → Int64} {i : Nat} (h0 : ¬ g i = 0) (h : ∀ j, j < i → ¬ g j = g i) : frs g i = true := by unfold frs; rw [decide_eq_true h0, decide_eq_true h]; rfl
theorem frs_0 {g : Nat → Int64} {i : Nat} (h0 : g i = 0) : frs g i = false := by unfold frs; rw [decide_eq_false (fun z => z h0)]; rfl
theorem frs_f {g : Nat → Int64} {i j : Nat} (hj : j < i) (h : g j = g i) : frs g i = false := by unfold frs; rw [decide_eq_false (p := ∀ j, j < i → ¬ g j = g i) (fun z => z j hj h), Bool.and_false]
theorem frs_cong {g k : Nat → Int64} {n : Nat} (h : ∀ i, i < n → g i = k i) : cnt (frs g) n = cnt (frs k) n := cnt_cong (fun i hi => by
  unfold frs
  rw [h i hi]
  congr 1
  refine decide_eq_decide.mpr ⟨fun z j hj => by rw [← h j (by omega)]; exact z j hj, fun z j hj => by rw [h j (by omega)]; exact z j hj⟩)
section
variable (sc : sm_S) (I : Nat → Int32) (J : Nat → Int64) (A : Nat → Nat → Int32) (B : Nat → Nat → Int64) (tl : sm_M) (f : Nat → va_E) (w h n : Nat) (V : Nat → Int32)
set_option maxHeartbeats 4000000 in
set_option maxRecDepth 20000 in
theorem mBits (M : sm_M) (x : Int32) : zC 1 sc 229 [.int x] M (zR M (.int (nI (cnt (ib x) 16)))) := by
  refine zc_of hkX11_bits rfl ?_
  repeat (refine zw_go rfl rfl (fun _ _ => rfl) ?_)
  have key : ∀ (k i : Nat), i + k = 16 → zW 0 sc miX11_bits 4 [some (.int x), some (.int (nI (cnt (ib x) i))), some (.int (nI i))] [] M (zR M (.int (nI (cnt (ib x) 16)))) := by
    intro k
    induction k with
    | zero =>
      intro i hi
      have e1 : i = 16 := by omega
      subst e1
      refine zw_nx rfl (fun _ _ => rfl) ?_
      repeat (refine zw_go rfl rfl (fun _ _ => rfl) ?_)
      exact zw_ret rfl (fun _ _ => rfl) (⟨rfl, rfl⟩)
    | succ k ih =>
      intro i hi
      have hn := ih (i + 1) (by omega)
      rw [nI_succ, cnt] at hn
      refine zw_nx rfl (fun _ _ => rfl) ?_
      repeat (refine zw_go rfl rfl (fun _ _ => rfl) ?_)
      refine zw_br rfl (fun _ _ => rfl) (fun h9 => absurd h9 (nI_ge (a := i) (b := 16) (by omega) (by omega))) (fun _ => ?_)
      repeat (refine zw_go rfl rfl (fun _ _ => rfl) ?_)
      rw [show (x >>> (nI i &&& 31)) &&& Int32.ofInt 1 = if ib x i then 1 else 0 from bit_test x (by omega)]
      cases hb : ib x i
      · rw [hb, if_neg (by simp), Nat.add_zero] at hn
        rw [if_neg (by simp), Int32.add_zero]
        exact hn
      · rw [hb, if_pos rfl, ← nI_1] at hn
        rw [if_pos rfl]
        exact hn
  exact zw_kp (key 16 0 (by omega))
set_option maxHeartbeats 4000000 in
set_option maxRecDepth 20000 in
theorem mUsed (hM : MH I A w h n V) (hA : ∀ x, x < w → A 4 x = V x) : zC 1 sc 228 [.ref 47] (mm f I A B) (zR (mm f I A B) (.int (usF V w))) := by
  obtain ⟨h0, h1, hw1, hw, hh1, hh, h4, hn, hv, hV⟩ := hM
  refine zc_of hkX11_usedShafts rfl ?_
  repeat (refine zw_go rfl rfl (fun _ _ => rfl) ?_)
  have key : ∀ (k x : Nat), x + k = w → zW 0 sc miX11_usedShafts 4 [some (.ref 47), some (.int (usF V x)), some (.int (nI x))] [] (mm f I A B) (zR (mm f I A B) (.int (usF V w))) := by
    intro k
    induction k with
    | zero =>
      intro x hx
      have e1 : x = w := by omega
      subst e1
      refine zw_nx rfl (fun _ _ => rfl) ?_
      repeat (refine zw_go rfl rfl (fun _ _ => rfl) ?_)
      first | refine zw_br rfl (fun _ _ => rfl) (fun _ => ?_) (fun h9 => absurd (show I 0 ≤ nI x by rw [h0]; exact Int32.le_refl _) h9) | refine zw_nx rfl (fun _ _ => rfl) ?_
      repeat (refine zw_go rfl rfl (fun _ _ => rfl) ?_)
      exact zw_ret rfl (fun _ _ => rfl) (⟨rfl, rfl⟩)
    | succ k ih =>
      intro x hx
      have hn := ih (x + 1) (by omega)
      rw [nI_succ, usF] at hn
      refine zw_nx rfl (fun _ _ => rfl) ?_
      repeat (refine zw_go rfl rfl (fun _ _ => rfl) ?_)
      first | refine zw_br rfl (fun _ _ => rfl) (fun h9 => absurd h9 (show ¬ I 0 ≤ nI x by rw [h0]; exact nI_ge (by omega) (by omega))) (fun _ => ?_) | refine zw_nx rfl (fun _ _ => rfl) ?_
      repeat (refine zw_go rfl rfl (fun _ _ => rfl) ?_)
      refine zw_ix rfl (fun _ _ => rfl) (show vp_in (nI (x)) _ from vp_in_nI (by omega) (by omega)) ?_
      rw [show (nI (x)).toNatClampNeg = x from nI_clamp (by omega)]
      repeat (refine zw_go rfl rfl (fun _ _ => rfl) ?_)
      rw [hA x (by omega)]
      refine zw_br rfl (fun _ _ => rfl) (fun (hc : V x < 0) => ?_) (fun (hc : ¬ (V x < 0)) => ?_)
      · rw [if_neg (Int32.not_le.mpr hc)] at hn
        repeat (refine zw_go rfl rfl (fun _ _ => rfl) ?_)
        exact hn
      · rw [if_pos (Int32.not_lt.mp hc)] at hn
        repeat (refine zw_go rfl rfl (fun _ _ => rfl) ?_)
        refine zw_ix rfl (fun _ _ => rfl) (show vp_in (nI (x)) _ from vp_in_nI (by omega) (by omega)) ?_
        rw [show (nI (x)).toNatClampNeg = x from nI_clamp (by omega)]
        repeat (refine zw_go rfl rfl (fun _ _ => rfl) ?_)
        rw [hA x (by omega)]
        exact hn
  exact zw_kp (key w 0 (by omega))
set_option maxHeartbeats 4000000 in
set_option maxRecDepth 20000 in
theorem xPegs (t : Bool) (hW : WH w h I J A B) : zC 5 sc 137 [.ref 0, .int (bb t)] (xm I J A B tl) (fun M r => r = some (.int (nI (nPeg (A 3) t w h))) ∧ XQ tl w h I J A B M) := by
  refine zc_of hkX10_pegs rfl ?_
  repeat (refine zw_go rfl rfl (fun _ _ => rfl) ?_)
  refine zw_call rfl (fun _ _ => rfl) (xWv sc I J A B tl w h hW) (by decide) ?_
  rintro M1 r1 ⟨rfl, I', A', B', rfl, hW2, hC, hK⟩
  have hW3 := hW2
  obtain ⟨h0, h1, h7, h8, hw1, hw, hh1, hh, hJ, hV, hC', hR⟩ := hW2
  rw [show A' 3 = A 3 from hK.2.2.1 3 (by decide)] at hV
  repeat (refine zw_go rfl rfl (fun _ _ => rfl) ?_)
  have key : ∀ (k p : Nat), p + k = h → zW 4 sc miX10_pegs 11 [some (.ref 0), some (.int (bb t)), some (.int (nI (nPeg (A 3) t w p))), some (.int (nI p)), none] [] (xm I' J A' B' tl) (fun M r => r = some (.int (nI (nPeg (A 3) t w h))) ∧ XQ tl w h I J A B M) := by
    intro k
    induction k with
    | zero =>
      intro p hp
      have e1 : p = h := by omega
      subst e1
      refine zw_nx rfl (fun _ _ => rfl) ?_
      repeat (refine zw_go rfl rfl (fun _ _ => rfl) ?_)
      first | refine zw_br rfl (fun _ _ => rfl) (fun _ => ?_) (fun h9 => absurd (show I' 1 ≤ nI p by rw [h1]; exact Int32.le_refl _) h9) | refine zw_nx rfl (fun _ _ => rfl) ?_
      repeat (refine zw_go rfl rfl (fun _ _ => rfl) ?_)
      exact zw_ret rfl (fun _ _ => rfl) (⟨rfl, I', A', B', rfl, hW3, wk_xk hK⟩)
    | succ k ih =>
      intro p hp
      have hn := ih (p + 1) (by omega)
      rw [nI_succ, nPeg, sumN, ← peg_cnt hV hw, ← nI_add] at hn
      refine zw_nx rfl (fun _ _ => rfl) ?_
      repeat (refine zw_go rfl rfl (fun _ _ => rfl) ?_)
      first | refine zw_br rfl (fun _ _ => rfl) (fun h9 => absurd h9 (show ¬ I' 1 ≤ nI p by rw [h1]; exact nI_ge (by omega) (by omega))) (fun _ => ?_) | refine zw_nx rfl (fun _ _ => rfl) ?_
      repeat (refine zw_go rfl rfl (fun _ _ => rfl) ?_)
      refine zw_ix rfl (fun _ _ => rfl) (show vp_in (nI (p)) _ from vp_in_nI (by omega) (by omega)) ?_
      rw [show (nI (p)).toNatClampNeg = p from nI_clamp (by omega)]
      repeat (refine zw_go rfl rfl (fun _ _ => rfl) ?_)
      rw [hC.1 p (by omega)]
      cases t
      · repeat (refine zw_go rfl rfl (fun _ _ => rfl) ?_)
        refine zw_call rfl (fun _ _ => rfl) (cBitI sc (xm I' J A' B' tl) (vLi (A 3) p)) (by decide) ?_
        rintro M1 r1 ⟨rfl, rfl⟩
        repeat (refine zw_go rfl rfl (fun _ _ => rfl) ?_)
        exact zw_kp hn
      · repeat (refine zw_go rfl rfl (fun _ _ => rfl) ?_)
        rw [hC.2.2.2.2.2.2]
        refine zw_call rfl (fun _ _ => rfl) (cBitI sc (xm I' J A' B' tl) (usF (A 3) w &&& (vLi (A 3) p ^^^ Int32.ofInt (-1)))) (by decide) ?_
        rintro M1 r1 ⟨rfl, rfl⟩
        repeat (refine zw_go rfl rfl (fun _ _ => rfl) ?_)
        exact zw_kp hn
  exact zw_kp (key h 0 (by omega))
set_option maxHeartbeats 4000000 in
set_option maxRecDepth 20000 in
theorem mPegs (t : Bool) (hM : MH I A w h n V) : zC 5 sc 230 [.ref 47, .int (bb t)] (mm f I A B) (fun M r => r = some (.int (nI (nPeg V t w h))) ∧ MR f I A B M) := by
  have hM' := hM
  obtain ⟨h0, h1, hw1, hw, hh1, hh, h4, hn, hv, hV⟩ := hM
  refine zc_of hkX11_pegs rfl ?_
  repeat (refine zw_go rfl rfl (fun _ _ => rfl) ?_)
  refine zw_call rfl (fun _ _ => rfl) (mD sc I A B f w h n V hM') (by decide) ?_
  rintro M1 r1 ⟨rfl, A', B', rfl, hD⟩
  repeat (refine zw_go rfl rfl (fun _ _ => rfl) ?_)
  refine zw_call rfl (fun _ _ => rfl) (mUsed sc I A' B' f w h n V (mh_mk hM' (dr_mk hD)) hD.1) (by decide) ?_
  rintro M1 r1 ⟨rfl, rfl⟩
  repeat (refine zw_go rfl rfl (fun _ _ => rfl) ?_)
  have key : ∀ (k p : Nat), p + k = h → zW 4 sc miX11_pegs 14 [some (.ref 47), some (.int (bb t)), some (.int (usF V w)), some (.int (nI (nPeg V t w p))), some (.int (nI p))] [] (mm f I A' B') (fun M r => r = some (.int (nI (nPeg V t w h))) ∧ MR f I A B M) := by
    intro k
    induction k with
    | zero =>
      intro p hp
      have e1 : p = h := by omega
      subst e1
      refine zw_nx rfl (fun _ _ => rfl) ?_
      repeat (refine zw_go rfl rfl (fun _ _ => rfl) ?_)
      first | refine zw_br rfl (fun _ _ => rfl) (fun _ => ?_) (fun h9 => absurd (show I 1 ≤ nI p by rw [h1]; exact Int32.le_refl _) h9) | refine zw_nx rfl (fun _ _ => rfl) ?_
      repeat (refine zw_go rfl rfl (fun _ _ => rfl) ?_)
      exact zw_ret rfl (fun _ _ => rfl) (⟨rfl, I, A', B', rfl, dr_mk hD⟩)
    | succ k ih =>
      intro p hp
      have hn := ih (p + 1) (by omega)
      rw [nI_succ, nPeg, sumN, ← nI_add] at hn
      refine zw_nx rfl (fun _ _ => rfl) ?_
      repeat (refine zw_go rfl rfl (fun _ _ => rfl) ?_)
      first | refine zw_br rfl (fun _ _ => rfl) (fun h9 => absurd h9 (show ¬ I 1 ≤ nI p by rw [h1]; exact nI_ge (by omega) (by omega))) (fun _ => ?_) | refine zw_nx rfl (fun _ _ => rfl) ?_
      cases t
      · repeat (refine zw_go rfl rfl (fun _ _ => rfl) ?_)
        refine zw_ix rfl (fun _ _ => rfl) (show vp_in (nI (p)) _ from vp_in_nI (by omega) (by omega)) ?_
        rw [show (nI (p)).toNatClampNeg = p from nI_clamp (by omega)]
        repeat (refine zw_go rfl rfl (fun _ _ => rfl) ?_)
        rw [hD.2.2.2.1 p (by omega)]
        refine zw_call rfl (fun _ _ => rfl) (mBits sc (mm f I A' B') (vLi V p)) (by decide) ?_
        rintro M1 r1 ⟨rfl, rfl⟩
        repeat (refine zw_go rfl rfl (fun _ _ => rfl) ?_)
        exact zw_kp hn
      · repeat (refine zw_go rfl rfl (fun _ _ => rfl) ?_)
        refine zw_ix rfl (fun _ _ => rfl) (show vp_in (nI (p)) _ from vp_in_nI (by omega) (by omega)) ?_
        rw [show (nI (p)).toNatClampNeg = p from nI_clamp (by omega)]
        repeat (refine zw_go rfl rfl (fun _ _ => rfl) ?_)
        rw [hD.2.2.2.1 p (by omega)]
        refine zw_call rfl (fun _ _ => rfl) (mBits sc (mm f I A' B') (usF V w &&& (vLi V p ^^^ Int32.ofInt (-1)))) (by decide) ?_
        rintro M1 r1 ⟨rfl, rfl⟩
        repeat (refine zw_go rfl rfl (fun _ _ => rfl) ?_)
        exact zw_kp hn
  exact zw_kp (key h 0 (by omega))
set_option maxHeartbeats 4000000 in
set_option maxRecDepth 20000 in
theorem xFewR (m : Nat) (hm : m ≤ 48) : zC 1 sc 155 [.ref 9, .int (nI m)] (xm I J A B tl) (zR (xm I J A B tl) (.int (nI (cnt (frs (B 0)) m)))) := by
  refine zc_of hkX10_unlikeLines rfl ?_
  repeat (refine zw_go rfl rfl (fun _ _ => rfl) ?_)
  have key : ∀ (k i : Nat), i + k = m → zW 0 sc miX10_unlikeLines 4 [some (.ref 9), some (.int (nI m)), some (.int (nI (cnt (frs (B 0)) i))), some (.int (nI i)), none, none] [] (xm I J A B tl) (zR (xm I J A B tl) (.int (nI (cnt (frs (B 0)) m)))) := by
    intro k
    induction k with
    | zero =>
      intro i hi
      have e1 : i = m := by omega
      subst e1
      refine zw_nx rfl (fun _ _ => rfl) ?_
      repeat (refine zw_go rfl rfl (fun _ _ => rfl) ?_)
      first | refine zw_br rfl (fun _ _ => rfl) (fun _ => ?_) (fun h9 => absurd (show nI i ≤ nI i from Int32.le_refl _) h9) | refine zw_nx rfl (fun _ _ => rfl) ?_
      repeat (refine zw_go rfl rfl (fun _ _ => rfl) ?_)
      exact zw_ret rfl (fun _ _ => rfl) (⟨rfl, rfl⟩)
    | succ k ih =>
      intro i hi
      have hn := ih (i + 1) (by omega)
      rw [nI_succ, cnt] at hn
      refine zw_nx rfl (fun _ _ => rfl) ?_
      repeat (refine zw_go rfl rfl (fun _ _ => rfl) ?_)
      refine zw_br rfl (fun _ _ => rfl) (fun h9 => absurd h9 (nI_ge (a := i) (b := m) (by omega) (by omega))) (fun _ => ?_)
      repeat (refine zw_go rfl rfl (fun _ _ => rfl) ?_)
      refine zw_br rfl (fun _ _ => rfl) (fun h9 => absurd h9 (nI_ge (a := i) (b := 48) (by omega) (by omega))) (fun _ => ?_)
      repeat (refine zw_go rfl rfl (fun _ _ => rfl) ?_)
      refine zw_ix rfl (fun _ _ => rfl) (show vp_in (nI (i)) _ from vp_in_nI (by omega) (by omega)) ?_
      rw [show (nI (i)).toNatClampNeg = i from nI_clamp (by omega)]
      repeat (refine zw_go rfl rfl (fun _ _ => rfl) ?_)
      have no : ∀ j : Int32, frs (B 0) i = false → zW 0 sc miX10_unlikeLines 33 [some (.ref 9), some (.int (nI m)), some (.int (nI (cnt (frs (B 0)) i))), some (.int (nI i)), some (.int 0), some (.int j)] [] (xm I J A B tl) (zR (xm I J A B tl) (.int (nI (cnt (frs (B 0)) m)))) := by
        intro j hf
        rw [if_neg (by simp [hf]), Nat.add_zero] at hn
        refine zw_nx rfl (fun _ _ => rfl) ?_
        repeat (refine zw_go rfl rfl (fun _ _ => rfl) ?_)
        refine zw_br rfl (fun _ _ => rfl) (fun (h5 : nI i ≤ j) => ?_) (fun (h5 : ¬ (nI i ≤ j)) => ?_)
        · repeat (refine zw_go rfl rfl (fun _ _ => rfl) ?_)
          exact zw_kp hn
        · repeat (refine zw_go rfl rfl (fun _ _ => rfl) ?_)
          exact zw_kp hn
      refine zw_br rfl (fun _ _ => rfl) (fun (h0 : lg_cmp (B 0 i) 0 = 0) => ?_) (fun (h0 : ¬ (lg_cmp (B 0 i) 0 = 0)) => ?_)
      · repeat (refine zw_go rfl rfl (fun _ _ => rfl) ?_)
        exact no _ (frs_0 (lg_cmp_0.mp h0))
      · have h0' : ¬ B 0 i = 0 := fun z => h0 (lg_cmp_0.mpr z)
        repeat (refine zw_go rfl rfl (fun _ _ => rfl) ?_)
        have inner : ∀ (k j : Nat), j + k = i → (∀ q, q < j → ¬ B 0 q = B 0 i) → zW 0 sc miX10_unlikeLines 33 [some (.ref 9), some (.int (nI m)), some (.int (nI (cnt (frs (B 0)) i))), some (.int (nI i)), some (.int 1), some (.int (nI (j)))] [] (xm I J A B tl) (zR (xm I J A B tl) (.int (nI (cnt (frs (B 0)) m)))) := by
          intro k
          induction k with
          | zero =>
            intro j hj hl
            have e1 : j = i := by omega
            subst e1
            rw [if_pos (frs_t h0' hl), ← nI_1] at hn
            refine zw_nx rfl (fun _ _ => rfl) ?_
            repeat (refine zw_go rfl rfl (fun _ _ => rfl) ?_)
            first | refine zw_br rfl (fun _ _ => rfl) (fun _ => ?_) (fun h9 => absurd (show nI j ≤ nI j from Int32.le_refl _) h9) | refine zw_nx rfl (fun _ _ => rfl) ?_
            repeat (refine zw_go rfl rfl (fun _ _ => rfl) ?_)
            exact zw_kp hn
          | succ k ih2 =>
            intro j hj hl
            have hn2 := ih2 (j + 1) (by omega)
            rw [nI_succ] at hn2
            refine zw_nx rfl (fun _ _ => rfl) ?_
            repeat (refine zw_go rfl rfl (fun _ _ => rfl) ?_)
            refine zw_br rfl (fun _ _ => rfl) (fun h9 => absurd h9 (nI_ge (a := j) (b := i) (by omega) (by omega))) (fun _ => ?_)
            repeat (refine zw_go rfl rfl (fun _ _ => rfl) ?_)
            refine zw_ix rfl (fun _ _ => rfl) (show vp_in (nI (j)) _ from vp_in_nI (by omega) (by omega)) ?_
            rw [show (nI (j)).toNatClampNeg = j from nI_clamp (by omega)]
            repeat (refine zw_go rfl rfl (fun _ _ => rfl) ?_)
            refine zw_ix rfl (fun _ _ => rfl) (show vp_in (nI (i)) _ from vp_in_nI (by omega) (by omega)) ?_
            rw [show (nI (i)).toNatClampNeg = i from nI_clamp (by omega)]
            repeat (refine zw_go rfl rfl (fun _ _ => rfl) ?_)
            refine zw_br rfl (fun _ _ => rfl) (fun (h5 : lg_cmp (B 0 j) (B 0 i) = 0) => ?_) (fun (h5 : ¬ (lg_cmp (B 0 j) (B 0 i) = 0)) => ?_)
            · repeat (refine zw_go rfl rfl (fun _ _ => rfl) ?_)
              exact no _ (frs_f (j := j) (by omega) (lg_cmp_0.mp h5))
            · repeat (refine zw_go rfl rfl (fun _ _ => rfl) ?_)
              exact hn2 (fun q hq => by
                by_cases h6 : q = j
                · subst h6; exact fun z => h5 (lg_cmp_0.mpr z)
                · exact hl q (by omega))
        exact inner i 0 (by omega) (fun q hq => by omega)
  exact zw_kp (key m 0 (by omega))
set_option maxHeartbeats 4000000 in
set_option maxRecDepth 20000 in
theorem xFewC (m : Nat) (hm : m ≤ 48) : zC 1 sc 155 [.ref 10, .int (nI m)] (xm I J A B tl) (zR (xm I J A B tl) (.int (nI (cnt (frs (B 1)) m)))) := by
  refine zc_of hkX10_unlikeLines rfl ?_
  repeat (refine zw_go rfl rfl (fun _ _ => rfl) ?_)
  have key : ∀ (k i : Nat), i + k = m → zW 0 sc miX10_unlikeLines 4 [some (.ref 10), some (.int (nI m)), some (.int (nI (cnt (frs (B 1)) i))), some (.int (nI i)), none, none] [] (xm I J A B tl) (zR (xm I J A B tl) (.int (nI (cnt (frs (B 1)) m)))) := by
    intro k
    induction k with
    | zero =>
      intro i hi
      have e1 : i = m := by omega
      subst e1
      refine zw_nx rfl (fun _ _ => rfl) ?_
      repeat (refine zw_go rfl rfl (fun _ _ => rfl) ?_)
      first | refine zw_br rfl (fun _ _ => rfl) (fun _ => ?_) (fun h9 => absurd (show nI i ≤ nI i from Int32.le_refl _) h9) | refine zw_nx rfl (fun _ _ => rfl) ?_
      repeat (refine zw_go rfl rfl (fun _ _ => rfl) ?_)
      exact zw_ret rfl (fun _ _ => rfl) (⟨rfl, rfl⟩)
    | succ k ih =>
      intro i hi
      have hn := ih (i + 1) (by omega)
      rw [nI_succ, cnt] at hn
      refine zw_nx rfl (fun _ _ => rfl) ?_
      repeat (refine zw_go rfl rfl (fun _ _ => rfl) ?_)
      refine zw_br rfl (fun _ _ => rfl) (fun h9 => absurd h9 (nI_ge (a := i) (b := m) (by omega) (by omega))) (fun _ => ?_)
      repeat (refine zw_go rfl rfl (fun _ _ => rfl) ?_)
      refine zw_br rfl (fun _ _ => rfl) (fun h9 => absurd h9 (nI_ge (a := i) (b := 48) (by omega) (by omega))) (fun _ => ?_)
      repeat (refine zw_go rfl rfl (fun _ _ => rfl) ?_)
      refine zw_ix rfl (fun _ _ => rfl) (show vp_in (nI (i)) _ from vp_in_nI (by omega) (by omega)) ?_
      rw [show (nI (i)).toNatClampNeg = i from nI_clamp (by omega)]
      repeat (refine zw_go rfl rfl (fun _ _ => rfl) ?_)
      have no : ∀ j : Int32, frs (B 1) i = false → zW 0 sc miX10_unlikeLines 33 [some (.ref 10), some (.int (nI m)), some (.int (nI (cnt (frs (B 1)) i))), some (.int (nI i)), some (.int 0), some (.int j)] [] (xm I J A B tl) (zR (xm I J A B tl) (.int (nI (cnt (frs (B 1)) m)))) := by
        intro j hf
        rw [if_neg (by simp [hf]), Nat.add_zero] at hn
        refine zw_nx rfl (fun _ _ => rfl) ?_
        repeat (refine zw_go rfl rfl (fun _ _ => rfl) ?_)
        refine zw_br rfl (fun _ _ => rfl) (fun (h5 : nI i ≤ j) => ?_) (fun (h5 : ¬ (nI i ≤ j)) => ?_)
        · repeat (refine zw_go rfl rfl (fun _ _ => rfl) ?_)
          exact zw_kp hn
        · repeat (refine zw_go rfl rfl (fun _ _ => rfl) ?_)
          exact zw_kp hn
      refine zw_br rfl (fun _ _ => rfl) (fun (h0 : lg_cmp (B 1 i) 0 = 0) => ?_) (fun (h0 : ¬ (lg_cmp (B 1 i) 0 = 0)) => ?_)
      · repeat (refine zw_go rfl rfl (fun _ _ => rfl) ?_)
        exact no _ (frs_0 (lg_cmp_0.mp h0))
      · have h0' : ¬ B 1 i = 0 := fun z => h0 (lg_cmp_0.mpr z)
        repeat (refine zw_go rfl rfl (fun _ _ => rfl) ?_)
        have inner : ∀ (k j : Nat), j + k = i → (∀ q, q < j → ¬ B 1 q = B 1 i) → zW 0 sc miX10_unlikeLines 33 [some (.ref 10), some (.int (nI m)), some (.int (nI (cnt (frs (B 1)) i))), some (.int (nI i)), some (.int 1), some (.int (nI (j)))] [] (xm I J A B tl) (zR (xm I J A B tl) (.int (nI (cnt (frs (B 1)) m)))) := by
          intro k
          induction k with
          | zero =>
            intro j hj hl
            have e1 : j = i := by omega
            subst e1
            rw [if_pos (frs_t h0' hl), ← nI_1] at hn
            refine zw_nx rfl (fun _ _ => rfl) ?_
            repeat (refine zw_go rfl rfl (fun _ _ => rfl) ?_)
            first | refine zw_br rfl (fun _ _ => rfl) (fun _ => ?_) (fun h9 => absurd (show nI j ≤ nI j from Int32.le_refl _) h9) | refine zw_nx rfl (fun _ _ => rfl) ?_
            repeat (refine zw_go rfl rfl (fun _ _ => rfl) ?_)
            exact zw_kp hn
          | succ k ih2 =>
            intro j hj hl
            have hn2 := ih2 (j + 1) (by omega)
            rw [nI_succ] at hn2
            refine zw_nx rfl (fun _ _ => rfl) ?_
            repeat (refine zw_go rfl rfl (fun _ _ => rfl) ?_)
            refine zw_br rfl (fun _ _ => rfl) (fun h9 => absurd h9 (nI_ge (a := j) (b := i) (by omega) (by omega))) (fun _ => ?_)
            repeat (refine zw_go rfl rfl (fun _ _ => rfl) ?_)
            refine zw_ix rfl (fun _ _ => rfl) (show vp_in (nI (j)) _ from vp_in_nI (by omega) (by omega)) ?_
            rw [show (nI (j)).toNatClampNeg = j from nI_clamp (by omega)]
            repeat (refine zw_go rfl rfl (fun _ _ => rfl) ?_)
            refine zw_ix rfl (fun _ _ => rfl) (show vp_in (nI (i)) _ from vp_in_nI (by omega) (by omega)) ?_
            rw [show (nI (i)).toNatClampNeg = i from nI_clamp (by omega)]
            repeat (refine zw_go rfl rfl (fun _ _ => rfl) ?_)
            refine zw_br rfl (fun _ _ => rfl) (fun (h5 : lg_cmp (B 1 j) (B 1 i) = 0) => ?_) (fun (h5 : ¬ (lg_cmp (B 1 j) (B 1 i) = 0)) => ?_)
            · repeat (refine zw_go rfl rfl (fun _ _ => rfl) ?_)
              exact no _ (frs_f (j := j) (by omega) (lg_cmp_0.mp h5))
            · repeat (refine zw_go rfl rfl (fun _ _ => rfl) ?_)
              exact hn2 (fun q hq => by
                by_cases h6 : q = j
                · subst h6; exact fun z => h5 (lg_cmp_0.mpr z)
                · exact hl q (by omega))
        exact inner i 0 (by omega) (fun q hq => by omega)
  exact zw_kp (key m 0 (by omega))
set_option maxHeartbeats 4000000 in
set_option maxRecDepth 20000 in
theorem mFewR (m : Nat) (hm : m ≤ 48) : zC 1 sc 226 [.ref 56, .int (nI m)] (mm f I A B) (zR (mm f I A B) (.int (nI (cnt (frs (B 0)) m)))) := by
  refine zc_of hkX11_fewestOf rfl ?_
  repeat (refine zw_go rfl rfl (fun _ _ => rfl) ?_)
  have key : ∀ (k i : Nat), i + k = m → zW 0 sc miX11_fewestOf 4 [some (.ref 56), some (.int (nI m)), some (.int (nI (cnt (frs (B 0)) i))), some (.int (nI i)), none, none] [] (mm f I A B) (zR (mm f I A B) (.int (nI (cnt (frs (B 0)) m)))) := by
    intro k
    induction k with
    | zero =>
      intro i hi
      have e1 : i = m := by omega
      subst e1
      refine zw_nx rfl (fun _ _ => rfl) ?_
      repeat (refine zw_go rfl rfl (fun _ _ => rfl) ?_)
      first | refine zw_br rfl (fun _ _ => rfl) (fun _ => ?_) (fun h9 => absurd (show nI i ≤ nI i from Int32.le_refl _) h9) | refine zw_nx rfl (fun _ _ => rfl) ?_
      repeat (refine zw_go rfl rfl (fun _ _ => rfl) ?_)
      exact zw_ret rfl (fun _ _ => rfl) (⟨rfl, rfl⟩)
    | succ k ih =>
      intro i hi
      have hn := ih (i + 1) (by omega)
      rw [nI_succ, cnt] at hn
      refine zw_nx rfl (fun _ _ => rfl) ?_
      repeat (refine zw_go rfl rfl (fun _ _ => rfl) ?_)
      refine zw_br rfl (fun _ _ => rfl) (fun h9 => absurd h9 (nI_ge (a := i) (b := m) (by omega) (by omega))) (fun _ => ?_)
      repeat (refine zw_go rfl rfl (fun _ _ => rfl) ?_)

      refine zw_ix rfl (fun _ _ => rfl) (show vp_in (nI (i)) _ from vp_in_nI (by omega) (by omega)) ?_
      rw [show (nI (i)).toNatClampNeg = i from nI_clamp (by omega)]
      repeat (refine zw_go rfl rfl (fun _ _ => rfl) ?_)
      have no : ∀ j : Int32, frs (B 0) i = false → zW 0 sc miX11_fewestOf 27 [some (.ref 56), some (.int (nI m)), some (.int (nI (cnt (frs (B 0)) i))), some (.int (nI i)), some (.int 0), some (.int j)] [] (mm f I A B) (zR (mm f I A B) (.int (nI (cnt (frs (B 0)) m)))) := by
        intro j hf
        rw [if_neg (by simp [hf]), Nat.add_zero] at hn
        refine zw_nx rfl (fun _ _ => rfl) ?_
        repeat (refine zw_go rfl rfl (fun _ _ => rfl) ?_)
        refine zw_br rfl (fun _ _ => rfl) (fun (h5 : nI i ≤ j) => ?_) (fun (h5 : ¬ (nI i ≤ j)) => ?_)
        · repeat (refine zw_go rfl rfl (fun _ _ => rfl) ?_)
          rw [show ∀ q : Int32, q + Int32.ofInt 0 = q from fun q => Int32.add_zero q]
          exact zw_kp hn
        · repeat (refine zw_go rfl rfl (fun _ _ => rfl) ?_)
          rw [show ∀ q : Int32, q + Int32.ofInt 0 = q from fun q => Int32.add_zero q]
          exact zw_kp hn
      refine zw_br rfl (fun _ _ => rfl) (fun (h0 : lg_cmp (B 0 i) 0 = 0) => ?_) (fun (h0 : ¬ (lg_cmp (B 0 i) 0 = 0)) => ?_)
      · repeat (refine zw_go rfl rfl (fun _ _ => rfl) ?_)
        exact no _ (frs_0 (lg_cmp_0.mp h0))
      · have h0' : ¬ B 0 i = 0 := fun z => h0 (lg_cmp_0.mpr z)
        repeat (refine zw_go rfl rfl (fun _ _ => rfl) ?_)
        have inner : ∀ (k j : Nat), j + k = i → (∀ q, q < j → ¬ B 0 q = B 0 i) → zW 0 sc miX11_fewestOf 27 [some (.ref 56), some (.int (nI m)), some (.int (nI (cnt (frs (B 0)) i))), some (.int (nI i)), some (.int 1), some (.int (nI (j)))] [] (mm f I A B) (zR (mm f I A B) (.int (nI (cnt (frs (B 0)) m)))) := by
          intro k
          induction k with
          | zero =>
            intro j hj hl
            have e1 : j = i := by omega
            subst e1
            rw [if_pos (frs_t h0' hl), ← nI_1] at hn
            refine zw_nx rfl (fun _ _ => rfl) ?_
            repeat (refine zw_go rfl rfl (fun _ _ => rfl) ?_)
            first | refine zw_br rfl (fun _ _ => rfl) (fun _ => ?_) (fun h9 => absurd (show nI j ≤ nI j from Int32.le_refl _) h9) | refine zw_nx rfl (fun _ _ => rfl) ?_
            repeat (refine zw_go rfl rfl (fun _ _ => rfl) ?_)
            exact zw_kp hn
          | succ k ih2 =>
            intro j hj hl
            have hn2 := ih2 (j + 1) (by omega)
            rw [nI_succ] at hn2
            refine zw_nx rfl (fun _ _ => rfl) ?_
            repeat (refine zw_go rfl rfl (fun _ _ => rfl) ?_)
            refine zw_br rfl (fun _ _ => rfl) (fun h9 => absurd h9 (nI_ge (a := j) (b := i) (by omega) (by omega))) (fun _ => ?_)
            repeat (refine zw_go rfl rfl (fun _ _ => rfl) ?_)
            refine zw_ix rfl (fun _ _ => rfl) (show vp_in (nI (j)) _ from vp_in_nI (by omega) (by omega)) ?_
            rw [show (nI (j)).toNatClampNeg = j from nI_clamp (by omega)]
            repeat (refine zw_go rfl rfl (fun _ _ => rfl) ?_)
            refine zw_ix rfl (fun _ _ => rfl) (show vp_in (nI (i)) _ from vp_in_nI (by omega) (by omega)) ?_
            rw [show (nI (i)).toNatClampNeg = i from nI_clamp (by omega)]
            repeat (refine zw_go rfl rfl (fun _ _ => rfl) ?_)
            refine zw_br rfl (fun _ _ => rfl) (fun (h5 : lg_cmp (B 0 j) (B 0 i) = 0) => ?_) (fun (h5 : ¬ (lg_cmp (B 0 j) (B 0 i) = 0)) => ?_)
            · repeat (refine zw_go rfl rfl (fun _ _ => rfl) ?_)
              exact no _ (frs_f (j := j) (by omega) (lg_cmp_0.mp h5))
            · repeat (refine zw_go rfl rfl (fun _ _ => rfl) ?_)
              exact hn2 (fun q hq => by
                by_cases h6 : q = j
                · subst h6; exact fun z => h5 (lg_cmp_0.mpr z)
                · exact hl q (by omega))
        exact inner i 0 (by omega) (fun q hq => by omega)
  exact zw_kp (key m 0 (by omega))
set_option maxHeartbeats 4000000 in
set_option maxRecDepth 20000 in
theorem mFewC (m : Nat) (hm : m ≤ 48) : zC 1 sc 226 [.ref 57, .int (nI m)] (mm f I A B) (zR (mm f I A B) (.int (nI (cnt (frs (B 1)) m)))) := by
  refine zc_of hkX11_fewestOf rfl ?_
  repeat (refine zw_go rfl rfl (fun _ _ => rfl) ?_)
  have key : ∀ (k i : Nat), i + k = m → zW 0 sc miX11_fewestOf 4 [some (.ref 57), some (.int (nI m)), some (.int (nI (cnt (frs (B 1)) i))), some (.int (nI i)), none, none] [] (mm f I A B) (zR (mm f I A B) (.int (nI (cnt (frs (B 1)) m)))) := by
    intro k
    induction k with
    | zero =>
      intro i hi
      have e1 : i = m := by omega
      subst e1
      refine zw_nx rfl (fun _ _ => rfl) ?_
      repeat (refine zw_go rfl rfl (fun _ _ => rfl) ?_)
      first | refine zw_br rfl (fun _ _ => rfl) (fun _ => ?_) (fun h9 => absurd (show nI i ≤ nI i from Int32.le_refl _) h9) | refine zw_nx rfl (fun _ _ => rfl) ?_
      repeat (refine zw_go rfl rfl (fun _ _ => rfl) ?_)
      exact zw_ret rfl (fun _ _ => rfl) (⟨rfl, rfl⟩)
    | succ k ih =>
      intro i hi
      have hn := ih (i + 1) (by omega)
      rw [nI_succ, cnt] at hn
      refine zw_nx rfl (fun _ _ => rfl) ?_
      repeat (refine zw_go rfl rfl (fun _ _ => rfl) ?_)
      refine zw_br rfl (fun _ _ => rfl) (fun h9 => absurd h9 (nI_ge (a := i) (b := m) (by omega) (by omega))) (fun _ => ?_)
      repeat (refine zw_go rfl rfl (fun _ _ => rfl) ?_)

      refine zw_ix rfl (fun _ _ => rfl) (show vp_in (nI (i)) _ from vp_in_nI (by omega) (by omega)) ?_
      rw [show (nI (i)).toNatClampNeg = i from nI_clamp (by omega)]
      repeat (refine zw_go rfl rfl (fun _ _ => rfl) ?_)
      have no : ∀ j : Int32, frs (B 1) i = false → zW 0 sc miX11_fewestOf 27 [some (.ref 57), some (.int (nI m)), some (.int (nI (cnt (frs (B 1)) i))), some (.int (nI i)), some (.int 0), some (.int j)] [] (mm f I A B) (zR (mm f I A B) (.int (nI (cnt (frs (B 1)) m)))) := by
        intro j hf
        rw [if_neg (by simp [hf]), Nat.add_zero] at hn
        refine zw_nx rfl (fun _ _ => rfl) ?_
        repeat (refine zw_go rfl rfl (fun _ _ => rfl) ?_)
        refine zw_br rfl (fun _ _ => rfl) (fun (h5 : nI i ≤ j) => ?_) (fun (h5 : ¬ (nI i ≤ j)) => ?_)
        · repeat (refine zw_go rfl rfl (fun _ _ => rfl) ?_)
          rw [show ∀ q : Int32, q + Int32.ofInt 0 = q from fun q => Int32.add_zero q]
          exact zw_kp hn
        · repeat (refine zw_go rfl rfl (fun _ _ => rfl) ?_)
          rw [show ∀ q : Int32, q + Int32.ofInt 0 = q from fun q => Int32.add_zero q]
          exact zw_kp hn
      refine zw_br rfl (fun _ _ => rfl) (fun (h0 : lg_cmp (B 1 i) 0 = 0) => ?_) (fun (h0 : ¬ (lg_cmp (B 1 i) 0 = 0)) => ?_)
      · repeat (refine zw_go rfl rfl (fun _ _ => rfl) ?_)
        exact no _ (frs_0 (lg_cmp_0.mp h0))
      · have h0' : ¬ B 1 i = 0 := fun z => h0 (lg_cmp_0.mpr z)
        repeat (refine zw_go rfl rfl (fun _ _ => rfl) ?_)
        have inner : ∀ (k j : Nat), j + k = i → (∀ q, q < j → ¬ B 1 q = B 1 i) → zW 0 sc miX11_fewestOf 27 [some (.ref 57), some (.int (nI m)), some (.int (nI (cnt (frs (B 1)) i))), some (.int (nI i)), some (.int 1), some (.int (nI (j)))] [] (mm f I A B) (zR (mm f I A B) (.int (nI (cnt (frs (B 1)) m)))) := by
          intro k
          induction k with
          | zero =>
            intro j hj hl
            have e1 : j = i := by omega
            subst e1
            rw [if_pos (frs_t h0' hl), ← nI_1] at hn
            refine zw_nx rfl (fun _ _ => rfl) ?_
            repeat (refine zw_go rfl rfl (fun _ _ => rfl) ?_)
            first | refine zw_br rfl (fun _ _ => rfl) (fun _ => ?_) (fun h9 => absurd (show nI j ≤ nI j from Int32.le_refl _) h9) | refine zw_nx rfl (fun _ _ => rfl) ?_
            repeat (refine zw_go rfl rfl (fun _ _ => rfl) ?_)
            exact zw_kp hn
          | succ k ih2 =>
            intro j hj hl
            have hn2 := ih2 (j + 1) (by omega)
            rw [nI_succ] at hn2
            refine zw_nx rfl (fun _ _ => rfl) ?_
            repeat (refine zw_go rfl rfl (fun _ _ => rfl) ?_)
            refine zw_br rfl (fun _ _ => rfl) (fun h9 => absurd h9 (nI_ge (a := j) (b := i) (by omega) (by omega))) (fun _ => ?_)
            repeat (refine zw_go rfl rfl (fun _ _ => rfl) ?_)
            refine zw_ix rfl (fun _ _ => rfl) (show vp_in (nI (j)) _ from vp_in_nI (by omega) (by omega)) ?_
            rw [show (nI (j)).toNatClampNeg = j from nI_clamp (by omega)]
            repeat (refine zw_go rfl rfl (fun _ _ => rfl) ?_)
            refine zw_ix rfl (fun _ _ => rfl) (show vp_in (nI (i)) _ from vp_in_nI (by omega) (by omega)) ?_
            rw [show (nI (i)).toNatClampNeg = i from nI_clamp (by omega)]
            repeat (refine zw_go rfl rfl (fun _ _ => rfl) ?_)
            refine zw_br rfl (fun _ _ => rfl) (fun (h5 : lg_cmp (B 1 j) (B 1 i) = 0) => ?_) (fun (h5 : ¬ (lg_cmp (B 1 j) (B 1 i) = 0)) => ?_)
            · repeat (refine zw_go rfl rfl (fun _ _ => rfl) ?_)
              exact no _ (frs_f (j := j) (by omega) (lg_cmp_0.mp h5))
            · repeat (refine zw_go rfl rfl (fun _ _ => rfl) ?_)
              exact hn2 (fun q hq => by
                by_cases h6 : q = j
                · subst h6; exact fun z => h5 (lg_cmp_0.mpr z)
                · exact hl q (by omega))
        exact inner i 0 (by omega) (fun q hq => by omega)
  exact zw_kp (key m 0 (by omega))
/-- the fewest treadles, the fewest shafts -/
def nFew (V : Nat → Int32) (t : Bool) (w h : Nat) : Nat := if t then cnt (frs (fun p => mk (fun e => vUp V e p) w)) h else cnt (frs (fun e => mk (fun p => vUp V e p) h)) w
set_option maxHeartbeats 4000000 in
set_option maxRecDepth 20000 in
theorem xFewest (t : Bool) (hW : WH w h I J A B) : zC 5 sc 136 [.ref 0, .int (bb t)] (xm I J A B tl) (fun M r => r = some (.int (nI (nFew (A 3) t w h))) ∧ XQ tl w h I J A B M) := by
  refine zc_of hkX10_fewest rfl ?_
  repeat (refine zw_go rfl rfl (fun _ _ => rfl) ?_)
  refine zw_call rfl (fun _ _ => rfl) (xWv sc I J A B tl w h hW) (by decide) ?_
  rintro M1 r1 ⟨rfl, I', A', B', rfl, hW2, hC, hK⟩
  have hW3 := hW2
  obtain ⟨h0, h1, h7, h8, hw1, hw, hh1, hh, hJ, hV, hC', hR⟩ := hW2
  unfold nFew
  cases t
  · repeat (refine zw_go rfl rfl (fun _ _ => rfl) ?_)
    rw [h0]
    refine zw_call rfl (fun _ _ => rfl) (xFewC sc I' J A' B' tl w hw) (by decide) ?_
    rintro M1 r1 ⟨rfl, rfl⟩
    repeat (refine zw_go rfl rfl (fun _ _ => rfl) ?_)
    exact zw_ret rfl (fun _ _ => rfl) (⟨by rw [if_neg (by simp), frs_cong (k := fun e => mk (fun p => vUp (A 3) e p) h) (fun i hi => hC.2.2.1 i hi)], I', A', B', rfl, hW3, wk_xk hK⟩)
  · repeat (refine zw_go rfl rfl (fun _ _ => rfl) ?_)
    rw [h1]
    refine zw_call rfl (fun _ _ => rfl) (xFewR sc I' J A' B' tl h hh) (by decide) ?_
    rintro M1 r1 ⟨rfl, rfl⟩
    repeat (refine zw_go rfl rfl (fun _ _ => rfl) ?_)
    exact zw_ret rfl (fun _ _ => rfl) (⟨by rw [if_pos rfl, frs_cong (k := fun p => mk (fun e => vUp (A 3) e p) w) (fun i hi => hC.2.1 i hi)], I', A', B', rfl, hW3, wk_xk hK⟩)
set_option maxHeartbeats 4000000 in
set_option maxRecDepth 20000 in
theorem mFewest (t : Bool) (hM : MH I A w h n V) : zC 5 sc 227 [.ref 47, .int (bb t)] (mm f I A B) (fun M r => r = some (.int (nI (nFew V t w h))) ∧ MR f I A B M) := by
  have hM' := hM
  obtain ⟨h0, h1, hw1, hw, hh1, hh, h4, hn, hv, hV⟩ := hM
  refine zc_of hkX11_fewest rfl ?_
  repeat (refine zw_go rfl rfl (fun _ _ => rfl) ?_)
  refine zw_call rfl (fun _ _ => rfl) (mD sc I A B f w h n V hM') (by decide) ?_
  rintro M1 r1 ⟨rfl, A', B', rfl, hD⟩
  unfold nFew
  cases t
  · repeat (refine zw_go rfl rfl (fun _ _ => rfl) ?_)
    rw [h0]
    refine zw_call rfl (fun _ _ => rfl) (mFewC sc I A' B' f w hw) (by decide) ?_
    rintro M1 r1 ⟨rfl, rfl⟩
    repeat (refine zw_go rfl rfl (fun _ _ => rfl) ?_)
    exact zw_ret rfl (fun _ _ => rfl) (⟨by rw [if_neg (by simp), frs_cong (k := fun e => mk (fun p => vUp V e p) h) (fun i hi => hD.2.2.2.2.2.1 i hi)], I, A', B', rfl, dr_mk hD⟩)
  · repeat (refine zw_go rfl rfl (fun _ _ => rfl) ?_)
    rw [h1]
    refine zw_call rfl (fun _ _ => rfl) (mFewR sc I A' B' f h hh) (by decide) ?_
    rintro M1 r1 ⟨rfl, rfl⟩
    repeat (refine zw_go rfl rfl (fun _ _ => rfl) ?_)
    exact zw_ret rfl (fun _ _ => rfl) (⟨by rw [if_pos rfl, frs_cong (k := fun p => mk (fun e => vUp V e p) w) (fun i hi => hD.2.2.2.2.1 i hi)], I, A', B', rfl, dr_mk hD⟩)
end

/-! shifted -/
/-- SEEN is THE CLOTH, moved -/
def Mv (V : Nat → Int32) (S : Nat → Nat → Bool) (w h dx dy : Nat) : Prop := ∀ x y, x < w → y < h → S x y = vUp V ((x + w - dx) % w) ((y + h - dy) % h)
/-- the first by dy, then dx -/
def Sh (P : Nat → Nat → Prop) (w h : Nat) (ends : Bool) (r : Int32) : Prop := (∃ dy dx, dy < h ∧ dx < w ∧ P dx dy ∧ (∀ b a, a < w → b < dy → ¬ P a b) ∧ (∀ a, a < dx → ¬ P a dy) ∧ r = nI (if ends then dx else dy)) ∨ ((∀ b a, a < w → b < h → ¬ P a b) ∧ r = -1)
theorem sh_uniq {P : Nat → Nat → Prop} {w h : Nat} {ends : Bool} {r q : Int32} (h1 : Sh P w h ends r) (h2 : Sh P w h ends q) : r = q := by
  rcases h1 with ⟨y, x, a1, a2, a3, a4, a5, a6⟩ | ⟨a1, a2⟩
  · rcases h2 with ⟨y', x', b1, b2, b3, b4, b5, b6⟩ | ⟨b1, b2⟩
    · have e1 : y = y' := by
        rcases Nat.lt_trichotomy y y' with h | h | h
        · exact absurd a3 (b4 y x a2 h)
        · exact h
        · exact absurd b3 (a4 y' x' b2 h)
      subst e1
      have e2 : x = x' := by
        rcases Nat.lt_trichotomy x x' with h | h | h
        · exact absurd a3 (b5 x h)
        · exact h
        · exact absurd b3 (a5 x' h)
      subst e2
      rw [a6, b6]
    · exact absurd a3 (b1 y x a2 a1)
  · rcases h2 with ⟨y', x', b1, b2, b3, b4, b5, b6⟩ | ⟨b1, b2⟩
    · exact absurd b3 (a1 y' x' b2 b1)
    · rw [a2, b2]
theorem add_mod1 {a w : Nat} (h1 : w ≤ a) (h2 : a < w + w) : a % w = a - w := by
  rw [Nat.mod_eq_sub_mod h1, Nat.mod_eq_of_lt (by omega)]
/-- a place, moved back -/
def bk (w d x : Nat) : Nat := if d ≤ x then x - d else x + w - d
theorem bk_mod {w d x : Nat} (hx : x < w) (hd : d < w) : (x + w - d) % w = bk w d x := by
  unfold bk
  by_cases h : d ≤ x
  · rw [if_pos h, add_mod1 (by omega) (by omega)]; omega
  · rw [if_neg h, Nat.mod_eq_of_lt (by omega)]
theorem bk_lt {w d x : Nat} (hx : x < w) (hd : d < w) : bk w d x < w := by
  unfold bk
  split <;> omega
theorem sumN_bk {g : Nat → Nat} {h d : Nat} (hd : d < h) : sumN (fun y => g (bk h d y)) h = sumN g h := by
  have e1 : sumN (fun y => g (bk h d y)) (d + (h - d)) = sumN (fun y => g (h - d + y)) d + sumN g (h - d) := by
    rw [sumN_app]
    congr 1
    · refine sumN_cong (fun i hi => ?_)
      unfold bk
      rw [if_neg (by omega)]
      congr 1
      omega
    · refine sumN_cong (fun i hi => ?_)
      unfold bk
      rw [if_pos (by omega)]
      congr 1
      omega
  have e2 : sumN g (h - d + d) = sumN g (h - d) + sumN (fun y => g (h - d + y)) d := sumN_app
  rw [show d + (h - d) = h by omega] at e1
  rw [show h - d + d = h by omega] at e2
  omega
theorem cnt_bk {p : Nat → Bool} {w d : Nat} (hd : d < w) : cnt (fun x => p (bk w d x)) w = cnt p w := by
  rw [cnt_sum, cnt_sum]
  exact sumN_bk (g := fun i => if p i then 1 else 0) hd
/-- moved: as many cells -/
theorem mv_cnt {V : Nat → Int32} {S : Nat → Nat → Bool} {w h dx dy : Nat} (hx : dx < w) (hy : dy < h) (hm : Mv V S w h dx dy) : sumN (fun p => cnt (fun e => S e p) w) h = nUp V w h := by
  unfold nUp
  rw [← sumN_bk (g := fun p => cnt (fun e => vUp V e p) w) hy]
  refine sumN_cong (fun p hp => ?_)
  rw [← cnt_bk (p := fun e => vUp V e (bk h dy p)) hx]
  refine cnt_cong (fun e he => ?_)
  rw [hm e p he hp, bk_mod he hx, bk_mod hp hy]
theorem moved_mk {p : Nat → Bool} {w d : Nat} (hw : w ≤ 48) (hd : d ≤ w) : ((mk p w <<< ((nI d).toInt64 &&& 63)) ||| ((mk p w).toUInt64 >>> ((nI w - nI d).toInt64.toUInt64 &&& Int64.toUInt64 63)).toInt64) &&& (((1 : Int64) <<< ((nI w).toInt64 &&& 63)) - 1) = mk (fun x => p (bk w d x)) w := mk_eq (by omega) (fun i hi => by
  rw [show ((1 : Int64) <<< ((nI w).toInt64 &&& 63)) - 1 = bitL w - 1 from rfl, lb_and, lb_or, lb_shl _ (by omega), nI_sub (by omega), lb_ushr _ (by omega), lb_low_n (by omega), lb_mk (by omega), lb_mk (by omega)]
  by_cases h1 : i < w
  · unfold bk
    by_cases h2 : d ≤ i
    · rw [if_pos h2]
      have h3 : ¬ i < d := by omega
      have h4 : i - d < w := by omega
      have h5 : ¬ w - d + i < w := by omega
      simp [hi, h1, h3, h4, h5]
    · rw [if_neg h2]
      have h3 : i < d := by omega
      have h5 : w - d + i < w := by omega
      have h6 : w - d + i = i + w - d := by omega
      simp [h1, h3, h5, h6]
      intro _
      omega
  · simp [h1])
section
variable (sc : sm_S) (I : Nat → Int32) (J : Nat → Int64) (A : Nat → Nat → Int32) (B : Nat → Nat → Int64) (tl : sm_M) (f : Nat → va_E) (w h n : Nat) (V : Nat → Int32) (S : Nat → Nat → Bool)
set_option maxHeartbeats 4000000 in
set_option maxRecDepth 20000 in
theorem cWrapped (M : sm_M) (a b : Nat) (ha : a < 2 ^ 30) (hb : b < 2 ^ 30) : zC 1 sc 100 [.int (nI a), .int (nI b)] M (zR M (.int (nI (if a < b then a else a - b)))) := by
  refine zc_of hkX8_wrapped rfl ?_
  repeat (refine zw_go rfl rfl (fun _ _ => rfl) ?_)
  refine zw_br rfl (fun _ _ => rfl) (fun (hc : nI b ≤ nI a) => ?_) (fun (hc : ¬ (nI b ≤ nI a)) => ?_)
  · rw [nI_leI (by omega) (by omega)] at hc
    repeat (refine zw_go rfl rfl (fun _ _ => rfl) ?_)
    exact zw_ret rfl (fun _ _ => rfl) (⟨rfl, by rw [if_neg (by omega), ← nI_sub hc]⟩)
  · rw [nI_leI (by omega) (by omega)] at hc
    repeat (refine zw_go rfl rfl (fun _ _ => rfl) ?_)
    exact zw_ret rfl (fun _ _ => rfl) (⟨rfl, by rw [if_pos (by omega)]⟩)
set_option maxHeartbeats 4000000 in
set_option maxRecDepth 20000 in
theorem xRowAtR (p : Nat) (hp : p < 48) : zC 1 sc 101 [.ref 9, .int (nI p)] (xm I J A B tl) (zR (xm I J A B tl) (.long (B 0 p))) := by
  refine zc_of hkX8_rowAt rfl ?_
  repeat (refine zw_go rfl rfl (fun _ _ => rfl) ?_)
  first | refine zw_br rfl (fun _ _ => rfl) (fun h9 => absurd h9 (show ¬ nI p < (0 : Int32) from nI_pos (by omega))) (fun _ => ?_) | refine zw_nx rfl (fun _ _ => rfl) ?_
  repeat (refine zw_go rfl rfl (fun _ _ => rfl) ?_)
  refine zw_br rfl (fun _ _ => rfl) (fun h9 => absurd h9 (nI_ge (a := p) (b := 48) (by omega) (by omega))) (fun _ => ?_)
  repeat (refine zw_go rfl rfl (fun _ _ => rfl) ?_)
  refine zw_ix rfl (fun _ _ => rfl) (show vp_in (nI (p)) _ from vp_in_nI (by omega) (by omega)) ?_
  rw [show (nI (p)).toNatClampNeg = p from nI_clamp (by omega)]
  repeat (refine zw_go rfl rfl (fun _ _ => rfl) ?_)
  exact zw_ret rfl (fun _ _ => rfl) (⟨rfl, rfl⟩)
set_option maxHeartbeats 4000000 in
set_option maxRecDepth 20000 in
theorem xRowAtS (p : Nat) (hp : p < 48) : zC 1 sc 101 [.ref 42, .int (nI p)] (xm I J A B tl) (zR (xm I J A B tl) (.long (B 13 p))) := by
  refine zc_of hkX8_rowAt rfl ?_
  repeat (refine zw_go rfl rfl (fun _ _ => rfl) ?_)
  first | refine zw_br rfl (fun _ _ => rfl) (fun h9 => absurd h9 (show ¬ nI p < (0 : Int32) from nI_pos (by omega))) (fun _ => ?_) | refine zw_nx rfl (fun _ _ => rfl) ?_
  repeat (refine zw_go rfl rfl (fun _ _ => rfl) ?_)
  refine zw_br rfl (fun _ _ => rfl) (fun h9 => absurd h9 (nI_ge (a := p) (b := 48) (by omega) (by omega))) (fun _ => ?_)
  repeat (refine zw_go rfl rfl (fun _ _ => rfl) ?_)
  refine zw_ix rfl (fun _ _ => rfl) (show vp_in (nI (p)) _ from vp_in_nI (by omega) (by omega)) ?_
  rw [show (nI (p)).toNatClampNeg = p from nI_clamp (by omega)]
  repeat (refine zw_go rfl rfl (fun _ _ => rfl) ?_)
  exact zw_ret rfl (fun _ _ => rfl) (⟨rfl, rfl⟩)
/-- a place, moved on -/
def fw (h d x : Nat) : Nat := if x + d < h then x + d else x + d - h
theorem fw_lt {h d x : Nat} (hx : x < h) (hd : d ≤ h) : fw h d x < h := by
  unfold fw
  split <;> omega
theorem bk_fw {h d x : Nat} (hx : x < h) (hd : d < h) : bk h d (fw h d x) = x := by
  unfold fw bk
  split <;> split <;> omega
theorem fw_bk {h d x : Nat} (hx : x < h) (hd : d < h) : fw h d (bk h d x) = x := by
  unfold fw bk
  split <;> split <;> omega
/-- all rows, from one on -/
theorem mv_rows {V : Nat → Int32} {S : Nat → Nat → Bool} {w h dx dy q : Nat} (hw : w ≤ 48) (hx : dx < w) (hy : dy < h) (hq : q < h) : Mv V S w h dx dy ↔ ∀ i, i < h → mk (fun e => S e (fw h dy (fw h i q))) w = mk (fun x => vUp V (bk w dx x) (fw h i q)) w := by
  constructor
  · intro hm i hi
    have l1 := fw_lt (d := i) hq (by omega)
    refine mk_cong (fun e he => ?_)
    rw [hm e _ he (fw_lt l1 (by omega)), bk_mod he hx, bk_mod (fw_lt l1 (by omega)) hy, bk_fw l1 hy]
  · intro hm x y hx' hy'
    have l1 := bk_lt hy' hy
    have l2 : bk h q (bk h dy y) < h := bk_lt l1 hq
    have e1 : fw h (bk h q (bk h dy y)) q = bk h dy y := by
      have := fw_bk l1 hq
      unfold fw at this ⊢
      rw [Nat.add_comm q]
      exact this
    have h1 := (mk_inj (by omega)).mp (hm (bk h q (bk h dy y)) l2) x hx'
    rw [e1, fw_bk hy' hy] at h1
    rw [h1, bk_mod hx' hx, bk_mod hy' hy]
set_option maxHeartbeats 4000000 in
set_option maxRecDepth 20000 in
theorem xIsMoved (q dx dy : Nat) (h7 : I 7 = nI w) (h8 : I 8 = nI h) (hw : w ≤ 48) (hh : h ≤ 48) (hx : dx < w) (hy : dy < h) (hq : q < h) (hB : ∀ p, p < h → B 0 p = mk (fun e => vUp V e p) w) (hS : ∀ p, p < h → B 13 p = mk (fun e => S e p) w) : zC 3 sc 99 [.ref 41, .int (nI q), .int (nI dx), .int (nI dy)] (xm I J A B tl) (fun M r => M = xm I J A B tl ∧ ((Mv V S w h dx dy ∧ r = some (.int 1)) ∨ (¬ Mv V S w h dx dy ∧ r = some (.int 0)))) := by
  refine zc_of hkX8_isMoved rfl ?_
  repeat (refine zw_go rfl rfl (fun _ _ => rfl) ?_)
  rw [h8]
  have key : ∀ (k i : Nat), i + k = h → (∀ j, j < i → mk (fun e => S e (fw h dy (fw h j q))) w = mk (fun x => vUp V (bk w dx x) (fw h j q)) w) → zW 2 sc miX8_isMoved 15 [some (.ref 41), some (.int (nI q)), some (.int (nI dx)), some (.int (nI dy)), some (.int 1), some (.int (nI h)), some (.int (nI i)), none, none] [] (xm I J A B tl) (fun M r => M = xm I J A B tl ∧ ((Mv V S w h dx dy ∧ r = some (.int 1)) ∨ (¬ Mv V S w h dx dy ∧ r = some (.int 0)))) := by
    intro k
    induction k with
    | zero =>
      intro i hi hl
      have e1 : i = h := by omega
      refine zw_nx rfl (fun _ _ => rfl) ?_
      repeat (refine zw_go rfl rfl (fun _ _ => rfl) ?_)
      first | refine zw_br rfl (fun _ _ => rfl) (fun _ => ?_) (fun h9 => absurd (show nI h ≤ nI i from nI_le (by omega) (by omega)) h9) | refine zw_nx rfl (fun _ _ => rfl) ?_
      repeat (refine zw_go rfl rfl (fun _ _ => rfl) ?_)
      exact zw_ret rfl (fun _ _ => rfl) (⟨rfl, Or.inl ⟨(mv_rows hw hx hy hq).mpr (fun j hj => hl j (by omega)), rfl⟩⟩)
    | succ k ih =>
      intro i hi hl
      have hn := ih (i + 1) (by omega)
      rw [nI_succ] at hn
      have l1 : fw h i q < h := fw_lt hq (by omega)
      have l2 : fw h dy (fw h i q) < h := fw_lt l1 (by omega)
      refine zw_nx rfl (fun _ _ => rfl) ?_
      repeat (refine zw_go rfl rfl (fun _ _ => rfl) ?_)
      refine zw_br rfl (fun _ _ => rfl) (fun h9 => absurd h9 (nI_ge (a := i) (b := h) (by omega) (by omega))) (fun _ => ?_)
      repeat (refine zw_go rfl rfl (fun _ _ => rfl) ?_)
      rw [nI_add q i]
      refine zw_call rfl (fun _ _ => rfl) (cWrapped sc (xm I J A B tl) (q + i) h (by omega) (by omega)) (by decide) ?_
      rintro M1 r1 ⟨rfl, rfl⟩
      rw [show (if q + i < h then q + i else q + i - h) = fw h i q from rfl]
      repeat (refine zw_go rfl rfl (fun _ _ => rfl) ?_)
      rw [nI_add _ dy]
      refine zw_call rfl (fun _ _ => rfl) (cWrapped sc (xm I J A B tl) (fw h i q + dy) h (by omega) (by omega)) (by decide) ?_
      rintro M1 r1 ⟨rfl, rfl⟩
      rw [show (if fw h i q + dy < h then fw h i q + dy else fw h i q + dy - h) = fw h dy (fw h i q) from rfl]
      repeat (refine zw_go rfl rfl (fun _ _ => rfl) ?_)
      refine zw_call rfl (fun _ _ => rfl) (xRowAtS sc I J A B tl (fw h dy (fw h i q)) (by omega)) (by decide) ?_
      rintro M1 r1 ⟨rfl, rfl⟩
      repeat (refine zw_go rfl rfl (fun _ _ => rfl) ?_)
      refine zw_call rfl (fun _ _ => rfl) (xRowAtR sc I J A B tl (fw h i q) (by omega)) (by decide) ?_
      rintro M1 r1 ⟨rfl, rfl⟩
      repeat (refine zw_go rfl rfl (fun _ _ => rfl) ?_)
      rw [h7]
      refine zw_call rfl (fun _ _ => rfl) (cMoved sc (xm I J A B tl) (B 0 (fw h i q)) (nI w) (nI dx)) (by decide) ?_
      rintro M1 r1 ⟨rfl, rfl⟩
      rw [hB _ l1, hS _ l2, moved_mk hw (Nat.le_of_lt hx)]
      repeat (refine zw_go rfl rfl (fun _ _ => rfl) ?_)
      refine zw_br rfl (fun _ _ => rfl) (fun (hc : lg_cmp (mk (fun e => S e (fw h dy (fw h i q))) w) (mk (fun x => vUp V (bk w dx x) (fw h i q)) w) = 0) => ?_) (fun (hc : ¬ (lg_cmp (mk (fun e => S e (fw h dy (fw h i q))) w) (mk (fun x => vUp V (bk w dx x) (fw h i q)) w) = 0)) => ?_)
      · repeat (refine zw_go rfl rfl (fun _ _ => rfl) ?_)
        exact zw_kp (hn (fun j hj => by
          by_cases h5 : j = i
          · subst h5; exact lg_cmp_0.mp hc
          · exact hl j (by omega)))
      · have hno : ¬ Mv V S w h dx dy := fun z => hc (lg_cmp_0.mpr ((mv_rows hw hx hy hq).mp z i (by omega)))
        repeat (refine zw_go rfl rfl (fun _ _ => rfl) ?_)
        refine zw_nx rfl (fun _ _ => rfl) ?_
        repeat (refine zw_go rfl rfl (fun _ _ => rfl) ?_)
        refine zw_br rfl (fun _ _ => rfl) (fun (h5 : nI h ≤ nI i + 1) => ?_) (fun (h5 : ¬ (nI h ≤ nI i + 1)) => ?_)
        · repeat (refine zw_go rfl rfl (fun _ _ => rfl) ?_)
          exact zw_ret rfl (fun _ _ => rfl) (⟨rfl, Or.inr ⟨hno, rfl⟩⟩)
        · repeat (refine zw_go rfl rfl (fun _ _ => rfl) ?_)
          exact zw_ret rfl (fun _ _ => rfl) (⟨rfl, Or.inr ⟨hno, rfl⟩⟩)
  exact zw_kp (key h 0 (by omega) (fun j hj => by omega))
set_option maxHeartbeats 4000000 in
set_option maxRecDepth 20000 in
theorem xMixed (h1 : I 1 = nI h) (hh1 : 1 ≤ h) (hh : h ≤ 48) : zC 1 sc 160 [.ref 0] (xm I J A B tl) (fun M r => M = xm I J A B tl ∧ ∃ q, q < h ∧ r = some (.int (nI q))) := by
  refine zc_of hkX10_firstMixedPick rfl ?_
  repeat (refine zw_go rfl rfl (fun _ _ => rfl) ?_)
  have key : ∀ (k i : Nat), i + k = h → zW 0 sc miX10_firstMixedPick 2 [some (.ref 0), some (.int (nI i))] [] (xm I J A B tl) (fun M r => M = xm I J A B tl ∧ ∃ q, q < h ∧ r = some (.int (nI q))) := by
    intro k
    induction k with
    | zero =>
      intro i hi
      refine zw_nx rfl (fun _ _ => rfl) ?_
      repeat (refine zw_go rfl rfl (fun _ _ => rfl) ?_)
      first | refine zw_br rfl (fun _ _ => rfl) (fun _ => ?_) (fun h9 => absurd (show I 1 ≤ nI i by rw [h1]; exact nI_le (by omega) (by omega)) h9) | refine zw_nx rfl (fun _ _ => rfl) ?_
      repeat (refine zw_go rfl rfl (fun _ _ => rfl) ?_)
      exact zw_ret rfl (fun _ _ => rfl) (⟨rfl, 0, by omega, rfl⟩)
    | succ k ih =>
      intro i hi
      have hn := ih (i + 1) (by omega)
      rw [nI_succ] at hn
      refine zw_nx rfl (fun _ _ => rfl) ?_
      repeat (refine zw_go rfl rfl (fun _ _ => rfl) ?_)
      first | refine zw_br rfl (fun _ _ => rfl) (fun h9 => absurd h9 (show ¬ I 1 ≤ nI i by rw [h1]; exact nI_ge (by omega) (by omega))) (fun _ => ?_) | refine zw_nx rfl (fun _ _ => rfl) ?_
      repeat (refine zw_go rfl rfl (fun _ _ => rfl) ?_)
      refine zw_ix rfl (fun _ _ => rfl) (show vp_in (nI (i)) _ from vp_in_nI (by omega) (by omega)) ?_
      rw [show (nI (i)).toNatClampNeg = i from nI_clamp (by omega)]
      repeat (refine zw_go rfl rfl (fun _ _ => rfl) ?_)
      refine zw_br rfl (fun _ _ => rfl) (fun (hc : lg_cmp (B 0 i) 0 = 0) => ?_) (fun (hc : ¬ (lg_cmp (B 0 i) 0 = 0)) => ?_)
      · repeat (refine zw_go rfl rfl (fun _ _ => rfl) ?_)
        exact zw_kp hn
      · repeat (refine zw_go rfl rfl (fun _ _ => rfl) ?_)
        refine zw_ix rfl (fun _ _ => rfl) (show vp_in (nI (i)) _ from vp_in_nI (by omega) (by omega)) ?_
        rw [show (nI (i)).toNatClampNeg = i from nI_clamp (by omega)]
        repeat (refine zw_go rfl rfl (fun _ _ => rfl) ?_)
        refine zw_br rfl (fun _ _ => rfl) (fun (hd : lg_cmp (B 0 i) (J 0) = 0) => ?_) (fun (hd : ¬ (lg_cmp (B 0 i) (J 0) = 0)) => ?_)
        · repeat (refine zw_go rfl rfl (fun _ _ => rfl) ?_)
          exact zw_kp hn
        · repeat (refine zw_go rfl rfl (fun _ _ => rfl) ?_)
          exact zw_ret rfl (fun _ _ => rfl) (⟨rfl, i, by omega, rfl⟩)
  exact zw_kp (key h 0 (by omega))
set_option maxHeartbeats 4000000 in
set_option maxRecDepth 20000 in
theorem xShifted (ends : Bool) (hW : WH w h I J A B) (hS : SOk B w h S) : zC 6 sc 144 [.ref 0, .int (bb ends)] (xm I J A B tl) (fun M r => (∃ q, r = some (.int q) ∧ Sh (fun dx dy => Mv (A 3) S w h dx dy) w h ends q) ∧ XQ tl w h I J A B M) := by
  refine zc_of hkX10_shifted rfl ?_
  repeat (refine zw_go rfl rfl (fun _ _ => rfl) ?_)
  refine zw_call rfl (fun _ _ => rfl) (xCountS sc I J A B tl) (by decide) ?_
  rintro M1 r1 ⟨rfl, rfl⟩
  repeat (refine zw_go rfl rfl (fun _ _ => rfl) ?_)
  refine zw_call rfl (fun _ _ => rfl) (xCellsUp sc I J A B tl w h hW) (by decide) ?_
  rintro M1 r1 ⟨rfl, I', A', B', rfl, hW2, hC, hK⟩
  have hW3 := hW2
  obtain ⟨h0, h1, h7, h8, hw1, hw, hh1, hh, hJ, hV, hC', hR⟩ := hW2
  have hQ : XQ tl w h I J A B (xm I' J A' B' tl) := ⟨I', A', B', rfl, hW3, wk_xk hK⟩
  have hS13 : ∀ p, p < h → B' 13 p = mk (fun e => S e p) w := fun p hp => by rw [hK.2.2.2 13 (by decide)]; exact hS.1 p hp
  have l1 : sumN (fun p => cnt (fun e => S e p) w) h ≤ 48 * 48 := Nat.le_trans (sumN_le (m := 48) (fun i _ => Nat.le_trans cnt_le hw)) (Nat.mul_le_mul_right _ hh)
  have l2 : nUp (A 3) w h ≤ 48 * 48 := Nat.le_trans (sumN_le (m := 48) (fun i _ => Nat.le_trans cnt_le hw)) (Nat.mul_le_mul_right _ hh)
  rw [rows_sum hw hh hS.1 hS.2.1]
  repeat (refine zw_go rfl rfl (fun _ _ => rfl) ?_)
  refine zw_br rfl (fun _ _ => rfl) (fun (hc : nI (sumN (fun p => cnt (fun e => S e p) w) h) = nI (nUp (A 3) w h)) => ?_) (fun (hc : ¬ (nI (sumN (fun p => cnt (fun e => S e p) w) h) = nI (nUp (A 3) w h))) => ?_)
  · repeat (refine zw_go rfl rfl (fun _ _ => rfl) ?_)
    refine zw_call rfl (fun _ _ => rfl) (xMixed sc I' J A' B' tl h h1 hh1 hh) (by decide) ?_
    rintro M1 r1 ⟨rfl, q, hq, rfl⟩
    repeat (refine zw_go rfl rfl (fun _ _ => rfl) ?_)
    have key : ∀ (k y : Nat), y + k = h → (∀ b a, a < w → b < y → ¬ Mv (A 3) S w h a b) → zW 5 sc miX10_shifted 26 [some (.ref 0), some (.int (bb ends)), some (.int (nI q)), some (.int (nI y)), none] [] (xm I' J A' B' tl) (fun M r => (∃ q, r = some (.int q) ∧ Sh (fun dx dy => Mv (A 3) S w h dx dy) w h ends q) ∧ XQ tl w h I J A B M) := by
      intro k
      induction k with
      | zero =>
        intro y hy hl
        refine zw_nx rfl (fun _ _ => rfl) ?_
        repeat (refine zw_go rfl rfl (fun _ _ => rfl) ?_)
        first | refine zw_br rfl (fun _ _ => rfl) (fun _ => ?_) (fun h9 => absurd (show I' 1 ≤ nI y by rw [h1]; exact nI_le (by omega) (by omega)) h9) | refine zw_nx rfl (fun _ _ => rfl) ?_
        repeat (refine zw_go rfl rfl (fun _ _ => rfl) ?_)
        exact zw_ret rfl (fun _ _ => rfl) (⟨⟨-1, rfl, Or.inr ⟨fun b a ha hb => hl b a ha (by omega), rfl⟩⟩, hQ⟩)
      | succ k ih =>
        intro y hy hl
        refine zw_nx rfl (fun _ _ => rfl) ?_
        repeat (refine zw_go rfl rfl (fun _ _ => rfl) ?_)
        first | refine zw_br rfl (fun _ _ => rfl) (fun h9 => absurd h9 (show ¬ I' 1 ≤ nI y by rw [h1]; exact nI_ge (by omega) (by omega))) (fun _ => ?_) | refine zw_nx rfl (fun _ _ => rfl) ?_
        repeat (refine zw_go rfl rfl (fun _ _ => rfl) ?_)
        have inner : ∀ (k x : Nat), x + k = w → (∀ a, a < x → ¬ Mv (A 3) S w h a y) → zW 5 sc miX10_shifted 37 [some (.ref 0), some (.int (bb ends)), some (.int (nI q)), some (.int (nI y)), some (.int (nI x))] [] (xm I' J A' B' tl) (fun M r => (∃ q, r = some (.int q) ∧ Sh (fun dx dy => Mv (A 3) S w h dx dy) w h ends q) ∧ XQ tl w h I J A B M) := by
          intro k
          induction k with
          | zero =>
            intro x hx hl2
            have hn := ih (y + 1) (by omega) (fun b a ha hb => by
              by_cases h5 : b = y
              · subst h5; exact hl2 a (by omega)
              · exact hl b a ha (by omega))
            rw [nI_succ] at hn
            refine zw_nx rfl (fun _ _ => rfl) ?_
            repeat (refine zw_go rfl rfl (fun _ _ => rfl) ?_)
            first | refine zw_br rfl (fun _ _ => rfl) (fun _ => ?_) (fun h9 => absurd (show I' 0 ≤ nI x by rw [h0]; exact nI_le (by omega) (by omega)) h9) | refine zw_nx rfl (fun _ _ => rfl) ?_
            repeat (refine zw_go rfl rfl (fun _ _ => rfl) ?_)
            exact zw_kp hn
          | succ k ih2 =>
            intro x hx hl2
            refine zw_nx rfl (fun _ _ => rfl) ?_
            repeat (refine zw_go rfl rfl (fun _ _ => rfl) ?_)
            first | refine zw_br rfl (fun _ _ => rfl) (fun h9 => absurd h9 (show ¬ I' 0 ≤ nI x by rw [h0]; exact nI_ge (by omega) (by omega))) (fun _ => ?_) | refine zw_nx rfl (fun _ _ => rfl) ?_
            repeat (refine zw_go rfl rfl (fun _ _ => rfl) ?_)
            refine zw_call rfl (fun _ _ => rfl) (xIsMoved sc I' J A' B' tl w h (A 3) S q x y h7 h8 hw hh (by omega) (by omega) hq hC.2.1 hS13) (by decide) ?_
            rintro M1 r1 ⟨rfl, ⟨ha, rfl⟩ | ⟨ha, rfl⟩⟩
            · cases ends
              · repeat (refine zw_go rfl rfl (fun _ _ => rfl) ?_)
                exact zw_ret rfl (fun _ _ => rfl) (⟨⟨nI y, rfl, Or.inl ⟨y, x, by omega, by omega, ha, hl, hl2, rfl⟩⟩, hQ⟩)
              · repeat (refine zw_go rfl rfl (fun _ _ => rfl) ?_)
                exact zw_ret rfl (fun _ _ => rfl) (⟨⟨nI x, rfl, Or.inl ⟨y, x, by omega, by omega, ha, hl, hl2, rfl⟩⟩, hQ⟩)
            · have hn := ih2 (x + 1) (by omega) (fun a ha2 => by
                by_cases h5 : a = x
                · subst h5; exact ha
                · exact hl2 a (by omega))
              rw [nI_succ] at hn
              repeat (refine zw_go rfl rfl (fun _ _ => rfl) ?_)
              exact zw_kp hn
        exact zw_kp (inner w 0 (by omega) (fun a ha => by omega))
    exact zw_kp (key h 0 (by omega) (fun b a _ hb => by omega))
  · repeat (refine zw_go rfl rfl (fun _ _ => rfl) ?_)
    exact zw_ret rfl (fun _ _ => rfl) (⟨⟨-1, rfl, Or.inr ⟨fun b a ha hb hm => hc (by rw [mv_cnt ha hb hm]), rfl⟩⟩, hQ⟩)
theorem nI_rem {a w d x : Nat} (ha : a = x + w - d) (hx : x < w) (hd : d < w) (hw : w ≤ 48) : (nI x - nI d + nI w) - (nI x - nI d + nI w) / nI w * nI w = nI (bk w d x) := by
  have h5 := nI_sub (a := x + w) (b := d) (by omega)
  rw [← nI_add] at h5
  have e : nI x - nI d + nI w = nI (x + w - d) := by
    rw [Int32.sub_eq_add_neg, Int32.add_assoc, Int32.add_comm (-nI d), ← Int32.add_assoc, ← Int32.sub_eq_add_neg]
    exact h5
  rw [e, pk_rem (by omega) (by omega) (by omega), bk_mod hx hd]
set_option maxHeartbeats 4000000 in
set_option maxRecDepth 20000 in
theorem mIsMoved (dx dy : Nat) (h0 : I 0 = nI w) (h1 : I 1 = nI h) (hw : w ≤ 48) (hh : h ≤ 48) (hx : dx < w) (hy : dy < h) (hB : ∀ p, p < h → B 0 p = mk (fun e => vUp V e p) w) (hS : RSOk B w h S) : zC 1 sc 247 [.ref 47, .int (nI dx), .int (nI dy)] (mm f I A B) (fun M r => M = mm f I A B ∧ ((Mv V S w h dx dy ∧ r = some (.int 1)) ∨ (¬ Mv V S w h dx dy ∧ r = some (.int 0)))) := by
  refine zc_of hkX11_isMoved rfl ?_
  repeat (refine zw_go rfl rfl (fun _ _ => rfl) ?_)
  have key : ∀ (k y : Nat), y + k = h → (∀ x b, x < w → b < y → S x b = vUp V ((x + w - dx) % w) ((b + h - dy) % h)) → zW 0 sc miX11_isMoved 2 [some (.ref 47), some (.int (nI dx)), some (.int (nI dy)), some (.int (nI y)), none, none, none] [] (mm f I A B) (fun M r => M = mm f I A B ∧ ((Mv V S w h dx dy ∧ r = some (.int 1)) ∨ (¬ Mv V S w h dx dy ∧ r = some (.int 0)))) := by
    intro k
    induction k with
    | zero =>
      intro y hy2 hl
      refine zw_nx rfl (fun _ _ => rfl) ?_
      repeat (refine zw_go rfl rfl (fun _ _ => rfl) ?_)
      first | refine zw_br rfl (fun _ _ => rfl) (fun _ => ?_) (fun h9 => absurd (show I 1 ≤ nI y by rw [h1]; exact nI_le (by omega) (by omega)) h9) | refine zw_nx rfl (fun _ _ => rfl) ?_
      repeat (refine zw_go rfl rfl (fun _ _ => rfl) ?_)
      exact zw_ret rfl (fun _ _ => rfl) (⟨rfl, Or.inl ⟨fun x b hx hb => hl x b hx (by omega), rfl⟩⟩)
    | succ k ih =>
      intro y hy2 hl
      refine zw_nx rfl (fun _ _ => rfl) ?_
      repeat (refine zw_go rfl rfl (fun _ _ => rfl) ?_)
      first | refine zw_br rfl (fun _ _ => rfl) (fun h9 => absurd h9 (show ¬ I 1 ≤ nI y by rw [h1]; exact nI_ge (by omega) (by omega))) (fun _ => ?_) | refine zw_nx rfl (fun _ _ => rfl) ?_
      repeat (refine zw_go rfl rfl (fun _ _ => rfl) ?_)
      have hz : ¬ I 1 = 0 := by rw [h1]; exact nI_ne0 (by omega) (by omega)
      refine zw_nx rfl (fun cal k => if_neg hz) ?_
      rw [h1, nI_rem rfl (by omega) hy hh]
      have lb1 := bk_lt (d := dy) (x := y) (w := h) (by omega) hy
      refine zw_ix rfl (fun _ _ => rfl) (show vp_in (nI ((bk h dy y))) _ from vp_in_nI (by omega) (by omega)) ?_
      rw [show (nI ((bk h dy y))).toNatClampNeg = (bk h dy y) from nI_clamp (by omega)]
      repeat (refine zw_go rfl rfl (fun _ _ => rfl) ?_)
      rw [hB _ lb1]
      have inner : ∀ (k x : Nat), x + k = w → (∀ a, a < x → S a y = vUp V ((a + w - dx) % w) ((y + h - dy) % h)) → zW 0 sc miX11_isMoved 33 [some (.ref 47), some (.int (nI dx)), some (.int (nI dy)), some (.int (nI y)), some (.long (mk (fun e => vUp V e (bk h dy y)) w)), none, some (.int (nI x))] [] (mm f I A B) (fun M r => M = mm f I A B ∧ ((Mv V S w h dx dy ∧ r = some (.int 1)) ∨ (¬ Mv V S w h dx dy ∧ r = some (.int 0)))) := by
        intro k
        induction k with
        | zero =>
          intro x hx2 hl2
          have hn := ih (y + 1) (by omega) (fun a b ha hb => by
            by_cases h5 : b = y
            · subst h5; exact hl2 a (by omega)
            · exact hl a b ha (by omega))
          rw [nI_succ] at hn
          refine zw_nx rfl (fun _ _ => rfl) ?_
          repeat (refine zw_go rfl rfl (fun _ _ => rfl) ?_)
          first | refine zw_br rfl (fun _ _ => rfl) (fun _ => ?_) (fun h9 => absurd (show I 0 ≤ nI x by rw [h0]; exact nI_le (by omega) (by omega)) h9) | refine zw_nx rfl (fun _ _ => rfl) ?_
          repeat (refine zw_go rfl rfl (fun _ _ => rfl) ?_)
          exact zw_kp hn
        | succ k ih2 =>
          intro x hx2 hl2
          refine zw_nx rfl (fun _ _ => rfl) ?_
          repeat (refine zw_go rfl rfl (fun _ _ => rfl) ?_)
          first | refine zw_br rfl (fun _ _ => rfl) (fun h9 => absurd h9 (show ¬ I 0 ≤ nI x by rw [h0]; exact nI_ge (by omega) (by omega))) (fun _ => ?_) | refine zw_nx rfl (fun _ _ => rfl) ?_
          repeat (refine zw_go rfl rfl (fun _ _ => rfl) ?_)
          refine zw_ix rfl (fun _ _ => rfl) (show vp_in (nI (y)) _ from vp_in_nI (by omega) (by omega)) ?_
          rw [show (nI (y)).toNatClampNeg = y from nI_clamp (by omega)]
          repeat (refine zw_go rfl rfl (fun _ _ => rfl) ?_)
          rw [hS y (by omega)]
          have hz : ¬ I 0 = 0 := by rw [h0]; exact nI_ne0 (by omega) (by omega)
          refine zw_nx rfl (fun cal k => if_neg hz) ?_
          rw [h0, nI_rem rfl (by omega) hx hw]
          have lb2 := bk_lt (d := dx) (x := x) (w := w) (by omega) hx
          repeat (refine zw_go rfl rfl (fun _ _ => rfl) ?_)
          have hiff : lg_cmp ((mk (fun e => S e y) w >>> ((nI x).toInt64 &&& 63)) &&& 1) ((mk (fun e => vUp V e (bk h dy y)) w >>> ((nI (bk w dx x)).toInt64 &&& 63)) &&& 1) = 0 ↔ S x y = vUp V (bk w dx x) (bk h dy y) := by
            rw [lg_cmp_0, bit_testL _ (by omega), bit_testL _ (by omega), lb_mk_in (by omega) (by omega), lb_mk_in (by omega) (by omega)]
            cases h6 : S x y <;> cases h7 : vUp V (bk w dx x) (bk h dy y) <;> decide
          have e5 : vUp V ((x + w - dx) % w) ((y + h - dy) % h) = vUp V (bk w dx x) (bk h dy y) := by rw [bk_mod (by omega) hx, bk_mod (by omega) hy]
          refine zw_br rfl (fun _ _ => rfl) (fun (hc : lg_cmp ((mk (fun e => S e y) w >>> ((nI x).toInt64 &&& 63)) &&& 1) ((mk (fun e => vUp V e (bk h dy y)) w >>> ((nI (bk w dx x)).toInt64 &&& 63)) &&& 1) = 0) => ?_) (fun (hc : ¬ (lg_cmp ((mk (fun e => S e y) w >>> ((nI x).toInt64 &&& 63)) &&& 1) ((mk (fun e => vUp V e (bk h dy y)) w >>> ((nI (bk w dx x)).toInt64 &&& 63)) &&& 1) = 0)) => ?_)
          · have h5 := hiff.mp hc
            have hn := ih2 (x + 1) (by omega) (fun a ha => by
              by_cases h6 : a = x
              · subst h6; rw [h5, e5]
              · exact hl2 a (by omega))
            rw [nI_succ] at hn
            repeat (refine zw_go rfl rfl (fun _ _ => rfl) ?_)
            exact zw_kp hn
          · have hno : ¬ Mv V S w h dx dy := fun z => hc (hiff.mpr ((z x y (by omega) (by omega)).trans e5))
            repeat (refine zw_go rfl rfl (fun _ _ => rfl) ?_)
            exact zw_ret rfl (fun _ _ => rfl) (⟨rfl, Or.inr ⟨hno, rfl⟩⟩)
      exact zw_kp (inner w 0 (by omega) (fun a ha => by omega))
  exact zw_kp (key h 0 (by omega) (fun x b _ hb => by omega))
set_option maxHeartbeats 4000000 in
set_option maxRecDepth 20000 in
theorem mShifted (ends : Bool) (hM : MH I A w h n V) (hS : RSOk B w h S) : zC 5 sc 248 [.ref 47, .int (bb ends)] (mm f I A B) (fun M r => (∃ q, r = some (.int q) ∧ Sh (fun dx dy => Mv V S w h dx dy) w h ends q) ∧ MR f I A B M) := by
  have hM' := hM
  obtain ⟨h0, h1, hw1, hw, hh1, hh, h4, hn, hv, hV⟩ := hM
  refine zc_of hkX11_shifted rfl ?_
  repeat (refine zw_go rfl rfl (fun _ _ => rfl) ?_)
  refine zw_call rfl (fun _ _ => rfl) (mD sc I A B f w h n V hM') (by decide) ?_
  rintro M1 r1 ⟨rfl, A', B', rfl, hD⟩
  have hQ : MR f I A B (mm f I A' B') := ⟨I, A', B', rfl, dr_mk hD⟩
  have hS2 : RSOk B' w h S := fun p hp => by rw [hD.2.2.2.2.2.2.2 4 (by decide)]; exact hS p hp
  repeat (refine zw_go rfl rfl (fun _ _ => rfl) ?_)
  have key : ∀ (k y : Nat), y + k = h → (∀ b a, a < w → b < y → ¬ Mv V S w h a b) → zW 4 sc miX11_shifted 6 [some (.ref 47), some (.int (bb ends)), some (.int (nI y)), none] [] (mm f I A' B') (fun M r => (∃ q, r = some (.int q) ∧ Sh (fun dx dy => Mv V S w h dx dy) w h ends q) ∧ MR f I A B M) := by
    intro k
    induction k with
    | zero =>
      intro y hy hl
      refine zw_nx rfl (fun _ _ => rfl) ?_
      repeat (refine zw_go rfl rfl (fun _ _ => rfl) ?_)
      first | refine zw_br rfl (fun _ _ => rfl) (fun _ => ?_) (fun h9 => absurd (show I 1 ≤ nI y by rw [h1]; exact nI_le (by omega) (by omega)) h9) | refine zw_nx rfl (fun _ _ => rfl) ?_
      repeat (refine zw_go rfl rfl (fun _ _ => rfl) ?_)
      exact zw_ret rfl (fun _ _ => rfl) (⟨⟨-1, rfl, Or.inr ⟨fun b a ha hb => hl b a ha (by omega), rfl⟩⟩, hQ⟩)
    | succ k ih =>
      intro y hy hl
      refine zw_nx rfl (fun _ _ => rfl) ?_
      repeat (refine zw_go rfl rfl (fun _ _ => rfl) ?_)
      first | refine zw_br rfl (fun _ _ => rfl) (fun h9 => absurd h9 (show ¬ I 1 ≤ nI y by rw [h1]; exact nI_ge (by omega) (by omega))) (fun _ => ?_) | refine zw_nx rfl (fun _ _ => rfl) ?_
      repeat (refine zw_go rfl rfl (fun _ _ => rfl) ?_)
      have inner : ∀ (k x : Nat), x + k = w → (∀ a, a < x → ¬ Mv V S w h a y) → zW 4 sc miX11_shifted 16 [some (.ref 47), some (.int (bb ends)), some (.int (nI y)), some (.int (nI x))] [] (mm f I A' B') (fun M r => (∃ q, r = some (.int q) ∧ Sh (fun dx dy => Mv V S w h dx dy) w h ends q) ∧ MR f I A B M) := by
        intro k
        induction k with
        | zero =>
          intro x hx hl2
          have hn := ih (y + 1) (by omega) (fun b a ha hb => by
            by_cases h5 : b = y
            · subst h5; exact hl2 a (by omega)
            · exact hl b a ha (by omega))
          rw [nI_succ] at hn
          refine zw_nx rfl (fun _ _ => rfl) ?_
          repeat (refine zw_go rfl rfl (fun _ _ => rfl) ?_)
          first | refine zw_br rfl (fun _ _ => rfl) (fun _ => ?_) (fun h9 => absurd (show I 0 ≤ nI x by rw [h0]; exact nI_le (by omega) (by omega)) h9) | refine zw_nx rfl (fun _ _ => rfl) ?_
          repeat (refine zw_go rfl rfl (fun _ _ => rfl) ?_)
          exact zw_kp hn
        | succ k ih2 =>
          intro x hx hl2
          refine zw_nx rfl (fun _ _ => rfl) ?_
          repeat (refine zw_go rfl rfl (fun _ _ => rfl) ?_)
          first | refine zw_br rfl (fun _ _ => rfl) (fun h9 => absurd h9 (show ¬ I 0 ≤ nI x by rw [h0]; exact nI_ge (by omega) (by omega))) (fun _ => ?_) | refine zw_nx rfl (fun _ _ => rfl) ?_
          repeat (refine zw_go rfl rfl (fun _ _ => rfl) ?_)
          refine zw_call rfl (fun _ _ => rfl) (mIsMoved sc I A' B' f w h V S x y h0 h1 hw hh (by omega) (by omega) hD.2.2.2.2.1 hS2) (by decide) ?_
          rintro M1 r1 ⟨rfl, ⟨ha, rfl⟩ | ⟨ha, rfl⟩⟩
          · cases ends
            · repeat (refine zw_go rfl rfl (fun _ _ => rfl) ?_)
              exact zw_ret rfl (fun _ _ => rfl) (⟨⟨nI y, rfl, Or.inl ⟨y, x, by omega, by omega, ha, hl, hl2, rfl⟩⟩, hQ⟩)
            · repeat (refine zw_go rfl rfl (fun _ _ => rfl) ?_)
              exact zw_ret rfl (fun _ _ => rfl) (⟨⟨nI x, rfl, Or.inl ⟨y, x, by omega, by omega, ha, hl, hl2, rfl⟩⟩, hQ⟩)
          · have hn := ih2 (x + 1) (by omega) (fun a ha2 => by
              by_cases h5 : a = x
              · subst h5; exact ha
              · exact hl2 a (by omega))
            rw [nI_succ] at hn
            repeat (refine zw_go rfl rfl (fun _ _ => rfl) ?_)
            exact zw_kp hn
      exact zw_kp (inner w 0 (by omega) (fun a ha => by omega))
  exact zw_kp (key h 0 (by omega) (fun b a _ hb => by omega))
end

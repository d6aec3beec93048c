/-! TEXTS: what holds on the way -/
def wt (md : Nat) : Nat := if md = 0 then 0 else if md = 5 ∨ md = 6 ∨ md = 9 ∨ md = 10 ∨ md = 11 then 2 else 1
def rwK (l : List Nat) : Prop := l.length ≤ 200 ∧ ∀ x, x ∈ l → x < 16
def enK (w h : Nat) (e : Nat × Nat × Int32) : Prop := (e.1 = 0 ∧ e.2.1 < w ∧ ∃ x, x < 16 ∧ e.2.2 = nI x) ∨ (e.1 = 1 ∧ e.2.1 < 16 ∧ seOk e.2.2) ∨ (e.1 = 2 ∧ e.2.1 < h ∧ seOk e.2.2)
def TI (w h : Nat) (s : tS) (p : Nat) : Prop := match s with
  | (md, cl, tg, sh, fi, fp, cur, it, fr, bk, en) => md ≤ 11 ∧ rwK cur ∧ fr.length ≤ 8 ∧ (∀ q, q ∈ fr → rwK q.1 ∧ q.2 ≤ 17) ∧ (∀ l, rwK (bk l)) ∧ it ≤ cur.length ∧ fi < 16 ∧ sh ≤ 17 ∧ fp ≤ 300 ∧ ((md = 9 ∨ md = 10 ∨ md = 11) → cur ≠ []) ∧ en.length + 16 * wt md ≤ 16 * p ∧ tg < 16 ∧ (2 ≤ md → cl = 4 → tg < 8) ∧ (md = 0 ∨ cl = 4 ∨ cl = 5 ∨ cl = 6 ∨ cl = 7) ∧ (md = 1 → cl = 4) ∧ (md = 2 → cl = 4) ∧ (md = 3 → cl = 7) ∧ ∀ e, e ∈ en → enK w h e
theorem rwK_nil : rwK [] := ⟨Nat.zero_le _, fun x h => by cases h⟩
theorem rwK_app {l r : List Nat} (h1 : rwK l) (h2 : ∀ x, x ∈ r → x < 16) (h3 : l.length + r.length ≤ 200) : rwK (l ++ r) := ⟨by rw [List.length_append]; exact h3, fun x hx => by
  rw [List.mem_append] at hx
  exact hx.elim (h1.2 x) (h2 x)⟩
theorem rng_lt {a b x : Nat} (ha : a < 16) (hb : b ≤ 15) (h : x ∈ rng a b) : x < 16 := by
  unfold rng at h
  split at h
  · obtain ⟨i, h1, h2⟩ := tab_mem h; omega
  · obtain ⟨i, h1, h2⟩ := tab_mem h; omega
theorem rng_len {a b : Nat} : (rng a b).length = (if a ≤ b then b - a else a - b) + 1 := by
  unfold rng
  split <;> rw [tab_len]
theorem gl_lt {l : List Nat} (h : ∀ x, x ∈ l → x < 16) (i : Nat) : gl l i < 16 := by
  by_cases h1 : i < l.length
  · exact h _ (gl_mem' h1)
  · unfold gl
    rw [List.getD_eq_getElem?_getD, List.getElem?_eq_none (by omega)]
    decide
theorem shp_lt {s : Nat} {l : List Nat} (h : ∀ x, x ∈ l → x < 16) {x : Nat} (hx : x ∈ shp s l) : x < 16 := by
  unfold shp at hx
  split at hx
  · rw [List.mem_append] at hx
    rcases hx with hx | hx
    · exact h x hx
    · obtain ⟨i, _, h2⟩ := tab_mem hx
      rw [h2]; exact gl_lt h _
  · split at hx
    · obtain ⟨i, _, h2⟩ := tab_mem hx
      rw [h2]; exact gl_lt h _
    · rw [List.mem_map] at hx
      obtain ⟨y, _, h2⟩ := hx
      omega
theorem shp_len {s : Nat} {l : List Nat} : (shp s l).length = l.length + (if s = 16 then l.length - 2 else 0) := by
  unfold shp
  split
  · rw [List.length_append]
    unfold mirT
    rw [tab_len]
  · split
    · unfold bakT
      rw [tab_len]; omega
    · rw [List.length_map]; omega
theorem shp_ne {s : Nat} {l : List Nat} (h : l ≠ []) : 0 < (shp s l).length := by
  rw [shp_len]
  have : 0 < l.length := by
    cases l with
    | nil => exact absurd rfl h
    | cons _ _ => rw [List.length_cons]; omega
  omega
theorem app_ne {l r : List Nat} (h : 0 < r.length) : l ++ r ≠ [] := fun z => by
  have := congrArg List.length z
  rw [List.length_append, List.length_nil] at this
  omega
theorem stI_se {l : List Nat} (h : ∀ x, x ∈ l → x < 16) : ∀ n, ∀ i, 16 ≤ i → i < 32 → ib (stI l n) i = false := by
  intro n
  induction n with
  | zero => intro i _ _; rw [stI, ib_0]
  | succ n ih =>
    intro i h1 h2
    have := gl_lt h n
    rw [stI, ib_or, ih i h1 h2, shl_bit _ this i h2, decide_eq_false (by omega)]; rfl
/-- a word without high bits is a set -/
theorem se_of {x : Int32} (h : ∀ i, 16 ≤ i → i < 32 → ib x i = false) : seOk x := by
  have hlt : tnI x < 65536 := by
    have h1 : ∀ i, 16 ≤ i → (tnI x).testBit i = false := fun i hi => by
      rcases Nat.lt_or_ge i 32 with h2 | h2
      · exact h i hi h2
      · exact Nat.testBit_lt_two_pow (Nat.lt_of_lt_of_le (tnI_lt x) (Nat.pow_le_pow_right (by decide) h2))
    exact Nat.lt_pow_two_of_testBit (n := 16) (tnI x) (fun i hi => h1 i hi)
  refine ⟨tnI x, hlt, ib_ext (fun i hi => ?_)⟩
  rw [ib_nat hi, ib_tn]
theorem bit_se {q : Nat} (hq : q < 16) : seOk ((1 : Int32) <<< (nI q &&& 31)) := se_of (fun i h1 h2 => by
  rw [shl_bit q hq i h2, decide_eq_false (by omega)])
theorem clE_ok {w h cl tg : Nat} {l : List Nat} {en : tE} (hl : ∀ x, x ∈ l → x < 16) (htg : tg < 16) (he : ∀ e, e ∈ en → enK w h e) : ∀ e, e ∈ clE w h cl tg l en → enK w h e := by
  intro e hm
  unfold clE at hm
  split at hm
  · exact he e hm
  · split at hm
    · rw [List.mem_append] at hm
      rcases hm with hm | hm
      · exact he e hm
      · obtain ⟨i, h1, h2⟩ := tabE_mem hm
        subst h2
        exact Or.inl ⟨rfl, h1, _, gl_lt hl _, rfl⟩
    · split at hm
      · rw [List.mem_append] at hm
        rcases hm with hm | hm
        · exact he e hm
        · obtain ⟨i, h1, h2⟩ := tabE_mem hm
          subst h2
          exact Or.inr (Or.inr ⟨rfl, h1, bit_se (gl_lt hl _)⟩)
      · rw [List.mem_append, List.mem_singleton] at hm
        rcases hm with hm | hm
        · exact he e hm
        · subst hm
          exact Or.inr (Or.inl ⟨rfl, htg, se_of (stI_se hl _)⟩)
theorem clE_len {w h cl tg : Nat} {l : List Nat} {en : tE} (hw : w ≤ 48) (hh : h ≤ 48) : (clE w h cl tg l en).length ≤ en.length + 48 := by
  unfold clE
  split
  · omega
  · split
    · rw [List.length_append, tabE_len]; omega
    · split
      · rw [List.length_append, tabE_len]; omega
      · rw [List.length_append, List.length_singleton]; omega
theorem ti_op {w h cl tg sh fi fp : Nat} {cur : List Nat} {it : Nat} {fr : tF} {bk : Nat → List Nat} {en : tE} {md k p0 p p' : Nat} {s' : tS} (ht : TI w h (md, cl, tg, sh, fi, fp, cur, it, fr, bk, en) p) (hm2 : 2 ≤ md) (hm : md = 4 ∨ md = 8) (hp : p + 1 ≤ p') {sh' : Nat} (hsh : sh' ≤ 17) (he : opB cl tg sh' fi fp cur fr bk en k p0 = .inl s') : TI w h s' p' := by
  obtain ⟨t1, t2, t3, t4, t5, t6, t7, t8, t9, t10, t11, t12, t13, t14, t15, t16, t17, t18⟩ := ht
  unfold opB at he
  split at he
  · split at he
    · cases he
    · cases he
      have hw1 : wt md = 1 := by rcases hm with rfl | rfl <;> rfl
      refine ⟨by omega, rwK_nil, by rw [List.length_cons]; omega, fun q hq => ?_, t5, Nat.le_refl _, t7, hsh, t9, fun z => by omega, ?_, t12, fun _ => t13 hm2, Or.inr (t14.resolve_left (by omega)), fun z => by omega, fun z => by omega, fun z => by omega, t18⟩
      · rw [List.mem_cons] at hq
        rcases hq with rfl | hq
        · exact ⟨t2, hsh⟩
        · exact t4 q hq
      · show en.length + 16 * 1 ≤ _
        rw [hw1] at t11
        omega
  · cases he
theorem ti_stp {w h : Nat} (hw : w ≤ 48) (hh : h ≤ 48) {s s' : tS} {k v p0 p p' : Nat} (ht : TI w h s p) (hp : p + 1 ≤ p') (hp0 : p0 ≤ 300) (hv : k = 3 → v < 8) (he : stp w h s k v p0 = .inl s') : TI w h s' p' := by
  obtain ⟨md, cl, tg, sh, fi, fp, cur, it, fr, bk, en⟩ := s
  have htt := ht
  obtain ⟨t1, t2, t3, t4, t5, t6, t7, t8, t9, t10, t11, t12, t13, t14, t15, t16, t17, t18⟩ := ht
  rcases (show md = 0 ∨ md = 1 ∨ md = 2 ∨ md = 3 ∨ md = 4 ∨ md = 5 ∨ md = 6 ∨ md = 7 ∨ md = 8 ∨ md = 9 ∨ md = 10 ∨ md = 11 by omega) with rfl | rfl | rfl | rfl | rfl | rfl | rfl | rfl | rfl | rfl | rfl | rfl
  · have t11' : en.length ≤ 16 * p := t11
    simp only [stp] at he
    split at he
    · cases he
    · split at he
      · rename_i h4
        cases he
        exact ⟨by omega, t2, t3, t4, t5, t6, t7, t8, t9, fun z => by omega, by show en.length + 16 * 1 ≤ _; omega, t12, fun z => by omega, Or.inr (by omega), fun _ => h4, fun z => by omega, fun z => by omega, t18⟩
      · split at he
        · rename_i h7
          cases he
          exact ⟨by omega, t2, t3, t4, t5, t6, t7, t8, t9, fun z => by omega, by show en.length + 16 * 1 ≤ _; omega, t12, fun _ z => by omega, Or.inr (by omega), fun z => by omega, fun z => by omega, fun _ => h7, t18⟩
        · split at he
          · rename_i h56
            cases he
            exact ⟨by omega, rwK_nil, Nat.zero_le _, fun q hq => by (cases hq), t5, Nat.le_refl _, t7, t8, t9, fun z => by omega, by show en.length + 16 * 1 ≤ _; omega, t12, fun _ z => by omega, Or.inr (by omega), fun z => by omega, fun z => by omega, fun z => by omega, t18⟩
          · cases he
  · have t11' : en.length + 16 ≤ 16 * p := t11
    simp only [stp] at he
    split at he
    · rename_i h3
      split at he
      · cases he
        have := hv h3
        exact ⟨by omega, t2, t3, t4, t5, t6, t7, t8, t9, fun z => by omega, by show en.length + 16 * 1 ≤ _; omega, by omega, fun _ _ => this, Or.inr (t14.resolve_left (by omega)), fun z => by omega, fun _ => t15 rfl, fun z => by omega, t18⟩
      · cases he
    · cases he
  · have t11' : en.length + 16 ≤ 16 * p := t11
    simp only [stp] at he
    split at he
    · cases he
      exact ⟨by omega, rwK_nil, Nat.zero_le _, fun q hq => by (cases hq), t5, Nat.le_refl _, t7, t8, t9, fun z => by omega, by show en.length + 16 * 1 ≤ _; omega, t12, fun _ => t13 (by omega), Or.inr (t14.resolve_left (by omega)), fun z => by omega, fun z => by omega, fun z => by omega, t18⟩
    · cases he
  · have t11' : en.length + 16 ≤ 16 * p := t11
    simp only [stp] at he
    split at he
    · split at he
      · cases he
      · cases he
        have h7 := t17 rfl
        exact ⟨by omega, rwK_nil, Nat.zero_le _, fun q hq => by (cases hq), t5, Nat.le_refl _, t7, t8, t9, fun z => by omega, by show en.length + 16 * 1 ≤ _; omega, by omega, fun _ z => by omega, Or.inr (t14.resolve_left (by omega)), fun z => by omega, fun z => by omega, fun z => by omega, t18⟩
    · cases he
  · have t11' : en.length + 16 ≤ 16 * p := t11
    simp only [stp] at he
    split at he
    · split at he
      · cases he
      · cases he
        exact ⟨by omega, t2, t3, t4, t5, Nat.le_refl _, by omega, t8, hp0, fun z => by omega, by show en.length + 16 * 2 ≤ _; omega, t12, fun _ => t13 (by omega), Or.inr (t14.resolve_left (by omega)), fun z => by omega, fun z => by omega, fun z => by omega, t18⟩
    · split at he
      · split at he
        · cases he
        · rename_i hne
          split at he
          · cases he
          · rename_i hl
            cases he
            have hpos : 0 < (bk v).length := by
              cases hbk : bk v with
              | nil => exact absurd hbk hne
              | cons _ _ => rw [List.length_cons]; omega
            exact ⟨by omega, rwK_app t2 (t5 v).2 (by omega), t3, t4, t5, by rw [List.length_append]; omega, t7, t8, t9, fun _ => app_ne hpos, by show en.length + 16 * 2 ≤ _; omega, t12, fun _ => t13 (by omega), Or.inr (t14.resolve_left (by omega)), fun z => by omega, fun z => by omega, fun z => by omega, t18⟩
      · split at he
        · exact ti_op htt (by omega) (Or.inl rfl) hp (by omega) he
        · split at he
          · cases he
            exact ⟨by omega, t2, t3, t4, t5, Nat.le_refl _, t7, by omega, t9, fun z => by omega, by show en.length + 16 * 1 ≤ _; omega, t12, fun _ => t13 (by omega), Or.inr (t14.resolve_left (by omega)), fun z => by omega, fun z => by omega, fun z => by omega, t18⟩
          · split at he
            · cases he
              exact ⟨by omega, t2, t3, t4, t5, Nat.le_refl _, t7, by omega, t9, fun z => by omega, by show en.length + 16 * 1 ≤ _; omega, t12, fun _ => t13 (by omega), Or.inr (t14.resolve_left (by omega)), fun z => by omega, fun z => by omega, fun z => by omega, t18⟩
            · split at he
              · cases he
                exact ⟨by omega, t2, t3, t4, t5, Nat.le_refl _, t7, t8, t9, fun z => by omega, by show en.length + 16 * 1 ≤ _; omega, t12, fun _ => t13 (by omega), Or.inr (t14.resolve_left (by omega)), fun z => by omega, fun z => by omega, fun z => by omega, t18⟩
              · cases he
  · have t11' : en.length + 32 ≤ 16 * p := t11
    simp only [stp] at he
    cases he
    exact ⟨by omega, t2, t3, t4, t5, t6, t7, t8, t9, fun z => by omega, by show en.length + 16 * 2 ≤ _; omega, t12, fun _ => t13 (by omega), Or.inr (t14.resolve_left (by omega)), fun z => by omega, fun z => by omega, fun z => by omega, t18⟩
  · have t11' : en.length + 32 ≤ 16 * p := t11
    simp only [stp] at he
    split at he
    · split at he
      · cases he
      · split at he
        · cases he
        · cases he
          exact ⟨by omega, rwK_app t2 (fun x hx => rng_lt t7 (by omega) hx) (by omega), t3, t4, t5, by rw [List.length_append]; omega, t7, t8, t9, fun _ => app_ne (by rw [rng_len]; omega), by show en.length + 16 * 2 ≤ _; omega, t12, fun _ => t13 (by omega), Or.inr (t14.resolve_left (by omega)), fun z => by omega, fun z => by omega, fun z => by omega, t18⟩
    · cases he
  · have t11' : en.length + 16 ≤ 16 * p := t11
    simp only [stp] at he
    split at he
    · split at he
      · cases he
      · cases he
        exact ⟨by omega, t2, t3, t4, t5, t6, t7, by omega, t9, fun z => by omega, by show en.length + 16 * 1 ≤ _; omega, t12, fun _ => t13 (by omega), Or.inr (t14.resolve_left (by omega)), fun z => by omega, fun z => by omega, fun z => by omega, t18⟩
    · cases he
  · simp only [stp] at he
    exact ti_op htt (by omega) (Or.inr rfl) hp t8 he
  · have t11' : en.length + 32 ≤ 16 * p := t11
    simp only [stp] at he
    cases he
    exact ⟨by omega, t2, t3, t4, t5, t6, t7, t8, t9, fun _ => t10 (by omega), by show en.length + 16 * 2 ≤ _; omega, t12, fun _ => t13 (by omega), Or.inr (t14.resolve_left (by omega)), fun z => by omega, fun z => by omega, fun z => by omega, t18⟩
  · have t11' : en.length + 32 ≤ 16 * p := t11
    simp only [stp] at he
    split at he
    · split at he
      · cases he
      · split at he
        · cases he
        · rename_i hl
          cases he
          have hlen : (cpT (cur.drop it) v).length = (cur.length - it) * (v - 1) := by
            unfold cpT
            rw [tab_len, List.length_drop]
          refine ⟨by omega, rwK_app t2 (fun x hx => ?_) (by rw [hlen]; omega), t3, t4, t5, by rw [List.length_append]; omega, t7, t8, t9, fun _ z => t10 (by omega) (List.append_eq_nil_iff.mp z).1, by show en.length + 16 * 2 ≤ _; omega, t12, fun _ => t13 (by omega), Or.inr (t14.resolve_left (by omega)), fun z => by omega, fun z => by omega, fun z => by omega, t18⟩
          obtain ⟨i, _, h2⟩ := tab_mem hx
          rw [h2]
          exact gl_lt (fun y hy => t2.2 y (List.mem_of_mem_drop hy)) _
    · cases he
  · have t11' : en.length + 32 ≤ 16 * p := t11
    simp only [stp] at he
    split at he
    · cases he
      exact ⟨by omega, t2, t3, t4, t5, t6, t7, t8, t9, fun z => by omega, by show en.length + 16 * 1 ≤ _; omega, t12, fun _ => t13 (by omega), Or.inr (t14.resolve_left (by omega)), fun z => by omega, fun z => by omega, fun z => by omega, t18⟩
    · split at he
      · cases fr with
        | nil => cases he
        | cons o t =>
          obtain ⟨o, s⟩ := o
          have ho := t4 (o, s) List.mem_cons_self
          have he2 : (if 200 < o.length + (shp s cur).length then bad 5 p0 else (.inl (9, cl, tg, sh, fi, fp, o ++ shp s cur, o.length, t, bk, en) : Sum tS tR)) = .inl s' := he
          split at he2
          · cases he2
          · cases he2
            have hne := t10 (by omega)
            exact ⟨by omega, rwK_app ho.1 (fun x hx => shp_lt t2.2 hx) (by omega), by rw [List.length_cons] at t3; omega, fun q hq => t4 q (List.mem_cons_of_mem _ hq), t5, by rw [List.length_append]; omega, t7, t8, t9, fun _ => app_ne (shp_ne hne), by show en.length + 16 * 2 ≤ _; omega, t12, fun _ => t13 (by omega), Or.inr (t14.resolve_left (by omega)), fun z => by omega, fun z => by omega, fun z => by omega, t18⟩
      · split at he
        · cases he
          have hlen := clE_len (w := w) (h := h) (cl := cl) (tg := tg) (l := cur) (en := en) hw hh
          refine ⟨by omega, t2, t3, t4, fun l => ?_, t6, t7, t8, t9, fun z => by omega, by show (clE w h cl tg cur en).length + 16 * 0 ≤ _; omega, t12, fun z => by omega, Or.inl rfl, fun z => by omega, fun z => by omega, fun z => by omega, clE_ok t2.2 t12 t18⟩
          unfold clB
          split
          · show rwK (if l = tg then cur else bk l)
            split
            · exact t2
            · exact t5 l
          · exact t5 l
        · cases he
theorem ti_pr {w h : Nat} {s s' : tS} {k p : Nat} (ht : TI w h s p) (he : prS s k = .inl s') : TI w h s' p := by
  obtain ⟨md, cl, tg, sh, fi, fp, cur, it, fr, bk, en⟩ := s
  have htt := ht
  obtain ⟨t1, t2, t3, t4, t5, t6, t7, t8, t9, t10, t11, t12, t13, t14, t15, t16, t17, t18⟩ := ht
  rcases (show md = 0 ∨ md = 1 ∨ md = 2 ∨ md = 3 ∨ md = 4 ∨ md = 5 ∨ md = 6 ∨ md = 7 ∨ md = 8 ∨ md = 9 ∨ md = 10 ∨ md = 11 by omega) with rfl | rfl | rfl | rfl | rfl | rfl | rfl | rfl | rfl | rfl | rfl | rfl
  · cases he; exact htt
  · cases he; exact htt
  · cases he; exact htt
  · cases he; exact htt
  · cases he; exact htt
  · have one : ∀ x, x ∈ [fi] → x < 16 := fun x hx => by rw [List.mem_singleton] at hx; rw [hx]; exact t7
    simp only [prS] at he
    split at he
    · cases he; exact htt
    · split at he
      · cases he
      · rename_i hl
        split at he
        · cases he
          exact ⟨by omega, rwK_app t2 one (by rw [List.length_singleton]; omega), t3, t4, t5, by rw [List.length_append]; omega, t7, t8, t9, fun _ => app_ne (by rw [List.length_singleton]; omega), t11, t12, fun _ => t13 (by omega), Or.inr (t14.resolve_left (by omega)), fun z => by omega, fun z => by omega, fun z => by omega, t18⟩
        · cases he
          exact ⟨by omega, rwK_app t2 one (by rw [List.length_singleton]; omega), t3, t4, t5, by rw [List.length_append]; omega, t7, t8, t9, fun _ => app_ne (by rw [List.length_singleton]; omega), t11, t12, fun _ => t13 (by omega), Or.inr (t14.resolve_left (by omega)), fun z => by omega, fun z => by omega, fun z => by omega, t18⟩
  · cases he; exact htt
  · cases he; exact htt
  · cases he; exact htt
  · simp only [prS] at he
    split at he
    · cases he; exact htt
    · cases he
      exact ⟨by omega, t2, t3, t4, t5, t6, t7, t8, t9, fun _ => t10 (by omega), t11, t12, fun _ => t13 (by omega), Or.inr (t14.resolve_left (by omega)), fun z => by omega, fun z => by omega, fun z => by omega, t18⟩
  · cases he; exact htt
  · cases he; exact htt
theorem ti_ful {w h : Nat} (hw : w ≤ 48) (hh : h ≤ 48) {s s' : tS} {b : Nat → Nat} {n p : Nat} (hn : n ≤ 300) (hpn : p ≤ n) (ht : TI w h s p) (he : ful w h s (tkK b n p) (tkN b n p) (tkP b n p) = .inl s') : TI w h s' (tkX b n p) ∧ p < tkX b n p := by
  have hk : tkK b n p ≠ 0 := fun z => by
    rw [z] at he
    obtain ⟨r, hr⟩ := ful_stop (w := w) (h := h) (s := s) (v := tkN b n p) (p := tkP b n p)
    rw [hr] at he; cases he
  have hgt := (tkX_gt hk).1
  unfold ful at he
  cases hpr : prS s (tkK b n p) with
  | inr r => rw [hpr] at he; cases he
  | inl s1 =>
    rw [hpr] at he
    exact ⟨ti_stp hw hh (ti_pr ht hpr) hgt (by have := tkP_le (b := b) hpn; omega) tk_let he, hgt⟩
/-- the beginning -/
def tS0 : tS := (0, 0, 0, 0, 0, 0, [], 0, [], fun _ => [], [])
theorem ti_0 {w h : Nat} : TI w h tS0 0 := ⟨by omega, rwK_nil, Nat.zero_le _, fun q hq => by (cases hq), fun _ => rwK_nil, Nat.le_refl _, by omega, by omega, by omega, fun z => by omega, Nat.le_refl _, by omega, fun z => by omega, Or.inl rfl, fun z => by omega, fun z => by omega, fun z => by omega, fun e he => by (cases he)⟩

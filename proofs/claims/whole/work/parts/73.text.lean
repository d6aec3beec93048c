/-! TEXTS: what they tell, TOKEN by TOKEN -/
abbrev tE : Type := List (Nat × Nat × Int32)
abbrev tF : Type := List (List Nat × Nat)
/-- what is waited for; clause, target, shape, first, its place; the ROW, its item's start, the ROWS around it, blocks, entries -/
abbrev tS : Type := Nat × Nat × Nat × Nat × Nat × Nat × List Nat × Nat × tF × (Nat → List Nat) × tE
/-- FAULT, place, entries -/
abbrev tR : Type := Nat × Nat × tE
def bad (c p : Nat) : Sum tS tR := .inr (c, p, [])
def gl (l : List Nat) (i : Nat) : Nat := l.getD i 0
def tab (f : Nat → Nat) : Nat → List Nat
  | 0 => []
  | n + 1 => tab f n ++ [f n]
theorem tab_len {f : Nat → Nat} : ∀ {n : Nat}, (tab f n).length = n := by
  intro n
  induction n with
  | zero => rfl
  | succ n ih => rw [tab, List.length_append, ih]; rfl
theorem gl_app {l r : List Nat} {i : Nat} (h : i < l.length) : gl (l ++ r) i = gl l i := by
  unfold gl
  rw [List.getD_eq_getElem?_getD, List.getD_eq_getElem?_getD, List.getElem?_append_left h]
theorem gl_app2 {l r : List Nat} {i : Nat} : gl (l ++ r) (l.length + i) = gl r i := by
  unfold gl
  rw [List.getD_eq_getElem?_getD, List.getD_eq_getElem?_getD, List.getElem?_append_right (by omega), Nat.add_sub_cancel_left]
theorem gl_tab {f : Nat → Nat} : ∀ {n i : Nat}, i < n → gl (tab f n) i = f i := by
  intro n
  induction n with
  | zero => intro i h; omega
  | succ n ih =>
    intro i h
    rw [tab]
    by_cases h1 : i = n
    · subst h1
      have := gl_app2 (l := tab f i) (r := [f i]) (i := 0)
      rw [tab_len, Nat.add_zero] at this
      rw [this]; rfl
    · rw [gl_app (by rw [tab_len]; omega)]; exact ih (by omega)
theorem tab_mem {f : Nat → Nat} {x : Nat} : ∀ {n : Nat}, x ∈ tab f n → ∃ i, i < n ∧ x = f i := by
  intro n
  induction n with
  | zero => intro h; cases h
  | succ n ih =>
    intro h
    rw [tab, List.mem_append, List.mem_singleton] at h
    rcases h with h | h
    · obtain ⟨i, h1, h2⟩ := ih h; exact ⟨i, by omega, h2⟩
    · exact ⟨n, by omega, h⟩
theorem gl_mem' {l : List Nat} {i : Nat} (h : i < l.length) : gl l i ∈ l := by
  unfold gl
  rw [List.getD_eq_getElem?_getD, List.getElem?_eq_getElem h]
  exact List.getElem_mem h
theorem gl_ext {l r : List Nat} (h : l.length = r.length) (h2 : ∀ i, i < l.length → gl l i = gl r i) : l = r := by
  apply List.ext_getElem h
  intro i h3 h4
  have := h2 i h3
  unfold gl at this
  rw [List.getD_eq_getElem?_getD, List.getD_eq_getElem?_getD, List.getElem?_eq_getElem h3, List.getElem?_eq_getElem h4] at this
  exact this
theorem gl_map {l : List Nat} {f : Nat → Nat} {i : Nat} (h : i < l.length) : gl (l.map f) i = f (gl l i) := by
  unfold gl
  rw [List.getD_eq_getElem?_getD, List.getD_eq_getElem?_getD, List.getElem?_map, List.getElem?_eq_getElem h]; rfl
theorem gl_drop {l : List Nat} {k i : Nat} : gl (l.drop k) i = gl l (k + i) := by
  unfold gl
  rw [List.getD_eq_getElem?_getD, List.getD_eq_getElem?_getD, List.getElem?_drop]
def rng (a b : Nat) : List Nat := if a ≤ b then tab (fun i => a + i) (b - a + 1) else tab (fun i => a - i) (a - b + 1)
def mirT (l : List Nat) : List Nat := tab (fun j => gl l (l.length - 2 - j)) (l.length - 2)
def bakT (l : List Nat) : List Nat := tab (fun j => gl l (l.length - 1 - j)) l.length
def cpT (l : List Nat) (k : Nat) : List Nat := tab (fun i => gl l (i % l.length)) (l.length * (k - 1))
def shp (s : Nat) (l : List Nat) : List Nat := if s = 16 then l ++ mirT l else if s = 17 then bakT l else l.map (fun x => (x + s) % 16)
def stI (l : List Nat) : Nat → Int32
  | 0 => 0
  | n + 1 => stI l n ||| ((1 : Int32) <<< (nI (gl l n) &&& 31))
def tabE (f : Nat → Nat × Nat × Int32) : Nat → tE
  | 0 => []
  | n + 1 => tabE f n ++ [f n]
theorem tabE_len {f : Nat → Nat × Nat × Int32} : ∀ {n : Nat}, (tabE f n).length = n := by
  intro n
  induction n with
  | zero => rfl
  | succ n ih => rw [tabE, List.length_append, ih]; rfl
theorem tabE_mem {f : Nat → Nat × Nat × Int32} {x : Nat × Nat × Int32} : ∀ {n : Nat}, x ∈ tabE f n → ∃ i, i < n ∧ x = f i := by
  intro n
  induction n with
  | zero => intro h; cases h
  | succ n ih =>
    intro h
    rw [tabE, List.mem_append, List.mem_singleton] at h
    rcases h with h | h
    · obtain ⟨i, h1, h2⟩ := ih h; exact ⟨i, by omega, h2⟩
    · exact ⟨n, by omega, h⟩
def thE (l : List Nat) (i : Nat) : Nat × Nat × Int32 := (0, i, nI (gl l (i % l.length)))
def trE (l : List Nat) (i : Nat) : Nat × Nat × Int32 := (2, i, (1 : Int32) <<< (nI (gl l (i % l.length)) &&& 31))
def clE (w h cl tg : Nat) (l : List Nat) (en : tE) : tE := if cl = 4 then en else if cl = 5 then en ++ tabE (thE l) w else if cl = 6 then en ++ tabE (trE l) h else en ++ [(1, tg, stI l l.length)]
def clB (cl tg : Nat) (l : List Nat) (bk : Nat → List Nat) : Nat → List Nat := if cl = 4 then (fun z => if z = tg then l else bk z) else bk
def opB (cl tg sh fi fp : Nat) (cur : List Nat) (fr : tF) (bk : Nat → List Nat) (en : tE) (k p : Nat) : Sum tS tR := if k = 40 then (if 8 ≤ fr.length then bad 3 p else .inl (4, cl, tg, sh, fi, fp, [], 0, (cur, sh) :: fr, bk, en)) else bad 1 p
def clR (cl tg sh fi fp : Nat) (cur : List Nat) (bk : Nat → List Nat) (en : tE) (p : Nat) : tF → Sum tS tR
  | [] => bad 1 p
  | (o, s) :: t => if 200 < o.length + (shp s cur).length then bad 5 p else .inl (9, cl, tg, sh, fi, fp, o ++ shp s cur, o.length, t, bk, en)
def stp (w h : Nat) (s : tS) (k v p : Nat) : Sum tS tR := match s with
  | (0, _, tg, sh, fi, fp, cur, it, fr, bk, en) => if k = 0 then .inr (0, 0, en) else if k = 4 then .inl (1, k, tg, sh, fi, fp, cur, it, fr, bk, en) else if k = 7 then .inl (3, k, tg, sh, fi, fp, cur, it, fr, bk, en) else if k = 5 ∨ k = 6 then .inl (4, k, tg, sh, fi, fp, [], 0, [], bk, en) else bad 1 p
  | (1, cl, _, sh, fi, fp, cur, it, fr, bk, en) => if k = 3 then (if bk v = [] then .inl (2, cl, v, sh, fi, fp, cur, it, fr, bk, en) else bad 4 p) else bad 1 p
  | (2, cl, tg, sh, fi, fp, _, _, _, bk, en) => if k = 61 then .inl (4, cl, tg, sh, fi, fp, [], 0, [], bk, en) else bad 1 p
  | (3, cl, _, sh, fi, fp, _, _, _, bk, en) => if k = 2 then (if 15 < v then bad 2 p else .inl (4, cl, v, sh, fi, fp, [], 0, [], bk, en)) else bad 1 p
  | (4, cl, tg, sh, fi, fp, cur, _, fr, bk, en) => if k = 2 then (if 15 < v then bad 2 p else .inl (5, cl, tg, sh, v, p, cur, cur.length, fr, bk, en)) else if k = 3 then (if bk v = [] then bad 4 p else if 200 < cur.length + (bk v).length then bad 5 p else .inl (9, cl, tg, sh, fi, fp, cur ++ bk v, cur.length, fr, bk, en)) else if k = 40 then opB cl tg 0 fi fp cur fr bk en k p else if k = 9 then .inl (8, cl, tg, 16, fi, fp, cur, cur.length, fr, bk, en) else if k = 10 then .inl (8, cl, tg, 17, fi, fp, cur, cur.length, fr, bk, en) else if k = 11 then .inl (7, cl, tg, sh, fi, fp, cur, cur.length, fr, bk, en) else bad 1 p
  | (5, cl, tg, sh, fi, fp, cur, it, fr, bk, en) => .inl (6, cl, tg, sh, fi, fp, cur, it, fr, bk, en)
  | (6, cl, tg, sh, fi, fp, cur, it, fr, bk, en) => if k = 2 then (if 15 < v then bad 2 p else if 200 < cur.length + (rng fi v).length then bad 5 p else .inl (9, cl, tg, sh, fi, fp, cur ++ rng fi v, it, fr, bk, en)) else bad 1 p
  | (7, cl, tg, _, fi, fp, cur, it, fr, bk, en) => if k = 2 then (if 15 < v then bad 2 p else .inl (8, cl, tg, v, fi, fp, cur, it, fr, bk, en)) else bad 1 p
  | (8, cl, tg, sh, fi, fp, cur, _, fr, bk, en) => opB cl tg sh fi fp cur fr bk en k p
  | (9, cl, tg, sh, fi, fp, cur, it, fr, bk, en) => .inl (10, cl, tg, sh, fi, fp, cur, it, fr, bk, en)
  | (10, cl, tg, sh, fi, fp, cur, it, fr, bk, en) => if k = 2 then (if v < 1 ∨ 48 < v then bad 2 p else if 200 < cur.length + (cur.length - it) * (v - 1) then bad 5 p else .inl (11, cl, tg, sh, fi, fp, cur ++ cpT (cur.drop it) v, it, fr, bk, en)) else bad 1 p
  | (11, cl, tg, sh, fi, fp, cur, it, fr, bk, en) => if k = 44 then .inl (4, cl, tg, sh, fi, fp, cur, it, fr, bk, en) else if k = 41 ∧ fr ≠ [] then clR cl tg sh fi fp cur bk en p fr else if k = 59 ∧ fr = [] then .inl (0, cl, tg, sh, fi, fp, cur, it, fr, clB cl tg cur bk, clE w h cl tg cur en) else bad 1 p
  | _ => bad 0 0
/-- what can't go on is done -/
def prS (s : tS) (k : Nat) : Sum tS tR := match s with
  | (5, cl, tg, sh, fi, fp, cur, it, fr, bk, en) => if k = 8 then .inl (5, cl, tg, sh, fi, fp, cur, it, fr, bk, en) else if 200 < cur.length + 1 then bad 5 fp else if k = 42 then .inl (9, cl, tg, sh, fi, fp, cur ++ [fi], it, fr, bk, en) else .inl (11, cl, tg, sh, fi, fp, cur ++ [fi], it, fr, bk, en)
  | (9, cl, tg, sh, fi, fp, cur, it, fr, bk, en) => if k = 42 then .inl (9, cl, tg, sh, fi, fp, cur, it, fr, bk, en) else .inl (11, cl, tg, sh, fi, fp, cur, it, fr, bk, en)
  | s => .inl s
def ful (w h : Nat) (s : tS) (k v p : Nat) : Sum tS tR := match prS s k with
  | .inr r => .inr r
  | .inl s' => stp w h s' k v p
def runT (w h : Nat) (b : Nat → Nat) (n : Nat) : Nat → tS → Nat → Option tR
  | 0, _, _ => none
  | m + 1, s, p => match ful w h s (tkK b n p) (tkN b n p) (tkP b n p) with
    | .inr r => some r
    | .inl s' => runT w h b n m s' (tkX b n p)
/-- how it ends from here -/
def Out (w h : Nat) (b : Nat → Nat) (n : Nat) (s : tS) (p : Nat) (r : tR) : Prop := ∃ m, runT w h b n m s p = some r
theorem runT_up {w h : Nat} {b : Nat → Nat} {n : Nat} {r : tR} : ∀ {m : Nat} {s : tS} {p : Nat}, runT w h b n m s p = some r → ∀ k, runT w h b n (m + k) s p = some r := by
  intro m
  induction m with
  | zero => intro s p q; cases q
  | succ m ih =>
    intro s p q k
    rw [show m + 1 + k = (m + k) + 1 by omega]
    rw [runT] at q ⊢
    cases hf : ful w h s (tkK b n p) (tkN b n p) (tkP b n p) with
    | inr r' => rw [hf] at q; exact q
    | inl s' => rw [hf] at q; exact ih q k
theorem out_u {w h : Nat} {b : Nat → Nat} {n : Nat} {s : tS} {p : Nat} {r r' : tR} (h1 : Out w h b n s p r) (h2 : Out w h b n s p r') : r = r' := by
  obtain ⟨m, h1⟩ := h1
  obtain ⟨k, h2⟩ := h2
  have a := runT_up h1 k
  have c := runT_up h2 m
  rw [Nat.add_comm] at c
  rw [a] at c
  exact Option.some.inj c
theorem out_go {w h : Nat} {b : Nat → Nat} {n : Nat} {s s' : tS} {p : Nat} {r : tR} (hf : ful w h s (tkK b n p) (tkN b n p) (tkP b n p) = .inl s') (h1 : Out w h b n s' (tkX b n p) r) : Out w h b n s p r := by
  obtain ⟨m, h1⟩ := h1
  exact ⟨m + 1, by rw [runT, hf]; exact h1⟩
theorem out_end {w h : Nat} {b : Nat → Nat} {n : Nat} {s : tS} {p : Nat} {r : tR} (hf : ful w h s (tkK b n p) (tkN b n p) (tkP b n p) = .inr r) : Out w h b n s p r := ⟨1, by rw [runT, hf]⟩
/-- at the end it ends -/
theorem ful_stop {w h : Nat} {s : tS} {v p : Nat} : ∃ r, ful w h s 0 v p = .inr r := by
  obtain ⟨md, cl, tg, sh, fi, fp, cur, it, fr, bk, en⟩ := s
  by_cases hm : md ≤ 11
  · rcases (show md = 0 ∨ md = 1 ∨ md = 2 ∨ md = 3 ∨ md = 4 ∨ md = 5 ∨ md = 6 ∨ md = 7 ∨ md = 8 ∨ md = 9 ∨ md = 10 ∨ md = 11 by omega) with rfl | rfl | rfl | rfl | rfl | rfl | rfl | rfl | rfl | rfl | rfl | rfl
    · exact ⟨_, rfl⟩
    · exact ⟨_, rfl⟩
    · exact ⟨_, rfl⟩
    · exact ⟨_, rfl⟩
    · exact ⟨_, rfl⟩
    · unfold ful
      show ∃ r, (match (if (0 : Nat) = 8 then (Sum.inl (5, cl, tg, sh, fi, fp, cur, it, fr, bk, en) : Sum tS tR) else if 200 < cur.length + 1 then bad 5 fp else if (0 : Nat) = 42 then .inl (9, cl, tg, sh, fi, fp, cur ++ [fi], it, fr, bk, en) else .inl (11, cl, tg, sh, fi, fp, cur ++ [fi], it, fr, bk, en)) with | .inr r => (.inr r : Sum tS tR) | .inl s' => stp w h s' 0 v p) = .inr r
      rw [if_neg (by decide)]
      by_cases h2 : 200 < cur.length + 1
      · rw [if_pos h2]; exact ⟨_, rfl⟩
      · rw [if_neg h2, if_neg (by decide)]; exact ⟨_, rfl⟩
    · exact ⟨_, rfl⟩
    · exact ⟨_, rfl⟩
    · exact ⟨_, rfl⟩
    · exact ⟨_, rfl⟩
    · exact ⟨_, rfl⟩
    · exact ⟨_, rfl⟩
  · obtain ⟨q, rfl⟩ : ∃ q, md = q + 12 := ⟨md - 12, by omega⟩
    exact ⟨_, rfl⟩

/-! inversions of the simulator's small words, and: memory only grows -/
theorem sm_i1_some {st : List Value} {f : Int32 → List Value → sm_R} {z : sm_M × Option Value} (h : sm_i1 st f = some z) : ∃ x t, st = .int x :: t ∧ f x t = some z := by
  unfold sm_i1 at h
  split at h
  · exact ⟨_, _, rfl, h⟩
  · cases h
theorem sm_i2_some {st : List Value} {f : Int32 → Int32 → List Value → sm_R} {z : sm_M × Option Value} (h : sm_i2 st f = some z) : ∃ x y t, st = .int y :: .int x :: t ∧ f x y t = some z := by
  unfold sm_i2 at h
  split at h
  · exact ⟨_, _, _, rfl, h⟩
  · cases h
theorem sm_l1_some {st : List Value} {f : Int64 → List Value → sm_R} {z : sm_M × Option Value} (h : sm_l1 st f = some z) : ∃ x t, st = .long x :: t ∧ f x t = some z := by
  unfold sm_l1 at h
  split at h
  · exact ⟨_, _, rfl, h⟩
  · cases h
theorem sm_l2_some {st : List Value} {f : Int64 → Int64 → List Value → sm_R} {z : sm_M × Option Value} (h : sm_l2 st f = some z) : ∃ x y t, st = .long y :: .long x :: t ∧ f x y t = some z := by
  unfold sm_l2 at h
  split at h
  · exact ⟨_, _, _, rfl, h⟩
  · cases h
theorem sm_li_some {st : List Value} {f : Int64 → Int32 → List Value → sm_R} {z : sm_M × Option Value} (h : sm_li st f = some z) : ∃ x y t, st = .int y :: .long x :: t ∧ f x y t = some z := by
  unfold sm_li at h
  split at h
  · exact ⟨_, _, _, rfl, h⟩
  · cases h
theorem sm_r1_some {st : List Value} {f : Nat → List Value → sm_R} {z : sm_M × Option Value} (h : sm_r1 st f = some z) : ∃ x t, st = .ref x :: t ∧ f x t = some z := by
  unfold sm_r1 at h
  split at h
  · exact ⟨_, _, rfl, h⟩
  · cases h
theorem sm_tg_some {pc : Nat} {off : Int} {f : Nat → sm_R} {z : sm_M × Option Value} (h : sm_tg pc off f = some z) : ∃ t : Nat, (pc : Int) + off = (t : Int) ∧ f t = some z := by
  unfold sm_tg at h
  split at h
  · rename_i t ht; exact ⟨t, ht, h⟩
  · cases h
theorem sm_li1_some {L : sm_L} {i : Nat} {f : Int32 → sm_R} {z : sm_M × Option Value} (h : sm_li1 L i f = some z) : ∃ x, sm_lg L i = some (.int x) ∧ f x = some z := by
  unfold sm_li1 at h
  split at h
  · rename_i x hx; exact ⟨x, hx, h⟩
  · cases h
theorem sm_ll1_some {L : sm_L} {i : Nat} {f : Int64 → sm_R} {z : sm_M × Option Value} (h : sm_ll1 L i f = some z) : ∃ x, sm_lg L i = some (.long x) ∧ f x = some z := by
  unfold sm_ll1 at h
  split at h
  · rename_i x hx; exact ⟨x, hx, h⟩
  · cases h
theorem sm_lr1_some {L : sm_L} {i : Nat} {f : Nat → sm_R} {z : sm_M × Option Value} (h : sm_lr1 L i f = some z) : ∃ x, sm_lg L i = some (.ref x) ∧ f x = some z := by
  unfold sm_lr1 at h
  split at h
  · rename_i x hx; exact ⟨x, hx, h⟩
  · cases h
theorem sm_ix_some {i : Int32} {n : Nat} {f : Nat → sm_R} {z : sm_M × Option Value} (h : sm_ix i n f = some z) : vp_in i n ∧ f i.toNatClampNeg = some z := by
  unfold sm_ix at h
  split at h
  · cases h
  · rename_i hn; exact ⟨hn, h⟩
theorem sm_obj_some {M : sm_M} {o : Nat} {f : Nat → List Value → sm_R} {z : sm_M × Option Value} (h : sm_obj M o f = some z) : ∃ ci fs, sm_get M o = some (.inr (ci, fs)) ∧ f ci fs = some z := by
  unfold sm_obj at h
  split at h
  · rename_i ci fs hg; exact ⟨ci, fs, hg, h⟩
  · cases h
theorem sm_ia_some {M : sm_M} {o : Nat} {f : Nat → (Nat → Int32) → sm_R} {z : sm_M × Option Value} (h : sm_ia M o f = some z) : ∃ n g, sm_get M o = some (.inl (0, n, .inl g)) ∧ f n g = some z := by
  unfold sm_ia at h
  split at h
  · rename_i n g hg; exact ⟨n, g, hg, h⟩
  · cases h
theorem sm_la_some {M : sm_M} {o : Nat} {f : Nat → (Nat → Int64) → sm_R} {z : sm_M × Option Value} (h : sm_la M o f = some z) : ∃ n g, sm_get M o = some (.inl (1, n, .inr (.inl g))) ∧ f n g = some z := by
  unfold sm_la at h
  split at h
  · rename_i n g hg; exact ⟨n, g, hg, h⟩
  · cases h
theorem sm_len_some {M : sm_M} {o : Nat} {f : Nat → sm_R} {z : sm_M × Option Value} (h : sm_len M o f = some z) : ∃ n, ((∃ g, sm_get M o = some (.inl (0, n, .inl g))) ∨ ∃ g, sm_get M o = some (.inl (1, n, .inr (.inl g)))) ∧ f n = some z := by
  unfold sm_len at h
  split at h
  · rename_i n g hg; exact ⟨n, Or.inl ⟨g, hg⟩, h⟩
  · rename_i n g hg; exact ⟨n, Or.inr ⟨g, hg⟩, h⟩
  · cases h
theorem sm_st1_some {L : sm_L} {i : Nat} {v : Value} {f : sm_L → sm_R} {z : sm_M × Option Value} (h : sm_st1 L i v f = some z) : i < L.length ∧ f (sm_s1 L i v) = some z := by
  unfold sm_st1 at h
  split at h
  · rename_i hb; exact ⟨by simpa using hb, h⟩
  · cases h
theorem sm_st2_some {L : sm_L} {i : Nat} {v : Value} {f : sm_L → sm_R} {z : sm_M × Option Value} (h : sm_st2 L i v f = some z) : i + 1 < L.length ∧ f (sm_s2 L i v) = some z := by
  unfold sm_st2 at h
  split at h
  · rename_i hb; exact ⟨by simpa using hb, h⟩
  · cases h
theorem sm_ret_some {v : Option Value} {M : sm_M} {st : List Value} {z : sm_M × Option Value} (h : sm_ret v M st = some z) : st = [] ∧ z = (M, v) := by
  unfold sm_ret at h
  split at h
  · exact ⟨rfl, (Option.some.inj h).symm⟩
  · cases h
theorem sm_inv_some {f : Nat → sm_L → List Value → sm_M → sm_R} {pc : Nat} {L : sm_L} {r : List Value} {a : sm_R} {z : sm_M × Option Value} (h : sm_inv f pc L r a = some z) : ∃ M v, a = some (M, v) ∧ f (pc + 3) L (v.toList ++ r) M = some z := by
  unfold sm_inv at h
  split at h
  · exact ⟨_, _, rfl, h⟩
  · cases h
theorem sm_vg_get : ∀ (fs : List Value) (k : Nat), sm_vg fs k = fs[k]? := by
  intro fs
  induction fs with
  | nil => intro k; rfl
  | cons v t ih =>
    intro k
    cases k with
    | zero => rfl
    | succ k => simp [sm_vg, ih]
theorem sm_vs_set : ∀ (fs : List Value) (k : Nat) (v : Value), sm_vs fs k v = fs.set k v := by
  intro fs
  induction fs with
  | nil => intro k v; rfl
  | cons w t ih =>
    intro k v
    cases k with
    | zero => rfl
    | succ k => simp [sm_vs, ih]
theorem sm_pop_some : ∀ {n : Nat} {acc st as r : List Value}, sm_pop n acc st = some (as, r) → ∃ ps : List Value, ps.length = n ∧ as = ps ++ acc ∧ st = ps.reverse ++ r := by
  intro n
  induction n with
  | zero => intro acc st as r h; cases h; exact ⟨[], rfl, rfl, rfl⟩
  | succ n ih =>
    intro acc st as r h
    cases st with
    | nil => cases h
    | cons v st =>
      obtain ⟨ps, h1, h2, h3⟩ := ih (show sm_pop n (v :: acc) st = some (as, r) from h)
      exact ⟨ps ++ [v], by simp [h1], by simp [h2], by simp [h3]⟩
theorem sm_pop_0 {n : Nat} {st as r : List Value} (h : sm_pop n [] st = some (as, r)) : as.length = n ∧ st = as.reverse ++ r := by
  obtain ⟨ps, h1, h2, h3⟩ := sm_pop_some h
  rw [List.append_nil] at h2
  subst h2
  exact ⟨h1, h3⟩

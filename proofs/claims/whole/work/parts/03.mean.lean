/-! WHAT THE SIMULATOR'S NUMBERS MEAN: cells by their addresses (B + number, below 1000), locals, words -/
def sm_rho (B : Nat) (ad : Nat → Nat) (i : Nat) : Nat := if i < 1000 then B + i else ad i
def sm_cv (B : Nat) (ad : Nat → Nat) : Value → Value
  | .ref a => .ref (sm_rho B ad a)
  | v => v
def sm_ce (τ : Nat → ClassId) (B : Nat) (ad : Nat → Nat) : va_E → va_E
  | .inl (c, a) => .inl (τ c, a)
  | .inr (ci, fs) => .inr (ci, fs.map (sm_cv B ad))
def sm_w (τ : Nat → ClassId) (B : Nat) (ad : Nat → Nat) : Nat → sm_M → va_W
  | _, [] => []
  | j, e :: t => (sm_rho B ad j, sm_ce τ B ad e) :: sm_w τ B ad (j + 1) t
def sm_sz : va_E → Nat
  | .inl (_, n, _) => n
  | .inr (_, fs) => fs.length
def sm_sl : sm_M → Nat
  | [] => 0
  | e :: t => sm_sz e + sm_sl t
theorem sm_w_get (τ : Nat → ClassId) (B : Nat) (ad : Nat → Nat) : ∀ (M : sm_M) (j i : Nat), (sm_w τ B ad j M)[i]? = (sm_get M i).map (fun e => (sm_rho B ad (j + i), sm_ce τ B ad e)) := by
  intro M
  induction M with
  | nil => intro j i; rfl
  | cons e t ih =>
    intro j i
    cases i with
    | zero => rfl
    | succ i =>
      show (sm_w τ B ad (j + 1) t)[i]? = _
      rw [ih (j + 1) i, show j + 1 + i = j + (i + 1) by omega]
      rfl
theorem sm_w_set (τ : Nat → ClassId) (B : Nat) (ad : Nat → Nat) : ∀ (M : sm_M) (j i : Nat) (e : va_E), (sm_w τ B ad j M).set i (sm_rho B ad (j + i), sm_ce τ B ad e) = sm_w τ B ad j (sm_set M i e) := by
  intro M
  induction M with
  | nil => intro j i e; rfl
  | cons c t ih =>
    intro j i e
    cases i with
    | zero => rfl
    | succ i =>
      show _ :: (sm_w τ B ad (j + 1) t).set i _ = _ :: sm_w τ B ad (j + 1) (sm_set t i e)
      rw [← ih (j + 1) i e, show j + 1 + i = j + (i + 1) by omega]
theorem sm_w_app (τ : Nat → ClassId) (B : Nat) (ad : Nat → Nat) (e : va_E) : ∀ (M : sm_M) (j : Nat), sm_w τ B ad j (M ++ [e]) = sm_w τ B ad j M ++ [(sm_rho B ad (j + M.length), sm_ce τ B ad e)] := by
  intro M
  induction M with
  | nil => intro j; rfl
  | cons c t ih =>
    intro j
    show _ :: sm_w τ B ad (j + 1) (t ++ [e]) = _ :: (sm_w τ B ad (j + 1) t ++ _)
    rw [ih (j + 1), show j + 1 + t.length = j + (c :: t).length by simp; omega]
theorem sm_get_lt : ∀ {M : sm_M} {i : Nat} {e : va_E}, sm_get M i = some e → i < M.length := by
  intro M
  induction M with
  | nil => intro i e h; cases h
  | cons c t ih =>
    intro i e h
    cases i with
    | zero => simp
    | succ i => have := ih (i := i) h; simp; omega
theorem sm_set_len : ∀ (M : sm_M) (i : Nat) (e : va_E), (sm_set M i e).length = M.length := by
  intro M
  induction M with
  | nil => intro i e; rfl
  | cons c t ih =>
    intro i e
    cases i with
    | zero => rfl
    | succ i => simp [sm_set, ih]
theorem sm_set_sl : ∀ {M : sm_M} {i : Nat} {e e0 : va_E}, sm_get M i = some e0 → sm_sz e = sm_sz e0 → sm_sl (sm_set M i e) = sm_sl M := by
  intro M
  induction M with
  | nil => intro i e e0 h; cases h
  | cons c t ih =>
    intro i e e0 h hz
    cases i with
    | zero => cases h; simp [sm_set, sm_sl, hz]
    | succ i => simp [sm_set, sm_sl, ih (i := i) h hz]
theorem sm_sl_app (e : va_E) : ∀ (M : sm_M), sm_sl (M ++ [e]) = sm_sl M + sm_sz e := by
  intro M
  induction M with
  | nil => simp [sm_sl]
  | cons c t ih => simp [sm_sl, ih]; omega
theorem sm_rho_lt {B : Nat} {ad : Nat → Nat} {i : Nat} (h : i < 1000) : sm_rho B ad i = B + i := if_pos h
/-- the cells' addresses are apart, and from B on -/
theorem sm_D {τ : Nat → ClassId} {B : Nat} {ad : Nat → Nat} {M : sm_M} (h : M.length ≤ 1000) : va_D (fun q => B ≤ q) (sm_w τ B ad 0 M) := by
  have key : ∀ (i : Nat) (q : Nat × va_E), (sm_w τ B ad 0 M)[i]? = some q → q.1 = B + i := by
    intro i q hq
    rw [sm_w_get] at hq
    cases hg : sm_get M i with
    | none => rw [hg] at hq; cases hq
    | some e =>
      rw [hg] at hq
      have hlt := sm_get_lt hg
      have : q = (sm_rho B ad (0 + i), sm_ce τ B ad e) := (Option.some.inj hq).symm
      rw [this, Nat.zero_add, sm_rho_lt (by omega)]
  exact ⟨fun i j a b ha hb hab => by rw [key i a ha, key j b hb] at hab; omega, fun i q hq => by rw [key i q hq]; exact Nat.le_add_right _ _⟩
theorem sm_cv_cat (B : Nat) (ad : Nat → Nat) (v : Value) : (sm_cv B ad v).category = v.category := by cases v <;> rfl
/-- locals: what they hold, by their places -/
def sm_al (B : Nat) (ad : Nat → Nat) : Nat → sm_L → List (Nat × Value)
  | _, [] => []
  | j, none :: t => sm_al B ad (j + 1) t
  | j, some v :: t => (j, sm_cv B ad v) :: sm_al B ad (j + 1) t
theorem sm_al_in {B : Nat} {ad : Nat → Nat} : ∀ {L : sm_L} {i j : Nat} {v : Value}, sm_lg L i = some v → (j + i, sm_cv B ad v) ∈ sm_al B ad j L := by
  intro L
  induction L with
  | nil => intro i j v h; cases h
  | cons o t ih =>
    intro i j v h
    cases i with
    | zero =>
      have h : o = some v := h
      subst h
      exact List.mem_cons_self
    | succ i =>
      have h : sm_lg t i = some v := h
      have := ih (j := j + 1) h
      rw [show j + 1 + i = j + (i + 1) by omega] at this
      cases o with
      | none => exact this
      | some w => exact List.mem_cons_of_mem _ this
theorem sm_al_ge {B : Nat} {ad : Nat → Nat} : ∀ {L : sm_L} {j : Nat} {q : Nat × Value}, q ∈ sm_al B ad j L → j ≤ q.1 := by
  intro L
  induction L with
  | nil => intro j q h; cases h
  | cons o t ih =>
    intro j q h
    cases o with
    | none => exact Nat.le_of_succ_le (ih (j := j + 1) h)
    | some w =>
      rcases List.mem_cons.mp h with rfl | h
      · exact Nat.le_refl _
      · exact Nat.le_of_succ_le (ih (j := j + 1) h)
theorem sm_al_msk {B : Nat} {ad : Nat → Nat} : ∀ {L : sm_L} {bs : List Bool} {j : Nat} {q : Nat × Value}, q ∈ sm_al B ad j (sm_msk bs L) → q ∈ sm_al B ad j L := by
  intro L
  induction L with
  | nil => intro bs j q h; cases bs <;> cases h
  | cons o t ih =>
    intro bs j q h
    cases bs with
    | nil => exact h
    | cons b bs =>
      cases b with
      | true =>
        cases o with
        | none => exact ih (bs := bs) (j := j + 1) h
        | some w =>
          rcases List.mem_cons.mp h with h | h
          · exact List.mem_cons.mpr (Or.inl h)
          · exact List.mem_cons_of_mem _ (ih (bs := bs) (j := j + 1) h)
      | false =>
        have h2 := ih (bs := bs) (j := j + 1) h
        cases o with
        | none => exact h2
        | some w => exact List.mem_cons_of_mem _ h2
theorem sm_msk_len : ∀ (L : sm_L) (bs : List Bool), (sm_msk bs L).length = L.length := by
  intro L
  induction L with
  | nil => intro bs; cases bs <;> rfl
  | cons o t ih =>
    intro bs
    cases bs with
    | nil => rfl
    | cons b bs => simp [sm_msk, ih]
theorem sm_s1_len : ∀ (L : sm_L) (i : Nat) (v : Value), (sm_s1 L i v).length = L.length := by
  intro L
  induction L with
  | nil => intro i v; rfl
  | cons o t ih =>
    intro i v
    cases i with
    | zero => rfl
    | succ i => simp [sm_s1, ih]
theorem sm_s2_len : ∀ (L : sm_L) (i : Nat) (v : Value), (sm_s2 L i v).length = L.length := by
  intro L
  induction L with
  | nil => intro i v; rfl
  | cons o t ih =>
    intro i v
    cases i with
    | zero => cases t <;> rfl
    | succ i => simp [sm_s2, ih]
theorem sm_al_cl {B : Nat} {ad : Nat → Nat} {o : Option Value} {t : sm_L} {j : Nat} {q : Nat × Value} (h : q ∈ sm_al B ad j (sm_cl o :: t)) : (q ∈ sm_al B ad j [o] ∧ ¬ q.2.category = 2) ∨ q ∈ sm_al B ad (j + 1) t := by
  cases o with
  | none => exact Or.inr h
  | some v =>
    cases v <;> first
      | exact Or.inr h
      | (rcases List.mem_cons.mp h with rfl | h
         · exact Or.inl ⟨List.mem_cons_self, by simp [sm_cv, Value.category]⟩
         · exact Or.inr h)
theorem sm_al_one {B : Nat} {ad : Nat → Nat} {o : Option Value} {t : sm_L} {j : Nat} {q : Nat × Value} (h : q ∈ sm_al B ad j [o]) : q ∈ sm_al B ad j (o :: t) ∧ q.1 = j := by
  cases o with
  | none => cases h
  | some v =>
    rcases List.mem_cons.mp h with rfl | h
    · exact ⟨List.mem_cons_self, rfl⟩
    · cases h
theorem sm_al_tl {B : Nat} {ad : Nat → Nat} {o : Option Value} {t : sm_L} {j : Nat} {q : Nat × Value} (h : q ∈ sm_al B ad (j + 1) t) : q ∈ sm_al B ad j (o :: t) := by
  cases o with
  | none => exact h
  | some v => exact List.mem_cons_of_mem _ h
theorem sm_al_hd {B : Nat} {ad : Nat → Nat} {o : Option Value} {t : sm_L} {j : Nat} {q : Nat × Value} (h : q ∈ sm_al B ad j (o :: t)) : (q ∈ sm_al B ad j [o]) ∨ q ∈ sm_al B ad (j + 1) t := by
  cases o with
  | none => exact Or.inr h
  | some v =>
    rcases List.mem_cons.mp h with rfl | h
    · exact Or.inl List.mem_cons_self
    · exact Or.inr h
theorem sm_al_s1 {B : Nat} {ad : Nat → Nat} : ∀ {L : sm_L} {i j : Nat} {v : Value} {q : Nat × Value}, q ∈ sm_al B ad j (sm_s1 L i v) → q = (j + i, sm_cv B ad v) ∨ (q ∈ sm_al B ad j L ∧ ¬ q.1 = j + i ∧ ¬ (q.1 + 1 = j + i ∧ q.2.category = 2)) := by
  intro L
  induction L with
  | nil => intro i j v q h; cases h
  | cons o t ih =>
    intro i j v q h
    cases i with
    | zero =>
      rcases List.mem_cons.mp (show q ∈ (j, sm_cv B ad v) :: sm_al B ad (j + 1) t from h) with h | h
      · exact Or.inl h
      · have g := sm_al_ge h
        exact Or.inr ⟨sm_al_tl h, by omega, by omega⟩
    | succ i =>
      cases i with
      | zero =>
        rcases sm_al_cl (show q ∈ sm_al B ad j (sm_cl o :: sm_s1 t 0 v) from h) with ⟨h, hc⟩ | h
        · obtain ⟨h1, h2⟩ := sm_al_one (t := t) h
          exact Or.inr ⟨h1, by omega, fun z => hc z.2⟩
        · rcases ih (i := 0) (j := j + 1) h with h | ⟨h, h2, h3⟩
          · exact Or.inl (by rw [h])
          · exact Or.inr ⟨sm_al_tl h, by omega, fun z => h3 ⟨by omega, z.2⟩⟩
      | succ i =>
        rcases sm_al_hd (show q ∈ sm_al B ad j (o :: sm_s1 t (i + 1) v) from h) with h | h
        · obtain ⟨h1, h2⟩ := sm_al_one (t := t) h
          exact Or.inr ⟨h1, by omega, by omega⟩
        · rcases ih (i := i + 1) (j := j + 1) h with h | ⟨h, h2, h3⟩
          · exact Or.inl (by rw [h, show j + 1 + (i + 1) = j + (i + 1 + 1) by omega])
          · exact Or.inr ⟨sm_al_tl h, by omega, fun z => h3 ⟨by omega, z.2⟩⟩
theorem sm_al_s2 {B : Nat} {ad : Nat → Nat} : ∀ {L : sm_L} {i j : Nat} {v : Value} {q : Nat × Value}, q ∈ sm_al B ad j (sm_s2 L i v) → q = (j + i, sm_cv B ad v) ∨ (q ∈ sm_al B ad j L ∧ ¬ q.1 = j + i ∧ ¬ q.1 = j + i + 1 ∧ ¬ (q.1 + 1 = j + i ∧ q.2.category = 2)) := by
  intro L
  induction L with
  | nil => intro i j v q h; cases h
  | cons o t ih =>
    intro i j v q h
    cases i with
    | zero =>
      cases t with
      | nil =>
        rcases List.mem_cons.mp (show q ∈ (j, sm_cv B ad v) :: sm_al B ad (j + 1) [] from h) with h | h
        · exact Or.inl h
        · cases h
      | cons o2 t =>
        rcases List.mem_cons.mp (show q ∈ (j, sm_cv B ad v) :: sm_al B ad (j + 1 + 1) t from h) with h | h
        · exact Or.inl h
        · have g := sm_al_ge h
          exact Or.inr ⟨sm_al_tl (sm_al_tl h), by omega, by omega, by omega⟩
    | succ i =>
      cases i with
      | zero =>
        rcases sm_al_cl (show q ∈ sm_al B ad j (sm_cl o :: sm_s2 t 0 v) from h) with ⟨h, hc⟩ | h
        · obtain ⟨h1, h2⟩ := sm_al_one (t := t) h
          exact Or.inr ⟨h1, by omega, by omega, fun z => hc z.2⟩
        · rcases ih (i := 0) (j := j + 1) h with h | ⟨h, h2, h3, h4⟩
          · exact Or.inl (by rw [h])
          · exact Or.inr ⟨sm_al_tl h, by omega, by omega, fun z => h4 ⟨by omega, z.2⟩⟩
      | succ i =>
        rcases sm_al_hd (show q ∈ sm_al B ad j (o :: sm_s2 t (i + 1) v) from h) with h | h
        · obtain ⟨h1, h2⟩ := sm_al_one (t := t) h
          exact Or.inr ⟨h1, by omega, by omega, by omega⟩
        · rcases ih (i := i + 1) (j := j + 1) h with h | ⟨h, h2, h3, h4⟩
          · exact Or.inl (by rw [h, show j + 1 + (i + 1) = j + (i + 1 + 1) by omega])
          · exact Or.inr ⟨sm_al_tl h, by omega, by omega, fun z => h4 ⟨by omega, z.2⟩⟩
theorem sm_has_le {ls : Array Slot} {nL : Nat} {l l' : List (Nat × Value)} (h : lv_has ls nL l) (hs : ∀ q ∈ l', q ∈ l) : lv_has ls nL l' := ⟨h.1, h.2.1, fun q hq => h.2.2 q (hs q hq)⟩
theorem sm_has_kp {ls : Array Slot} {nL : Nat} {B : Nat} {ad : Nat → Nat} {L : sm_L} {ks : List (Nat × List Bool)} {pc : Nat} (h : lv_has ls nL (sm_al B ad 0 L)) : lv_has ls nL (sm_al B ad 0 (sm_kp ks pc L)) := by
  unfold sm_kp
  cases sm_fd ks pc with
  | none => exact h
  | some bs => exact sm_has_le h (fun q hq => sm_al_msk hq)
theorem sm_kp_len (ks : List (Nat × List Bool)) (pc : Nat) (L : sm_L) : (sm_kp ks pc L).length = L.length := by
  unfold sm_kp
  cases sm_fd ks pc with
  | none => rfl
  | some bs => exact sm_msk_len L bs
theorem sm_has_s1 {ls : Array Slot} {nL : Nat} {B : Nat} {ad : Nat → Nat} {L : sm_L} {i : Nat} {v : Value} (h : lv_has ls nL ((i, sm_cv B ad v) :: (sm_al B ad 0 L).filter (fun q => !(q.1 == i) && !(q.1 + 1 == i && q.2.category == 2)))) : lv_has ls nL (sm_al B ad 0 (sm_s1 L i v)) := by
  refine sm_has_le h (fun q hq => ?_)
  rcases sm_al_s1 hq with h | ⟨h1, h2, h3⟩
  · rw [h, Nat.zero_add]; exact List.mem_cons_self
  · refine List.mem_cons_of_mem _ (List.mem_filter.mpr ⟨h1, ?_⟩)
    rw [Nat.zero_add] at h2 h3
    simp only [Bool.and_eq_true, Bool.not_eq_true', beq_eq_false_iff_ne, ne_eq, Bool.and_eq_false_iff]
    refine ⟨h2, ?_⟩
    by_cases z : q.1 + 1 = i
    · exact Or.inr (fun y => h3 ⟨z, y⟩)
    · exact Or.inl z
theorem sm_has_s2 {ls : Array Slot} {nL : Nat} {B : Nat} {ad : Nat → Nat} {L : sm_L} {i : Nat} {v : Value} (h : lv_has ls nL ((i, sm_cv B ad v) :: (sm_al B ad 0 L).filter (fun q => !(q.1 == i) && (!(q.1 == i + 1) && !(q.1 + 1 == i && q.2.category == 2))))) : lv_has ls nL (sm_al B ad 0 (sm_s2 L i v)) := by
  refine sm_has_le h (fun q hq => ?_)
  rcases sm_al_s2 hq with h | ⟨h1, h2, h3, h4⟩
  · rw [h, Nat.zero_add]; exact List.mem_cons_self
  · refine List.mem_cons_of_mem _ (List.mem_filter.mpr ⟨h1, ?_⟩)
    rw [Nat.zero_add] at h2 h3 h4
    simp only [Bool.and_eq_true, Bool.not_eq_true', beq_eq_false_iff_ne, ne_eq, Bool.and_eq_false_iff]
    refine ⟨h2, h3, ?_⟩
    by_cases z : q.1 + 1 = i
    · exact Or.inr (fun y => h4 ⟨z, y⟩)
    · exact Or.inl z
theorem sm_lg_lt : ∀ {L : sm_L} {i : Nat} {v : Value}, sm_lg L i = some v → i < L.length := by
  intro L
  induction L with
  | nil => intro i v h; cases h
  | cons o t ih =>
    intro i v h
    cases i with
    | zero => simp
    | succ i => have := ih (i := i) h; simp; omega
theorem sm_has_at {ls : Array Slot} {nL : Nat} {B : Nat} {ad : Nat → Nat} {L : sm_L} {i : Nat} {v : Value} (h : lv_has ls nL (sm_al B ad 0 L)) (hv : sm_lg L i = some v) : ls[i]? = some (.val (sm_cv B ad v)) := by
  have := h.2.2 _ (sm_al_in (B := B) (ad := ad) (j := 0) hv)
  rw [Nat.zero_add] at this
  exact this

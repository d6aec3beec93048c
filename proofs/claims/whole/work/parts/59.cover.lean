/-! COVER: what it is -/
/-- the unlike ones that aren't empty, in their order -/
def gat (F : Nat → Int32) : Nat → List Int32
  | 0 => []
  | p + 1 => if F p = 0 ∨ F p ∈ gat F p then gat F p else gat F p ++ [F p]
theorem gat_mem {F : Nat → Int32} {x : Int32} : ∀ {n : Nat}, x ∈ gat F n → x ≠ 0 ∧ ∃ p, p < n ∧ x = F p := by
  intro n
  induction n with
  | zero => intro h; cases h
  | succ n ih =>
    intro h
    rw [gat] at h
    split at h
    · obtain ⟨h1, p, h2, h3⟩ := ih h
      exact ⟨h1, p, by omega, h3⟩
    · rename_i h0
      rw [List.mem_append, List.mem_singleton] at h
      rcases h with h | h
      · obtain ⟨h1, p, h2, h3⟩ := ih h
        exact ⟨h1, p, by omega, h3⟩
      · subst h
        exact ⟨fun z => h0 (Or.inl z), n, by omega, rfl⟩
theorem gat_nodup {F : Nat → Int32} : ∀ {n : Nat}, (gat F n).Nodup := by
  intro n
  induction n with
  | zero => exact List.nodup_nil
  | succ n ih =>
    rw [gat]
    split
    · exact ih
    · rename_i h0
      rw [List.nodup_append]
      refine ⟨ih, by simp, fun a ha b hb => ?_⟩
      rw [List.mem_singleton] at hb
      subst hb
      intro z
      subst z
      exact h0 (Or.inr ha)
theorem gat_len {F : Nat → Int32} {n : Nat} : ∀ {k : Nat}, (gat F n).length ≤ (gat F (n + k)).length := by
  intro k
  induction k with
  | zero => exact Nat.le_refl _
  | succ k ih =>
    rw [← Nat.add_assoc, gat]
    split
    · exact ih
    · rw [List.length_append]
      omega
theorem gat_le {F : Nat → Int32} {n m : Nat} (h : n ≤ m) : (gat F n).length ≤ (gat F m).length := by
  have := gat_len (F := F) (n := n) (k := m - n)
  rw [show n + (m - n) = m by omega] at this
  exact this
theorem gat_cong {F G : Nat → Int32} : ∀ {n : Nat}, (∀ i, i < n → F i = G i) → gat F n = gat G n := by
  intro n
  induction n with
  | zero => intro _; rfl
  | succ n ih =>
    intro h
    rw [gat, gat, ih (fun i hi => h i (by omega)), h n (by omega)]
/-- the i-th of a list -/
abbrev li (l : List Int32) (i : Nat) : Int32 := l.getD i 0
theorem li_mem {l : List Int32} {i : Nat} (h : i < l.length) : li l i ∈ l := by
  unfold li
  rw [List.getD_eq_getElem?_getD, List.getElem?_eq_getElem h]
  exact List.getElem_mem h
theorem mem_li {l : List Int32} {x : Int32} (h : x ∈ l) : ∃ i, i < l.length ∧ li l i = x := by
  obtain ⟨i, h1, h2⟩ := List.getElem_of_mem h
  refine ⟨i, h1, ?_⟩
  unfold li
  rw [List.getD_eq_getElem?_getD, List.getElem?_eq_getElem h1]
  exact h2
theorem li_app {l : List Int32} {x : Int32} {i : Nat} (h : i < l.length) : li (l ++ [x]) i = li l i := by
  unfold li
  rw [List.getD_eq_getElem?_getD, List.getD_eq_getElem?_getD, List.getElem?_append_left h]
theorem li_end {l : List Int32} {x : Int32} : li (l ++ [x]) l.length = x := by
  unfold li
  rw [List.getD_eq_getElem?_getD, List.getElem?_append_right (Nat.le_refl _)]
  simp
/-- what some have in common -/
def anF (L : Nat → Int32) (q : Nat) : Nat → Int32
  | 0 => nI 65535
  | n + 1 => if q.testBit n then anF L q n &&& L n else anF L q n
theorem ib_full : ∀ s, s < 32 → ib (nI 65535) s = decide (s < 16) := by decide +kernel
theorem ib_anF {L : Nat → Int32} {q s : Nat} (hs : s < 32) : ∀ {n : Nat}, ib (anF L q n) s = true ↔ s < 16 ∧ ∀ i, i < n → q.testBit i = true → ib (L i) s = true := by
  intro n
  induction n with
  | zero =>
    rw [anF, ib_full s hs, decide_eq_true_eq]
    exact ⟨fun h => ⟨h, fun i hi => by omega⟩, fun h => h.1⟩
  | succ n ih =>
    rw [anF]
    split
    · rename_i h1
      rw [ib_and, Bool.and_eq_true, ih]
      constructor
      · rintro ⟨⟨h2, h3⟩, h4⟩
        refine ⟨h2, fun i hi h5 => ?_⟩
        by_cases h6 : i = n
        · subst h6; exact h4
        · exact h3 i (by omega) h5
      · rintro ⟨h2, h3⟩
        exact ⟨⟨h2, fun i hi => h3 i (by omega)⟩, h3 n (by omega) h1⟩
    · rename_i h1
      rw [ih]
      constructor
      · rintro ⟨h2, h3⟩
        refine ⟨h2, fun i hi h5 => ?_⟩
        by_cases h6 : i = n
        · subst h6; exact absurd h5 h1
        · exact h3 i (by omega) h5
      · rintro ⟨h2, h3⟩
        exact ⟨h2, fun i hi => h3 i (by omega)⟩
theorem anF_cong {L L' : Nat → Int32} {q : Nat} : ∀ {n : Nat}, (∀ i, i < n → L i = L' i) → anF L q n = anF L' q n := by
  intro n
  induction n with
  | zero => intro _; rfl
  | succ n ih =>
    intro h
    rw [anF, anF, ih (fun i hi => h i (by omega)), h n (by omega)]
/-- rising rows, and what they have -/
def Enm (K : Nat → Int32) (k : Nat) (S : Int32 → Prop) : Prop := (∀ i j, i < j → j < k → K i < K j) ∧ ∀ x, (∃ i, i < k ∧ K i = x) ↔ S x
theorem enm_cong {K K' : Nat → Int32} {k : Nat} {S : Int32 → Prop} (h : Enm K k S) (hK : ∀ i, i < k → K' i = K i) : Enm K' k S := by
  refine ⟨fun i j h1 h2 => ?_, fun x => ?_⟩
  · rw [hK i (by omega), hK j h2]; exact h.1 i j h1 h2
  · rw [← h.2 x]
    constructor
    · rintro ⟨i, h1, h2⟩; exact ⟨i, h1, by rw [← hK i h1]; exact h2⟩
    · rintro ⟨i, h1, h2⟩; exact ⟨i, h1, by rw [hK i h1]; exact h2⟩
theorem enm_at {K K' : Nat → Int32} {k k' : Nat} {S : Int32 → Prop} (h : Enm K k S) (h' : Enm K' k' S) : ∀ i, i < k → i < k' → K i = K' i := by
  intro i
  induction i using Nat.strongRecOn with
  | _ i ih =>
    intro h1 h2
    have low : ∀ {K K' : Nat → Int32} {k k' : Nat}, Enm K k S → Enm K' k' S → (∀ m, m < i → m < k → m < k' → K m = K' m) → i < k → i < k' → K' i ≤ K i := by
      intro K K' k k' h h' ih h1 h2
      obtain ⟨j, h3, h4⟩ := (h'.2 (K i)).mpr ((h.2 (K i)).mp ⟨i, h1, rfl⟩)
      rcases Nat.lt_or_ge j i with h5 | h5
      · have h6 := ih j h5 (by omega) h3
        have h7 := h.1 j i h5 h1
        rw [h6, h4] at h7
        exact absurd h7 Int32.lt_irrefl
      · rcases Nat.eq_or_lt_of_le h5 with h6 | h6
        · subst h6; rw [h4]; exact Int32.le_refl _
        · have := h'.1 i j h6 h3
          rw [h4] at this
          exact Int32.le_of_lt this
    exact Int32.le_antisymm (low h' h (fun m a b c => (ih m a c b).symm) h2 h1) (low h h' (fun m a b c => ih m a b c) h1 h2)
theorem enm_k {K K' : Nat → Int32} {k k' : Nat} {S : Int32 → Prop} (h : Enm K k S) (h' : Enm K' k' S) : k = k' := by
  have low : ∀ {K K' : Nat → Int32} {k k' : Nat}, Enm K k S → Enm K' k' S → ¬ k < k' := by
    intro K K' k k' h h' hk
    obtain ⟨j, h3, h4⟩ := (h.2 (K' k)).mpr ((h'.2 (K' k)).mp ⟨k, hk, rfl⟩)
    have h5 := enm_at h h' j h3 (by omega)
    have h6 := h'.1 j k h3 hk
    rw [← h5, h4] at h6
    exact absurd h6 Int32.lt_irrefl
  have := low h h'
  have := low h' h
  omega
def insK (K : Nat → Int32) (q : Nat) (v : Int32) : Nat → Int32 := fun i => if i < q then K i else if i = q then v else K (i - 1)
theorem enm_ins {K : Nat → Int32} {k q : Nat} {v : Int32} {S : Int32 → Prop} (h : Enm K k S) (hq : q ≤ k) (h1 : ∀ i, i < q → K i < v) (h2 : ∀ i, q ≤ i → i < k → v < K i) : Enm (insK K q v) (k + 1) (fun x => S x ∨ x = v) := by
  have a1 : ∀ i, i < q → insK K q v i = K i := fun i hi => by unfold insK; rw [if_pos hi]
  have a2 : insK K q v q = v := by unfold insK; rw [if_neg (by omega), if_pos rfl]
  have a3 : ∀ i, q ≤ i → insK K q v (i + 1) = K i := fun i hi => by unfold insK; rw [if_neg (by omega), if_neg (by omega), Nat.add_sub_cancel]
  refine ⟨fun i j h3 h4 => ?_, fun x => ?_⟩
  · rcases Nat.lt_trichotomy i q with h5 | h5 | h5
    · rw [a1 i h5]
      rcases Nat.lt_trichotomy j q with h6 | h6 | h6
      · rw [a1 j h6]; exact h.1 i j h3 (by omega)
      · subst h6; rw [a2]; exact h1 i h5
      · obtain ⟨j, rfl⟩ : ∃ m, j = m + 1 := ⟨j - 1, by omega⟩
        rw [a3 j (by omega)]; exact h.1 i j (by omega) (by omega)
    · subst h5
      rw [a2]
      obtain ⟨j, rfl⟩ : ∃ m, j = m + 1 := ⟨j - 1, by omega⟩
      rw [a3 j (by omega)]; exact h2 j (by omega) (by omega)
    · obtain ⟨i, rfl⟩ : ∃ m, i = m + 1 := ⟨i - 1, by omega⟩
      obtain ⟨j, rfl⟩ : ∃ m, j = m + 1 := ⟨j - 1, by omega⟩
      rw [a3 i (by omega), a3 j (by omega)]; exact h.1 i j (by omega) (by omega)
  · constructor
    · rintro ⟨i, h3, h4⟩
      rcases Nat.lt_trichotomy i q with h5 | h5 | h5
      · rw [a1 i h5] at h4; exact Or.inl ((h.2 x).mp ⟨i, by omega, h4⟩)
      · subst h5; rw [a2] at h4; exact Or.inr h4.symm
      · obtain ⟨i, rfl⟩ : ∃ m, i = m + 1 := ⟨i - 1, by omega⟩
        rw [a3 i (by omega)] at h4; exact Or.inl ((h.2 x).mp ⟨i, by omega, h4⟩)
    · rintro (h3 | h3)
      · obtain ⟨i, h4, h5⟩ := (h.2 x).mpr h3
        rcases Nat.lt_or_ge i q with h6 | h6
        · exact ⟨i, by omega, by rw [a1 i h6]; exact h5⟩
        · exact ⟨i + 1, by omega, by rw [a3 i h6]; exact h5⟩
      · exact ⟨q, by omega, by rw [a2]; exact h3.symm⟩
/-- the TIES that may be, by the first sets of LIFTS -/
def tieS (L : Nat → Int32) (m q : Nat) (x : Int32) : Prop := x ≠ 0 ∧ ∃ z, 1 ≤ z ∧ z < q ∧ anF L z m = x
theorem enm_S {K : Nat → Int32} {k : Nat} {S R : Int32 → Prop} (h : Enm K k S) (hS : ∀ x, S x ↔ R x) : Enm K k R := ⟨h.1, fun x => (h.2 x).trans (hS x)⟩
/-- the next set brings nothing new -/
theorem tie_no {L : Nat → Int32} {m q : Nat} (h : anF L q m = 0 ∨ tieS L m q (anF L q m)) (x : Int32) : tieS L m q x ↔ tieS L m (q + 1) x := by
  constructor
  · rintro ⟨h1, z, h2, h3, h4⟩; exact ⟨h1, z, h2, by omega, h4⟩
  · rintro ⟨h1, z, h2, h3, h4⟩
    by_cases h5 : z = q
    · subst h5
      rcases h with h | h
      · rw [h4] at h; exact absurd h h1
      · rw [h4] at h; exact h
    · exact ⟨h1, z, h2, by omega, h4⟩
theorem tie_yes {L : Nat → Int32} {m q : Nat} (hq : 1 ≤ q) (h : anF L q m ≠ 0) (x : Int32) : (tieS L m q x ∨ x = anF L q m) ↔ tieS L m (q + 1) x := by
  constructor
  · rintro (⟨h1, z, h2, h3, h4⟩ | h1)
    · exact ⟨h1, z, h2, by omega, h4⟩
    · subst h1; exact ⟨h, q, hq, by omega, rfl⟩
  · rintro ⟨h1, z, h2, h3, h4⟩
    by_cases h5 : z = q
    · subst h5; exact Or.inr h4.symm
    · exact Or.inl ⟨h1, z, h2, by omega, h4⟩
/-- choices -/
def Vs (k n : Nat) (c : Nat → Nat) : Prop := (∀ j, j < n → c j < k) ∧ ∀ i j, i < j → j < n → c i < c j
def Cov (L : Nat → Int32) (m : Nat) (K : Nat → Int32) (n : Nat) (c : Nat → Nat) : Prop := ∀ i, i < m → ∀ s, s < 16 → ib (L i) s = true → ∃ j, j < n ∧ ib (K (c j)) s = true ∧ ∀ t, t < 16 → ib (K (c j)) t = true → ib (L i) t = true
/-- d is put ahead of c -/
def Lx (n : Nat) (d c : Nat → Nat) : Prop := ∃ j, j < n ∧ (∀ i, i < j → d i = c i) ∧ d j < c j
def Fst (P : (Nat → Nat) → Prop) (k n : Nat) (c : Nat → Nat) : Prop := Vs k n c ∧ P c ∧ ∀ d, Vs k n d → P d → ¬ Lx n d c
theorem fst_u {P : (Nat → Nat) → Prop} {k n : Nat} {c d : Nat → Nat} (h1 : Fst P k n c) (h2 : Fst P k n d) : ∀ j, j < n → c j = d j := by
  intro j
  induction j using Nat.strongRecOn with
  | _ j ih =>
    intro hj
    rcases Nat.lt_trichotomy (c j) (d j) with h | h | h
    · exact absurd ⟨j, hj, fun i hi => ih i hi (by omega), h⟩ (h2.2.2 c h1.1 h1.2.1)
    · exact h
    · exact absurd ⟨j, hj, fun i hi => (ih i hi (by omega)).symm, h⟩ (h1.2.2 d h2.1 h2.2.1)
theorem cov_cong {L : Nat → Int32} {m : Nat} {K K' : Nat → Int32} {k n : Nat} {c : Nat → Nat} (hK : ∀ i, i < k → K' i = K i) (hc : ∀ j, j < n → c j < k) (h : Cov L m K n c) : Cov L m K' n c := by
  intro i hi s hs h1
  obtain ⟨j, h2, h3, h4⟩ := h i hi s hs h1
  refine ⟨j, h2, ?_, ?_⟩
  · rw [hK _ (hc j h2)]; exact h3
  · rw [hK _ (hc j h2)]; exact h4
theorem seq_of (p : Nat → Bool) : ∀ (k : Nat), ∃ c, Vs k (cnt p k) c ∧ (∀ j, j < cnt p k → p (c j) = true) ∧ ∀ i, i < k → p i = true → ∃ j, j < cnt p k ∧ c j = i := by
  intro k
  induction k with
  | zero => exact ⟨fun _ => 0, ⟨fun j hj => by rw [cnt] at hj; omega, fun i j _ hj => by rw [cnt] at hj; omega⟩, fun j hj => by rw [cnt] at hj; omega, fun i hi => by omega⟩
  | succ k ih =>
    obtain ⟨c, ⟨h1, h2⟩, h3, h4⟩ := ih
    rw [cnt]
    by_cases hp : p k = true
    · rw [if_pos hp]
      refine ⟨fun j => if j < cnt p k then c j else k, ⟨fun j hj => ?_, fun i j hij hj => ?_⟩, fun j hj => ?_, fun i hi hpi => ?_⟩
      · show (if j < cnt p k then c j else k) < k + 1
        split
        · rename_i h5; have := h1 j h5; omega
        · omega
      · show (if i < cnt p k then c i else k) < (if j < cnt p k then c j else k)
        rw [if_pos (by omega)]
        split
        · rename_i h5; exact h2 i j hij h5
        · exact h1 i (by omega)
      · show p (if j < cnt p k then c j else k) = true
        split
        · rename_i h5; exact h3 j h5
        · exact hp
      · by_cases h5 : i = k
        · subst h5
          exact ⟨cnt p i, by omega, by show (if cnt p i < cnt p i then _ else _) = _; rw [if_neg (by omega)]⟩
        · obtain ⟨j, h6, h7⟩ := h4 i (by omega) hpi
          exact ⟨j, by omega, by show (if j < cnt p k then _ else _) = _; rw [if_pos h6]; exact h7⟩
    · rw [if_neg hp]
      refine ⟨c, ⟨fun j hj => by have := h1 j hj; omega, h2⟩, h3, fun i hi hpi => ?_⟩
      by_cases h5 : i = k
      · subst h5; exact absurd hpi hp
      · exact h4 i (by omega) hpi
theorem cnt_one {p : Nat → Bool} : ∀ {n : Nat}, (∀ i j, i < j → j < n → p i = true → p j = true → False) → cnt p n ≤ 1 := by
  intro n
  induction n with
  | zero => intro _; rw [cnt]; omega
  | succ n ih =>
    intro h
    rw [cnt]
    by_cases h1 : p n = true
    · rw [if_pos h1, cnt_0 (fun i hi => ?_)]
      · omega
      · cases h2 : p i
        · rfl
        · exact (h i n hi (by omega) h2 h1).elim
    · rw [if_neg h1]
      have := ih (fun i j a b => h i j a (by omega))
      omega
theorem cnt_or {p q : Nat → Bool} : ∀ {n : Nat}, cnt (fun i => p i || q i) n ≤ cnt p n + cnt q n := by
  intro n
  induction n with
  | zero => exact Nat.le_refl _
  | succ n ih =>
    rw [cnt, cnt, cnt]
    cases p n <;> cases q n <;> simp <;> omega
theorem cnt_any {r : Nat → Nat → Bool} {n : Nat} (h : ∀ i, cnt (fun j => r i j) n ≤ 1) : ∀ {m : Nat}, cnt (fun j => anyB (fun i => r i j) m) n ≤ m := by
  intro m
  induction m with
  | zero => exact Nat.le_of_eq (cnt_0 (fun i _ => rfl))
  | succ m ih =>
    have h1 := cnt_or (p := fun j => anyB (fun i => r i j) m) (q := fun j => r m j) (n := n)
    have h2 := h m
    show cnt (fun j => anyB (fun i => r i j) m || r m j) n ≤ m + 1
    omega
/-- the sets are of SHAFTS, unlike and not empty -/
def LOk (L : Nat → Int32) (m : Nat) : Prop := m ≤ 5 ∧ (∀ i, i < m → L i ≠ 0) ∧ (∀ i, i < m → ∀ s, 16 ≤ s → s < 32 → ib (L i) s = false) ∧ ∀ i j, i < j → j < m → L i ≠ L j
theorem tb_pow {i j : Nat} : (2 ^ i).testBit j = decide (i = j) := Nat.testBit_two_pow
theorem lift_tie {L : Nat → Int32} {m i : Nat} (h : LOk L m) (hi : i < m) : tieS L m (2 ^ m) (L i) := by
  refine ⟨h.2.1 i hi, 2 ^ i, Nat.one_le_two_pow, Nat.pow_lt_pow_right (by decide) hi, ib_ext (fun s hs => ?_)⟩
  rw [Bool.eq_iff_iff, ib_anF hs]
  constructor
  · rintro ⟨_, h2⟩
    exact h2 i hi (by rw [tb_pow]; exact decide_eq_true rfl)
  · intro h2
    refine ⟨?_, fun j hj h3 => ?_⟩
    · rcases Nat.lt_or_ge s 16 with h4 | h4
      · exact h4
      · rw [h.2.2.1 i hi s h4 hs] at h2; cases h2
    · rw [tb_pow, decide_eq_true_eq] at h3
      subst h3; exact h2
/-- a COVER is there, of no more TIES than LIFTS -/
theorem cov_ex {L : Nat → Int32} {m : Nat} {K : Nat → Int32} {k : Nat} (h : LOk L m) (hK : Enm K k (tieS L m (2 ^ m))) : ∃ n, n ≤ m ∧ ∃ c, Vs k n c ∧ Cov L m K n c := by
  obtain ⟨c, h1, h2, h3⟩ := seq_of (fun j => anyB (fun i => decide (K j = L i)) m) k
  refine ⟨_, ?_, c, h1, fun i hi s hs hb => ?_⟩
  · refine cnt_any (r := fun i j => decide (K j = L i)) (n := k) (fun i => cnt_one (fun a b hab hb h4 h5 => ?_))
    have h6 := hK.1 a b hab hb
    rw [of_decide_eq_true h4, of_decide_eq_true h5] at h6
    exact Int32.lt_irrefl h6
  · obtain ⟨j, h4, h5⟩ := (hK.2 (L i)).mpr (lift_tie h hi)
    obtain ⟨q, h6, h7⟩ := h3 j h4 (anyB_iff.mpr ⟨i, hi, decide_eq_true h5⟩)
    refine ⟨q, h6, ?_, fun t ht h8 => ?_⟩
    · rw [h7, h5]; exact hb
    · rw [h7, h5] at h8; exact h8
/-- the first least COVER -/
def CvL (L : Nat → Int32) (m : Nat) (K : Nat → Int32) (k n : Nat) (c : Nat → Nat) : Prop := Enm K k (tieS L m (2 ^ m)) ∧ (∀ z, z < n → ¬ ∃ d, Vs k z d ∧ Cov L m K z d) ∧ Fst (Cov L m K n) k n c
theorem cvl_n {L : Nat → Int32} {m : Nat} {K : Nat → Int32} {k n : Nat} {c : Nat → Nat} (h : LOk L m) (hc : CvL L m K k n c) : n ≤ m := by
  obtain ⟨z, h1, h2⟩ := cov_ex h hc.1
  rcases Nat.lt_or_ge z n with h3 | h3
  · exact absurd h2 (hc.2.1 z h3)
  · omega
theorem cvl_u {L : Nat → Int32} {m : Nat} {K K' : Nat → Int32} {k k' n n' : Nat} {c c' : Nat → Nat} (h : CvL L m K k n c) (h' : CvL L m K' k' n' c') : n = n' ∧ ∀ j, j < n → K (c j) = K' (c' j) := by
  obtain ⟨h1, h2, h3⟩ := h
  obtain ⟨g1, g2, g3⟩ := h'
  have ek := enm_k h1 g1
  subst ek
  have eK := fun i hi => enm_at h1 g1 i hi hi
  have en : n = n' := by
    rcases Nat.lt_trichotomy n n' with h4 | h4 | h4
    · exact absurd ⟨c, h3.1, cov_cong (fun i hi => (eK i hi).symm) h3.1.1 h3.2.1⟩ (g2 n h4)
    · exact h4
    · exact absurd ⟨c', g3.1, cov_cong eK g3.1.1 g3.2.1⟩ (h2 n' h4)
  subst en
  refine ⟨rfl, fun j hj => ?_⟩
  have : Fst (Cov L m K n) k n c' := ⟨g3.1, cov_cong eK g3.1.1 g3.2.1, fun d d1 d2 => g3.2.2 d d1 (cov_cong (fun i hi => (eK i hi).symm) d1.1 d2)⟩
  rw [fst_u h3 this j hj]
  exact eK _ (g3.1.1 j hj)
/-- the LIFTS at the look -/
def uL (V : Nat → Int32) (w p : Nat) : Int32 := vLi V p &&& usF V w
def CovAns (V : Nat → Int32) (w h : Nat) (x ans : Int32) : Prop := (5 < (gat (uL V w) h).length ∧ ans = -1) ∨ ((gat (uL V w) h).length ≤ 5 ∧ ∃ K k n c, CvL (li (gat (uL V w) h)) (gat (uL V w) h).length K k n c ∧ ans = if x = -1 then nI n else if 0 ≤ x ∧ x < nI n then K (c x.toNatClampNeg) else -1)
theorem gat_ok {V : Nat → Int32} {w h : Nat} (hV : VOk V) (hl : (gat (uL V w) h).length ≤ 5) : LOk (li (gat (uL V w) h)) (gat (uL V w) h).length := by
  refine ⟨hl, fun i hi => (gat_mem (li_mem hi)).1, fun i hi s h1 h2 => ?_, fun i j hij hj hE => ?_⟩
  · obtain ⟨_, p, _, h3⟩ := gat_mem (li_mem hi)
    rw [h3]
    unfold uL
    rw [ib_and, li_hi hV h1]; rfl
  · have nd := gat_nodup (F := uL V w) (n := h)
    unfold li at hE
    rw [List.getD_eq_getElem?_getD, List.getElem?_eq_getElem (by omega), List.getD_eq_getElem?_getD, List.getElem?_eq_getElem hj] at hE
    simp only [Option.getD_some] at hE
    exact absurd ((List.getElem_inj nd).mp hE) (by omega)
theorem covAns_u {V : Nat → Int32} {w h : Nat} {x y z : Int32} (hV : VOk V) (h1 : CovAns V w h x y) (h2 : CovAns V w h x z) : y = z := by
  rcases h1 with ⟨h1, rfl⟩ | ⟨h1, K, k, n, c, g1, rfl⟩
  · rcases h2 with ⟨h2, rfl⟩ | ⟨h2, _⟩
    · rfl
    · omega
  · rcases h2 with ⟨h2, _⟩ | ⟨h2, K', k', n', c', g2, rfl⟩
    · omega
    · have hn := cvl_n (gat_ok hV h1) g1
      obtain ⟨e1, e2⟩ := cvl_u g1 g2
      subst e1
      split
      · rfl
      · split
        · rename_i h3
          obtain ⟨j, hj, rfl⟩ := inR_of h3 (by omega)
          rw [nI_clamp (by omega)]
          exact e2 j hj
        · rfl

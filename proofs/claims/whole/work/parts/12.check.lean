/-! CHECKERS: what the simulator's soundness asks of the program as data, as programs that answer true -/
def sm_nst : Cond → Bool
  | .fieldLinkNest _ _ _ _ _ _ => true
  | .methodLinkNest _ _ _ _ => true
  | _ => false
def sm_TB : List Cond := lw_tbl.filter goodWord
def sm_NB : List Cond := lw_tbl.filter sm_nst
theorem sm_inT {w : Cond} (h : w ∈ lw_tbl) (hg : goodWord w = true) : w ∈ sm_TB := List.mem_filter.mpr ⟨h, hg⟩
theorem sm_inN {w : Cond} (h : w ∈ lw_tbl) (hg : sm_nst w = true) : w ∈ sm_NB := List.mem_filter.mpr ⟨h, hg⟩
theorem sm_inL {w : Cond} (h : w ∈ tables_1) : w ∈ lw_tbl := List.mem_append_right _ h
theorem sm_fd_mem {α : Type} : ∀ {l : List (Nat × α)} {k : Nat} {a : α}, sm_fd l k = some a → (k, a) ∈ l := by
  intro l
  induction l with
  | nil => intro k a h; cases h
  | cons q t ih =>
    intro k a h
    obtain ⟨j, b⟩ := q
    simp only [sm_fd] at h
    split at h
    · rename_i hb
      cases h
      rw [Nat.eq_of_beq_eq_true hb]
      exact List.mem_cons_self
    · exact List.mem_cons_of_mem _ (ih h)
/-- decoding -/
def sm_bT1 (cc : ByteArray) (q : Nat × Instr) : Bool := match decode cc q.1 with
  | .ok (i, len) => decide (i = q.2) && (Nat.beq len (sm_ln i) || Nat.beq (sm_ln i) 0)
  | _ => false
def sm_bT (mi : sm_MI) : Bool := mi.2.2.2.2.1.all (sm_bT1 mi.2.1)
theorem sm_bT_app {cc : ByteArray} {a b : List (Nat × Instr)} (ha : a.all (sm_bT1 cc) = true) (hb : b.all (sm_bT1 cc) = true) : (a ++ b).all (sm_bT1 cc) = true := by rw [List.all_append, ha, hb]; rfl
theorem sm_bT_ok {mi : sm_MI} (h : sm_bT mi = true) : sm_okT mi := by
  intro pc i hi
  have h2 := List.all_eq_true.mp h _ (sm_fd_mem hi)
  unfold sm_bT1 at h2
  dsimp only at h2
  split at h2
  · rename_i j len hd
    simp only [Bool.and_eq_true, Bool.or_eq_true, decide_eq_true_eq] at h2
    obtain ⟨rfl, h3⟩ := h2
    exact ⟨len, hd, h3.imp Nat.eq_of_beq_eq_true Nat.eq_of_beq_eq_true⟩
  · cases h2
/-- classes: their fields as the tables lay them -/
def sm_clk (q : vw_C) : Prop := (∀ w ∈ u_ws q.1 q.2.1 q.2.2, w ∈ sm_TB) ∧ (∃ ty0 : Nat → FieldType, ∀ k, k < q.2.2 → parseFieldDescriptor (q.2.1 k).2.2.1 = some (ty0 k)) ∧ (∀ a, a < q.2.2 → ∀ b, b < q.2.2 → a ≠ b → (q.2.1 a).2.1 ≠ (q.2.1 b).2.1)
def sm_kdb (t : Nat) (ty : Option FieldType) : Bool := match t, ty with
  | 0, some .int => true
  | 1, some .boolean => true
  | 2, some .long => true
  | 3, some (.object _) => true
  | 3, some (.array _) => true
  | _ + 4, _ => true
  | _, _ => false
theorem sm_kdb_ok {t : Nat} {ty : FieldType} (h : sm_kdb t (some ty) = true) : sm_kd t ty := by
  unfold sm_kdb at h
  split at h
  · rename_i e; cases e; exact ⟨fun _ => rfl, fun z => (by cases z), fun z => (by cases z), fun z => (by cases z)⟩
  · rename_i e; cases e; exact ⟨fun z => (by cases z), fun _ => rfl, fun z => (by cases z), fun z => (by cases z)⟩
  · rename_i e; cases e; exact ⟨fun z => (by cases z), fun z => (by cases z), fun _ => rfl, fun z => (by cases z)⟩
  · rename_i e; cases e; exact ⟨fun z => (by cases z), fun z => (by cases z), fun z => (by cases z), fun _ => Or.inl ⟨_, rfl⟩⟩
  · rename_i e; cases e; exact ⟨fun z => (by cases z), fun z => (by cases z), fun z => (by cases z), fun _ => Or.inr ⟨_, rfl⟩⟩
  · exact ⟨fun z => (by omega), fun z => (by omega), fun z => (by omega), fun z => (by omega)⟩
  · cases h
def sm_PF (own nm : String) (q : Nat × Nat × Nat × Nat) : Prop := ∃ (C : String) (T : u_T) (N : Nat), vwCl[q.2.1]? = some (C, T, N) ∧ q.2.2.1 < N ∧ (T q.2.2.1).1 = C ∧ sm_kdb q.2.2.2 (parseFieldDescriptor (T q.2.2.1).2.2.1) = true ∧ ((Cond.fieldLink own q.1 C (T q.2.2.1).2.1 (T q.2.2.1).2.2.1 ∈ sm_TB ∧ (3 < q.2.2.2 ∨ (T q.2.2.1).2.2.2 = false ∨ ((T q.2.2.1).2.2.2 = true ∧ nm = "<init>" ∧ (T q.2.2.1).1 = own))) ∨ (∃ host, Cond.fieldLinkNest own q.1 C (T q.2.2.1).2.1 (T q.2.2.1).2.2.1 host ∈ sm_NB ∧ (3 < q.2.2.2 ∨ (T q.2.2.1).2.2.2 = false)))
theorem sm_PF_ok (hcl : ∀ q ∈ vwCl, sm_clk q) {mi : sm_MI} (h : ∀ q ∈ mi.2.2.2.2.2.2.1, sm_PF mi.1.cls mi.1.name q) : sm_okF vwCl sm_TB sm_NB mi := by
  intro x ci j t hf
  obtain ⟨C, T, N, hc, hj, hTC, hkd, hlk⟩ := h _ (sm_fd_mem hf)
  dsimp only at hc hj hTC hkd hlk
  obtain ⟨k1, ⟨ty0, k2⟩, k3⟩ := hcl _ (List.mem_of_getElem? hc)
  have hjt := k2 j hj
  dsimp only at hjt
  rw [hjt] at hkd
  exact ⟨C, T, N, ty0, hc, hj, k1, k2, k3, hTC, sm_kdb_ok hkd, hlk⟩
def sm_PM (own : String) (q : Nat × Nat × Nat × Nat × Nat) : Prop :=
  (q.2.1 = 0 → ∃ yN bytes mL rt, sm_fd sm_hds q.2.2.1 = some (yN, bytes, mL, rt) ∧ sm_hdk sm_TB yN bytes mL rt q.2.2.2.1 ∧ sm_lnk sm_TB sm_NB own q.1 yN ∧ Cond.static yN ∈ sm_TB) ∧
  (q.2.1 = 1 → ∃ yN bytes mL rt C T N, sm_fd sm_hds q.2.2.1 = some (yN, bytes, mL, rt) ∧ sm_hdk sm_TB yN bytes mL rt q.2.2.2.1 ∧ sm_lnk sm_TB sm_NB own q.1 yN ∧ Cond.instanceMethod yN ∈ sm_TB ∧ Cond.selects C yN yN ∈ sm_TB ∧ vwCl[q.2.2.2.2]? = some (C, T, N)) ∧
  (q.2.1 = 2 → ∃ yN bytes mL, sm_fd sm_hds q.2.2.1 = some (yN, bytes, mL, none) ∧ sm_hdk sm_TB yN bytes mL none q.2.2.2.1 ∧ sm_lnk sm_TB sm_NB own q.1 yN ∧ Cond.instanceMethod yN ∈ sm_TB ∧ yN.name = "<init>") ∧
  (q.2.1 = 3 → Cond.methodLink own q.1 Lib.objectInit ∈ sm_TB ∧ Cond.instanceMethod Lib.objectInit ∈ sm_TB ∧ Cond.code Lib.objectInit ⟨#[0xb1]⟩ 1 none ∈ sm_TB) ∧
  (q.2.1 = 4 → ∃ yN bytes mL rt, sm_fd sm_hds q.2.2.1 = some (yN, bytes, mL, rt) ∧ sm_hdk sm_TB yN bytes mL rt q.2.2.2.1 ∧ sm_lnk sm_TB sm_NB own q.1 yN ∧ Cond.instanceMethod yN ∈ sm_TB ∧ Cond.selects "java/lang/String" yN yN ∈ sm_TB) ∧
  (q.2.1 = 5 → sm_mth sm_TB own q.1 Lib.Math.max.name Lib.Math.max.code 2) ∧ (q.2.1 = 6 → sm_mth sm_TB own q.1 Lib.Math.min.name Lib.Math.min.code 2) ∧ (q.2.1 = 7 → sm_mth sm_TB own q.1 Lib.Math.abs.name Lib.Math.abs.code 1)
theorem sm_PM_ok {mi : sm_MI} (h : ∀ q ∈ mi.2.2.2.2.2.2.2.1, sm_PM mi.1.cls q) : sm_okM vwCl sm_TB sm_NB sm_hds mi := fun x kd y n ci hf => h _ (sm_fd_mem hf)
theorem sm_PM0 {own : String} {x y n ci : Nat} {yN : MethodName} {bytes : ByteArray} {mL : Nat} {rt : Option FieldType} (hh : sm_fd sm_hds y = some (yN, bytes, mL, rt)) (hd : sm_hdk sm_TB yN bytes mL rt n) (hl : sm_lnk sm_TB sm_NB own x yN) (hs : Cond.static yN ∈ sm_TB) : sm_PM own (x, 0, y, n, ci) := ⟨fun _ => ⟨yN, bytes, mL, rt, hh, hd, hl, hs⟩, fun z => absurd z (show ¬ 0 = 1 by decide), fun z => absurd z (show ¬ 0 = 2 by decide), fun z => absurd z (show ¬ 0 = 3 by decide), fun z => absurd z (show ¬ 0 = 4 by decide), fun z => absurd z (show ¬ 0 = 5 by decide), fun z => absurd z (show ¬ 0 = 6 by decide), fun z => absurd z (show ¬ 0 = 7 by decide)⟩
theorem sm_PM1 {own : String} {x y n ci : Nat} {yN : MethodName} {bytes : ByteArray} {mL : Nat} {rt : Option FieldType} {C : String} {T : u_T} {N : Nat} (hh : sm_fd sm_hds y = some (yN, bytes, mL, rt)) (hd : sm_hdk sm_TB yN bytes mL rt n) (hl : sm_lnk sm_TB sm_NB own x yN) (hi : Cond.instanceMethod yN ∈ sm_TB) (hs : Cond.selects C yN yN ∈ sm_TB) (hc : vwCl[ci]? = some (C, T, N)) : sm_PM own (x, 1, y, n, ci) := ⟨fun z => absurd z (show ¬ 1 = 0 by decide), fun _ => ⟨yN, bytes, mL, rt, C, T, N, hh, hd, hl, hi, hs, hc⟩, fun z => absurd z (show ¬ 1 = 2 by decide), fun z => absurd z (show ¬ 1 = 3 by decide), fun z => absurd z (show ¬ 1 = 4 by decide), fun z => absurd z (show ¬ 1 = 5 by decide), fun z => absurd z (show ¬ 1 = 6 by decide), fun z => absurd z (show ¬ 1 = 7 by decide)⟩
theorem sm_PM2 {own : String} {x y n ci : Nat} {yN : MethodName} {bytes : ByteArray} {mL : Nat} (hh : sm_fd sm_hds y = some (yN, bytes, mL, none)) (hd : sm_hdk sm_TB yN bytes mL none n) (hl : sm_lnk sm_TB sm_NB own x yN) (hi : Cond.instanceMethod yN ∈ sm_TB) (hn : yN.name = "<init>") : sm_PM own (x, 2, y, n, ci) := ⟨fun z => absurd z (show ¬ 2 = 0 by decide), fun z => absurd z (show ¬ 2 = 1 by decide), fun _ => ⟨yN, bytes, mL, hh, hd, hl, hi, hn⟩, fun z => absurd z (show ¬ 2 = 3 by decide), fun z => absurd z (show ¬ 2 = 4 by decide), fun z => absurd z (show ¬ 2 = 5 by decide), fun z => absurd z (show ¬ 2 = 6 by decide), fun z => absurd z (show ¬ 2 = 7 by decide)⟩
theorem sm_PM3 {own : String} {x y n ci : Nat} (h1 : Cond.methodLink own x Lib.objectInit ∈ sm_TB) (h2 : Cond.instanceMethod Lib.objectInit ∈ sm_TB) (h3 : Cond.code Lib.objectInit ⟨#[0xb1]⟩ 1 none ∈ sm_TB) : sm_PM own (x, 3, y, n, ci) := ⟨fun z => absurd z (show ¬ 3 = 0 by decide), fun z => absurd z (show ¬ 3 = 1 by decide), fun z => absurd z (show ¬ 3 = 2 by decide), fun _ => ⟨h1, h2, h3⟩, fun z => absurd z (show ¬ 3 = 4 by decide), fun z => absurd z (show ¬ 3 = 5 by decide), fun z => absurd z (show ¬ 3 = 6 by decide), fun z => absurd z (show ¬ 3 = 7 by decide)⟩
theorem sm_PM4 {own : String} {x y n ci : Nat} {yN : MethodName} {bytes : ByteArray} {mL : Nat} {rt : Option FieldType} (hh : sm_fd sm_hds y = some (yN, bytes, mL, rt)) (hd : sm_hdk sm_TB yN bytes mL rt n) (hl : sm_lnk sm_TB sm_NB own x yN) (hi : Cond.instanceMethod yN ∈ sm_TB) (hs : Cond.selects "java/lang/String" yN yN ∈ sm_TB) : sm_PM own (x, 4, y, n, ci) := ⟨fun z => absurd z (show ¬ 4 = 0 by decide), fun z => absurd z (show ¬ 4 = 1 by decide), fun z => absurd z (show ¬ 4 = 2 by decide), fun z => absurd z (show ¬ 4 = 3 by decide), fun _ => ⟨yN, bytes, mL, rt, hh, hd, hl, hi, hs⟩, fun z => absurd z (show ¬ 4 = 5 by decide), fun z => absurd z (show ¬ 4 = 6 by decide), fun z => absurd z (show ¬ 4 = 7 by decide)⟩
theorem sm_PM5 {own : String} {x y n ci : Nat} (h : sm_mth sm_TB own x Lib.Math.max.name Lib.Math.max.code 2) : sm_PM own (x, 5, y, n, ci) := ⟨fun z => absurd z (show ¬ 5 = 0 by decide), fun z => absurd z (show ¬ 5 = 1 by decide), fun z => absurd z (show ¬ 5 = 2 by decide), fun z => absurd z (show ¬ 5 = 3 by decide), fun z => absurd z (show ¬ 5 = 4 by decide), fun _ => h, fun z => absurd z (show ¬ 5 = 6 by decide), fun z => absurd z (show ¬ 5 = 7 by decide)⟩
theorem sm_PM6 {own : String} {x y n ci : Nat} (h : sm_mth sm_TB own x Lib.Math.min.name Lib.Math.min.code 2) : sm_PM own (x, 6, y, n, ci) := ⟨fun z => absurd z (show ¬ 6 = 0 by decide), fun z => absurd z (show ¬ 6 = 1 by decide), fun z => absurd z (show ¬ 6 = 2 by decide), fun z => absurd z (show ¬ 6 = 3 by decide), fun z => absurd z (show ¬ 6 = 4 by decide), fun z => absurd z (show ¬ 6 = 5 by decide), fun _ => h, fun z => absurd z (show ¬ 6 = 7 by decide)⟩
theorem sm_PM7 {own : String} {x y n ci : Nat} (h : sm_mth sm_TB own x Lib.Math.abs.name Lib.Math.abs.code 1) : sm_PM own (x, 7, y, n, ci) := ⟨fun z => absurd z (show ¬ 7 = 0 by decide), fun z => absurd z (show ¬ 7 = 1 by decide), fun z => absurd z (show ¬ 7 = 2 by decide), fun z => absurd z (show ¬ 7 = 3 by decide), fun z => absurd z (show ¬ 7 = 4 by decide), fun z => absurd z (show ¬ 7 = 5 by decide), fun z => absurd z (show ¬ 7 = 6 by decide), fun _ => h⟩
def sm_PK (own : String) (q : Nat × Value) : Prop := (∀ w, q.2 = .int w → Cond.constant own q.1 w ∈ sm_TB) ∧ (∀ w, q.2 = .long w → Cond.constantLong own q.1 w ∈ sm_TB) ∧ (∀ w, q.2 = .ref w → ∃ tx, (own, q.1, tx, w) ∈ sm_sks)
theorem sm_PK_ok {mi : sm_MI} (h : ∀ q ∈ mi.2.2.2.2.2.2.2.2.1, sm_PK mi.1.cls q) : sm_okK sm_TB sm_sks mi := fun x v hf => h _ (sm_fd_mem hf)
theorem sm_PKi {own : String} {x : Nat} {v : Int32} (h : Cond.constant own x v ∈ sm_TB) : sm_PK own (x, .int v) := ⟨fun w hw => by cases hw; exact h, fun w hw => (by cases hw), fun w hw => (by cases hw)⟩
theorem sm_PKl {own : String} {x : Nat} {v : Int64} (h : Cond.constantLong own x v ∈ sm_TB) : sm_PK own (x, .long v) := ⟨fun w hw => (by cases hw), fun w hw => by cases hw; exact h, fun w hw => (by cases hw)⟩
theorem sm_PKr {own : String} {x v : Nat} {tx : String} (h : (own, x, tx, v) ∈ sm_sks) : sm_PK own (x, .ref v) := ⟨fun w hw => (by cases hw), fun w hw => (by cases hw), fun w hw => by cases hw; exact ⟨tx, h⟩⟩
def sm_df (ty : Option FieldType) : Option Value := ty.map defaultValue
def sm_nrf : Value → Bool
  | .ref _ => false
  | _ => true
def sm_PN (own : String) (q : Nat × Nat × List Value) : Prop := ∃ (C : String) (T : u_T) (N : Nat), vwCl[q.2.1]? = some (C, T, N) ∧ Cond.classLink own q.1 C ∈ sm_TB ∧ Cond.instantiable C N ∈ sm_TB ∧ Cond.initialized C ∈ sm_TB ∧ q.2.2.length = N ∧ q.2.2.all sm_nrf = true ∧ (List.range N).all (fun j => decide (sm_df (parseFieldDescriptor (T j).2.2.1) = some (vp_V q.2.2 j))) = true
theorem sm_nrf_map {fs : List Value} (h : fs.all sm_nrf = true) (B : Nat) (ad : Nat → Nat) : fs.map (sm_cv B ad) = fs := by
  induction fs with
  | nil => rfl
  | cons v t ih =>
    simp only [List.all_cons, Bool.and_eq_true] at h
    rw [List.map_cons, ih h.2]
    cases v <;> first | rfl | (exact absurd h.1 (by simp [sm_nrf]))
theorem sm_PN_ok (hcl : ∀ q ∈ vwCl, sm_clk q) {mi : sm_MI} (h : ∀ q ∈ mi.2.2.2.2.2.2.2.2.2, sm_PN mi.1.cls q) : sm_okN vwCl sm_TB mi := by
  intro x ci fs hf
  obtain ⟨C, T, N, hc, h3, h4, h5, h6, h7, h8⟩ := h _ (sm_fd_mem hf)
  dsimp only at hc h3 h6 h7 h8
  obtain ⟨k1, ⟨ty0, k2⟩, k3⟩ := hcl _ (List.mem_of_getElem? hc)
  refine ⟨C, T, N, ty0, hc, k1, k2, h3, h4, h5, h6, fun B ad => sm_nrf_map h7 B ad, fun j hj => ?_⟩
  have h9 := of_decide_eq_true (List.all_eq_true.mp h8 j (List.mem_range.mpr hj))
  have h10 := k2 j hj
  dsimp only at h10
  rw [h10] at h9
  exact Option.some.inj h9
theorem sm_fd_map {α β : Type} (f : α → β) : ∀ {l : List (Nat × α)} {k : Nat} {a : α}, sm_fd l k = some a → ∀ l2 : List (Nat × β), sm_fd (l.map (fun q => (q.1, f q.2)) ++ l2) k = some (f a) := by
  intro l
  induction l with
  | nil => intro k a h; cases h
  | cons q t ih =>
    intro k a h l2
    obtain ⟨j, b⟩ := q
    show sm_fd ((j, f b) :: (t.map (fun q => (q.1, f q.2)) ++ l2)) k = _
    simp only [sm_fd] at h ⊢
    cases hb : Nat.beq j k with
    | true =>
      rw [hb] at h
      cases h
      rfl
    | false =>
      rw [hb] at h
      exact ih h l2
theorem sm_hh {y : Nat} {mi : sm_MI} (h : sm_fd sm_pg y = some mi) : sm_fd sm_hds y = some (mi.1, mi.2.1, mi.2.2.1, mi.2.2.2.1) := sm_fd_map (fun m : sm_MI => (m.1, m.2.1, m.2.2.1, m.2.2.2.1)) h _

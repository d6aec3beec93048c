/-! THE SIMULATOR IS SOUND, instruction by instruction -/
abbrev sm_tys (τ : Nat → ClassId) : List (ClassId × FieldType) := [(τ 0, .int), (τ 1, .long)]
abbrev sm_SKt : Type := List (String × Nat × String × Nat)
/-- what holds of the place where a method runs -/
def sm_C (p : Program) (s : State) (m : MethodId) (args : Array Value) (meth : Method) (c : Code) (D : va_G) (cl : List vw_C) (τ : Nat → ClassId) (B : Nat) (ad : Nat → Nat) (TB NB : List Cond) (SK : sm_SKt) (XT : State → Heap → Prop) (m0 : Nat) (mi : sm_MI) : Prop :=
  p.tables.exec = Jvm.exec ∧ c.code = mi.2.1 ∧ c.maxLocals = mi.2.2.1 ∧ s.vm.findClass mi.1.cls = some m.cls ∧ (∀ w ∈ TB, w.before args s = true) ∧ (∀ w ∈ NB, va_Nw w s) ∧ va_K D cl (sm_tys τ) s ∧ (∀ q ∈ SK, vk_R q.1 q.2.1 q.2.2.1 (sm_rho B ad q.2.2.2) s) ∧ XT s s.heap ∧ s.heap.size = B + m0 ∧ (mi.1.name = "<init>" → meth.name = "<init>")
/-- the machine goes on well from here -/
def sm_G (p : Program) (l : Launch) (e : Env) (R : Room) (s : State) (m : MethodId) (args : Array Value) (below : List Frame) (meth : Method) (c : Code) (Q : State → Prop) (D : va_G) (cl : List vw_C) (τ : Nat → ClassId) (B : Nat) (ad : Nat → Nat) (nL m0 s0 : Nat) (pc : Nat) (L : sm_L) (st : List Value) (M : sm_M) : Prop :=
  ∀ (H : Heap) (locs : List Loc) (ls : Array Slot) (cells slots : Nat), va_P D cl (sm_w τ B ad 0 M) H → M.length ≤ 1000 → va_S (fun q => B ≤ q) s.heap H locs → L.length ≤ nL → lv_has ls nL (sm_al B ad 0 L) → cells + m0 = M.length → slots + s0 = sm_sl M → W p l e R s m args below meth c H locs cells slots Q (F0 m pc ls (st.map (sm_cv B ad)))
/-- an instruction's length; 0: a switch -/
def sm_ln : Instr → Nat
  | .bipush _ | .ldc _ | .iload _ | .lload _ | .aload _ | .istore _ | .lstore _ | .astore _ | .newarray _ => 2
  | .sipush _ | .ldc_w _ | .ldc2_w _ | .iinc _ _ | .goto _ | .ifCond _ _ | .if_icmp _ _ | .getfield _ | .putfield _ | .new _ | .invokestatic _ | .invokevirtual _ | .invokespecial _ => 3
  | .tableswitch _ _ _ _ | .lookupswitch _ _ => 0
  | _ => 1
theorem sm_dl {cc : ByteArray} {pc len : Nat} {i : Instr} (hd : decode cc pc = .ok (i, len)) (hl : len = sm_ln i ∨ sm_ln i = 0) (n : Nat) (hn : sm_ln i = n) (h0 : n ≠ 0) : decode cc pc = .ok (i, n) := by
  rcases hl with h | h
  · rw [hd, h, hn]
  · exact absurd (hn.symm.trans h) h0
theorem sm_w_at {τ : Nat → ClassId} {B : Nat} {ad : Nat → Nat} {M : sm_M} {o : Nat} {e : va_E} (h : sm_get M o = some e) : (sm_w τ B ad 0 M)[o]? = some (sm_rho B ad o, sm_ce τ B ad e) := by
  rw [sm_w_get, h, Nat.zero_add]
  rfl
theorem sm_w_put {τ : Nat → ClassId} {B : Nat} {ad : Nat → Nat} (M : sm_M) (o : Nat) (e : va_E) : (sm_w τ B ad 0 M).set o (sm_rho B ad o, sm_ce τ B ad e) = sm_w τ B ad 0 (sm_set M o e) := by
  have h := sm_w_set τ B ad M 0 o e
  rw [Nat.zero_add] at h
  exact h
/-- an answer's instruction -/
def sm_rk (rt : Option FieldType) (i : Instr) (r : Option Value) : Prop := (i = .ireturn ∧ ∃ x, r = some (.int x) ∧ sm_zr rt x = true) ∨ (i = .lreturn ∧ ∃ x, r = some (.long x) ∧ rt = some .long) ∨ (i = .return_ ∧ r = none ∧ rt = none)
def sm_kd (t : Nat) (ty : FieldType) : Prop := (t = 0 → ty = .int) ∧ (t = 1 → ty = .boolean) ∧ (t = 2 → ty = .long) ∧ (t = 3 → (∃ n, ty = .object n) ∨ ∃ u, ty = .array u)
theorem sm_pt_ok {t : Nat} {ty : FieldType} {v : Value} {B : Nat} {ad : Nat → Nat} (hk : sm_kd t ty) (h : sm_pt t v = true) : narrow ty (sm_cv B ad v) = sm_cv B ad v ∧ fits ty (sm_cv B ad v) = true := by
  obtain ⟨h0, h1, h2, h3⟩ := hk
  unfold sm_pt at h
  split at h
  · rw [h0 rfl]; exact ⟨rfl, rfl⟩
  · rename_i x
    rw [h1 rfl]
    simp only [Bool.or_eq_true, beq_iff_eq] at h
    rcases h with rfl | rfl
    · exact ⟨show narrow .boolean (.int 0) = .int 0 by decide, show fits .boolean (.int 0) = true by decide⟩
    · exact ⟨show narrow .boolean (.int 1) = .int 1 by decide, show fits .boolean (.int 1) = true by decide⟩
  · rw [h2 rfl]; exact ⟨rfl, rfl⟩
  · rcases h3 rfl with ⟨n, rfl⟩ | ⟨u, rfl⟩ <;> exact ⟨rfl, rfl⟩
  · cases h
/-- a method's links to fields are as the tables say -/
def sm_okF (cl : List vw_C) (TB NB : List Cond) (mi : sm_MI) : Prop := ∀ x ci j t, sm_fd mi.2.2.2.2.2.2.1 x = some (ci, j, t) → ∃ (C : String) (T : u_T) (N : Nat) (ty0 : Nat → FieldType), cl[ci]? = some (C, T, N) ∧ j < N ∧ (∀ w ∈ u_ws C T N, w ∈ TB) ∧ (∀ k, k < N → parseFieldDescriptor (T k).2.2.1 = some (ty0 k)) ∧ (∀ a, a < N → ∀ b, b < N → a ≠ b → (T a).2.1 ≠ (T b).2.1) ∧ (T j).1 = C ∧ sm_kd t (ty0 j) ∧
  ((Cond.fieldLink mi.1.cls x C (T j).2.1 (T j).2.2.1 ∈ TB ∧ (3 < t ∨ (T j).2.2.2 = false ∨ ((T j).2.2.2 = true ∧ mi.1.name = "<init>" ∧ (T j).1 = mi.1.cls))) ∨ (∃ host, Cond.fieldLinkNest mi.1.cls x C (T j).2.1 (T j).2.2.1 host ∈ NB ∧ (3 < t ∨ (T j).2.2.2 = false)))
theorem sm_pt_lt {t : Nat} {v : Value} (h : sm_pt t v = true) : ¬ 3 < t := by
  unfold sm_pt at h
  split at h <;> first | omega | cases h
def sm_okK (TB : List Cond) (SK : sm_SKt) (mi : sm_MI) : Prop := ∀ x v, sm_fd mi.2.2.2.2.2.2.2.2.1 x = some v → (∀ w, v = .int w → Cond.constant mi.1.cls x w ∈ TB) ∧ (∀ w, v = .long w → Cond.constantLong mi.1.cls x w ∈ TB) ∧ (∀ w, v = .ref w → ∃ tx, (mi.1.cls, x, tx, w) ∈ SK)
def sm_okN (cl : List vw_C) (TB : List Cond) (mi : sm_MI) : Prop := ∀ x ci fs, sm_fd mi.2.2.2.2.2.2.2.2.2 x = some (ci, fs) → ∃ (C : String) (T : u_T) (N : Nat) (ty0 : Nat → FieldType), cl[ci]? = some (C, T, N) ∧ (∀ w ∈ u_ws C T N, w ∈ TB) ∧ (∀ k, k < N → parseFieldDescriptor (T k).2.2.1 = some (ty0 k)) ∧ Cond.classLink mi.1.cls x C ∈ TB ∧ Cond.instantiable C N ∈ TB ∧ Cond.initialized C ∈ TB ∧ fs.length = N ∧ (∀ B ad, fs.map (sm_cv B ad) = fs) ∧ (∀ j, j < N → defaultValue (ty0 j) = vp_V fs j)
set_option maxHeartbeats 1000000 in
theorem sg_iconst {p : Program} {l : Launch} {e : Env} {R : Room} {s : State} {m : MethodId} {args : Array Value} {below : List Frame} {meth : Method} {c : Code} {Q : State → Prop} {D : va_G} {cl : List vw_C} {τ : Nat → ClassId} {B : Nat} {ad : Nat → Nat} {TB NB : List Cond} {SK : sm_SKt} {XT : State → Heap → Prop} {mi : sm_MI} {M' : sm_M} {m0 s0 : Nat} {cal : Nat → List Value → sm_M → sm_R} {sc : Option (Nat × (Nat → Int32))} {k : Nat → sm_L → List Value → sm_M → sm_R} {r : Option Value} {pc : Nat} {L : sm_L} {st : List Value} {M : sm_M} {n : Int} (C0 : sm_C p s m args meth c D cl τ B ad TB NB SK XT m0 mi) (ih : ∀ pc L st M, k pc L st M = some (M', r) → sm_G p l e R s m args below meth c Q D cl τ B ad mi.2.2.1 m0 s0 pc L st M) (hd : decode mi.2.1 pc = .ok (.iconst n, 1)) (h : sm_ex cal sc mi k pc L st M (.iconst n) = some (M', r)) : sm_G p l e R s m args below meth c Q D cl τ B ad mi.2.2.1 m0 s0 pc L st M := by
  have hx := C0.1
  have hb := C0.2.1
  intro H locs ls cells slots hP hm hS hLl hL h1 h2
  refine lv_iconst hx hb hd rfl ?_
  exact ih _ _ _ _ h H locs ls cells slots hP hm hS hLl hL h1 h2
set_option maxHeartbeats 1000000 in
theorem sg_bipush {p : Program} {l : Launch} {e : Env} {R : Room} {s : State} {m : MethodId} {args : Array Value} {below : List Frame} {meth : Method} {c : Code} {Q : State → Prop} {D : va_G} {cl : List vw_C} {τ : Nat → ClassId} {B : Nat} {ad : Nat → Nat} {TB NB : List Cond} {SK : sm_SKt} {XT : State → Heap → Prop} {mi : sm_MI} {M' : sm_M} {m0 s0 : Nat} {cal : Nat → List Value → sm_M → sm_R} {sc : Option (Nat × (Nat → Int32))} {k : Nat → sm_L → List Value → sm_M → sm_R} {r : Option Value} {pc : Nat} {L : sm_L} {st : List Value} {M : sm_M} {n : Int} (C0 : sm_C p s m args meth c D cl τ B ad TB NB SK XT m0 mi) (ih : ∀ pc L st M, k pc L st M = some (M', r) → sm_G p l e R s m args below meth c Q D cl τ B ad mi.2.2.1 m0 s0 pc L st M) (hd : decode mi.2.1 pc = .ok (.bipush n, 2)) (h : sm_ex cal sc mi k pc L st M (.bipush n) = some (M', r)) : sm_G p l e R s m args below meth c Q D cl τ B ad mi.2.2.1 m0 s0 pc L st M := by
  have hx := C0.1
  have hb := C0.2.1
  intro H locs ls cells slots hP hm hS hLl hL h1 h2
  refine lv_bipush hx hb hd rfl ?_
  exact ih _ _ _ _ h H locs ls cells slots hP hm hS hLl hL h1 h2
set_option maxHeartbeats 1000000 in
theorem sg_sipush {p : Program} {l : Launch} {e : Env} {R : Room} {s : State} {m : MethodId} {args : Array Value} {below : List Frame} {meth : Method} {c : Code} {Q : State → Prop} {D : va_G} {cl : List vw_C} {τ : Nat → ClassId} {B : Nat} {ad : Nat → Nat} {TB NB : List Cond} {SK : sm_SKt} {XT : State → Heap → Prop} {mi : sm_MI} {M' : sm_M} {m0 s0 : Nat} {cal : Nat → List Value → sm_M → sm_R} {sc : Option (Nat × (Nat → Int32))} {k : Nat → sm_L → List Value → sm_M → sm_R} {r : Option Value} {pc : Nat} {L : sm_L} {st : List Value} {M : sm_M} {n : Int} (C0 : sm_C p s m args meth c D cl τ B ad TB NB SK XT m0 mi) (ih : ∀ pc L st M, k pc L st M = some (M', r) → sm_G p l e R s m args below meth c Q D cl τ B ad mi.2.2.1 m0 s0 pc L st M) (hd : decode mi.2.1 pc = .ok (.sipush n, 3)) (h : sm_ex cal sc mi k pc L st M (.sipush n) = some (M', r)) : sm_G p l e R s m args below meth c Q D cl τ B ad mi.2.2.1 m0 s0 pc L st M := by
  have hx := C0.1
  have hb := C0.2.1
  intro H locs ls cells slots hP hm hS hLl hL h1 h2
  refine lv_sipush hx hb hd rfl ?_
  exact ih _ _ _ _ h H locs ls cells slots hP hm hS hLl hL h1 h2
set_option maxHeartbeats 1000000 in
theorem sg_lconst {p : Program} {l : Launch} {e : Env} {R : Room} {s : State} {m : MethodId} {args : Array Value} {below : List Frame} {meth : Method} {c : Code} {Q : State → Prop} {D : va_G} {cl : List vw_C} {τ : Nat → ClassId} {B : Nat} {ad : Nat → Nat} {TB NB : List Cond} {SK : sm_SKt} {XT : State → Heap → Prop} {mi : sm_MI} {M' : sm_M} {m0 s0 : Nat} {cal : Nat → List Value → sm_M → sm_R} {sc : Option (Nat × (Nat → Int32))} {k : Nat → sm_L → List Value → sm_M → sm_R} {r : Option Value} {pc : Nat} {L : sm_L} {st : List Value} {M : sm_M} {n : Fin 2} (C0 : sm_C p s m args meth c D cl τ B ad TB NB SK XT m0 mi) (ih : ∀ pc L st M, k pc L st M = some (M', r) → sm_G p l e R s m args below meth c Q D cl τ B ad mi.2.2.1 m0 s0 pc L st M) (hd : decode mi.2.1 pc = .ok (.lconst n, 1)) (h : sm_ex cal sc mi k pc L st M (.lconst n) = some (M', r)) : sm_G p l e R s m args below meth c Q D cl τ B ad mi.2.2.1 m0 s0 pc L st M := by
  have hx := C0.1
  have hb := C0.2.1
  intro H locs ls cells slots hP hm hS hLl hL h1 h2
  refine lv_lconst hx hb hd rfl ?_
  exact ih _ _ _ _ h H locs ls cells slots hP hm hS hLl hL h1 h2
set_option maxHeartbeats 1000000 in
theorem sg_iload_n {p : Program} {l : Launch} {e : Env} {R : Room} {s : State} {m : MethodId} {args : Array Value} {below : List Frame} {meth : Method} {c : Code} {Q : State → Prop} {D : va_G} {cl : List vw_C} {τ : Nat → ClassId} {B : Nat} {ad : Nat → Nat} {TB NB : List Cond} {SK : sm_SKt} {XT : State → Heap → Prop} {mi : sm_MI} {M' : sm_M} {m0 s0 : Nat} {cal : Nat → List Value → sm_M → sm_R} {sc : Option (Nat × (Nat → Int32))} {k : Nat → sm_L → List Value → sm_M → sm_R} {r : Option Value} {pc : Nat} {L : sm_L} {st : List Value} {M : sm_M} {j : Fin 4} (C0 : sm_C p s m args meth c D cl τ B ad TB NB SK XT m0 mi) (ih : ∀ pc L st M, k pc L st M = some (M', r) → sm_G p l e R s m args below meth c Q D cl τ B ad mi.2.2.1 m0 s0 pc L st M) (hd : decode mi.2.1 pc = .ok (.iload_n j, 1)) (h : sm_ex cal sc mi k pc L st M (.iload_n j) = some (M', r)) : sm_G p l e R s m args below meth c Q D cl τ B ad mi.2.2.1 m0 s0 pc L st M := by
  have hx := C0.1
  have hb := C0.2.1
  replace h := sm_li1_some h
  obtain ⟨x, hv, h⟩ := h
  intro H locs ls cells slots hP hm hS hLl hL h1 h2
  refine lv_iload_n hx hb hd rfl (sm_has_at hL hv) ?_
  exact ih _ _ _ _ h H locs ls cells slots hP hm hS hLl hL h1 h2
set_option maxHeartbeats 1000000 in
theorem sg_iload {p : Program} {l : Launch} {e : Env} {R : Room} {s : State} {m : MethodId} {args : Array Value} {below : List Frame} {meth : Method} {c : Code} {Q : State → Prop} {D : va_G} {cl : List vw_C} {τ : Nat → ClassId} {B : Nat} {ad : Nat → Nat} {TB NB : List Cond} {SK : sm_SKt} {XT : State → Heap → Prop} {mi : sm_MI} {M' : sm_M} {m0 s0 : Nat} {cal : Nat → List Value → sm_M → sm_R} {sc : Option (Nat × (Nat → Int32))} {k : Nat → sm_L → List Value → sm_M → sm_R} {r : Option Value} {pc : Nat} {L : sm_L} {st : List Value} {M : sm_M} {j : Nat} (C0 : sm_C p s m args meth c D cl τ B ad TB NB SK XT m0 mi) (ih : ∀ pc L st M, k pc L st M = some (M', r) → sm_G p l e R s m args below meth c Q D cl τ B ad mi.2.2.1 m0 s0 pc L st M) (hd : decode mi.2.1 pc = .ok (.iload j, 2)) (h : sm_ex cal sc mi k pc L st M (.iload j) = some (M', r)) : sm_G p l e R s m args below meth c Q D cl τ B ad mi.2.2.1 m0 s0 pc L st M := by
  have hx := C0.1
  have hb := C0.2.1
  replace h := sm_li1_some h
  obtain ⟨x, hv, h⟩ := h
  intro H locs ls cells slots hP hm hS hLl hL h1 h2
  refine lv_iload hx hb hd (sm_has_at hL hv) ?_
  exact ih _ _ _ _ h H locs ls cells slots hP hm hS hLl hL h1 h2
set_option maxHeartbeats 1000000 in
theorem sg_lload_n {p : Program} {l : Launch} {e : Env} {R : Room} {s : State} {m : MethodId} {args : Array Value} {below : List Frame} {meth : Method} {c : Code} {Q : State → Prop} {D : va_G} {cl : List vw_C} {τ : Nat → ClassId} {B : Nat} {ad : Nat → Nat} {TB NB : List Cond} {SK : sm_SKt} {XT : State → Heap → Prop} {mi : sm_MI} {M' : sm_M} {m0 s0 : Nat} {cal : Nat → List Value → sm_M → sm_R} {sc : Option (Nat × (Nat → Int32))} {k : Nat → sm_L → List Value → sm_M → sm_R} {r : Option Value} {pc : Nat} {L : sm_L} {st : List Value} {M : sm_M} {j : Fin 4} (C0 : sm_C p s m args meth c D cl τ B ad TB NB SK XT m0 mi) (ih : ∀ pc L st M, k pc L st M = some (M', r) → sm_G p l e R s m args below meth c Q D cl τ B ad mi.2.2.1 m0 s0 pc L st M) (hd : decode mi.2.1 pc = .ok (.lload_n j, 1)) (h : sm_ex cal sc mi k pc L st M (.lload_n j) = some (M', r)) : sm_G p l e R s m args below meth c Q D cl τ B ad mi.2.2.1 m0 s0 pc L st M := by
  have hx := C0.1
  have hb := C0.2.1
  replace h := sm_ll1_some h
  obtain ⟨x, hv, h⟩ := h
  intro H locs ls cells slots hP hm hS hLl hL h1 h2
  refine lv_lload_n hx hb hd rfl (sm_has_at hL hv) ?_
  exact ih _ _ _ _ h H locs ls cells slots hP hm hS hLl hL h1 h2
set_option maxHeartbeats 1000000 in
theorem sg_lload {p : Program} {l : Launch} {e : Env} {R : Room} {s : State} {m : MethodId} {args : Array Value} {below : List Frame} {meth : Method} {c : Code} {Q : State → Prop} {D : va_G} {cl : List vw_C} {τ : Nat → ClassId} {B : Nat} {ad : Nat → Nat} {TB NB : List Cond} {SK : sm_SKt} {XT : State → Heap → Prop} {mi : sm_MI} {M' : sm_M} {m0 s0 : Nat} {cal : Nat → List Value → sm_M → sm_R} {sc : Option (Nat × (Nat → Int32))} {k : Nat → sm_L → List Value → sm_M → sm_R} {r : Option Value} {pc : Nat} {L : sm_L} {st : List Value} {M : sm_M} {j : Nat} (C0 : sm_C p s m args meth c D cl τ B ad TB NB SK XT m0 mi) (ih : ∀ pc L st M, k pc L st M = some (M', r) → sm_G p l e R s m args below meth c Q D cl τ B ad mi.2.2.1 m0 s0 pc L st M) (hd : decode mi.2.1 pc = .ok (.lload j, 2)) (h : sm_ex cal sc mi k pc L st M (.lload j) = some (M', r)) : sm_G p l e R s m args below meth c Q D cl τ B ad mi.2.2.1 m0 s0 pc L st M := by
  have hx := C0.1
  have hb := C0.2.1
  replace h := sm_ll1_some h
  obtain ⟨x, hv, h⟩ := h
  intro H locs ls cells slots hP hm hS hLl hL h1 h2
  refine lv_lload hx hb hd (sm_has_at hL hv) ?_
  exact ih _ _ _ _ h H locs ls cells slots hP hm hS hLl hL h1 h2
set_option maxHeartbeats 1000000 in
theorem sg_aload_n {p : Program} {l : Launch} {e : Env} {R : Room} {s : State} {m : MethodId} {args : Array Value} {below : List Frame} {meth : Method} {c : Code} {Q : State → Prop} {D : va_G} {cl : List vw_C} {τ : Nat → ClassId} {B : Nat} {ad : Nat → Nat} {TB NB : List Cond} {SK : sm_SKt} {XT : State → Heap → Prop} {mi : sm_MI} {M' : sm_M} {m0 s0 : Nat} {cal : Nat → List Value → sm_M → sm_R} {sc : Option (Nat × (Nat → Int32))} {k : Nat → sm_L → List Value → sm_M → sm_R} {r : Option Value} {pc : Nat} {L : sm_L} {st : List Value} {M : sm_M} {j : Fin 4} (C0 : sm_C p s m args meth c D cl τ B ad TB NB SK XT m0 mi) (ih : ∀ pc L st M, k pc L st M = some (M', r) → sm_G p l e R s m args below meth c Q D cl τ B ad mi.2.2.1 m0 s0 pc L st M) (hd : decode mi.2.1 pc = .ok (.aload_n j, 1)) (h : sm_ex cal sc mi k pc L st M (.aload_n j) = some (M', r)) : sm_G p l e R s m args below meth c Q D cl τ B ad mi.2.2.1 m0 s0 pc L st M := by
  have hx := C0.1
  have hb := C0.2.1
  replace h := sm_lr1_some h
  obtain ⟨x, hv, h⟩ := h
  intro H locs ls cells slots hP hm hS hLl hL h1 h2
  refine lv_aload_n hx hb hd rfl (sm_has_at hL hv) ?_
  exact ih _ _ _ _ h H locs ls cells slots hP hm hS hLl hL h1 h2
set_option maxHeartbeats 1000000 in
theorem sg_aload {p : Program} {l : Launch} {e : Env} {R : Room} {s : State} {m : MethodId} {args : Array Value} {below : List Frame} {meth : Method} {c : Code} {Q : State → Prop} {D : va_G} {cl : List vw_C} {τ : Nat → ClassId} {B : Nat} {ad : Nat → Nat} {TB NB : List Cond} {SK : sm_SKt} {XT : State → Heap → Prop} {mi : sm_MI} {M' : sm_M} {m0 s0 : Nat} {cal : Nat → List Value → sm_M → sm_R} {sc : Option (Nat × (Nat → Int32))} {k : Nat → sm_L → List Value → sm_M → sm_R} {r : Option Value} {pc : Nat} {L : sm_L} {st : List Value} {M : sm_M} {j : Nat} (C0 : sm_C p s m args meth c D cl τ B ad TB NB SK XT m0 mi) (ih : ∀ pc L st M, k pc L st M = some (M', r) → sm_G p l e R s m args below meth c Q D cl τ B ad mi.2.2.1 m0 s0 pc L st M) (hd : decode mi.2.1 pc = .ok (.aload j, 2)) (h : sm_ex cal sc mi k pc L st M (.aload j) = some (M', r)) : sm_G p l e R s m args below meth c Q D cl τ B ad mi.2.2.1 m0 s0 pc L st M := by
  have hx := C0.1
  have hb := C0.2.1
  replace h := sm_lr1_some h
  obtain ⟨x, hv, h⟩ := h
  intro H locs ls cells slots hP hm hS hLl hL h1 h2
  refine lv_aload hx hb hd (sm_has_at hL hv) ?_
  exact ih _ _ _ _ h H locs ls cells slots hP hm hS hLl hL h1 h2
set_option maxHeartbeats 1000000 in
theorem sg_istore_n {p : Program} {l : Launch} {e : Env} {R : Room} {s : State} {m : MethodId} {args : Array Value} {below : List Frame} {meth : Method} {c : Code} {Q : State → Prop} {D : va_G} {cl : List vw_C} {τ : Nat → ClassId} {B : Nat} {ad : Nat → Nat} {TB NB : List Cond} {SK : sm_SKt} {XT : State → Heap → Prop} {mi : sm_MI} {M' : sm_M} {m0 s0 : Nat} {cal : Nat → List Value → sm_M → sm_R} {sc : Option (Nat × (Nat → Int32))} {k : Nat → sm_L → List Value → sm_M → sm_R} {r : Option Value} {pc : Nat} {L : sm_L} {st : List Value} {M : sm_M} {j : Fin 4} (C0 : sm_C p s m args meth c D cl τ B ad TB NB SK XT m0 mi) (ih : ∀ pc L st M, k pc L st M = some (M', r) → sm_G p l e R s m args below meth c Q D cl τ B ad mi.2.2.1 m0 s0 pc L st M) (hd : decode mi.2.1 pc = .ok (.istore_n j, 1)) (h : sm_ex cal sc mi k pc L st M (.istore_n j) = some (M', r)) : sm_G p l e R s m args below meth c Q D cl τ B ad mi.2.2.1 m0 s0 pc L st M := by
  have hx := C0.1
  have hb := C0.2.1
  replace h := sm_i1_some h
  obtain ⟨x, t, rfl, h⟩ := h
  replace h := sm_st1_some h
  obtain ⟨hj, h⟩ := h
  intro H locs ls cells slots hP hm hS hLl hL h1 h2
  refine lv_istore_n hx hb hd rfl hL (by omega) rfl (fun ls' hL' => ?_)
  exact ih _ _ _ _ h H locs ls' cells slots hP hm hS (by rw [sm_s1_len]; exact hLl) (sm_has_s1 (v := .int x) hL') h1 h2
set_option maxHeartbeats 1000000 in
theorem sg_istore {p : Program} {l : Launch} {e : Env} {R : Room} {s : State} {m : MethodId} {args : Array Value} {below : List Frame} {meth : Method} {c : Code} {Q : State → Prop} {D : va_G} {cl : List vw_C} {τ : Nat → ClassId} {B : Nat} {ad : Nat → Nat} {TB NB : List Cond} {SK : sm_SKt} {XT : State → Heap → Prop} {mi : sm_MI} {M' : sm_M} {m0 s0 : Nat} {cal : Nat → List Value → sm_M → sm_R} {sc : Option (Nat × (Nat → Int32))} {k : Nat → sm_L → List Value → sm_M → sm_R} {r : Option Value} {pc : Nat} {L : sm_L} {st : List Value} {M : sm_M} {j : Nat} (C0 : sm_C p s m args meth c D cl τ B ad TB NB SK XT m0 mi) (ih : ∀ pc L st M, k pc L st M = some (M', r) → sm_G p l e R s m args below meth c Q D cl τ B ad mi.2.2.1 m0 s0 pc L st M) (hd : decode mi.2.1 pc = .ok (.istore j, 2)) (h : sm_ex cal sc mi k pc L st M (.istore j) = some (M', r)) : sm_G p l e R s m args below meth c Q D cl τ B ad mi.2.2.1 m0 s0 pc L st M := by
  have hx := C0.1
  have hb := C0.2.1
  replace h := sm_i1_some h
  obtain ⟨x, t, rfl, h⟩ := h
  replace h := sm_st1_some h
  obtain ⟨hj, h⟩ := h
  intro H locs ls cells slots hP hm hS hLl hL h1 h2
  refine lv_istore hx hb hd hL (by omega) rfl (fun ls' hL' => ?_)
  exact ih _ _ _ _ h H locs ls' cells slots hP hm hS (by rw [sm_s1_len]; exact hLl) (sm_has_s1 (v := .int x) hL') h1 h2
set_option maxHeartbeats 1000000 in
theorem sg_astore_n {p : Program} {l : Launch} {e : Env} {R : Room} {s : State} {m : MethodId} {args : Array Value} {below : List Frame} {meth : Method} {c : Code} {Q : State → Prop} {D : va_G} {cl : List vw_C} {τ : Nat → ClassId} {B : Nat} {ad : Nat → Nat} {TB NB : List Cond} {SK : sm_SKt} {XT : State → Heap → Prop} {mi : sm_MI} {M' : sm_M} {m0 s0 : Nat} {cal : Nat → List Value → sm_M → sm_R} {sc : Option (Nat × (Nat → Int32))} {k : Nat → sm_L → List Value → sm_M → sm_R} {r : Option Value} {pc : Nat} {L : sm_L} {st : List Value} {M : sm_M} {j : Fin 4} (C0 : sm_C p s m args meth c D cl τ B ad TB NB SK XT m0 mi) (ih : ∀ pc L st M, k pc L st M = some (M', r) → sm_G p l e R s m args below meth c Q D cl τ B ad mi.2.2.1 m0 s0 pc L st M) (hd : decode mi.2.1 pc = .ok (.astore_n j, 1)) (h : sm_ex cal sc mi k pc L st M (.astore_n j) = some (M', r)) : sm_G p l e R s m args below meth c Q D cl τ B ad mi.2.2.1 m0 s0 pc L st M := by
  have hx := C0.1
  have hb := C0.2.1
  replace h := sm_r1_some h
  obtain ⟨x, t, rfl, h⟩ := h
  replace h := sm_st1_some h
  obtain ⟨hj, h⟩ := h
  intro H locs ls cells slots hP hm hS hLl hL h1 h2
  refine lv_astore_n hx hb hd rfl hL (by omega) rfl (fun ls' hL' => ?_)
  exact ih _ _ _ _ h H locs ls' cells slots hP hm hS (by rw [sm_s1_len]; exact hLl) (sm_has_s1 (v := .ref x) hL') h1 h2
set_option maxHeartbeats 1000000 in
theorem sg_astore {p : Program} {l : Launch} {e : Env} {R : Room} {s : State} {m : MethodId} {args : Array Value} {below : List Frame} {meth : Method} {c : Code} {Q : State → Prop} {D : va_G} {cl : List vw_C} {τ : Nat → ClassId} {B : Nat} {ad : Nat → Nat} {TB NB : List Cond} {SK : sm_SKt} {XT : State → Heap → Prop} {mi : sm_MI} {M' : sm_M} {m0 s0 : Nat} {cal : Nat → List Value → sm_M → sm_R} {sc : Option (Nat × (Nat → Int32))} {k : Nat → sm_L → List Value → sm_M → sm_R} {r : Option Value} {pc : Nat} {L : sm_L} {st : List Value} {M : sm_M} {j : Nat} (C0 : sm_C p s m args meth c D cl τ B ad TB NB SK XT m0 mi) (ih : ∀ pc L st M, k pc L st M = some (M', r) → sm_G p l e R s m args below meth c Q D cl τ B ad mi.2.2.1 m0 s0 pc L st M) (hd : decode mi.2.1 pc = .ok (.astore j, 2)) (h : sm_ex cal sc mi k pc L st M (.astore j) = some (M', r)) : sm_G p l e R s m args below meth c Q D cl τ B ad mi.2.2.1 m0 s0 pc L st M := by
  have hx := C0.1
  have hb := C0.2.1
  replace h := sm_r1_some h
  obtain ⟨x, t, rfl, h⟩ := h
  replace h := sm_st1_some h
  obtain ⟨hj, h⟩ := h
  intro H locs ls cells slots hP hm hS hLl hL h1 h2
  refine lv_astore hx hb hd hL (by omega) rfl (fun ls' hL' => ?_)
  exact ih _ _ _ _ h H locs ls' cells slots hP hm hS (by rw [sm_s1_len]; exact hLl) (sm_has_s1 (v := .ref x) hL') h1 h2
set_option maxHeartbeats 1000000 in
theorem sg_lstore_n {p : Program} {l : Launch} {e : Env} {R : Room} {s : State} {m : MethodId} {args : Array Value} {below : List Frame} {meth : Method} {c : Code} {Q : State → Prop} {D : va_G} {cl : List vw_C} {τ : Nat → ClassId} {B : Nat} {ad : Nat → Nat} {TB NB : List Cond} {SK : sm_SKt} {XT : State → Heap → Prop} {mi : sm_MI} {M' : sm_M} {m0 s0 : Nat} {cal : Nat → List Value → sm_M → sm_R} {sc : Option (Nat × (Nat → Int32))} {k : Nat → sm_L → List Value → sm_M → sm_R} {r : Option Value} {pc : Nat} {L : sm_L} {st : List Value} {M : sm_M} {j : Fin 4} (C0 : sm_C p s m args meth c D cl τ B ad TB NB SK XT m0 mi) (ih : ∀ pc L st M, k pc L st M = some (M', r) → sm_G p l e R s m args below meth c Q D cl τ B ad mi.2.2.1 m0 s0 pc L st M) (hd : decode mi.2.1 pc = .ok (.lstore_n j, 1)) (h : sm_ex cal sc mi k pc L st M (.lstore_n j) = some (M', r)) : sm_G p l e R s m args below meth c Q D cl τ B ad mi.2.2.1 m0 s0 pc L st M := by
  have hx := C0.1
  have hb := C0.2.1
  replace h := sm_l1_some h
  obtain ⟨x, t, rfl, h⟩ := h
  replace h := sm_st2_some h
  obtain ⟨hj, h⟩ := h
  intro H locs ls cells slots hP hm hS hLl hL h1 h2
  refine lv_lstore_n hx hb hd rfl hL (by omega) rfl (fun ls' hL' => ?_)
  exact ih _ _ _ _ h H locs ls' cells slots hP hm hS (by rw [sm_s2_len]; exact hLl) (sm_has_s2 (v := .long x) hL') h1 h2
set_option maxHeartbeats 1000000 in
theorem sg_lstore {p : Program} {l : Launch} {e : Env} {R : Room} {s : State} {m : MethodId} {args : Array Value} {below : List Frame} {meth : Method} {c : Code} {Q : State → Prop} {D : va_G} {cl : List vw_C} {τ : Nat → ClassId} {B : Nat} {ad : Nat → Nat} {TB NB : List Cond} {SK : sm_SKt} {XT : State → Heap → Prop} {mi : sm_MI} {M' : sm_M} {m0 s0 : Nat} {cal : Nat → List Value → sm_M → sm_R} {sc : Option (Nat × (Nat → Int32))} {k : Nat → sm_L → List Value → sm_M → sm_R} {r : Option Value} {pc : Nat} {L : sm_L} {st : List Value} {M : sm_M} {j : Nat} (C0 : sm_C p s m args meth c D cl τ B ad TB NB SK XT m0 mi) (ih : ∀ pc L st M, k pc L st M = some (M', r) → sm_G p l e R s m args below meth c Q D cl τ B ad mi.2.2.1 m0 s0 pc L st M) (hd : decode mi.2.1 pc = .ok (.lstore j, 2)) (h : sm_ex cal sc mi k pc L st M (.lstore j) = some (M', r)) : sm_G p l e R s m args below meth c Q D cl τ B ad mi.2.2.1 m0 s0 pc L st M := by
  have hx := C0.1
  have hb := C0.2.1
  replace h := sm_l1_some h
  obtain ⟨x, t, rfl, h⟩ := h
  replace h := sm_st2_some h
  obtain ⟨hj, h⟩ := h
  intro H locs ls cells slots hP hm hS hLl hL h1 h2
  refine lv_lstore hx hb hd hL (by omega) rfl (fun ls' hL' => ?_)
  exact ih _ _ _ _ h H locs ls' cells slots hP hm hS (by rw [sm_s2_len]; exact hLl) (sm_has_s2 (v := .long x) hL') h1 h2
set_option maxHeartbeats 1000000 in
theorem sg_iinc {p : Program} {l : Launch} {e : Env} {R : Room} {s : State} {m : MethodId} {args : Array Value} {below : List Frame} {meth : Method} {c : Code} {Q : State → Prop} {D : va_G} {cl : List vw_C} {τ : Nat → ClassId} {B : Nat} {ad : Nat → Nat} {TB NB : List Cond} {SK : sm_SKt} {XT : State → Heap → Prop} {mi : sm_MI} {M' : sm_M} {m0 s0 : Nat} {cal : Nat → List Value → sm_M → sm_R} {sc : Option (Nat × (Nat → Int32))} {k : Nat → sm_L → List Value → sm_M → sm_R} {r : Option Value} {pc : Nat} {L : sm_L} {st : List Value} {M : sm_M} {j : Nat} {n : Int} (C0 : sm_C p s m args meth c D cl τ B ad TB NB SK XT m0 mi) (ih : ∀ pc L st M, k pc L st M = some (M', r) → sm_G p l e R s m args below meth c Q D cl τ B ad mi.2.2.1 m0 s0 pc L st M) (hd : decode mi.2.1 pc = .ok (.iinc j n, 3)) (h : sm_ex cal sc mi k pc L st M (.iinc j n) = some (M', r)) : sm_G p l e R s m args below meth c Q D cl τ B ad mi.2.2.1 m0 s0 pc L st M := by
  have hx := C0.1
  have hb := C0.2.1
  replace h := sm_li1_some h
  obtain ⟨x, hv, h⟩ := h
  replace h := sm_st1_some h
  obtain ⟨hj, h⟩ := h
  intro H locs ls cells slots hP hm hS hLl hL h1 h2
  have hmem := sm_al_in (B := B) (ad := ad) (j := 0) hv
  rw [Nat.zero_add] at hmem
  obtain ⟨kk, hkk⟩ := List.getElem?_of_mem hmem
  refine lv_iinc hx hb hd hL hkk rfl (by omega) rfl (fun ls' hL' => ?_)
  exact ih _ _ _ _ h H locs ls' cells slots hP hm hS (by rw [sm_s1_len]; exact hLl) (sm_has_s1 (v := .int (x + Int32.ofInt n)) hL') h1 h2
set_option maxHeartbeats 1000000 in
theorem sg_iadd {p : Program} {l : Launch} {e : Env} {R : Room} {s : State} {m : MethodId} {args : Array Value} {below : List Frame} {meth : Method} {c : Code} {Q : State → Prop} {D : va_G} {cl : List vw_C} {τ : Nat → ClassId} {B : Nat} {ad : Nat → Nat} {TB NB : List Cond} {SK : sm_SKt} {XT : State → Heap → Prop} {mi : sm_MI} {M' : sm_M} {m0 s0 : Nat} {cal : Nat → List Value → sm_M → sm_R} {sc : Option (Nat × (Nat → Int32))} {k : Nat → sm_L → List Value → sm_M → sm_R} {r : Option Value} {pc : Nat} {L : sm_L} {st : List Value} {M : sm_M}  (C0 : sm_C p s m args meth c D cl τ B ad TB NB SK XT m0 mi) (ih : ∀ pc L st M, k pc L st M = some (M', r) → sm_G p l e R s m args below meth c Q D cl τ B ad mi.2.2.1 m0 s0 pc L st M) (hd : decode mi.2.1 pc = .ok (.iadd, 1)) (h : sm_ex cal sc mi k pc L st M (.iadd) = some (M', r)) : sm_G p l e R s m args below meth c Q D cl τ B ad mi.2.2.1 m0 s0 pc L st M := by
  have hx := C0.1
  have hb := C0.2.1
  replace h := sm_i2_some h
  obtain ⟨x, y, t, rfl, h⟩ := h
  intro H locs ls cells slots hP hm hS hLl hL h1 h2
  refine lv_iadd hx hb hd ?_
  exact ih _ _ _ _ h H locs ls cells slots hP hm hS hLl hL h1 h2
set_option maxHeartbeats 1000000 in
theorem sg_isub {p : Program} {l : Launch} {e : Env} {R : Room} {s : State} {m : MethodId} {args : Array Value} {below : List Frame} {meth : Method} {c : Code} {Q : State → Prop} {D : va_G} {cl : List vw_C} {τ : Nat → ClassId} {B : Nat} {ad : Nat → Nat} {TB NB : List Cond} {SK : sm_SKt} {XT : State → Heap → Prop} {mi : sm_MI} {M' : sm_M} {m0 s0 : Nat} {cal : Nat → List Value → sm_M → sm_R} {sc : Option (Nat × (Nat → Int32))} {k : Nat → sm_L → List Value → sm_M → sm_R} {r : Option Value} {pc : Nat} {L : sm_L} {st : List Value} {M : sm_M}  (C0 : sm_C p s m args meth c D cl τ B ad TB NB SK XT m0 mi) (ih : ∀ pc L st M, k pc L st M = some (M', r) → sm_G p l e R s m args below meth c Q D cl τ B ad mi.2.2.1 m0 s0 pc L st M) (hd : decode mi.2.1 pc = .ok (.isub, 1)) (h : sm_ex cal sc mi k pc L st M (.isub) = some (M', r)) : sm_G p l e R s m args below meth c Q D cl τ B ad mi.2.2.1 m0 s0 pc L st M := by
  have hx := C0.1
  have hb := C0.2.1
  replace h := sm_i2_some h
  obtain ⟨x, y, t, rfl, h⟩ := h
  intro H locs ls cells slots hP hm hS hLl hL h1 h2
  refine lv_isub hx hb hd ?_
  exact ih _ _ _ _ h H locs ls cells slots hP hm hS hLl hL h1 h2
set_option maxHeartbeats 1000000 in
theorem sg_imul {p : Program} {l : Launch} {e : Env} {R : Room} {s : State} {m : MethodId} {args : Array Value} {below : List Frame} {meth : Method} {c : Code} {Q : State → Prop} {D : va_G} {cl : List vw_C} {τ : Nat → ClassId} {B : Nat} {ad : Nat → Nat} {TB NB : List Cond} {SK : sm_SKt} {XT : State → Heap → Prop} {mi : sm_MI} {M' : sm_M} {m0 s0 : Nat} {cal : Nat → List Value → sm_M → sm_R} {sc : Option (Nat × (Nat → Int32))} {k : Nat → sm_L → List Value → sm_M → sm_R} {r : Option Value} {pc : Nat} {L : sm_L} {st : List Value} {M : sm_M}  (C0 : sm_C p s m args meth c D cl τ B ad TB NB SK XT m0 mi) (ih : ∀ pc L st M, k pc L st M = some (M', r) → sm_G p l e R s m args below meth c Q D cl τ B ad mi.2.2.1 m0 s0 pc L st M) (hd : decode mi.2.1 pc = .ok (.imul, 1)) (h : sm_ex cal sc mi k pc L st M (.imul) = some (M', r)) : sm_G p l e R s m args below meth c Q D cl τ B ad mi.2.2.1 m0 s0 pc L st M := by
  have hx := C0.1
  have hb := C0.2.1
  replace h := sm_i2_some h
  obtain ⟨x, y, t, rfl, h⟩ := h
  intro H locs ls cells slots hP hm hS hLl hL h1 h2
  refine lv_imul hx hb hd ?_
  exact ih _ _ _ _ h H locs ls cells slots hP hm hS hLl hL h1 h2
set_option maxHeartbeats 1000000 in
theorem sg_iand {p : Program} {l : Launch} {e : Env} {R : Room} {s : State} {m : MethodId} {args : Array Value} {below : List Frame} {meth : Method} {c : Code} {Q : State → Prop} {D : va_G} {cl : List vw_C} {τ : Nat → ClassId} {B : Nat} {ad : Nat → Nat} {TB NB : List Cond} {SK : sm_SKt} {XT : State → Heap → Prop} {mi : sm_MI} {M' : sm_M} {m0 s0 : Nat} {cal : Nat → List Value → sm_M → sm_R} {sc : Option (Nat × (Nat → Int32))} {k : Nat → sm_L → List Value → sm_M → sm_R} {r : Option Value} {pc : Nat} {L : sm_L} {st : List Value} {M : sm_M}  (C0 : sm_C p s m args meth c D cl τ B ad TB NB SK XT m0 mi) (ih : ∀ pc L st M, k pc L st M = some (M', r) → sm_G p l e R s m args below meth c Q D cl τ B ad mi.2.2.1 m0 s0 pc L st M) (hd : decode mi.2.1 pc = .ok (.iand, 1)) (h : sm_ex cal sc mi k pc L st M (.iand) = some (M', r)) : sm_G p l e R s m args below meth c Q D cl τ B ad mi.2.2.1 m0 s0 pc L st M := by
  have hx := C0.1
  have hb := C0.2.1
  replace h := sm_i2_some h
  obtain ⟨x, y, t, rfl, h⟩ := h
  intro H locs ls cells slots hP hm hS hLl hL h1 h2
  refine lv_iand hx hb hd ?_
  exact ih _ _ _ _ h H locs ls cells slots hP hm hS hLl hL h1 h2
set_option maxHeartbeats 1000000 in
theorem sg_ior {p : Program} {l : Launch} {e : Env} {R : Room} {s : State} {m : MethodId} {args : Array Value} {below : List Frame} {meth : Method} {c : Code} {Q : State → Prop} {D : va_G} {cl : List vw_C} {τ : Nat → ClassId} {B : Nat} {ad : Nat → Nat} {TB NB : List Cond} {SK : sm_SKt} {XT : State → Heap → Prop} {mi : sm_MI} {M' : sm_M} {m0 s0 : Nat} {cal : Nat → List Value → sm_M → sm_R} {sc : Option (Nat × (Nat → Int32))} {k : Nat → sm_L → List Value → sm_M → sm_R} {r : Option Value} {pc : Nat} {L : sm_L} {st : List Value} {M : sm_M}  (C0 : sm_C p s m args meth c D cl τ B ad TB NB SK XT m0 mi) (ih : ∀ pc L st M, k pc L st M = some (M', r) → sm_G p l e R s m args below meth c Q D cl τ B ad mi.2.2.1 m0 s0 pc L st M) (hd : decode mi.2.1 pc = .ok (.ior, 1)) (h : sm_ex cal sc mi k pc L st M (.ior) = some (M', r)) : sm_G p l e R s m args below meth c Q D cl τ B ad mi.2.2.1 m0 s0 pc L st M := by
  have hx := C0.1
  have hb := C0.2.1
  replace h := sm_i2_some h
  obtain ⟨x, y, t, rfl, h⟩ := h
  intro H locs ls cells slots hP hm hS hLl hL h1 h2
  refine lv_ior hx hb hd ?_
  exact ih _ _ _ _ h H locs ls cells slots hP hm hS hLl hL h1 h2
set_option maxHeartbeats 1000000 in
theorem sg_ixor {p : Program} {l : Launch} {e : Env} {R : Room} {s : State} {m : MethodId} {args : Array Value} {below : List Frame} {meth : Method} {c : Code} {Q : State → Prop} {D : va_G} {cl : List vw_C} {τ : Nat → ClassId} {B : Nat} {ad : Nat → Nat} {TB NB : List Cond} {SK : sm_SKt} {XT : State → Heap → Prop} {mi : sm_MI} {M' : sm_M} {m0 s0 : Nat} {cal : Nat → List Value → sm_M → sm_R} {sc : Option (Nat × (Nat → Int32))} {k : Nat → sm_L → List Value → sm_M → sm_R} {r : Option Value} {pc : Nat} {L : sm_L} {st : List Value} {M : sm_M}  (C0 : sm_C p s m args meth c D cl τ B ad TB NB SK XT m0 mi) (ih : ∀ pc L st M, k pc L st M = some (M', r) → sm_G p l e R s m args below meth c Q D cl τ B ad mi.2.2.1 m0 s0 pc L st M) (hd : decode mi.2.1 pc = .ok (.ixor, 1)) (h : sm_ex cal sc mi k pc L st M (.ixor) = some (M', r)) : sm_G p l e R s m args below meth c Q D cl τ B ad mi.2.2.1 m0 s0 pc L st M := by
  have hx := C0.1
  have hb := C0.2.1
  replace h := sm_i2_some h
  obtain ⟨x, y, t, rfl, h⟩ := h
  intro H locs ls cells slots hP hm hS hLl hL h1 h2
  refine lv_ixor hx hb hd ?_
  exact ih _ _ _ _ h H locs ls cells slots hP hm hS hLl hL h1 h2
set_option maxHeartbeats 1000000 in
theorem sg_ishl {p : Program} {l : Launch} {e : Env} {R : Room} {s : State} {m : MethodId} {args : Array Value} {below : List Frame} {meth : Method} {c : Code} {Q : State → Prop} {D : va_G} {cl : List vw_C} {τ : Nat → ClassId} {B : Nat} {ad : Nat → Nat} {TB NB : List Cond} {SK : sm_SKt} {XT : State → Heap → Prop} {mi : sm_MI} {M' : sm_M} {m0 s0 : Nat} {cal : Nat → List Value → sm_M → sm_R} {sc : Option (Nat × (Nat → Int32))} {k : Nat → sm_L → List Value → sm_M → sm_R} {r : Option Value} {pc : Nat} {L : sm_L} {st : List Value} {M : sm_M}  (C0 : sm_C p s m args meth c D cl τ B ad TB NB SK XT m0 mi) (ih : ∀ pc L st M, k pc L st M = some (M', r) → sm_G p l e R s m args below meth c Q D cl τ B ad mi.2.2.1 m0 s0 pc L st M) (hd : decode mi.2.1 pc = .ok (.ishl, 1)) (h : sm_ex cal sc mi k pc L st M (.ishl) = some (M', r)) : sm_G p l e R s m args below meth c Q D cl τ B ad mi.2.2.1 m0 s0 pc L st M := by
  have hx := C0.1
  have hb := C0.2.1
  replace h := sm_i2_some h
  obtain ⟨x, y, t, rfl, h⟩ := h
  intro H locs ls cells slots hP hm hS hLl hL h1 h2
  refine lv_ishl hx hb hd ?_
  exact ih _ _ _ _ h H locs ls cells slots hP hm hS hLl hL h1 h2
set_option maxHeartbeats 1000000 in
theorem sg_ishr {p : Program} {l : Launch} {e : Env} {R : Room} {s : State} {m : MethodId} {args : Array Value} {below : List Frame} {meth : Method} {c : Code} {Q : State → Prop} {D : va_G} {cl : List vw_C} {τ : Nat → ClassId} {B : Nat} {ad : Nat → Nat} {TB NB : List Cond} {SK : sm_SKt} {XT : State → Heap → Prop} {mi : sm_MI} {M' : sm_M} {m0 s0 : Nat} {cal : Nat → List Value → sm_M → sm_R} {sc : Option (Nat × (Nat → Int32))} {k : Nat → sm_L → List Value → sm_M → sm_R} {r : Option Value} {pc : Nat} {L : sm_L} {st : List Value} {M : sm_M}  (C0 : sm_C p s m args meth c D cl τ B ad TB NB SK XT m0 mi) (ih : ∀ pc L st M, k pc L st M = some (M', r) → sm_G p l e R s m args below meth c Q D cl τ B ad mi.2.2.1 m0 s0 pc L st M) (hd : decode mi.2.1 pc = .ok (.ishr, 1)) (h : sm_ex cal sc mi k pc L st M (.ishr) = some (M', r)) : sm_G p l e R s m args below meth c Q D cl τ B ad mi.2.2.1 m0 s0 pc L st M := by
  have hx := C0.1
  have hb := C0.2.1
  replace h := sm_i2_some h
  obtain ⟨x, y, t, rfl, h⟩ := h
  intro H locs ls cells slots hP hm hS hLl hL h1 h2
  refine lv_ishr hx hb hd ?_
  exact ih _ _ _ _ h H locs ls cells slots hP hm hS hLl hL h1 h2
set_option maxHeartbeats 1000000 in
theorem sg_iushr {p : Program} {l : Launch} {e : Env} {R : Room} {s : State} {m : MethodId} {args : Array Value} {below : List Frame} {meth : Method} {c : Code} {Q : State → Prop} {D : va_G} {cl : List vw_C} {τ : Nat → ClassId} {B : Nat} {ad : Nat → Nat} {TB NB : List Cond} {SK : sm_SKt} {XT : State → Heap → Prop} {mi : sm_MI} {M' : sm_M} {m0 s0 : Nat} {cal : Nat → List Value → sm_M → sm_R} {sc : Option (Nat × (Nat → Int32))} {k : Nat → sm_L → List Value → sm_M → sm_R} {r : Option Value} {pc : Nat} {L : sm_L} {st : List Value} {M : sm_M}  (C0 : sm_C p s m args meth c D cl τ B ad TB NB SK XT m0 mi) (ih : ∀ pc L st M, k pc L st M = some (M', r) → sm_G p l e R s m args below meth c Q D cl τ B ad mi.2.2.1 m0 s0 pc L st M) (hd : decode mi.2.1 pc = .ok (.iushr, 1)) (h : sm_ex cal sc mi k pc L st M (.iushr) = some (M', r)) : sm_G p l e R s m args below meth c Q D cl τ B ad mi.2.2.1 m0 s0 pc L st M := by
  have hx := C0.1
  have hb := C0.2.1
  replace h := sm_i2_some h
  obtain ⟨x, y, t, rfl, h⟩ := h
  intro H locs ls cells slots hP hm hS hLl hL h1 h2
  refine lv_iushr hx hb hd rfl ?_
  exact ih _ _ _ _ h H locs ls cells slots hP hm hS hLl hL h1 h2
set_option maxHeartbeats 1000000 in
theorem sg_idiv {p : Program} {l : Launch} {e : Env} {R : Room} {s : State} {m : MethodId} {args : Array Value} {below : List Frame} {meth : Method} {c : Code} {Q : State → Prop} {D : va_G} {cl : List vw_C} {τ : Nat → ClassId} {B : Nat} {ad : Nat → Nat} {TB NB : List Cond} {SK : sm_SKt} {XT : State → Heap → Prop} {mi : sm_MI} {M' : sm_M} {m0 s0 : Nat} {cal : Nat → List Value → sm_M → sm_R} {sc : Option (Nat × (Nat → Int32))} {k : Nat → sm_L → List Value → sm_M → sm_R} {r : Option Value} {pc : Nat} {L : sm_L} {st : List Value} {M : sm_M}  (C0 : sm_C p s m args meth c D cl τ B ad TB NB SK XT m0 mi) (ih : ∀ pc L st M, k pc L st M = some (M', r) → sm_G p l e R s m args below meth c Q D cl τ B ad mi.2.2.1 m0 s0 pc L st M) (hd : decode mi.2.1 pc = .ok (.idiv, 1)) (h : sm_ex cal sc mi k pc L st M (.idiv) = some (M', r)) : sm_G p l e R s m args below meth c Q D cl τ B ad mi.2.2.1 m0 s0 pc L st M := by
  have hx := C0.1
  have hb := C0.2.1
  replace h := sm_i2_some h
  obtain ⟨x, y, t, rfl, h⟩ := h
  split at h
  · cases h
  · rename_i hne
    intro H locs ls cells slots hP hm hS hLl hL h1 h2
    refine lv_idiv hx hb hd hne ?_
    exact ih _ _ _ _ h H locs ls cells slots hP hm hS hLl hL h1 h2
set_option maxHeartbeats 1000000 in
theorem sg_irem {p : Program} {l : Launch} {e : Env} {R : Room} {s : State} {m : MethodId} {args : Array Value} {below : List Frame} {meth : Method} {c : Code} {Q : State → Prop} {D : va_G} {cl : List vw_C} {τ : Nat → ClassId} {B : Nat} {ad : Nat → Nat} {TB NB : List Cond} {SK : sm_SKt} {XT : State → Heap → Prop} {mi : sm_MI} {M' : sm_M} {m0 s0 : Nat} {cal : Nat → List Value → sm_M → sm_R} {sc : Option (Nat × (Nat → Int32))} {k : Nat → sm_L → List Value → sm_M → sm_R} {r : Option Value} {pc : Nat} {L : sm_L} {st : List Value} {M : sm_M}  (C0 : sm_C p s m args meth c D cl τ B ad TB NB SK XT m0 mi) (ih : ∀ pc L st M, k pc L st M = some (M', r) → sm_G p l e R s m args below meth c Q D cl τ B ad mi.2.2.1 m0 s0 pc L st M) (hd : decode mi.2.1 pc = .ok (.irem, 1)) (h : sm_ex cal sc mi k pc L st M (.irem) = some (M', r)) : sm_G p l e R s m args below meth c Q D cl τ B ad mi.2.2.1 m0 s0 pc L st M := by
  have hx := C0.1
  have hb := C0.2.1
  replace h := sm_i2_some h
  obtain ⟨x, y, t, rfl, h⟩ := h
  split at h
  · cases h
  · rename_i hne
    intro H locs ls cells slots hP hm hS hLl hL h1 h2
    refine lv_irem hx hb hd hne ?_
    exact ih _ _ _ _ h H locs ls cells slots hP hm hS hLl hL h1 h2
set_option maxHeartbeats 1000000 in
theorem sg_ineg {p : Program} {l : Launch} {e : Env} {R : Room} {s : State} {m : MethodId} {args : Array Value} {below : List Frame} {meth : Method} {c : Code} {Q : State → Prop} {D : va_G} {cl : List vw_C} {τ : Nat → ClassId} {B : Nat} {ad : Nat → Nat} {TB NB : List Cond} {SK : sm_SKt} {XT : State → Heap → Prop} {mi : sm_MI} {M' : sm_M} {m0 s0 : Nat} {cal : Nat → List Value → sm_M → sm_R} {sc : Option (Nat × (Nat → Int32))} {k : Nat → sm_L → List Value → sm_M → sm_R} {r : Option Value} {pc : Nat} {L : sm_L} {st : List Value} {M : sm_M}  (C0 : sm_C p s m args meth c D cl τ B ad TB NB SK XT m0 mi) (ih : ∀ pc L st M, k pc L st M = some (M', r) → sm_G p l e R s m args below meth c Q D cl τ B ad mi.2.2.1 m0 s0 pc L st M) (hd : decode mi.2.1 pc = .ok (.ineg, 1)) (h : sm_ex cal sc mi k pc L st M (.ineg) = some (M', r)) : sm_G p l e R s m args below meth c Q D cl τ B ad mi.2.2.1 m0 s0 pc L st M := by
  have hx := C0.1
  have hb := C0.2.1
  replace h := sm_i1_some h
  obtain ⟨x, t, rfl, h⟩ := h
  intro H locs ls cells slots hP hm hS hLl hL h1 h2
  refine lv_ineg hx hb hd ?_
  exact ih _ _ _ _ h H locs ls cells slots hP hm hS hLl hL h1 h2
set_option maxHeartbeats 1000000 in
theorem sg_ladd {p : Program} {l : Launch} {e : Env} {R : Room} {s : State} {m : MethodId} {args : Array Value} {below : List Frame} {meth : Method} {c : Code} {Q : State → Prop} {D : va_G} {cl : List vw_C} {τ : Nat → ClassId} {B : Nat} {ad : Nat → Nat} {TB NB : List Cond} {SK : sm_SKt} {XT : State → Heap → Prop} {mi : sm_MI} {M' : sm_M} {m0 s0 : Nat} {cal : Nat → List Value → sm_M → sm_R} {sc : Option (Nat × (Nat → Int32))} {k : Nat → sm_L → List Value → sm_M → sm_R} {r : Option Value} {pc : Nat} {L : sm_L} {st : List Value} {M : sm_M}  (C0 : sm_C p s m args meth c D cl τ B ad TB NB SK XT m0 mi) (ih : ∀ pc L st M, k pc L st M = some (M', r) → sm_G p l e R s m args below meth c Q D cl τ B ad mi.2.2.1 m0 s0 pc L st M) (hd : decode mi.2.1 pc = .ok (.ladd, 1)) (h : sm_ex cal sc mi k pc L st M (.ladd) = some (M', r)) : sm_G p l e R s m args below meth c Q D cl τ B ad mi.2.2.1 m0 s0 pc L st M := by
  have hx := C0.1
  have hb := C0.2.1
  replace h := sm_l2_some h
  obtain ⟨x, y, t, rfl, h⟩ := h
  intro H locs ls cells slots hP hm hS hLl hL h1 h2
  refine lv_ladd hx hb hd ?_
  exact ih _ _ _ _ h H locs ls cells slots hP hm hS hLl hL h1 h2
set_option maxHeartbeats 1000000 in
theorem sg_lsub {p : Program} {l : Launch} {e : Env} {R : Room} {s : State} {m : MethodId} {args : Array Value} {below : List Frame} {meth : Method} {c : Code} {Q : State → Prop} {D : va_G} {cl : List vw_C} {τ : Nat → ClassId} {B : Nat} {ad : Nat → Nat} {TB NB : List Cond} {SK : sm_SKt} {XT : State → Heap → Prop} {mi : sm_MI} {M' : sm_M} {m0 s0 : Nat} {cal : Nat → List Value → sm_M → sm_R} {sc : Option (Nat × (Nat → Int32))} {k : Nat → sm_L → List Value → sm_M → sm_R} {r : Option Value} {pc : Nat} {L : sm_L} {st : List Value} {M : sm_M}  (C0 : sm_C p s m args meth c D cl τ B ad TB NB SK XT m0 mi) (ih : ∀ pc L st M, k pc L st M = some (M', r) → sm_G p l e R s m args below meth c Q D cl τ B ad mi.2.2.1 m0 s0 pc L st M) (hd : decode mi.2.1 pc = .ok (.lsub, 1)) (h : sm_ex cal sc mi k pc L st M (.lsub) = some (M', r)) : sm_G p l e R s m args below meth c Q D cl τ B ad mi.2.2.1 m0 s0 pc L st M := by
  have hx := C0.1
  have hb := C0.2.1
  replace h := sm_l2_some h
  obtain ⟨x, y, t, rfl, h⟩ := h
  intro H locs ls cells slots hP hm hS hLl hL h1 h2
  refine lv_lsub hx hb hd ?_
  exact ih _ _ _ _ h H locs ls cells slots hP hm hS hLl hL h1 h2
set_option maxHeartbeats 1000000 in
theorem sg_land {p : Program} {l : Launch} {e : Env} {R : Room} {s : State} {m : MethodId} {args : Array Value} {below : List Frame} {meth : Method} {c : Code} {Q : State → Prop} {D : va_G} {cl : List vw_C} {τ : Nat → ClassId} {B : Nat} {ad : Nat → Nat} {TB NB : List Cond} {SK : sm_SKt} {XT : State → Heap → Prop} {mi : sm_MI} {M' : sm_M} {m0 s0 : Nat} {cal : Nat → List Value → sm_M → sm_R} {sc : Option (Nat × (Nat → Int32))} {k : Nat → sm_L → List Value → sm_M → sm_R} {r : Option Value} {pc : Nat} {L : sm_L} {st : List Value} {M : sm_M}  (C0 : sm_C p s m args meth c D cl τ B ad TB NB SK XT m0 mi) (ih : ∀ pc L st M, k pc L st M = some (M', r) → sm_G p l e R s m args below meth c Q D cl τ B ad mi.2.2.1 m0 s0 pc L st M) (hd : decode mi.2.1 pc = .ok (.land, 1)) (h : sm_ex cal sc mi k pc L st M (.land) = some (M', r)) : sm_G p l e R s m args below meth c Q D cl τ B ad mi.2.2.1 m0 s0 pc L st M := by
  have hx := C0.1
  have hb := C0.2.1
  replace h := sm_l2_some h
  obtain ⟨x, y, t, rfl, h⟩ := h
  intro H locs ls cells slots hP hm hS hLl hL h1 h2
  refine lv_land hx hb hd ?_
  exact ih _ _ _ _ h H locs ls cells slots hP hm hS hLl hL h1 h2
set_option maxHeartbeats 1000000 in
theorem sg_lor {p : Program} {l : Launch} {e : Env} {R : Room} {s : State} {m : MethodId} {args : Array Value} {below : List Frame} {meth : Method} {c : Code} {Q : State → Prop} {D : va_G} {cl : List vw_C} {τ : Nat → ClassId} {B : Nat} {ad : Nat → Nat} {TB NB : List Cond} {SK : sm_SKt} {XT : State → Heap → Prop} {mi : sm_MI} {M' : sm_M} {m0 s0 : Nat} {cal : Nat → List Value → sm_M → sm_R} {sc : Option (Nat × (Nat → Int32))} {k : Nat → sm_L → List Value → sm_M → sm_R} {r : Option Value} {pc : Nat} {L : sm_L} {st : List Value} {M : sm_M}  (C0 : sm_C p s m args meth c D cl τ B ad TB NB SK XT m0 mi) (ih : ∀ pc L st M, k pc L st M = some (M', r) → sm_G p l e R s m args below meth c Q D cl τ B ad mi.2.2.1 m0 s0 pc L st M) (hd : decode mi.2.1 pc = .ok (.lor, 1)) (h : sm_ex cal sc mi k pc L st M (.lor) = some (M', r)) : sm_G p l e R s m args below meth c Q D cl τ B ad mi.2.2.1 m0 s0 pc L st M := by
  have hx := C0.1
  have hb := C0.2.1
  replace h := sm_l2_some h
  obtain ⟨x, y, t, rfl, h⟩ := h
  intro H locs ls cells slots hP hm hS hLl hL h1 h2
  refine lv_lor hx hb hd ?_
  exact ih _ _ _ _ h H locs ls cells slots hP hm hS hLl hL h1 h2
set_option maxHeartbeats 1000000 in
theorem sg_lxor {p : Program} {l : Launch} {e : Env} {R : Room} {s : State} {m : MethodId} {args : Array Value} {below : List Frame} {meth : Method} {c : Code} {Q : State → Prop} {D : va_G} {cl : List vw_C} {τ : Nat → ClassId} {B : Nat} {ad : Nat → Nat} {TB NB : List Cond} {SK : sm_SKt} {XT : State → Heap → Prop} {mi : sm_MI} {M' : sm_M} {m0 s0 : Nat} {cal : Nat → List Value → sm_M → sm_R} {sc : Option (Nat × (Nat → Int32))} {k : Nat → sm_L → List Value → sm_M → sm_R} {r : Option Value} {pc : Nat} {L : sm_L} {st : List Value} {M : sm_M}  (C0 : sm_C p s m args meth c D cl τ B ad TB NB SK XT m0 mi) (ih : ∀ pc L st M, k pc L st M = some (M', r) → sm_G p l e R s m args below meth c Q D cl τ B ad mi.2.2.1 m0 s0 pc L st M) (hd : decode mi.2.1 pc = .ok (.lxor, 1)) (h : sm_ex cal sc mi k pc L st M (.lxor) = some (M', r)) : sm_G p l e R s m args below meth c Q D cl τ B ad mi.2.2.1 m0 s0 pc L st M := by
  have hx := C0.1
  have hb := C0.2.1
  replace h := sm_l2_some h
  obtain ⟨x, y, t, rfl, h⟩ := h
  intro H locs ls cells slots hP hm hS hLl hL h1 h2
  refine lv_lxor hx hb hd ?_
  exact ih _ _ _ _ h H locs ls cells slots hP hm hS hLl hL h1 h2
set_option maxHeartbeats 1000000 in
theorem sg_lshl {p : Program} {l : Launch} {e : Env} {R : Room} {s : State} {m : MethodId} {args : Array Value} {below : List Frame} {meth : Method} {c : Code} {Q : State → Prop} {D : va_G} {cl : List vw_C} {τ : Nat → ClassId} {B : Nat} {ad : Nat → Nat} {TB NB : List Cond} {SK : sm_SKt} {XT : State → Heap → Prop} {mi : sm_MI} {M' : sm_M} {m0 s0 : Nat} {cal : Nat → List Value → sm_M → sm_R} {sc : Option (Nat × (Nat → Int32))} {k : Nat → sm_L → List Value → sm_M → sm_R} {r : Option Value} {pc : Nat} {L : sm_L} {st : List Value} {M : sm_M}  (C0 : sm_C p s m args meth c D cl τ B ad TB NB SK XT m0 mi) (ih : ∀ pc L st M, k pc L st M = some (M', r) → sm_G p l e R s m args below meth c Q D cl τ B ad mi.2.2.1 m0 s0 pc L st M) (hd : decode mi.2.1 pc = .ok (.lshl, 1)) (h : sm_ex cal sc mi k pc L st M (.lshl) = some (M', r)) : sm_G p l e R s m args below meth c Q D cl τ B ad mi.2.2.1 m0 s0 pc L st M := by
  have hx := C0.1
  have hb := C0.2.1
  replace h := sm_li_some h
  obtain ⟨x, y, t, rfl, h⟩ := h
  intro H locs ls cells slots hP hm hS hLl hL h1 h2
  refine lv_lshl hx hb hd rfl ?_
  exact ih _ _ _ _ h H locs ls cells slots hP hm hS hLl hL h1 h2
set_option maxHeartbeats 1000000 in
theorem sg_lshr {p : Program} {l : Launch} {e : Env} {R : Room} {s : State} {m : MethodId} {args : Array Value} {below : List Frame} {meth : Method} {c : Code} {Q : State → Prop} {D : va_G} {cl : List vw_C} {τ : Nat → ClassId} {B : Nat} {ad : Nat → Nat} {TB NB : List Cond} {SK : sm_SKt} {XT : State → Heap → Prop} {mi : sm_MI} {M' : sm_M} {m0 s0 : Nat} {cal : Nat → List Value → sm_M → sm_R} {sc : Option (Nat × (Nat → Int32))} {k : Nat → sm_L → List Value → sm_M → sm_R} {r : Option Value} {pc : Nat} {L : sm_L} {st : List Value} {M : sm_M}  (C0 : sm_C p s m args meth c D cl τ B ad TB NB SK XT m0 mi) (ih : ∀ pc L st M, k pc L st M = some (M', r) → sm_G p l e R s m args below meth c Q D cl τ B ad mi.2.2.1 m0 s0 pc L st M) (hd : decode mi.2.1 pc = .ok (.lshr, 1)) (h : sm_ex cal sc mi k pc L st M (.lshr) = some (M', r)) : sm_G p l e R s m args below meth c Q D cl τ B ad mi.2.2.1 m0 s0 pc L st M := by
  have hx := C0.1
  have hb := C0.2.1
  replace h := sm_li_some h
  obtain ⟨x, y, t, rfl, h⟩ := h
  intro H locs ls cells slots hP hm hS hLl hL h1 h2
  refine lv_lshr hx hb hd rfl ?_
  exact ih _ _ _ _ h H locs ls cells slots hP hm hS hLl hL h1 h2
set_option maxHeartbeats 1000000 in
theorem sg_lushr {p : Program} {l : Launch} {e : Env} {R : Room} {s : State} {m : MethodId} {args : Array Value} {below : List Frame} {meth : Method} {c : Code} {Q : State → Prop} {D : va_G} {cl : List vw_C} {τ : Nat → ClassId} {B : Nat} {ad : Nat → Nat} {TB NB : List Cond} {SK : sm_SKt} {XT : State → Heap → Prop} {mi : sm_MI} {M' : sm_M} {m0 s0 : Nat} {cal : Nat → List Value → sm_M → sm_R} {sc : Option (Nat × (Nat → Int32))} {k : Nat → sm_L → List Value → sm_M → sm_R} {r : Option Value} {pc : Nat} {L : sm_L} {st : List Value} {M : sm_M}  (C0 : sm_C p s m args meth c D cl τ B ad TB NB SK XT m0 mi) (ih : ∀ pc L st M, k pc L st M = some (M', r) → sm_G p l e R s m args below meth c Q D cl τ B ad mi.2.2.1 m0 s0 pc L st M) (hd : decode mi.2.1 pc = .ok (.lushr, 1)) (h : sm_ex cal sc mi k pc L st M (.lushr) = some (M', r)) : sm_G p l e R s m args below meth c Q D cl τ B ad mi.2.2.1 m0 s0 pc L st M := by
  have hx := C0.1
  have hb := C0.2.1
  replace h := sm_li_some h
  obtain ⟨x, y, t, rfl, h⟩ := h
  intro H locs ls cells slots hP hm hS hLl hL h1 h2
  refine lv_lushr hx hb hd rfl ?_
  exact ih _ _ _ _ h H locs ls cells slots hP hm hS hLl hL h1 h2
set_option maxHeartbeats 1000000 in
theorem sg_lcmp {p : Program} {l : Launch} {e : Env} {R : Room} {s : State} {m : MethodId} {args : Array Value} {below : List Frame} {meth : Method} {c : Code} {Q : State → Prop} {D : va_G} {cl : List vw_C} {τ : Nat → ClassId} {B : Nat} {ad : Nat → Nat} {TB NB : List Cond} {SK : sm_SKt} {XT : State → Heap → Prop} {mi : sm_MI} {M' : sm_M} {m0 s0 : Nat} {cal : Nat → List Value → sm_M → sm_R} {sc : Option (Nat × (Nat → Int32))} {k : Nat → sm_L → List Value → sm_M → sm_R} {r : Option Value} {pc : Nat} {L : sm_L} {st : List Value} {M : sm_M}  (C0 : sm_C p s m args meth c D cl τ B ad TB NB SK XT m0 mi) (ih : ∀ pc L st M, k pc L st M = some (M', r) → sm_G p l e R s m args below meth c Q D cl τ B ad mi.2.2.1 m0 s0 pc L st M) (hd : decode mi.2.1 pc = .ok (.lcmp, 1)) (h : sm_ex cal sc mi k pc L st M (.lcmp) = some (M', r)) : sm_G p l e R s m args below meth c Q D cl τ B ad mi.2.2.1 m0 s0 pc L st M := by
  have hx := C0.1
  have hb := C0.2.1
  replace h := sm_l2_some h
  obtain ⟨x, y, t, rfl, h⟩ := h
  intro H locs ls cells slots hP hm hS hLl hL h1 h2
  refine W.lcmp hx hb hd ?_
  exact ih _ _ _ _ h H locs ls cells slots hP hm hS hLl hL h1 h2
set_option maxHeartbeats 1000000 in
theorem sg_i2l {p : Program} {l : Launch} {e : Env} {R : Room} {s : State} {m : MethodId} {args : Array Value} {below : List Frame} {meth : Method} {c : Code} {Q : State → Prop} {D : va_G} {cl : List vw_C} {τ : Nat → ClassId} {B : Nat} {ad : Nat → Nat} {TB NB : List Cond} {SK : sm_SKt} {XT : State → Heap → Prop} {mi : sm_MI} {M' : sm_M} {m0 s0 : Nat} {cal : Nat → List Value → sm_M → sm_R} {sc : Option (Nat × (Nat → Int32))} {k : Nat → sm_L → List Value → sm_M → sm_R} {r : Option Value} {pc : Nat} {L : sm_L} {st : List Value} {M : sm_M}  (C0 : sm_C p s m args meth c D cl τ B ad TB NB SK XT m0 mi) (ih : ∀ pc L st M, k pc L st M = some (M', r) → sm_G p l e R s m args below meth c Q D cl τ B ad mi.2.2.1 m0 s0 pc L st M) (hd : decode mi.2.1 pc = .ok (.i2l, 1)) (h : sm_ex cal sc mi k pc L st M (.i2l) = some (M', r)) : sm_G p l e R s m args below meth c Q D cl τ B ad mi.2.2.1 m0 s0 pc L st M := by
  have hx := C0.1
  have hb := C0.2.1
  replace h := sm_i1_some h
  obtain ⟨x, t, rfl, h⟩ := h
  intro H locs ls cells slots hP hm hS hLl hL h1 h2
  refine lv_i2l hx hb hd rfl ?_
  exact ih _ _ _ _ h H locs ls cells slots hP hm hS hLl hL h1 h2
set_option maxHeartbeats 1000000 in
theorem sg_l2i {p : Program} {l : Launch} {e : Env} {R : Room} {s : State} {m : MethodId} {args : Array Value} {below : List Frame} {meth : Method} {c : Code} {Q : State → Prop} {D : va_G} {cl : List vw_C} {τ : Nat → ClassId} {B : Nat} {ad : Nat → Nat} {TB NB : List Cond} {SK : sm_SKt} {XT : State → Heap → Prop} {mi : sm_MI} {M' : sm_M} {m0 s0 : Nat} {cal : Nat → List Value → sm_M → sm_R} {sc : Option (Nat × (Nat → Int32))} {k : Nat → sm_L → List Value → sm_M → sm_R} {r : Option Value} {pc : Nat} {L : sm_L} {st : List Value} {M : sm_M}  (C0 : sm_C p s m args meth c D cl τ B ad TB NB SK XT m0 mi) (ih : ∀ pc L st M, k pc L st M = some (M', r) → sm_G p l e R s m args below meth c Q D cl τ B ad mi.2.2.1 m0 s0 pc L st M) (hd : decode mi.2.1 pc = .ok (.l2i, 1)) (h : sm_ex cal sc mi k pc L st M (.l2i) = some (M', r)) : sm_G p l e R s m args below meth c Q D cl τ B ad mi.2.2.1 m0 s0 pc L st M := by
  have hx := C0.1
  have hb := C0.2.1
  replace h := sm_l1_some h
  obtain ⟨x, t, rfl, h⟩ := h
  intro H locs ls cells slots hP hm hS hLl hL h1 h2
  refine lv_l2i hx hb hd rfl ?_
  exact ih _ _ _ _ h H locs ls cells slots hP hm hS hLl hL h1 h2
set_option maxHeartbeats 1000000 in
theorem sg_goto {p : Program} {l : Launch} {e : Env} {R : Room} {s : State} {m : MethodId} {args : Array Value} {below : List Frame} {meth : Method} {c : Code} {Q : State → Prop} {D : va_G} {cl : List vw_C} {τ : Nat → ClassId} {B : Nat} {ad : Nat → Nat} {TB NB : List Cond} {SK : sm_SKt} {XT : State → Heap → Prop} {mi : sm_MI} {M' : sm_M} {m0 s0 : Nat} {cal : Nat → List Value → sm_M → sm_R} {sc : Option (Nat × (Nat → Int32))} {k : Nat → sm_L → List Value → sm_M → sm_R} {r : Option Value} {pc : Nat} {L : sm_L} {st : List Value} {M : sm_M} {off : Int} (C0 : sm_C p s m args meth c D cl τ B ad TB NB SK XT m0 mi) (ih : ∀ pc L st M, k pc L st M = some (M', r) → sm_G p l e R s m args below meth c Q D cl τ B ad mi.2.2.1 m0 s0 pc L st M) (hd : decode mi.2.1 pc = .ok (.goto off, 3)) (h : sm_ex cal sc mi k pc L st M (.goto off) = some (M', r)) : sm_G p l e R s m args below meth c Q D cl τ B ad mi.2.2.1 m0 s0 pc L st M := by
  have hx := C0.1
  have hb := C0.2.1
  replace h := sm_tg_some h
  obtain ⟨t, ht, h⟩ := h
  intro H locs ls cells slots hP hm hS hLl hL h1 h2
  refine lv_goto hx hb hd ht ?_
  exact ih _ _ _ _ h H locs ls cells slots hP hm hS hLl hL h1 h2
set_option maxHeartbeats 1000000 in
theorem sg_dup {p : Program} {l : Launch} {e : Env} {R : Room} {s : State} {m : MethodId} {args : Array Value} {below : List Frame} {meth : Method} {c : Code} {Q : State → Prop} {D : va_G} {cl : List vw_C} {τ : Nat → ClassId} {B : Nat} {ad : Nat → Nat} {TB NB : List Cond} {SK : sm_SKt} {XT : State → Heap → Prop} {mi : sm_MI} {M' : sm_M} {m0 s0 : Nat} {cal : Nat → List Value → sm_M → sm_R} {sc : Option (Nat × (Nat → Int32))} {k : Nat → sm_L → List Value → sm_M → sm_R} {r : Option Value} {pc : Nat} {L : sm_L} {st : List Value} {M : sm_M}  (C0 : sm_C p s m args meth c D cl τ B ad TB NB SK XT m0 mi) (ih : ∀ pc L st M, k pc L st M = some (M', r) → sm_G p l e R s m args below meth c Q D cl τ B ad mi.2.2.1 m0 s0 pc L st M) (hd : decode mi.2.1 pc = .ok (.dup, 1)) (h : sm_ex cal sc mi k pc L st M (.dup) = some (M', r)) : sm_G p l e R s m args below meth c Q D cl τ B ad mi.2.2.1 m0 s0 pc L st M := by
  have hx := C0.1
  have hb := C0.2.1
  simp only [sm_ex] at h
  split at h
  · intro H locs ls cells slots hP hm hS hLl hL h1 h2
    refine lv_dup hx hb hd rfl ?_
    exact ih _ _ _ _ h H locs ls cells slots hP hm hS hLl hL h1 h2
  · intro H locs ls cells slots hP hm hS hLl hL h1 h2
    refine lv_dup hx hb hd rfl ?_
    exact ih _ _ _ _ h H locs ls cells slots hP hm hS hLl hL h1 h2
  · cases h
set_option maxHeartbeats 1000000 in
theorem sg_dup2 {p : Program} {l : Launch} {e : Env} {R : Room} {s : State} {m : MethodId} {args : Array Value} {below : List Frame} {meth : Method} {c : Code} {Q : State → Prop} {D : va_G} {cl : List vw_C} {τ : Nat → ClassId} {B : Nat} {ad : Nat → Nat} {TB NB : List Cond} {SK : sm_SKt} {XT : State → Heap → Prop} {mi : sm_MI} {M' : sm_M} {m0 s0 : Nat} {cal : Nat → List Value → sm_M → sm_R} {sc : Option (Nat × (Nat → Int32))} {k : Nat → sm_L → List Value → sm_M → sm_R} {r : Option Value} {pc : Nat} {L : sm_L} {st : List Value} {M : sm_M}  (C0 : sm_C p s m args meth c D cl τ B ad TB NB SK XT m0 mi) (ih : ∀ pc L st M, k pc L st M = some (M', r) → sm_G p l e R s m args below meth c Q D cl τ B ad mi.2.2.1 m0 s0 pc L st M) (hd : decode mi.2.1 pc = .ok (.dup2, 1)) (h : sm_ex cal sc mi k pc L st M (.dup2) = some (M', r)) : sm_G p l e R s m args below meth c Q D cl τ B ad mi.2.2.1 m0 s0 pc L st M := by
  have hx := C0.1
  have hb := C0.2.1
  simp only [sm_ex] at h
  split at h
  · intro H locs ls cells slots hP hm hS hLl hL h1 h2
    refine lv_dup2_11 hx hb hd rfl rfl ?_
    exact ih _ _ _ _ h H locs ls cells slots hP hm hS hLl hL h1 h2
  · intro H locs ls cells slots hP hm hS hLl hL h1 h2
    refine lv_dup2_2 hx hb hd rfl ?_
    exact ih _ _ _ _ h H locs ls cells slots hP hm hS hLl hL h1 h2
  · cases h
set_option maxHeartbeats 1000000 in
theorem sg_ifCond {p : Program} {l : Launch} {e : Env} {R : Room} {s : State} {m : MethodId} {args : Array Value} {below : List Frame} {meth : Method} {c : Code} {Q : State → Prop} {D : va_G} {cl : List vw_C} {τ : Nat → ClassId} {B : Nat} {ad : Nat → Nat} {TB NB : List Cond} {SK : sm_SKt} {XT : State → Heap → Prop} {mi : sm_MI} {M' : sm_M} {m0 s0 : Nat} {cal : Nat → List Value → sm_M → sm_R} {sc : Option (Nat × (Nat → Int32))} {k : Nat → sm_L → List Value → sm_M → sm_R} {r : Option Value} {pc : Nat} {L : sm_L} {st : List Value} {M : sm_M} {cd : ClassFile.Cond} {off : Int} (C0 : sm_C p s m args meth c D cl τ B ad TB NB SK XT m0 mi) (ih : ∀ pc L st M, k pc L st M = some (M', r) → sm_G p l e R s m args below meth c Q D cl τ B ad mi.2.2.1 m0 s0 pc L st M) (hd : decode mi.2.1 pc = .ok (.ifCond cd off, 3)) (h : sm_ex cal sc mi k pc L st M (.ifCond cd off) = some (M', r)) : sm_G p l e R s m args below meth c Q D cl τ B ad mi.2.2.1 m0 s0 pc L st M := by
  have hx := C0.1
  have hb := C0.2.1
  replace h := sm_tg_some h
  obtain ⟨t, ht, h⟩ := h
  replace h := sm_i1_some h
  obtain ⟨x, r0, rfl, h⟩ := h
  intro H locs ls cells slots hP hm hS hLl hL h1 h2
  cases cd
  · refine lv_if_eq hx hb hd ht (fun hc => ?_) (fun hc => ?_)
    · have h := (if_pos hc).symm.trans h
      exact ih _ _ _ _ h H locs ls cells slots hP hm hS hLl hL h1 h2
    · have h := (if_neg hc).symm.trans h
      exact ih _ _ _ _ h H locs ls cells slots hP hm hS hLl hL h1 h2
  · refine lv_if_ne hx hb hd ht (fun hc => ?_) (fun hc => ?_)
    · have h := (if_neg hc).symm.trans h
      exact ih _ _ _ _ h H locs ls cells slots hP hm hS hLl hL h1 h2
    · have h := (if_pos hc).symm.trans h
      exact ih _ _ _ _ h H locs ls cells slots hP hm hS hLl hL h1 h2
  · refine lv_if_lt hx hb hd ht (fun hc => ?_) (fun hc => ?_)
    · have h := (if_pos hc).symm.trans h
      exact ih _ _ _ _ h H locs ls cells slots hP hm hS hLl hL h1 h2
    · have h := (if_neg hc).symm.trans h
      exact ih _ _ _ _ h H locs ls cells slots hP hm hS hLl hL h1 h2
  · refine lv_if_ge hx hb hd ht (fun hc => ?_) (fun hc => ?_)
    · have h := (if_pos hc).symm.trans h
      exact ih _ _ _ _ h H locs ls cells slots hP hm hS hLl hL h1 h2
    · have h := (if_neg hc).symm.trans h
      exact ih _ _ _ _ h H locs ls cells slots hP hm hS hLl hL h1 h2
  · refine lv_if_gt hx hb hd ht (fun hc => ?_) (fun hc => ?_)
    · have h := (if_pos hc).symm.trans h
      exact ih _ _ _ _ h H locs ls cells slots hP hm hS hLl hL h1 h2
    · have h := (if_neg hc).symm.trans h
      exact ih _ _ _ _ h H locs ls cells slots hP hm hS hLl hL h1 h2
  · refine lv_if_le hx hb hd ht (fun hc => ?_) (fun hc => ?_)
    · have h := (if_pos hc).symm.trans h
      exact ih _ _ _ _ h H locs ls cells slots hP hm hS hLl hL h1 h2
    · have h := (if_neg hc).symm.trans h
      exact ih _ _ _ _ h H locs ls cells slots hP hm hS hLl hL h1 h2
set_option maxHeartbeats 1000000 in
theorem sg_if_icmp {p : Program} {l : Launch} {e : Env} {R : Room} {s : State} {m : MethodId} {args : Array Value} {below : List Frame} {meth : Method} {c : Code} {Q : State → Prop} {D : va_G} {cl : List vw_C} {τ : Nat → ClassId} {B : Nat} {ad : Nat → Nat} {TB NB : List Cond} {SK : sm_SKt} {XT : State → Heap → Prop} {mi : sm_MI} {M' : sm_M} {m0 s0 : Nat} {cal : Nat → List Value → sm_M → sm_R} {sc : Option (Nat × (Nat → Int32))} {k : Nat → sm_L → List Value → sm_M → sm_R} {r : Option Value} {pc : Nat} {L : sm_L} {st : List Value} {M : sm_M} {cd : ClassFile.Cond} {off : Int} (C0 : sm_C p s m args meth c D cl τ B ad TB NB SK XT m0 mi) (ih : ∀ pc L st M, k pc L st M = some (M', r) → sm_G p l e R s m args below meth c Q D cl τ B ad mi.2.2.1 m0 s0 pc L st M) (hd : decode mi.2.1 pc = .ok (.if_icmp cd off, 3)) (h : sm_ex cal sc mi k pc L st M (.if_icmp cd off) = some (M', r)) : sm_G p l e R s m args below meth c Q D cl τ B ad mi.2.2.1 m0 s0 pc L st M := by
  have hx := C0.1
  have hb := C0.2.1
  replace h := sm_tg_some h
  obtain ⟨t, ht, h⟩ := h
  replace h := sm_i2_some h
  obtain ⟨x, y, r0, rfl, h⟩ := h
  intro H locs ls cells slots hP hm hS hLl hL h1 h2
  cases cd
  · refine lv_icmp_eq hx hb hd ht (fun hc => ?_) (fun hc => ?_)
    · have h := (if_pos hc).symm.trans h
      exact ih _ _ _ _ h H locs ls cells slots hP hm hS hLl hL h1 h2
    · have h := (if_neg hc).symm.trans h
      exact ih _ _ _ _ h H locs ls cells slots hP hm hS hLl hL h1 h2
  · refine lv_icmp_ne hx hb hd ht (fun hc => ?_) (fun hc => ?_)
    · have h := (if_neg hc).symm.trans h
      exact ih _ _ _ _ h H locs ls cells slots hP hm hS hLl hL h1 h2
    · have h := (if_pos hc).symm.trans h
      exact ih _ _ _ _ h H locs ls cells slots hP hm hS hLl hL h1 h2
  · refine lv_icmp_lt hx hb hd ht (fun hc => ?_) (fun hc => ?_)
    · have h := (if_pos hc).symm.trans h
      exact ih _ _ _ _ h H locs ls cells slots hP hm hS hLl hL h1 h2
    · have h := (if_neg hc).symm.trans h
      exact ih _ _ _ _ h H locs ls cells slots hP hm hS hLl hL h1 h2
  · refine lv_icmp_ge hx hb hd ht (fun hc => ?_) (fun hc => ?_)
    · have h := (if_pos hc).symm.trans h
      exact ih _ _ _ _ h H locs ls cells slots hP hm hS hLl hL h1 h2
    · have h := (if_neg hc).symm.trans h
      exact ih _ _ _ _ h H locs ls cells slots hP hm hS hLl hL h1 h2
  · refine lv_icmp_gt hx hb hd ht (fun hc => ?_) (fun hc => ?_)
    · have h := (if_pos hc).symm.trans h
      exact ih _ _ _ _ h H locs ls cells slots hP hm hS hLl hL h1 h2
    · have h := (if_neg hc).symm.trans h
      exact ih _ _ _ _ h H locs ls cells slots hP hm hS hLl hL h1 h2
  · refine lv_icmp_le hx hb hd ht (fun hc => ?_) (fun hc => ?_)
    · have h := (if_pos hc).symm.trans h
      exact ih _ _ _ _ h H locs ls cells slots hP hm hS hLl hL h1 h2
    · have h := (if_neg hc).symm.trans h
      exact ih _ _ _ _ h H locs ls cells slots hP hm hS hLl hL h1 h2
set_option maxHeartbeats 1000000 in
theorem sg_tableswitch {p : Program} {l : Launch} {e : Env} {R : Room} {s : State} {m : MethodId} {args : Array Value} {below : List Frame} {meth : Method} {c : Code} {Q : State → Prop} {D : va_G} {cl : List vw_C} {τ : Nat → ClassId} {B : Nat} {ad : Nat → Nat} {TB NB : List Cond} {SK : sm_SKt} {XT : State → Heap → Prop} {mi : sm_MI} {M' : sm_M} {m0 s0 : Nat} {cal : Nat → List Value → sm_M → sm_R} {sc : Option (Nat × (Nat → Int32))} {k : Nat → sm_L → List Value → sm_M → sm_R} {r : Option Value} {pc : Nat} {L : sm_L} {st : List Value} {M : sm_M} {dflt lo hi : Int} {offs : Array Int} {len : Nat} (hd : decode mi.2.1 pc = .ok (.tableswitch dflt lo hi offs, len)) (C0 : sm_C p s m args meth c D cl τ B ad TB NB SK XT m0 mi) (ih : ∀ pc L st M, k pc L st M = some (M', r) → sm_G p l e R s m args below meth c Q D cl τ B ad mi.2.2.1 m0 s0 pc L st M) (h : sm_ex cal sc mi k pc L st M (.tableswitch dflt lo hi offs) = some (M', r)) : sm_G p l e R s m args below meth c Q D cl τ B ad mi.2.2.1 m0 s0 pc L st M := by
  have hx := C0.1
  have hb := C0.2.1
  replace h := sm_i1_some h
  obtain ⟨x, r0, rfl, h⟩ := h
  split at h
  · rename_i hc
    replace h := sm_tg_some h
    obtain ⟨t, ht, h⟩ := h
    intro H locs ls cells slots hP hm hS hLl hL h1 h2
    refine lv_tableOut hx hb hd hc ht ?_
    exact ih _ _ _ _ h H locs ls cells slots hP hm hS hLl hL h1 h2
  · rename_i hc
    split at h
    · rename_i off ho
      replace h := sm_tg_some h
      obtain ⟨t, ht, h⟩ := h
      intro H locs ls cells slots hP hm hS hLl hL h1 h2
      refine lv_tableIn hx hb hd (fun z => hc (Or.inl z)) (fun z => hc (Or.inr z)) ho ht ?_
      exact ih _ _ _ _ h H locs ls cells slots hP hm hS hLl hL h1 h2
    · cases h
set_option maxHeartbeats 1000000 in
theorem sg_lookupswitch {p : Program} {l : Launch} {e : Env} {R : Room} {s : State} {m : MethodId} {args : Array Value} {below : List Frame} {meth : Method} {c : Code} {Q : State → Prop} {D : va_G} {cl : List vw_C} {τ : Nat → ClassId} {B : Nat} {ad : Nat → Nat} {TB NB : List Cond} {SK : sm_SKt} {XT : State → Heap → Prop} {mi : sm_MI} {M' : sm_M} {m0 s0 : Nat} {cal : Nat → List Value → sm_M → sm_R} {sc : Option (Nat × (Nat → Int32))} {k : Nat → sm_L → List Value → sm_M → sm_R} {r : Option Value} {pc : Nat} {L : sm_L} {st : List Value} {M : sm_M} {dflt : Int} {ps : Array (Int × Int)} {len : Nat} (hd : decode mi.2.1 pc = .ok (.lookupswitch dflt ps, len)) (C0 : sm_C p s m args meth c D cl τ B ad TB NB SK XT m0 mi) (ih : ∀ pc L st M, k pc L st M = some (M', r) → sm_G p l e R s m args below meth c Q D cl τ B ad mi.2.2.1 m0 s0 pc L st M) (h : sm_ex cal sc mi k pc L st M (.lookupswitch dflt ps) = some (M', r)) : sm_G p l e R s m args below meth c Q D cl τ B ad mi.2.2.1 m0 s0 pc L st M := by
  have hx := C0.1
  have hb := C0.2.1
  simp only [sm_ex] at h
  split at h
  · rename_i hp
    replace h := sm_i1_some h
    obtain ⟨x, r0, rfl, h⟩ := h
    replace h := sm_tg_some h
    obtain ⟨t, ht, h⟩ := h
    intro H locs ls cells slots hP hm hS hLl hL h1 h2
    refine lv_lookup hx hb hd hp rfl ht ?_
    exact ih _ _ _ _ h H locs ls cells slots hP hm hS hLl hL h1 h2
  · cases h
set_option maxHeartbeats 1000000 in
theorem sg_ldc {p : Program} {l : Launch} {e : Env} {R : Room} {s : State} {m : MethodId} {args : Array Value} {below : List Frame} {meth : Method} {c : Code} {Q : State → Prop} {D : va_G} {cl : List vw_C} {τ : Nat → ClassId} {B : Nat} {ad : Nat → Nat} {TB NB : List Cond} {SK : sm_SKt} {XT : State → Heap → Prop} {mi : sm_MI} {M' : sm_M} {m0 s0 : Nat} {cal : Nat → List Value → sm_M → sm_R} {sc : Option (Nat × (Nat → Int32))} {k : Nat → sm_L → List Value → sm_M → sm_R} {r : Option Value} {pc : Nat} {L : sm_L} {st : List Value} {M : sm_M} {x : Nat} (hK : sm_okK TB SK mi) (C0 : sm_C p s m args meth c D cl τ B ad TB NB SK XT m0 mi) (ih : ∀ pc L st M, k pc L st M = some (M', r) → sm_G p l e R s m args below meth c Q D cl τ B ad mi.2.2.1 m0 s0 pc L st M) (hd : decode mi.2.1 pc = .ok (.ldc x, 2)) (h : sm_ex cal sc mi k pc L st M (.ldc x) = some (M', r)) : sm_G p l e R s m args below meth c Q D cl τ B ad mi.2.2.1 m0 s0 pc L st M := by
  have hx := C0.1
  have hb := C0.2.1
  have hown := C0.2.2.2.1
  have hts := C0.2.2.2.2.1
  simp only [sm_ex] at h
  split at h
  · rename_i hv
    intro H locs ls cells slots hP hm hS hLl hL h1 h2
    refine lv_ldc hx hb hown (hts _ ((hK _ _ hv).1 _ rfl)) hd ?_
    exact ih _ _ _ _ h H locs ls cells slots hP hm hS hLl hL h1 h2
  · rename_i hv
    obtain ⟨tx, hin⟩ := (hK _ _ hv).2.2 _ rfl
    intro H locs ls cells slots hP hm hS hLl hL h1 h2
    refine va_ldcS hx hb hown (C0.2.2.2.2.2.2.2.1 _ hin) hd ?_
    exact ih _ _ _ _ h H locs ls cells slots hP hm hS hLl hL h1 h2
  · cases h
set_option maxHeartbeats 1000000 in
theorem sg_ldc_w {p : Program} {l : Launch} {e : Env} {R : Room} {s : State} {m : MethodId} {args : Array Value} {below : List Frame} {meth : Method} {c : Code} {Q : State → Prop} {D : va_G} {cl : List vw_C} {τ : Nat → ClassId} {B : Nat} {ad : Nat → Nat} {TB NB : List Cond} {SK : sm_SKt} {XT : State → Heap → Prop} {mi : sm_MI} {M' : sm_M} {m0 s0 : Nat} {cal : Nat → List Value → sm_M → sm_R} {sc : Option (Nat × (Nat → Int32))} {k : Nat → sm_L → List Value → sm_M → sm_R} {r : Option Value} {pc : Nat} {L : sm_L} {st : List Value} {M : sm_M} {x : Nat} (hK : sm_okK TB SK mi) (C0 : sm_C p s m args meth c D cl τ B ad TB NB SK XT m0 mi) (ih : ∀ pc L st M, k pc L st M = some (M', r) → sm_G p l e R s m args below meth c Q D cl τ B ad mi.2.2.1 m0 s0 pc L st M) (hd : decode mi.2.1 pc = .ok (.ldc_w x, 3)) (h : sm_ex cal sc mi k pc L st M (.ldc_w x) = some (M', r)) : sm_G p l e R s m args below meth c Q D cl τ B ad mi.2.2.1 m0 s0 pc L st M := by
  have hx := C0.1
  have hb := C0.2.1
  have hown := C0.2.2.2.1
  have hts := C0.2.2.2.2.1
  simp only [sm_ex] at h
  split at h
  · rename_i hv
    intro H locs ls cells slots hP hm hS hLl hL h1 h2
    refine lv_ldcw hx hb hown (hts _ ((hK _ _ hv).1 _ rfl)) hd ?_
    exact ih _ _ _ _ h H locs ls cells slots hP hm hS hLl hL h1 h2
  · cases h
set_option maxHeartbeats 1000000 in
theorem sg_ldc2_w {p : Program} {l : Launch} {e : Env} {R : Room} {s : State} {m : MethodId} {args : Array Value} {below : List Frame} {meth : Method} {c : Code} {Q : State → Prop} {D : va_G} {cl : List vw_C} {τ : Nat → ClassId} {B : Nat} {ad : Nat → Nat} {TB NB : List Cond} {SK : sm_SKt} {XT : State → Heap → Prop} {mi : sm_MI} {M' : sm_M} {m0 s0 : Nat} {cal : Nat → List Value → sm_M → sm_R} {sc : Option (Nat × (Nat → Int32))} {k : Nat → sm_L → List Value → sm_M → sm_R} {r : Option Value} {pc : Nat} {L : sm_L} {st : List Value} {M : sm_M} {x : Nat} (hK : sm_okK TB SK mi) (C0 : sm_C p s m args meth c D cl τ B ad TB NB SK XT m0 mi) (ih : ∀ pc L st M, k pc L st M = some (M', r) → sm_G p l e R s m args below meth c Q D cl τ B ad mi.2.2.1 m0 s0 pc L st M) (hd : decode mi.2.1 pc = .ok (.ldc2_w x, 3)) (h : sm_ex cal sc mi k pc L st M (.ldc2_w x) = some (M', r)) : sm_G p l e R s m args below meth c Q D cl τ B ad mi.2.2.1 m0 s0 pc L st M := by
  have hx := C0.1
  have hb := C0.2.1
  have hown := C0.2.2.2.1
  have hts := C0.2.2.2.2.1
  simp only [sm_ex] at h
  split at h
  · rename_i hv
    intro H locs ls cells slots hP hm hS hLl hL h1 h2
    refine lv_ldc2 hx hb hown (hts _ ((hK _ _ hv).2.1 _ rfl)) hd ?_
    exact ih _ _ _ _ h H locs ls cells slots hP hm hS hLl hL h1 h2
  · cases h
set_option maxHeartbeats 1000000 in
theorem sg_getfield {p : Program} {l : Launch} {e : Env} {R : Room} {s : State} {m : MethodId} {args : Array Value} {below : List Frame} {meth : Method} {c : Code} {Q : State → Prop} {D : va_G} {cl : List vw_C} {τ : Nat → ClassId} {B : Nat} {ad : Nat → Nat} {TB NB : List Cond} {SK : sm_SKt} {XT : State → Heap → Prop} {mi : sm_MI} {M' : sm_M} {m0 s0 : Nat} {cal : Nat → List Value → sm_M → sm_R} {sc : Option (Nat × (Nat → Int32))} {k : Nat → sm_L → List Value → sm_M → sm_R} {r : Option Value} {pc : Nat} {L : sm_L} {st : List Value} {M : sm_M} {x : Nat} (hF : sm_okF cl TB NB mi) (hNB : ∀ w ∈ NB, w.onTables = true) (C0 : sm_C p s m args meth c D cl τ B ad TB NB SK XT m0 mi) (ih : ∀ pc L st M, k pc L st M = some (M', r) → sm_G p l e R s m args below meth c Q D cl τ B ad mi.2.2.1 m0 s0 pc L st M) (hd : decode mi.2.1 pc = .ok (.getfield x, 3)) (h : sm_ex cal sc mi k pc L st M (.getfield x) = some (M', r)) : sm_G p l e R s m args below meth c Q D cl τ B ad mi.2.2.1 m0 s0 pc L st M := by
  have hx := C0.1
  have hb := C0.2.1
  have hown := C0.2.2.2.1
  have hts := C0.2.2.2.2.1
  have hnb := C0.2.2.2.2.2.1
  have hK := C0.2.2.2.2.2.2.1
  simp only [sm_ex] at h
  split at h
  · rename_i ci j t hf
    replace h := sm_r1_some h
    obtain ⟨a, r0, rfl, h⟩ := h
    replace h := sm_obj_some h
    obtain ⟨cj, fs, hg, h⟩ := h
    split at h
    · rename_i hbq
      have hcj := Nat.eq_of_beq_eq_true hbq
      subst hcj
      split at h
      · rename_i v hv
        rw [sm_vg_get] at hv
        obtain ⟨C, T, N, ty0, hc, hj, hin, -, -, hTC, -, hlk⟩ := hF _ _ _ _ hf
        have hv2 : (fs.map (sm_cv B ad))[j]? = some (sm_cv B ad v) := by rw [List.getElem?_map, hv]; rfl
        intro H locs ls cells slots hP hm hS hLl hL h1 h2
        rcases hlk with ⟨hlk, -⟩ | ⟨host, hlk, -⟩
        · refine va_get (D := D) (cl := cl) (ci := cj) (ref := C) hx hb hts hin hown hK hP a (sm_w_at hg) hc j hj (hts _ hlk) (fun y hy => by rw [← hTC]; exact hy) hv2 hd ?_
          exact ih _ _ _ _ h H locs ls cells slots hP hm hS hLl hL h1 h2
        · refine va_getN (D := D) (cl := cl) (ci := cj) (ref := C) (host := host) hx hb hts hin hown hK hP a (sm_w_at hg) hc j hj (va_Nw.use (hNB _ hlk) (hnb _ hlk)) (fun y hy => by rw [← hTC]; exact hy) hv2 hd ?_
          exact ih _ _ _ _ h H locs ls cells slots hP hm hS hLl hL h1 h2
      · cases h
    · cases h
  · cases h
set_option maxHeartbeats 1000000 in
theorem sg_putfield {p : Program} {l : Launch} {e : Env} {R : Room} {s : State} {m : MethodId} {args : Array Value} {below : List Frame} {meth : Method} {c : Code} {Q : State → Prop} {D : va_G} {cl : List vw_C} {τ : Nat → ClassId} {B : Nat} {ad : Nat → Nat} {TB NB : List Cond} {SK : sm_SKt} {XT : State → Heap → Prop} {mi : sm_MI} {M' : sm_M} {m0 s0 : Nat} {cal : Nat → List Value → sm_M → sm_R} {sc : Option (Nat × (Nat → Int32))} {k : Nat → sm_L → List Value → sm_M → sm_R} {r : Option Value} {pc : Nat} {L : sm_L} {st : List Value} {M : sm_M} {x : Nat} (hF : sm_okF cl TB NB mi) (hNB : ∀ w ∈ NB, w.onTables = true) (C0 : sm_C p s m args meth c D cl τ B ad TB NB SK XT m0 mi) (ih : ∀ pc L st M, k pc L st M = some (M', r) → sm_G p l e R s m args below meth c Q D cl τ B ad mi.2.2.1 m0 s0 pc L st M) (hd : decode mi.2.1 pc = .ok (.putfield x, 3)) (h : sm_ex cal sc mi k pc L st M (.putfield x) = some (M', r)) : sm_G p l e R s m args below meth c Q D cl τ B ad mi.2.2.1 m0 s0 pc L st M := by
  have hx := C0.1
  have hb := C0.2.1
  have hown := C0.2.2.2.1
  have hts := C0.2.2.2.2.1
  have hnb := C0.2.2.2.2.2.1
  have hK := C0.2.2.2.2.2.2.1
  simp only [sm_ex] at h
  split at h
  · rename_i ci j t hf
    split at h
    · rename_i v a r0
      replace h := sm_obj_some h
      obtain ⟨cj, fs, hg, h⟩ := h
      split at h
      · rename_i hbq
        simp only [Bool.and_eq_true] at hbq
        obtain ⟨⟨hb1, hpt⟩, hlt⟩ := hbq
        have hcj := Nat.eq_of_beq_eq_true hb1
        subst hcj
        have hlt : j < fs.length := by simpa using hlt
        obtain ⟨C, T, N, ty0, hc, hj, hin, hty, hnm, hTC, hkd, hlk⟩ := hF _ _ _ _ hf
        obtain ⟨hnar, hfit⟩ := sm_pt_ok (B := B) (ad := ad) hkd hpt
        have hnt := sm_pt_lt hpt
        intro H locs ls cells slots hP hm hS hLl hL h1 h2
        have hlen : j < (fs.map (sm_cv B ad)).length := by rw [List.length_map]; exact hlt
        have eW : (sm_w τ B ad 0 M).set a (sm_rho B ad a, .inr (cj, (fs.map (sm_cv B ad)).set j (sm_cv B ad v))) = sm_w τ B ad 0 (sm_set M a (.inr (cj, sm_vs fs j v))) := by
          rw [← sm_w_put, sm_vs_set]
          show _ = List.set _ a (_, Sum.inr (cj, List.map (sm_cv B ad) (fs.set j v)))
          rw [List.map_set]
        have fin : ∀ (H1 : Heap) (locs1 : List Loc), va_P D cl ((sm_w τ B ad 0 M).set a (sm_rho B ad a, .inr (cj, (fs.map (sm_cv B ad)).set j (sm_cv B ad v)))) H1 → va_S (fun q => B ≤ q) s.heap H1 locs1 → W p l e R s m args below meth c H1 locs1 cells slots Q (F0 m (pc + 3) ls (r0.map (sm_cv B ad))) := by
          intro H1 locs1 hP1 hS1
          rw [eW] at hP1
          exact ih _ _ _ _ h H1 locs1 ls cells slots hP1 (by rw [sm_set_len]; exact hm) hS1 hLl hL (by rw [sm_set_len]; exact h1) (by rw [sm_set_sl hg (by simp [sm_sz, sm_vs_set])]; exact h2)
        rcases hlk with ⟨hlk, hfn | hfn | ⟨hfn, hni, hdc⟩⟩ | ⟨host, hlk, hfn | hfn⟩
        · exact absurd hfn hnt
        · exact va_put (D := D) (cl := cl) (ci := cj) (ref := C) hx hb hts hin ty0 hty hnm hown hK hP (sm_D hm) hS a (sm_w_at hg) hc j hj (hts _ hlk) (fun y hy => by rw [← hTC]; exact hy) hfn (hty j hj) hnar hfit hlen hd (fun H1 locs1 hP1 _ hS1 => fin H1 locs1 hP1 hS1)
        · exact va_putF (D := D) (cl := cl) (ci := cj) (ref := C) hx hb hts hin ty0 hty hnm hown hK hP (sm_D hm) hS a (sm_w_at hg) hc j hj (hts _ hlk) (fun y hy => by rw [← hTC]; exact hy) hfn (C0.2.2.2.2.2.2.2.2.2.2 hni) hdc (hty j hj) hnar hfit hlen hd (fun H1 locs1 hP1 _ hS1 => fin H1 locs1 hP1 hS1)
        · exact absurd hfn hnt
        · exact va_putN (D := D) (cl := cl) (ci := cj) (ref := C) (host := host) hx hb hts hin ty0 hty hnm hown hK hP (sm_D hm) hS a (sm_w_at hg) hc j hj (va_Nw.use (hNB _ hlk) (hnb _ hlk)) (fun y hy => by rw [← hTC]; exact hy) hfn (hty j hj) hnar hfit hlen hd (fun H1 locs1 hP1 _ hS1 => fin H1 locs1 hP1 hS1)
      · cases h
    · cases h
  · cases h
/-! sizes -/
theorem sm_size_le {p : Program} {l : Launch} {e : Env} {R : Room} {s : State} {m : MethodId} {args : Array Value} {below : List Frame} {meth : Method} {c : Code} {H : Heap} {locs : List Loc} {cells slots : Nat} {Q : State → Prop} {g : JFrame} (kk : H.size ≤ s.heap.size + cells → W p l e R s m args below meth c H locs cells slots Q g) : W p l e R s m args below meth c H locs cells slots Q g := fun T hT X => kk (by rw [← hT]; exact X.heapSize) T hT X
theorem sm_size {D : va_G} {cl : List vw_C} {τ : Nat → ClassId} {B m0 : Nat} {ad : Nat → Nat} {M : sm_M} {H H0 : Heap} {cells : Nat} {locs : List Loc} (hP : va_P D cl (sm_w τ B ad 0 M) H) (hm : M.length ≤ 1000) (hS : va_S (fun q => B ≤ q) H0 H locs) (h0 : H0.size = B + m0) (h1 : cells + m0 = M.length) (hle : H.size ≤ H0.size + cells) : H.size = B + M.length := by
  have h2 := hS.1
  by_cases hM : M.length = 0
  · omega
  · have hg : ∃ e, sm_get M (M.length - 1) = some e := by
      have : ∀ (M : sm_M) (i : Nat), i < M.length → ∃ e, sm_get M i = some e := by
        intro M
        induction M with
        | nil => intro i h; cases h
        | cons c t ih =>
          intro i h
          cases i with
          | zero => exact ⟨c, rfl⟩
          | succ i => exact ih i (by simp at h; omega)
      exact this M _ (by omega)
    obtain ⟨e, he⟩ := hg
    have h3 := (hP _ _ (sm_w_at he)).lt
    rw [show (sm_rho B ad (M.length - 1), sm_ce τ B ad e).1 = B + (M.length - 1) from sm_rho_lt (by omega)] at h3
    omega

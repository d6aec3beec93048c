/-! CALLS: a callee's contract, in the simulator's words -/
def sm_Pre (D : va_G) (cl : List vw_C) (τ : Nat → ClassId) (B : Nat) (ad : Nat → Nat) (NB : List Cond) (SK : sm_SKt) (XT : State → Heap → Prop) (as : List Value) (M : sm_M) : Array Value → State → Prop := va_Pc (as.map (sm_cv B ad)) (fun U => va_P D cl (sm_w τ B ad 0 M) U.heap ∧ M.length ≤ 1000 ∧ U.heap.size = B + M.length ∧ va_K D cl (sm_tys τ) U ∧ (∀ w ∈ NB, va_Nw w U) ∧ (∀ q ∈ SK, vk_R q.1 q.2.1 q.2.2.1 (sm_rho B ad q.2.2.2) U) ∧ XT U U.heap)
def sm_Post (D : va_G) (cl : List vw_C) (τ : Nat → ClassId) (B : Nat) (ad : Nat → Nat) (M' : sm_M) (r : Option Value) : Array Value → State → Outcome → State → Prop := fun _ st o t => o = .returned (r.map (sm_cv B ad)) ∧ va_P D cl (sm_w τ B ad 0 M') t.heap ∧ M'.length ≤ 1000 ∧ va_F (fun q => B ≤ q) st t
abbrev sm_rm (d : Nat) (M M' : sm_M) : Room := { frames := d, cells := M'.length - M.length, slots := sm_sl M' - sm_sl M, locals := d * 80 }
abbrev sm_HD : Type := List (Nat × MethodName × ByteArray × Nat × Option FieldType)
/-- what calls answer is what the machine's calls answer, in a room of depth d -/
def sm_cok (l : Launch) (D : va_G) (cl : List vw_C) (τ : Nat → ClassId) (B : Nat) (ad : Nat → Nat) (TB NB : List Cond) (SK : sm_SKt) (XT : State → Heap → Prop) (hds : sm_HD) (d : Nat) (cal : Nat → List Value → sm_M → sm_R) : Prop := ∀ y as M M1 v, cal y as M = some (M1, v) → M.length ≤ M1.length ∧ sm_sl M ≤ sm_sl M1 ∧ ∀ yN bytes mL rt, sm_fd hds y = some (yN, bytes, mL, rt) → Met l yN (.code yN bytes mL rt :: TB) (sm_rm d M M1) (sm_Pre D cl τ B ad NB SK XT as M) (sm_Post D cl τ B ad M1 v) (M1.length - M.length) (sm_sl M1 - sm_sl M) (fun q => B ≤ q)
/-- the words that ride along -/
def sm_okE (TB NB : List Cond) (XT : State → Heap → Prop) (B : Nat) : Prop := (∀ w ∈ TB, goodWord w = true) ∧ (∀ w ∈ NB, w.onTables = true ∧ ∀ s U : State, s.WarmedH U.vm → va_Nw w s → va_Nw w U) ∧ (∀ (u U : State) (H : Heap), u.vm.Alike U.vm → XT u H → XT U H) ∧ (∀ (U : State) (H H1 : Heap), (∀ a : Nat, a < H.size → ¬ B ≤ a → H1[a]? = H[a]?) → XT U H → XT U H1)
theorem sm_blind {D : va_G} {cl : List vw_C} {τ : Nat → ClassId} {B : Nat} {ad : Nat → Nat} {TB NB : List Cond} {SK : sm_SKt} {XT : State → Heap → Prop} {as : List Value} {M : sm_M} (hE : sm_okE TB NB XT B) : FrameBlind (sm_Pre D cl τ B ad NB SK XT as M) := by
  intro a U g mk q
  obtain ⟨q0, qP, qm, qz, qK, qN, qS, qX⟩ := q
  exact ⟨q0, qP, qm, qz, va_K.moved (u := U) (U := U.calling g mk a) (Vm.Alike.refl U.vm) qK, fun w hw => va_Nw.same (u := U) (hE.2.1 w hw).1 rfl (qN w hw), fun z hz => vk_R.same (u := U) rfl (qS z hz), hE.2.2.1 U (U.calling g mk a) U.heap (Vm.Alike.refl U.vm) qX⟩
theorem sm_preU {p : Program} {s : State} {m : MethodId} {args : Array Value} {meth : Method} {c : Code} {D : va_G} {cl : List vw_C} {τ : Nat → ClassId} {B : Nat} {ad : Nat → Nat} {TB NB : List Cond} {SK : sm_SKt} {XT : State → Heap → Prop} {m0 : Nat} {mi : sm_MI} {M : sm_M} {H : Heap} {locs : List Loc} (C0 : sm_C p s m args meth c D cl τ B ad TB NB SK XT m0 mi) (hE : sm_okE TB NB XT B) (hP : va_P D cl (sm_w τ B ad 0 M) H) (hm : M.length ≤ 1000) (hz : H.size = B + M.length) (hS : va_S (fun q => B ≤ q) s.heap H locs) (as : List Value) : ∀ U : State, U.heap = H → s.WarmedH U.vm → sm_Pre D cl τ B ad NB SK XT as M (as.map (sm_cv B ad)).toArray U := by
  intro U hU hW
  obtain ⟨-, -, -, -, -, hnb, hK, hsk, hX, -⟩ := C0
  exact ⟨rfl, by rw [hU]; exact hP, hm, by rw [hU]; exact hz, va_K.moved hW.alike hK, fun w hw => (hE.2.1 w hw).2 s U hW (hnb w hw), fun q hq => vk_R.warm hW (hsk q hq), by rw [hU]; exact hE.2.2.1 s U H hW.alike (hE.2.2.2 s s.heap H hS.2.1 hX)⟩
theorem sm_after {p : Program} {l : Launch} {e : Env} {R : Room} {s : State} {m : MethodId} {args : Array Value} {below : List Frame} {meth : Method} {c : Code} {H : Heap} {locs : List Loc} {cells slots mc ms pc : Nat} {Q : State → Prop} {ls : Array Slot} {st0 rest : List Value} {a : Array Value} {D : va_G} {cl : List vw_C} {τ : Nat → ClassId} {B : Nat} {ad : Nat → Nat} {M1 : sm_M} {v : Option Value} (hr : va_Run p l e R s m args below meth c H locs cells slots mc ms (F0 m pc ls st0) rest (sm_Post D cl τ B ad M1 v a) (fun q => B ≤ q)) (hS : va_S (fun q => B ≤ q) s.heap H locs)
    (kk : ∀ (H1 : Heap) (locs1 : List Loc), va_P D cl (sm_w τ B ad 0 M1) H1 → M1.length ≤ 1000 → va_S (fun q => B ≤ q) s.heap H1 locs1 → W p l e R s m args below meth c H1 locs1 (cells + mc) (slots + ms) Q (F0 m (pc + 3) ls ((v.map (sm_cv B ad)).toList ++ rest))) : W p l e R s m args below meth c H locs cells slots Q (F0 m pc ls st0) := by
  intro T hT X
  obtain ⟨v', st₀, t, T', L, h0, X', hL, e1, e2, ⟨hv, hP1, hm1, hz, hk⟩, st⟩ := hr T hT X
  cases hv
  rw [h0] at hz hk
  obtain ⟨t2, a1, b1⟩ := kk T'.heap (locs ++ L) (by rw [e1]; exact hP1) hm1
    ⟨Nat.le_trans hS.1 (by rw [e1]; exact hz), fun q h1 h2 => by rw [e1, hk q (Nat.lt_of_lt_of_le h1 hS.1) h2]; exact hS.2.1 q h1 h2, fun q hq => by
      rcases List.mem_append.mp hq with h | h
      · exact hS.2.2 q h
      · exact hL q h⟩ T' rfl X'
  exact ⟨t2, st t2 a1, b1⟩
def sm_hdk (TB : List Cond) (yN : MethodName) (bytes : ByteArray) (mL : Nat) (rt : Option FieldType) (n : Nat) : Prop := Cond.code yN bytes mL rt ∈ TB ∧ Cond.initialized yN.cls ∈ TB ∧ (yN.cls ≠ "java/lang/invoke/MethodHandle" ∧ yN.cls ≠ "java/lang/invoke/VarHandle" ∧ (parseMethodDescriptor yN.desc).map (fun d => d.parameters.length) = some n) ∧ mL ≤ 61
def sm_lnk (TB NB : List Cond) (own : String) (x : Nat) (yN : MethodName) : Prop := Cond.methodLink own x yN ∈ TB ∨ ∃ host, Cond.methodLinkNest own x yN host ∈ NB
def sm_mth (TB : List Cond) (own : String) (x : Nat) (y : MethodName) (cc : ByteArray) (n : Nat) : Prop := Cond.methodLink own x y ∈ TB ∧ Cond.static y ∈ TB ∧ Cond.initialized "java/lang/Math" ∈ TB ∧ Cond.code y cc n (some .int) ∈ TB
def sm_okM (cl : List vw_C) (TB NB : List Cond) (hds : sm_HD) (mi : sm_MI) : Prop := ∀ x kd y n ci, sm_fd mi.2.2.2.2.2.2.2.1 x = some (kd, y, n, ci) →
  (kd = 0 → ∃ yN bytes mL rt, sm_fd hds y = some (yN, bytes, mL, rt) ∧ sm_hdk TB yN bytes mL rt n ∧ sm_lnk TB NB mi.1.cls x yN ∧ Cond.static yN ∈ TB) ∧
  (kd = 1 → ∃ yN bytes mL rt C T N, sm_fd hds y = some (yN, bytes, mL, rt) ∧ sm_hdk TB yN bytes mL rt n ∧ sm_lnk TB NB mi.1.cls x yN ∧ Cond.instanceMethod yN ∈ TB ∧ Cond.selects C yN yN ∈ TB ∧ cl[ci]? = some (C, T, N)) ∧
  (kd = 2 → ∃ yN bytes mL, sm_fd hds y = some (yN, bytes, mL, none) ∧ sm_hdk TB yN bytes mL none n ∧ sm_lnk TB NB mi.1.cls x yN ∧ Cond.instanceMethod yN ∈ TB ∧ yN.name = "<init>") ∧
  (kd = 3 → Cond.methodLink mi.1.cls x Lib.objectInit ∈ TB ∧ Cond.instanceMethod Lib.objectInit ∈ TB ∧ Cond.code Lib.objectInit ⟨#[0xb1]⟩ 1 none ∈ TB) ∧
  (kd = 4 → ∃ yN bytes mL rt, sm_fd hds y = some (yN, bytes, mL, rt) ∧ sm_hdk TB yN bytes mL rt n ∧ sm_lnk TB NB mi.1.cls x yN ∧ Cond.instanceMethod yN ∈ TB ∧ Cond.selects "java/lang/String" yN yN ∈ TB) ∧
  (kd = 5 → sm_mth TB mi.1.cls x Lib.Math.max.name Lib.Math.max.code 2) ∧ (kd = 6 → sm_mth TB mi.1.cls x Lib.Math.min.name Lib.Math.min.code 2) ∧ (kd = 7 → sm_mth TB mi.1.cls x Lib.Math.abs.name Lib.Math.abs.code 1)
/-- the String constants lie where they should -/
def sm_okR (B : Nat) (ad : Nat → Nat) (XT : State → Heap → Prop) : Prop := ∀ (s : State) (H : Heap), XT s H → ∀ b, 1001 ≤ b → b ≤ 1008 → ∃ cell : Cell, H[sm_rho B ad b]? = some cell ∧ cell.vm.isStatics = false ∧ s.vm.findClass "java/lang/String" = some cell.cls
theorem sm_goodIn {TB : List Cond} (hTB : ∀ w ∈ TB, goodWord w = true) {w0 : Cond} (h0 : w0 ∈ TB) : GoodIn TB (w0 :: TB) := by
  intro w hw
  rcases List.mem_cons.mp hw with rfl | hw
  · exact ⟨h0, good_of_word (hTB _ h0)⟩
  · exact ⟨hw, good_of_word (hTB _ hw)⟩
theorem sm_low_ok {B : Nat} {ad : Nat → Nat} {st : List Value} (h : sm_low st = true) : ((st.map (sm_cv B ad)).map fun v => v.category).sum ≤ 8 := by
  have e : (st.map (sm_cv B ad)).map (fun v => v.category) = st.map (fun v => v.category) := by
    rw [List.map_map]
    exact List.map_congr_left (fun v _ => sm_cv_cat B ad v)
  rw [e]
  exact Nat.le_of_ble_eq_true h
theorem sm_opt_map (B : Nat) (ad : Nat → Nat) (v : Option Value) (r : List Value) : (v.toList ++ r).map (sm_cv B ad) = (v.map (sm_cv B ad)).toList ++ r.map (sm_cv B ad) := by
  cases v <;> rfl
set_option maxHeartbeats 1000000 in
theorem sg_invokestatic {p : Program} {l : Launch} {e : Env} {R : Room} {s : State} {m : MethodId} {args : Array Value} {below : List Frame} {meth : Method} {c : Code} {Q : State → Prop} {D : va_G} {cl : List vw_C} {τ : Nat → ClassId} {B : Nat} {ad : Nat → Nat} {TB NB : List Cond} {SK : sm_SKt} {XT : State → Heap → Prop} {mi : sm_MI} {M' : sm_M} {m0 s0 : Nat} {cal : Nat → List Value → sm_M → sm_R} {sc : Option (Nat × (Nat → Int32))} {k : Nat → sm_L → List Value → sm_M → sm_R} {r : Option Value} {pc : Nat} {L : sm_L} {st : List Value} {M : sm_M} {x : Nat} {hds : sm_HD} {d : Nat} (hcok : sm_cok l D cl τ B ad TB NB SK XT hds d cal) (hE : sm_okE TB NB XT B) (hM : sm_okM cl TB NB hds mi) (hk : ∀ pc L st M, k pc L st M = some (M', r) → M.length ≤ M'.length ∧ sm_sl M ≤ sm_sl M') (hRc : M'.length ≤ R.cells + m0) (hRs : sm_sl M' ≤ R.slots + s0) (hR : d + 1 ≤ R.frames ∧ (d + 1) * 80 ≤ R.locals) (C0 : sm_C p s m args meth c D cl τ B ad TB NB SK XT m0 mi) (ih : ∀ pc L st M, k pc L st M = some (M', r) → sm_G p l e R s m args below meth c Q D cl τ B ad mi.2.2.1 m0 s0 pc L st M) (hd : decode mi.2.1 pc = .ok (.invokestatic x, 3)) (h : sm_ex cal sc mi k pc L st M (.invokestatic x) = some (M', r)) : sm_G p l e R s m args below meth c Q D cl τ B ad mi.2.2.1 m0 s0 pc L st M := by
  have hx := C0.1
  have hb := C0.2.1
  have hml := C0.2.2.1
  have hown := C0.2.2.2.1
  have hts := C0.2.2.2.2.1
  have hnb := C0.2.2.2.2.2.1
  have hK := C0.2.2.2.2.2.2.1
  have h0 := C0.2.2.2.2.2.2.2.2.2.1
  simp only [sm_ex] at h
  split at h
  · rename_i y n ci hf
    split at h
    · rename_i as r0 hpop
      split at h
      · rename_i hlow
        replace h := sm_inv_some h
        obtain ⟨M1, v, hcal, h⟩ := h
        obtain ⟨hl1, hl2, hmet⟩ := hcok _ _ _ _ _ hcal
        obtain ⟨yN, bytes, mL, rt, hh, hhd, hlk, hst⟩ := (hM _ _ _ _ _ hf).1 rfl
        have hMet := hmet _ _ _ _ hh
        obtain ⟨hlen, hst0⟩ := sm_pop_0 hpop
        have hmono := hk _ _ _ _ h
        obtain ⟨hcd, hini, hdd, hmL⟩ := hhd
        intro H locs ls cells slots hP hm hS hLl hL h1 h2
        refine sm_size_le (fun hle => ?_)
        have hz := sm_size hP hm hS h0 h1 hle
        have hpre := sm_preU C0 hE hP hm hz hS as
        have hstk : st.map (sm_cv B ad) = (as.map (sm_cv B ad)).reverse ++ r0.map (sm_cv B ad) := by rw [hst0, List.map_append, List.map_reverse]
        have hrm : (sm_rm d M M1).frames + 1 ≤ R.frames ∧ 8 + (mL + 11) + (sm_rm d M M1).locals ≤ R.locals := ⟨hR.1, by show 8 + (mL + 11) + d * 80 ≤ R.locals; omega⟩
        have hfit : cells + (M1.length - M.length) ≤ R.cells ∧ slots + (sm_sl M1 - sm_sl M) ≤ R.slots := ⟨by omega, by omega⟩
        refine sm_after (D := D) (cl := cl) (τ := τ) (ad := ad) (a := (as.map (sm_cv B ad)).toArray) (rest := r0.map (sm_cv B ad)) (M1 := M1) (v := v) (mc := M1.length - M.length) (ms := sm_sl M1 - sm_sl M) ?_ hS (fun H1 locs1 hP1 hm1 hS1 => ?_)
        · rcases hlk with hlk | ⟨host, hlk⟩
          · exact va_runS (As := as.map (sm_cv B ad)) ⟨hx, hb, hml, hown, hts⟩ hMet ⟨callB_of n hts (sm_goodIn hE.1 hcd) rfl rfl rfl (hts _ hini) (hts _ hlk) hdd hrm, hts _ hst⟩ ⟨sm_blind hE, hpre⟩ rfl (by rw [List.length_map]; exact hlen) hL.1 hstk (lv_room (sm_low_ok hlow)) hd hfit
          · exact va_runSN (As := as.map (sm_cv B ad)) ⟨hx, hb, hml, hown, hts⟩ hMet ⟨va_cnB n hts (sm_goodIn hE.1 hcd) rfl rfl rfl (hnb _ hlk) (hts _ hini) hdd hrm, hts _ hst, trivial⟩ ⟨sm_blind hE, hpre⟩ rfl (by rw [List.length_map]; exact hlen) hL.1 hstk (lv_room (sm_low_ok hlow)) hd hfit
        · have hW := ih _ _ _ _ h H1 locs1 ls (cells + (M1.length - M.length)) (slots + (sm_sl M1 - sm_sl M)) hP1 hm1 hS1 hLl hL (by omega) (by omega)
          rw [sm_opt_map] at hW
          exact hW
      · cases h
    · cases h
  · rename_i hf
    obtain ⟨hw1, hw2, hw3, hw4⟩ := (hM _ _ _ _ _ hf).2.2.2.2.2.1 rfl
    replace h := sm_i2_some h
    obtain ⟨x1, y1, r0, rfl, h⟩ := h
    split at h
    · rename_i hlow
      have hlw := sm_low_ok (B := B) (ad := ad) hlow
      have hmono := hk _ _ _ _ h
      intro H locs ls cells slots hP hm hS hLl hL h1 h2
      refine va_mmax hx hb (by rw [hml]; exact hL.1.symm) hown (hts _ hw1) (hts _ hw2) (hts _ hw3) (hts _ hw4) (by omega) (by omega) (by omega) (by omega) hd ?_
      exact ih _ _ _ _ h H locs ls cells slots hP hm hS hLl hL h1 h2
    · cases h
  · rename_i hf
    obtain ⟨hw1, hw2, hw3, hw4⟩ := (hM _ _ _ _ _ hf).2.2.2.2.2.2.1 rfl
    replace h := sm_i2_some h
    obtain ⟨x1, y1, r0, rfl, h⟩ := h
    split at h
    · rename_i hlow
      have hlw := sm_low_ok (B := B) (ad := ad) hlow
      have hmono := hk _ _ _ _ h
      intro H locs ls cells slots hP hm hS hLl hL h1 h2
      refine va_mmin hx hb (by rw [hml]; exact hL.1.symm) hown (hts _ hw1) (hts _ hw2) (hts _ hw3) (hts _ hw4) (by omega) (by omega) (by omega) (by omega) hd ?_
      exact ih _ _ _ _ h H locs ls cells slots hP hm hS hLl hL h1 h2
    · cases h
  · rename_i hf
    obtain ⟨hw1, hw2, hw3, hw4⟩ := (hM _ _ _ _ _ hf).2.2.2.2.2.2.2 rfl
    replace h := sm_i1_some h
    obtain ⟨x1, r0, rfl, h⟩ := h
    split at h
    · rename_i hlow
      have hlw := sm_low_ok (B := B) (ad := ad) hlow
      have hmono := hk _ _ _ _ h
      intro H locs ls cells slots hP hm hS hLl hL h1 h2
      refine va_mabs hx hb (by rw [hml]; exact hL.1.symm) hown (hts _ hw1) (hts _ hw2) (hts _ hw3) (hts _ hw4) (by omega) (by omega) (by omega) (by omega) hd ?_
      exact ih _ _ _ _ h H locs ls cells slots hP hm hS hLl hL h1 h2
    · cases h
  · cases h
set_option maxHeartbeats 1000000 in
theorem sg_invokevirtual {p : Program} {l : Launch} {e : Env} {R : Room} {s : State} {m : MethodId} {args : Array Value} {below : List Frame} {meth : Method} {c : Code} {Q : State → Prop} {D : va_G} {cl : List vw_C} {τ : Nat → ClassId} {B : Nat} {ad : Nat → Nat} {TB NB : List Cond} {SK : sm_SKt} {XT : State → Heap → Prop} {mi : sm_MI} {M' : sm_M} {m0 s0 : Nat} {cal : Nat → List Value → sm_M → sm_R} {sc : Option (Nat × (Nat → Int32))} {k : Nat → sm_L → List Value → sm_M → sm_R} {r : Option Value} {pc : Nat} {L : sm_L} {st : List Value} {M : sm_M} {x : Nat} (hXR : sm_okR B ad XT) {hds : sm_HD} {d : Nat} (hcok : sm_cok l D cl τ B ad TB NB SK XT hds d cal) (hE : sm_okE TB NB XT B) (hM : sm_okM cl TB NB hds mi) (hk : ∀ pc L st M, k pc L st M = some (M', r) → M.length ≤ M'.length ∧ sm_sl M ≤ sm_sl M') (hRc : M'.length ≤ R.cells + m0) (hRs : sm_sl M' ≤ R.slots + s0) (hR : d + 1 ≤ R.frames ∧ (d + 1) * 80 ≤ R.locals) (C0 : sm_C p s m args meth c D cl τ B ad TB NB SK XT m0 mi) (ih : ∀ pc L st M, k pc L st M = some (M', r) → sm_G p l e R s m args below meth c Q D cl τ B ad mi.2.2.1 m0 s0 pc L st M) (hd : decode mi.2.1 pc = .ok (.invokevirtual x, 3)) (h : sm_ex cal sc mi k pc L st M (.invokevirtual x) = some (M', r)) : sm_G p l e R s m args below meth c Q D cl τ B ad mi.2.2.1 m0 s0 pc L st M := by
  have hx := C0.1
  have hb := C0.2.1
  have hml := C0.2.2.1
  have hown := C0.2.2.2.1
  have hts := C0.2.2.2.2.1
  have hnb := C0.2.2.2.2.2.1
  have hK := C0.2.2.2.2.2.2.1
  have h0 := C0.2.2.2.2.2.2.2.2.2.1
  simp only [sm_ex] at h
  split at h
  · rename_i y n ci hf
    split at h
    · rename_i as b r0 hpop
      split at h
      · rename_i hlow
        replace h := sm_obj_some h
        obtain ⟨cj, fs, hg, h⟩ := h
        split at h
        · rename_i hbq
          have hcj := Nat.eq_of_beq_eq_true hbq
          subst hcj
          replace h := sm_inv_some h
          obtain ⟨M1, v, hcal, h⟩ := h
          obtain ⟨hl1, hl2, hmet⟩ := hcok _ _ _ _ _ hcal
          obtain ⟨yN, bytes, mL, rt, C, T, N, hh, hhd, hlk, hst, hsel, hcl⟩ := (hM _ _ _ _ _ hf).2.1 rfl
          have hMet := hmet _ _ _ _ hh
          obtain ⟨hlen, hst0⟩ := sm_pop_0 hpop
          have hmono := hk _ _ _ _ h
          obtain ⟨hcd, hini, hdd, hmL⟩ := hhd
          intro H locs ls cells slots hP hm hS hLl hL h1 h2
          refine sm_size_le (fun hle => ?_)
          have hz := sm_size hP hm hS h0 h1 hle
          have hpre := sm_preU C0 hE hP hm hz hS (.ref b :: as)
          have hstk : st.map (sm_cv B ad) = (as.map (sm_cv B ad)).reverse ++ .ref (sm_rho B ad b) :: r0.map (sm_cv B ad) := by rw [hst0, List.map_append, List.map_reverse]; rfl
          have hrm : (sm_rm d M M1).frames + 1 ≤ R.frames ∧ 8 + (mL + 11) + (sm_rm d M M1).locals ≤ R.locals := ⟨hR.1, by show 8 + (mL + 11) + d * 80 ≤ R.locals; omega⟩
          have hfit : cells + (M1.length - M.length) ≤ R.cells ∧ slots + (sm_sl M1 - sm_sl M) ≤ R.slots := ⟨by omega, by omega⟩
          refine sm_after (D := D) (cl := cl) (τ := τ) (ad := ad) (a := ((.ref b :: as).map (sm_cv B ad)).toArray) (rest := r0.map (sm_cv B ad)) (M1 := M1) (v := v) (mc := M1.length - M.length) (ms := sm_sl M1 - sm_sl M) ?_ hS (fun H1 locs1 hP1 hm1 hS1 => ?_)
          · have hrc := va_recv hK hP hcl (sm_w_at hg)
            rcases hlk with hlk | ⟨host, hlk⟩
            · exact va_runV (As := as.map (sm_cv B ad)) (b := sm_rho B ad b) (C := C) ⟨hx, hb, hml, hown, hts⟩ hMet ⟨callB_of n hts (sm_goodIn hE.1 hcd) rfl rfl rfl (hts _ hini) (hts _ hlk) hdd hrm, hts _ hst, hts _ hsel⟩ ⟨sm_blind hE, hrc, hpre⟩ rfl (by rw [List.length_map]; exact hlen) hL.1 hstk (lv_room (sm_low_ok hlow)) hd hfit
            · exact va_runVN (As := as.map (sm_cv B ad)) (b := sm_rho B ad b) (C := C) ⟨hx, hb, hml, hown, hts⟩ hMet ⟨va_cnB n hts (sm_goodIn hE.1 hcd) rfl rfl rfl (hnb _ hlk) (hts _ hini) hdd hrm, hts _ hst, hts _ hsel⟩ ⟨sm_blind hE, hrc, hpre⟩ rfl (by rw [List.length_map]; exact hlen) hL.1 hstk (lv_room (sm_low_ok hlow)) hd hfit
          · have hW := ih _ _ _ _ h H1 locs1 ls (cells + (M1.length - M.length)) (slots + (sm_sl M1 - sm_sl M)) hP1 hm1 hS1 hLl hL (by omega) (by omega)
            rw [sm_opt_map] at hW
            exact hW
        · cases h
      · cases h
    · cases h
  · rename_i y n ci hf
    split at h
    · rename_i as b r0 hpop
      split at h
      · rename_i hlow0
        simp only [Bool.and_eq_true] at hlow0
        obtain ⟨hlow, hbb1, hbb2⟩ := hlow0
        have hb1 : 1001 ≤ b := Nat.le_of_ble_eq_true hbb1
        have hb2 : b ≤ 1008 := Nat.le_of_ble_eq_true hbb2
        replace h := sm_inv_some h
        obtain ⟨M1, v, hcal, h⟩ := h
        obtain ⟨hl1, hl2, hmet⟩ := hcok _ _ _ _ _ hcal
        obtain ⟨yN, bytes, mL, rt, hh, hhd, hlk, hst, hsel⟩ := (hM _ _ _ _ _ hf).2.2.2.2.1 rfl
        have hMet := hmet _ _ _ _ hh
        obtain ⟨hlen, hst0⟩ := sm_pop_0 hpop
        have hmono := hk _ _ _ _ h
        obtain ⟨hcd, hini, hdd, hmL⟩ := hhd
        intro H locs ls cells slots hP hm hS hLl hL h1 h2
        refine sm_size_le (fun hle => ?_)
        have hz := sm_size hP hm hS h0 h1 hle
        have hpre := sm_preU C0 hE hP hm hz hS (.ref b :: as)
        have hstk : st.map (sm_cv B ad) = (as.map (sm_cv B ad)).reverse ++ .ref (sm_rho B ad b) :: r0.map (sm_cv B ad) := by rw [hst0, List.map_append, List.map_reverse]; rfl
        have hrm : (sm_rm d M M1).frames + 1 ≤ R.frames ∧ 8 + (mL + 11) + (sm_rm d M M1).locals ≤ R.locals := ⟨hR.1, by show 8 + (mL + 11) + d * 80 ≤ R.locals; omega⟩
        have hfit : cells + (M1.length - M.length) ≤ R.cells ∧ slots + (sm_sl M1 - sm_sl M) ≤ R.slots := ⟨by omega, by omega⟩
        refine sm_after (D := D) (cl := cl) (τ := τ) (ad := ad) (a := ((.ref b :: as).map (sm_cv B ad)).toArray) (rest := r0.map (sm_cv B ad)) (M1 := M1) (v := v) (mc := M1.length - M.length) (ms := sm_sl M1 - sm_sl M) ?_ hS (fun H1 locs1 hP1 hm1 hS1 => ?_)
        · have hrc := hXR s H (hE.2.2.2 s s.heap H hS.2.1 C0.2.2.2.2.2.2.2.2.1) b hb1 hb2
          let C := "java/lang/String"
          rcases hlk with hlk | ⟨host, hlk⟩
          · exact va_runV (As := as.map (sm_cv B ad)) (b := sm_rho B ad b) (C := C) ⟨hx, hb, hml, hown, hts⟩ hMet ⟨callB_of n hts (sm_goodIn hE.1 hcd) rfl rfl rfl (hts _ hini) (hts _ hlk) hdd hrm, hts _ hst, hts _ hsel⟩ ⟨sm_blind hE, hrc, hpre⟩ rfl (by rw [List.length_map]; exact hlen) hL.1 hstk (lv_room (sm_low_ok hlow)) hd hfit
          · exact va_runVN (As := as.map (sm_cv B ad)) (b := sm_rho B ad b) (C := C) ⟨hx, hb, hml, hown, hts⟩ hMet ⟨va_cnB n hts (sm_goodIn hE.1 hcd) rfl rfl rfl (hnb _ hlk) (hts _ hini) hdd hrm, hts _ hst, hts _ hsel⟩ ⟨sm_blind hE, hrc, hpre⟩ rfl (by rw [List.length_map]; exact hlen) hL.1 hstk (lv_room (sm_low_ok hlow)) hd hfit
        · have hW := ih _ _ _ _ h H1 locs1 ls (cells + (M1.length - M.length)) (slots + (sm_sl M1 - sm_sl M)) hP1 hm1 hS1 hLl hL (by omega) (by omega)
          rw [sm_opt_map] at hW
          exact hW
      · cases h
    · cases h
  · cases h
set_option maxHeartbeats 1000000 in
theorem sg_invokespecial {p : Program} {l : Launch} {e : Env} {R : Room} {s : State} {m : MethodId} {args : Array Value} {below : List Frame} {meth : Method} {c : Code} {Q : State → Prop} {D : va_G} {cl : List vw_C} {τ : Nat → ClassId} {B : Nat} {ad : Nat → Nat} {TB NB : List Cond} {SK : sm_SKt} {XT : State → Heap → Prop} {mi : sm_MI} {M' : sm_M} {m0 s0 : Nat} {cal : Nat → List Value → sm_M → sm_R} {sc : Option (Nat × (Nat → Int32))} {k : Nat → sm_L → List Value → sm_M → sm_R} {r : Option Value} {pc : Nat} {L : sm_L} {st : List Value} {M : sm_M} {x : Nat} {hds : sm_HD} {d : Nat} (hcok : sm_cok l D cl τ B ad TB NB SK XT hds d cal) (hE : sm_okE TB NB XT B) (hM : sm_okM cl TB NB hds mi) (hk : ∀ pc L st M, k pc L st M = some (M', r) → M.length ≤ M'.length ∧ sm_sl M ≤ sm_sl M') (hRc : M'.length ≤ R.cells + m0) (hRs : sm_sl M' ≤ R.slots + s0) (hR : d + 1 ≤ R.frames ∧ (d + 1) * 80 ≤ R.locals) (C0 : sm_C p s m args meth c D cl τ B ad TB NB SK XT m0 mi) (ih : ∀ pc L st M, k pc L st M = some (M', r) → sm_G p l e R s m args below meth c Q D cl τ B ad mi.2.2.1 m0 s0 pc L st M) (hd : decode mi.2.1 pc = .ok (.invokespecial x, 3)) (h : sm_ex cal sc mi k pc L st M (.invokespecial x) = some (M', r)) : sm_G p l e R s m args below meth c Q D cl τ B ad mi.2.2.1 m0 s0 pc L st M := by
  have hx := C0.1
  have hb := C0.2.1
  have hml := C0.2.2.1
  have hown := C0.2.2.2.1
  have hts := C0.2.2.2.2.1
  have hnb := C0.2.2.2.2.2.1
  have hK := C0.2.2.2.2.2.2.1
  have h0 := C0.2.2.2.2.2.2.2.2.2.1
  simp only [sm_ex] at h
  split at h
  · rename_i y n ci hf
    split at h
    · rename_i as b r0 hpop
      split at h
      · rename_i hlow
        replace h := sm_inv_some h
        obtain ⟨M1, v, hcal, h⟩ := h
        obtain ⟨hl1, hl2, hmet⟩ := hcok _ _ _ _ _ hcal
        obtain ⟨yN, bytes, mL, hh, hhd, hlk, hst, hnm⟩ := (hM _ _ _ _ _ hf).2.2.1 rfl
        have hMet := hmet _ _ _ _ hh
        obtain ⟨hlen, hst0⟩ := sm_pop_0 hpop
        have hmono := hk _ _ _ _ h
        obtain ⟨hcd, hini, hdd, hmL⟩ := hhd
        intro H locs ls cells slots hP hm hS hLl hL h1 h2
        refine sm_size_le (fun hle => ?_)
        have hz := sm_size hP hm hS h0 h1 hle
        have hpre := sm_preU C0 hE hP hm hz hS (.ref b :: as)
        have hstk : st.map (sm_cv B ad) = (as.map (sm_cv B ad)).reverse ++ .ref (sm_rho B ad b) :: r0.map (sm_cv B ad) := by rw [hst0, List.map_append, List.map_reverse]; rfl
        have hrm : (sm_rm d M M1).frames + 1 ≤ R.frames ∧ 8 + (mL + 11) + (sm_rm d M M1).locals ≤ R.locals := ⟨hR.1, by show 8 + (mL + 11) + d * 80 ≤ R.locals; omega⟩
        have hfit : cells + (M1.length - M.length) ≤ R.cells ∧ slots + (sm_sl M1 - sm_sl M) ≤ R.slots := ⟨by omega, by omega⟩
        refine sm_after (D := D) (cl := cl) (τ := τ) (ad := ad) (a := ((.ref b :: as).map (sm_cv B ad)).toArray) (rest := r0.map (sm_cv B ad)) (M1 := M1) (v := v) (mc := M1.length - M.length) (ms := sm_sl M1 - sm_sl M) ?_ hS (fun H1 locs1 hP1 hm1 hS1 => ?_)
        · rcases hlk with hlk | ⟨host, hlk⟩
          · exact va_runI (As := as.map (sm_cv B ad)) (b := sm_rho B ad b) ⟨hx, hb, hml, hown, hts⟩ hMet ⟨callB_of n hts (sm_goodIn hE.1 hcd) rfl rfl rfl (hts _ hini) (hts _ hlk) hdd hrm, hnm, hts _ hst⟩ ⟨sm_blind hE, hpre⟩ rfl (by rw [List.length_map]; exact hlen) hL.1 hstk (lv_room (sm_low_ok hlow)) hd hfit
          · exact va_runIN (As := as.map (sm_cv B ad)) (b := sm_rho B ad b) ⟨hx, hb, hml, hown, hts⟩ hMet ⟨va_cnB n hts (sm_goodIn hE.1 hcd) rfl rfl rfl (hnb _ hlk) (hts _ hini) hdd hrm, hnm, hts _ hst⟩ ⟨sm_blind hE, hpre⟩ rfl (by rw [List.length_map]; exact hlen) hL.1 hstk (lv_room (sm_low_ok hlow)) hd hfit
        · have hW := ih _ _ _ _ h H1 locs1 ls (cells + (M1.length - M.length)) (slots + (sm_sl M1 - sm_sl M)) hP1 hm1 hS1 hLl hL (by omega) (by omega)
          rw [sm_opt_map] at hW
          exact hW
      · cases h
    · cases h
  · rename_i hf
    obtain ⟨hw1, hw2, hw3⟩ := (hM _ _ _ _ _ hf).2.2.2.1 rfl
    replace h := sm_r1_some h
    obtain ⟨a, r0, rfl, h⟩ := h
    split at h
    · rename_i hlow
      have hlw := sm_low_ok (B := B) (ad := ad) hlow
      intro H locs ls cells slots hP hm hS hLl hL h1 h2
      refine W.objInit hx hb hown (hts _ hw1) (hts _ hw2) (hts _ hw3) rfl (by rw [hml]; exact hL.1) rfl hd (by omega) (by show 2 * 0 + _ + 12 ≤ R.locals; omega) ?_
      exact ih _ _ _ _ h H locs ls cells slots hP hm hS hLl hL h1 h2
    · cases h
  · cases h

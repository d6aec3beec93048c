/-! THE SIMULATOR IS SOUND: a method's run, a call -/
def sm_okT (mi : sm_MI) : Prop := ∀ pc i, sm_fd mi.2.2.2.2.1 pc = some i → ∃ len, decode mi.2.1 pc = .ok (i, len) ∧ (len = sm_ln i ∨ sm_ln i = 0)
def sm_ok (cl : List vw_C) (TB NB : List Cond) (SK : sm_SKt) (hds : sm_HD) (mi : sm_MI) : Prop := sm_okT mi ∧ sm_okF cl TB NB mi ∧ sm_okM cl TB NB hds mi ∧ sm_okK TB SK mi ∧ sm_okN cl TB mi
/-- at a method's end -/
def sm_End (p : Program) (l : Launch) (e : Env) (R : Room) (s : State) (m : MethodId) (args : Array Value) (below : List Frame) (meth : Method) (c : Code) (Q : State → Prop) (D : va_G) (cl : List vw_C) (τ : Nat → ClassId) (B : Nat) (ad : Nat → Nat) (mi : sm_MI) (m0 s0 : Nat) (M' : sm_M) (r : Option Value) : Prop :=
  ∀ (pc : Nat) (i : Instr) (H : Heap) (locs : List Loc) (ls : Array Slot) (cells slots : Nat), decode mi.2.1 pc = .ok (i, 1) → sm_rk mi.2.2.2.1 i r → va_P D cl (sm_w τ B ad 0 M') H → M'.length ≤ 1000 → va_S (fun q => B ≤ q) s.heap H locs → cells + m0 = M'.length → slots + s0 = sm_sl M' → W p l e R s m args below meth c H locs cells slots Q (F0 m pc ls (r.map (sm_cv B ad)).toList)
set_option maxHeartbeats 4000000 in
theorem sm_step {p : Program} {l : Launch} {e : Env} {R : Room} {s : State} {m : MethodId} {args : Array Value} {below : List Frame} {meth : Method} {c : Code} {Q : State → Prop} {D : va_G} {cl : List vw_C} {τ : Nat → ClassId} {B : Nat} {ad : Nat → Nat} {TB NB : List Cond} {SK : sm_SKt} {XT : State → Heap → Prop} {mi : sm_MI} {M' : sm_M} {m0 s0 : Nat} {cal : Nat → List Value → sm_M → sm_R} {sc : Option (Nat × (Nat → Int32))} {k : Nat → sm_L → List Value → sm_M → sm_R} {r : Option Value} {pc : Nat} {L : sm_L} {st : List Value} {M : sm_M} {hds : sm_HD} {d : Nat} {i : Instr} {len : Nat} (C0 : sm_C p s m args meth c D cl τ B ad TB NB SK XT m0 mi) (ok : sm_ok cl TB NB SK hds mi) (hE : sm_okE TB NB XT B) (hXR : sm_okR B ad XT) (hsc : sm_okX B ad s sc) (hAI : Cond.arrayClass .int ∈ TB) (hAL : Cond.arrayClass .long ∈ TB) (hcok : sm_cok l D cl τ B ad TB NB SK XT hds d cal) (hk : ∀ pc L st M, k pc L st M = some (M', r) → M.length ≤ M'.length ∧ sm_sl M ≤ sm_sl M') (hRc : M'.length ≤ R.cells + m0) (hRs : sm_sl M' ≤ R.slots + s0) (hR : d + 1 ≤ R.frames ∧ (d + 1) * 80 ≤ R.locals) (hK : sm_End p l e R s m args below meth c Q D cl τ B ad mi m0 s0 M' r) (ih : ∀ pc L st M, k pc L st M = some (M', r) → sm_G p l e R s m args below meth c Q D cl τ B ad mi.2.2.1 m0 s0 pc L st M) (hd : decode mi.2.1 pc = .ok (i, len)) (hln : len = sm_ln i ∨ sm_ln i = 0) (h : sm_ex cal sc mi k pc L st M i = some (M', r)) : sm_G p l e R s m args below meth c Q D cl τ B ad mi.2.2.1 m0 s0 pc L st M := by
  have hNB : ∀ w ∈ NB, w.onTables = true := fun w hw => (hE.2.1 w hw).1
  cases i with
  | iconst n => exact sg_iconst C0 ih (sm_dl hd hln 1 rfl (by decide)) h
  | bipush n => exact sg_bipush C0 ih (sm_dl hd hln 2 rfl (by decide)) h
  | sipush n => exact sg_sipush C0 ih (sm_dl hd hln 3 rfl (by decide)) h
  | lconst n => exact sg_lconst C0 ih (sm_dl hd hln 1 rfl (by decide)) h
  | iload_n j => exact sg_iload_n C0 ih (sm_dl hd hln 1 rfl (by decide)) h
  | iload j => exact sg_iload C0 ih (sm_dl hd hln 2 rfl (by decide)) h
  | lload_n j => exact sg_lload_n C0 ih (sm_dl hd hln 1 rfl (by decide)) h
  | lload j => exact sg_lload C0 ih (sm_dl hd hln 2 rfl (by decide)) h
  | aload_n j => exact sg_aload_n C0 ih (sm_dl hd hln 1 rfl (by decide)) h
  | aload j => exact sg_aload C0 ih (sm_dl hd hln 2 rfl (by decide)) h
  | istore_n j => exact sg_istore_n C0 ih (sm_dl hd hln 1 rfl (by decide)) h
  | istore j => exact sg_istore C0 ih (sm_dl hd hln 2 rfl (by decide)) h
  | lstore_n j => exact sg_lstore_n C0 ih (sm_dl hd hln 1 rfl (by decide)) h
  | lstore j => exact sg_lstore C0 ih (sm_dl hd hln 2 rfl (by decide)) h
  | astore_n j => exact sg_astore_n C0 ih (sm_dl hd hln 1 rfl (by decide)) h
  | astore j => exact sg_astore C0 ih (sm_dl hd hln 2 rfl (by decide)) h
  | iinc j n => exact sg_iinc C0 ih (sm_dl hd hln 3 rfl (by decide)) h
  | iadd => exact sg_iadd C0 ih (sm_dl hd hln 1 rfl (by decide)) h
  | isub => exact sg_isub C0 ih (sm_dl hd hln 1 rfl (by decide)) h
  | imul => exact sg_imul C0 ih (sm_dl hd hln 1 rfl (by decide)) h
  | iand => exact sg_iand C0 ih (sm_dl hd hln 1 rfl (by decide)) h
  | ior => exact sg_ior C0 ih (sm_dl hd hln 1 rfl (by decide)) h
  | ixor => exact sg_ixor C0 ih (sm_dl hd hln 1 rfl (by decide)) h
  | ishl => exact sg_ishl C0 ih (sm_dl hd hln 1 rfl (by decide)) h
  | ishr => exact sg_ishr C0 ih (sm_dl hd hln 1 rfl (by decide)) h
  | iushr => exact sg_iushr C0 ih (sm_dl hd hln 1 rfl (by decide)) h
  | idiv => exact sg_idiv C0 ih (sm_dl hd hln 1 rfl (by decide)) h
  | irem => exact sg_irem C0 ih (sm_dl hd hln 1 rfl (by decide)) h
  | ineg => exact sg_ineg C0 ih (sm_dl hd hln 1 rfl (by decide)) h
  | ladd => exact sg_ladd C0 ih (sm_dl hd hln 1 rfl (by decide)) h
  | lsub => exact sg_lsub C0 ih (sm_dl hd hln 1 rfl (by decide)) h
  | land => exact sg_land C0 ih (sm_dl hd hln 1 rfl (by decide)) h
  | lor => exact sg_lor C0 ih (sm_dl hd hln 1 rfl (by decide)) h
  | lxor => exact sg_lxor C0 ih (sm_dl hd hln 1 rfl (by decide)) h
  | lshl => exact sg_lshl C0 ih (sm_dl hd hln 1 rfl (by decide)) h
  | lshr => exact sg_lshr C0 ih (sm_dl hd hln 1 rfl (by decide)) h
  | lushr => exact sg_lushr C0 ih (sm_dl hd hln 1 rfl (by decide)) h
  | lcmp => exact sg_lcmp C0 ih (sm_dl hd hln 1 rfl (by decide)) h
  | i2l => exact sg_i2l C0 ih (sm_dl hd hln 1 rfl (by decide)) h
  | l2i => exact sg_l2i C0 ih (sm_dl hd hln 1 rfl (by decide)) h
  | dup => exact sg_dup C0 ih (sm_dl hd hln 1 rfl (by decide)) h
  | dup2 => exact sg_dup2 C0 ih (sm_dl hd hln 1 rfl (by decide)) h
  | goto off => exact sg_goto C0 ih (sm_dl hd hln 3 rfl (by decide)) h
  | ifCond cd off => exact sg_ifCond C0 ih (sm_dl hd hln 3 rfl (by decide)) h
  | if_icmp cd off => exact sg_if_icmp C0 ih (sm_dl hd hln 3 rfl (by decide)) h
  | laload => exact sg_laload C0 ih (sm_dl hd hln 1 rfl (by decide)) h
  | iastore => exact sg_iastore C0 ih (sm_dl hd hln 1 rfl (by decide)) h
  | lastore => exact sg_lastore C0 ih (sm_dl hd hln 1 rfl (by decide)) h
  | ldc x => exact sg_ldc ok.2.2.2.1 C0 ih (sm_dl hd hln 2 rfl (by decide)) h
  | ldc_w x => exact sg_ldc_w ok.2.2.2.1 C0 ih (sm_dl hd hln 3 rfl (by decide)) h
  | ldc2_w x => exact sg_ldc2_w ok.2.2.2.1 C0 ih (sm_dl hd hln 3 rfl (by decide)) h
  | getfield x => exact sg_getfield ok.2.1 hNB C0 ih (sm_dl hd hln 3 rfl (by decide)) h
  | putfield x => exact sg_putfield ok.2.1 hNB C0 ih (sm_dl hd hln 3 rfl (by decide)) h
  | iaload => exact sg_iaload hsc C0 ih (sm_dl hd hln 1 rfl (by decide)) h
  | arraylength => exact sg_arraylength hsc C0 ih (sm_dl hd hln 1 rfl (by decide)) h
  | newarray t => exact sg_newarray hAI hAL hk hRc hRs C0 ih (sm_dl hd hln 2 rfl (by decide)) h
  | new x => exact sg_new ok.2.2.2.2 hk hRc hRs C0 ih (sm_dl hd hln 3 rfl (by decide)) h
  | invokestatic x => exact sg_invokestatic hcok hE ok.2.2.1 hk hRc hRs hR C0 ih (sm_dl hd hln 3 rfl (by decide)) h
  | invokespecial x => exact sg_invokespecial hcok hE ok.2.2.1 hk hRc hRs hR C0 ih (sm_dl hd hln 3 rfl (by decide)) h
  | invokevirtual x => exact sg_invokevirtual hXR hcok hE ok.2.2.1 hk hRc hRs hR C0 ih (sm_dl hd hln 3 rfl (by decide)) h
  | tableswitch dflt lo hi offs => exact sg_tableswitch hd C0 ih h
  | lookupswitch dflt ps => exact sg_lookupswitch hd C0 ih h
  | ireturn =>
    replace h := sm_i1_some h
    obtain ⟨x, r0, rfl, h⟩ := h
    split at h
    · rename_i hz
      replace h := sm_ret_some h
      obtain ⟨rfl, h⟩ := h
      cases h
      intro H locs ls cells slots hP hm hS hLl hL h1 h2
      exact hK pc _ H locs ls cells slots (sm_dl hd hln 1 rfl (by decide)) (Or.inl ⟨rfl, x, rfl, hz⟩) hP hm hS h1 h2
    · cases h
  | lreturn =>
    replace h := sm_l1_some h
    obtain ⟨x, r0, rfl, h⟩ := h
    split at h
    · rename_i hz
      replace h := sm_ret_some h
      obtain ⟨rfl, h⟩ := h
      cases h
      intro H locs ls cells slots hP hm hS hLl hL h1 h2
      exact hK pc _ H locs ls cells slots (sm_dl hd hln 1 rfl (by decide)) (Or.inr (Or.inl ⟨rfl, x, rfl, hz⟩)) hP hm hS h1 h2
    · cases h
  | return_ =>
    simp only [sm_ex] at h
    split at h
    · rename_i hz
      replace h := sm_ret_some h
      obtain ⟨rfl, h⟩ := h
      cases h
      intro H locs ls cells slots hP hm hS hLl hL h1 h2
      exact hK pc _ H locs ls cells slots (sm_dl hd hln 1 rfl (by decide)) (Or.inr (Or.inr ⟨rfl, rfl, hz⟩)) hP hm hS h1 h2
    · cases h
  | _ => exact absurd (show (none : sm_R) = some (M', r) from h) (by simp)
set_option maxHeartbeats 1000000 in
theorem sm_run_ok {p : Program} {l : Launch} {e : Env} {R : Room} {s : State} {m : MethodId} {args : Array Value} {below : List Frame} {meth : Method} {c : Code} {Q : State → Prop} {D : va_G} {cl : List vw_C} {τ : Nat → ClassId} {B : Nat} {ad : Nat → Nat} {TB NB : List Cond} {SK : sm_SKt} {XT : State → Heap → Prop} {mi : sm_MI} {M' : sm_M} {m0 s0 : Nat} {cal : Nat → List Value → sm_M → sm_R} {sc : Option (Nat × (Nat → Int32))} {r : Option Value} {hds : sm_HD} {d : Nat} (C0 : sm_C p s m args meth c D cl τ B ad TB NB SK XT m0 mi) (ok : sm_ok cl TB NB SK hds mi) (hE : sm_okE TB NB XT B) (hXR : sm_okR B ad XT) (hsc : sm_okX B ad s sc) (hAI : Cond.arrayClass .int ∈ TB) (hAL : Cond.arrayClass .long ∈ TB) (hcok : sm_cok l D cl τ B ad TB NB SK XT hds d cal) (hRc : M'.length ≤ R.cells + m0) (hRs : sm_sl M' ≤ R.slots + s0) (hR : d + 1 ≤ R.frames ∧ (d + 1) * 80 ≤ R.locals) (hK : sm_End p l e R s m args below meth c Q D cl τ B ad mi m0 s0 M' r) : ∀ (n pc : Nat) (L : sm_L) (st : List Value) (M : sm_M), sm_run cal sc mi n pc L st M = some (M', r) → sm_G p l e R s m args below meth c Q D cl τ B ad mi.2.2.1 m0 s0 pc L st M := by
  intro n
  induction n with
  | zero => intro pc L st M h; cases h
  | succ n ih =>
    intro pc L st M h
    simp only [sm_run] at h
    split at h
    · cases h
    · rename_i i hi
      obtain ⟨len, hd, hln⟩ := ok.1 _ _ hi
      have hG := sm_step C0 ok hE hXR hsc hAI hAL hcok (sm_run_mono (fun y as M M1 v hc => ⟨(hcok y as M M1 v hc).1, (hcok y as M M1 v hc).2.1⟩) n) hRc hRs hR hK ih hd hln h
      intro H locs ls cells slots hP hm hS hLl hL h1 h2
      exact hG H locs ls cells slots hP hm hS (by rw [sm_kp_len]; exact hLl) (sm_has_kp hL) h1 h2
theorem sm_pad_len : ∀ (n : Nat) (L : sm_L), (sm_pad n L).length = n := by
  intro n
  induction n with
  | zero => intro L; rfl
  | succ n ih => intro L; cases L <;> simp [sm_pad, ih]
theorem sm_al_none {B : Nat} {ad : Nat → Nat} {q : Nat × Value} : ∀ (n j : Nat), ¬ q ∈ sm_al B ad j (sm_pad n []) := by
  intro n
  induction n with
  | zero => intro j h; cases h
  | succ n ih => intro j h; exact ih (j + 1) h
theorem sm_al_ent {B : Nat} {ad : Nat → Nat} {q : Nat × Value} : ∀ (as : List Value) (n j : Nat), q ∈ sm_al B ad j (sm_pad n (sm_ent as)) → q ∈ lv_args j (as.map (sm_cv B ad)) := by
  intro as
  induction as with
  | nil => intro n j h; exact absurd h (sm_al_none n j)
  | cons v t ih =>
    intro n j h
    have hc : (sm_cv B ad v).category = v.category := sm_cv_cat B ad v
    cases hv : sm_is2 (some v) with
    | true =>
      have hc2 : v.category = 2 := by cases v <;> first | rfl | cases hv
      rw [show sm_ent (v :: t) = some v :: none :: sm_ent t from by simp only [sm_ent, hv]] at h
      cases n with
      | zero => cases h
      | succ n =>
        rcases List.mem_cons.mp (show q ∈ (j, sm_cv B ad v) :: sm_al B ad (j + 1) (sm_pad n (none :: sm_ent t)) from h) with h | h
        · rw [h]; simp [lv_args]
        · cases n with
          | zero => cases h
          | succ n =>
            have h2 := ih n (j + 2) h
            simp only [List.map_cons, lv_args, hc, hc2]
            exact List.mem_cons_of_mem _ h2
    | false =>
      have hc1 : v.category = 1 := by cases v <;> first | rfl | cases hv
      rw [show sm_ent (v :: t) = some v :: sm_ent t from by simp only [sm_ent, hv]] at h
      cases n with
      | zero => cases h
      | succ n =>
        rcases List.mem_cons.mp (show q ∈ (j, sm_cv B ad v) :: sm_al B ad (j + 1) (sm_pad n (sm_ent t)) from h) with h | h
        · rw [h]; simp [lv_args]
        · have h2 := ih n (j + 1) h
          simp only [List.map_cons, lv_args, hc, hc1]
          exact List.mem_cons_of_mem _ h2
theorem sm_ent_len {B : Nat} {ad : Nat → Nat} : ∀ (as : List Value), (lg_sl (as.map (sm_cv B ad))).length = (sm_ent as).length := by
  intro as
  induction as with
  | nil => rfl
  | cons v t ih =>
    have e : lg_sl ((v :: t).map (sm_cv B ad)) = (if (sm_cv B ad v).category = 2 then [Slot.val (sm_cv B ad v), Slot.second] else [Slot.val (sm_cv B ad v)]) ++ lg_sl (t.map (sm_cv B ad)) := by simp [lg_sl]
    rw [e, List.length_append, ih, sm_cv_cat]
    cases hv : sm_is2 (some v) with
    | true =>
      have hc2 : v.category = 2 := by cases v <;> first | rfl | cases hv
      rw [if_pos hc2, show sm_ent (v :: t) = some v :: none :: sm_ent t from by simp only [sm_ent, hv]]
      simp; omega
    | false =>
      have hc1 : ¬ v.category = 2 := by cases v <;> first | (simp [Value.category]; done) | cases hv
      rw [if_neg hc1, show sm_ent (v :: t) = some v :: sm_ent t from by simp only [sm_ent, hv]]
      simp; omega
set_option maxHeartbeats 1000000 in
/-- calls down to any depth are sound -/
theorem sm_sim_ok {l : Launch} {D : va_G} {cl : List vw_C} {τ : Nat → ClassId} {B : Nat} {ad : Nat → Nat} {TB NB : List Cond} {SK : sm_SKt} {XT : State → Heap → Prop} {hds : sm_HD} {pg : List (Nat × sm_MI)} {bi : Nat → List Value → sm_M → sm_R} {sc : Option (Nat × (Nat → Int32))} (hXS : ∀ s : State, XT s s.heap → sm_okX B ad s sc) (hXR : sm_okR B ad XT) (hE : sm_okE TB NB XT B) (hAI : Cond.arrayClass .int ∈ TB) (hAL : Cond.arrayClass .long ∈ TB) (hpg : ∀ y mi, sm_fd pg y = some mi → sm_ok cl TB NB SK hds mi ∧ plainName mi.1.cls = true ∧ sm_fd hds y = some (mi.1, mi.2.1, mi.2.2.1, mi.2.2.2.1)) (hbi : ∀ d y as M M1 v, 4 ≤ d → sm_fd pg y = none → bi y as M = some (M1, v) → M.length ≤ M1.length ∧ sm_sl M ≤ sm_sl M1 ∧ ∀ yN bytes mL rt, sm_fd hds y = some (yN, bytes, mL, rt) → Met l yN (.code yN bytes mL rt :: TB) (sm_rm (d + 1) M M1) (sm_Pre D cl τ B ad NB SK XT as M) (sm_Post D cl τ B ad M1 v) (M1.length - M.length) (sm_sl M1 - sm_sl M) (fun q => B ≤ q)) (N : Nat) : ∀ d, sm_cok l D cl τ B ad TB NB SK XT hds d (sm_sim pg bi sc d N) := by
  intro d
  induction d with
  | zero => intro y as M M1 v h; cases h
  | succ d ih =>
    intro y as M M1 v h
    simp only [sm_sim] at h
    split at h
    · rename_i mi hmi
      split at h
      · rename_i hble
        have hble : (sm_ent as).length ≤ mi.2.2.1 := Nat.le_of_ble_eq_true hble
        have hmono := sm_run_mono (fun y as M M1 v hc => ⟨(ih y as M M1 v hc).1, (ih y as M M1 v hc).2.1⟩) _ _ _ _ _ h
        refine ⟨hmono.1, hmono.2, fun yN bytes mL rt hh => ?_⟩
        obtain ⟨ok, hpl, hh2⟩ := hpg y mi hmi
        rw [hh2] at hh
        cases hh
        refine Met.ofW (cc := mi.2.1) (maxL := mi.2.2.1) (ret := mi.2.2.2.1) hpl rfl ?_
        intro p e s m args below meth c s₁ Bd hml hv
        obtain ⟨rfl, hP, hm, hz, hK, hN, hS, hX⟩ := hv
        have hts := atoms_spec (ws := Cond.code mi.1 mi.2.1 mi.2.2.1 mi.2.2.2.1 :: TB) Bd.pre
        have C0 : sm_C p s m ((as.map (sm_cv B ad)).toArray) meth c D cl τ B ad TB NB SK XT M.length mi := ⟨Bd.exec, Bd.bytes, hml, findClass_of_methodNamed Bd.named, fun w hw => hts w (List.mem_cons_of_mem _ hw), hN, hK, hS, hX, hz, fun hn => (name_of_methodNamed Bd.named Bd.method).1.trans hn⟩
        have hlocks : meth.locks = false := Bd.notSynchronized
        have hret := Bd.returns
        have hb := Bd.bytes
        have hx := Bd.exec
        have hl := lv_entry (as.map (sm_cv B ad)) (n := mi.2.2.1) (by rw [sm_ent_len]; exact hble)
        rw [lg_entry_eq]
        generalize (lg_sl (as.map (sm_cv B ad)) ++ List.replicate (mi.2.2.1 - (lg_sl (as.map (sm_cv B ad))).length) Slot.unset).toArray = ls at hl ⊢
        refine sm_run_ok (R := sm_rm (d + 1) M M1) (m0 := M.length) (s0 := sm_sl M) C0 ok hE hXR (hXS s hX) hAI hAL ih (by show _ ≤ M1.length - M.length + _; omega) (by show _ ≤ sm_sl M1 - sm_sl M + _; omega) ⟨Nat.le_refl _, Nat.le_refl _⟩ ?_ N 0 _ [] M h s.heap [] ls 0 0 hP hm va_S.rf (by rw [sm_pad_len]; exact Nat.le_refl _) (sm_has_le hl (fun q hq => sm_al_ent as _ 0 hq)) (Nat.zero_add _) (Nat.zero_add _)
        intro pc i H locs ls cells slots hd hrk hP' hm' hS' h1 h2
        have e1 : cells = M1.length - M.length := by omega
        have e2 : slots = sm_sl M1 - sm_sl M := by omega
        subst e1; subst e2
        rcases hrk with ⟨rfl, x, rfl, hzr⟩ | ⟨rfl, x, rfl, hrt⟩ | ⟨rfl, rfl, hrt⟩
        · have hn : ∃ ty, mi.2.2.2.1 = some ty ∧ narrow ty (.int x) = .int x := by
            unfold sm_zr at hzr
            split at hzr
            · rename_i hq; exact ⟨_, hq, rfl⟩
            · rename_i hq
              refine ⟨_, hq, ?_⟩
              simp only [Bool.or_eq_true, beq_iff_eq] at hzr
              rcases hzr with rfl | rfl <;> decide
            · cases hzr
          obtain ⟨ty, hty, hnar⟩ := hn
          exact W.zret hx hb (hret.trans hty) hnar (fun t ht hW => ⟨rfl, by rw [ht]; exact hP', hm', hS'.F ht⟩) hS'.2.2 hd hlocks
        · exact W.lret hx hb (hret.trans hrt) (fun t ht hW => ⟨rfl, by rw [ht]; exact hP', hm', hS'.F ht⟩) hS'.2.2 hd hlocks
        · exact W.vret hx hb (hret.trans hrt) (fun t ht hW => ⟨rfl, by rw [ht]; exact hP', hm', hS'.F ht⟩) hS'.2.2 hd hlocks
      · cases h
    · rename_i hmi
      split at h
      · rename_i hd4
        exact hbi d y as M M1 v (Nat.le_of_ble_eq_true hd4) hmi h
      · cases h

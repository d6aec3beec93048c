/-! STRINGS: the JDK's own String.length and String.charAt, over the String constants -/
theorem jw_i1 : Cond.initialized RJ1 ∈ sm_TB := sm_inT (sm_t1 (List.mem_of_getElem? (i := 16) rfl)) rfl
theorem jw_i3 : Cond.initialized RJ3 ∈ sm_TB := sm_inT (sm_t1 (List.mem_of_getElem? (i := 17) rfl)) rfl
theorem jw_c_coder : Cond.code yJ0_coder_7d493 cJ0_coder_7d493 1 (some .byte) ∈ sm_TB := sm_inT (sm_t3 (List.mem_of_getElem? (i := 141) rfl)) rfl
theorem jw_h_coder : sm_hdk sm_TB yJ0_coder_7d493 cJ0_coder_7d493 1 (some .byte) 0 := ⟨jw_c_coder, wNJ0, ⟨by decide +kernel, by decide +kernel, by decide +kernel⟩, by decide⟩
theorem jw_c_isLatin1 : Cond.code yJ0_isLatin1_aae02 cJ0_isLatin1_aae02 1 (some .boolean) ∈ sm_TB := sm_inT (sm_t3 (List.mem_of_getElem? (i := 151) rfl)) rfl
theorem jw_h_isLatin1 : sm_hdk sm_TB yJ0_isLatin1_aae02 cJ0_isLatin1_aae02 1 (some .boolean) 0 := ⟨jw_c_isLatin1, wNJ0, ⟨by decide +kernel, by decide +kernel, by decide +kernel⟩, by decide⟩
theorem jw_c_check : Cond.code yJ0_checkIndex_df160 cJ0_checkIndex_df160 2 none ∈ sm_TB := sm_inT (sm_t3 (List.mem_of_getElem? (i := 157) rfl)) rfl
theorem jw_h_check : sm_hdk sm_TB yJ0_checkIndex_df160 cJ0_checkIndex_df160 2 none 2 := ⟨jw_c_check, wNJ0, ⟨by decide +kernel, by decide +kernel, by decide +kernel⟩, by decide⟩
theorem jw_c_l1 : Cond.code yJ1_charAt_3b067 cJ1_charAt_3b067 2 (some .char) ∈ sm_TB := sm_inT (sm_t3 (List.mem_of_getElem? (i := 154) rfl)) rfl
theorem jw_h_l1 : sm_hdk sm_TB yJ1_charAt_3b067 cJ1_charAt_3b067 2 (some .char) 2 := ⟨jw_c_l1, jw_i1, ⟨by decide +kernel, by decide +kernel, by decide +kernel⟩, by decide⟩
theorem jw_c_check3 : Cond.code yJ3_checkIndex_8e157 cJ3_checkIndex_8e157 3 (some .int) ∈ sm_TB := sm_inT (sm_t3 (List.mem_of_getElem? (i := 162) rfl)) rfl
theorem jw_h_check3 : sm_hdk sm_TB yJ3_checkIndex_8e157 cJ3_checkIndex_8e157 3 (some .int) 3 := ⟨jw_c_check3, jw_i3, ⟨by decide +kernel, by decide +kernel, by decide +kernel⟩, by decide⟩
theorem jw_m335 : Cond.methodLink RJ0 335 yJ0_coder_7d493 ∈ sm_TB := sm_inT (sm_t3 (List.mem_of_getElem? (i := 138) rfl)) rfl
theorem jw_n_coder : Cond.instanceMethod yJ0_coder_7d493 ∈ sm_TB := sm_inT (sm_t3 (List.mem_of_getElem? (i := 139) rfl)) rfl
theorem jw_v_coder : Cond.selects RJ0 yJ0_coder_7d493 yJ0_coder_7d493 ∈ sm_TB := sm_inT (sm_t3 (List.mem_of_getElem? (i := 140) rfl)) rfl
theorem jw_f38 : Cond.fieldLink RJ0 38 "java/lang/String" "COMPACT_STRINGS" "Z" ∈ sm_TB := sm_inT (sm_t3 (List.mem_of_getElem? (i := 142) rfl)) rfl
theorem jw_m492 : Cond.methodLink RJ0 492 yJ0_isLatin1_aae02 ∈ sm_TB := sm_inT (sm_t3 (List.mem_of_getElem? (i := 148) rfl)) rfl
theorem jw_n_isLatin1 : Cond.instanceMethod yJ0_isLatin1_aae02 ∈ sm_TB := sm_inT (sm_t3 (List.mem_of_getElem? (i := 149) rfl)) rfl
theorem jw_v_isLatin1 : Cond.selects RJ0 yJ0_isLatin1_aae02 yJ0_isLatin1_aae02 ∈ sm_TB := sm_inT (sm_t3 (List.mem_of_getElem? (i := 150) rfl)) rfl
theorem jw_m495 : Cond.methodLink RJ0 495 yJ1_charAt_3b067 ∈ sm_TB := sm_inT (sm_t3 (List.mem_of_getElem? (i := 152) rfl)) rfl
theorem jw_s_l1 : Cond.static yJ1_charAt_3b067 ∈ sm_TB := sm_inT (sm_t3 (List.mem_of_getElem? (i := 153) rfl)) rfl
theorem jw_m9 : Cond.methodLink RJ1 9 yJ0_checkIndex_df160 ∈ sm_TB := sm_inT (sm_t3 (List.mem_of_getElem? (i := 155) rfl)) rfl
theorem jw_s_check : Cond.static yJ0_checkIndex_df160 ∈ sm_TB := sm_inT (sm_t3 (List.mem_of_getElem? (i := 156) rfl)) rfl
theorem jw_f1053 : Cond.fieldLink RJ0 1053 "jdk/internal/util/Preconditions" "SIOOBE_FORMATTER" "Ljava/util/function/BiFunction;" ∈ sm_TB := sm_inT (sm_t3 (List.mem_of_getElem? (i := 158) rfl)) rfl
theorem jw_m1059 : Cond.methodLink RJ0 1059 yJ3_checkIndex_8e157 ∈ sm_TB := sm_inT (sm_t3 (List.mem_of_getElem? (i := 160) rfl)) rfl
theorem jw_s_check3 : Cond.static yJ3_checkIndex_8e157 ∈ sm_TB := sm_inT (sm_t3 (List.mem_of_getElem? (i := 161) rfl)) rfl
theorem jw_f9 : Cond.fieldLink RJ0 9 "java/lang/String" "value" "[B" ∈ sm_TB := sm_inT (sm_t8 (List.mem_of_getElem? (i := 46) rfl)) rfl
theorem jw_f15 : Cond.fieldLink RJ0 15 "java/lang/String" "coder" "B" ∈ sm_TB := sm_inT (sm_t8 (List.mem_of_getElem? (i := 47) rfl)) rfl
theorem dJ0_length_8abf5_0 : decode cJ0_length_8abf5 0 = .ok (.aload_n 0, 1) := by decide +kernel
theorem dJ0_length_8abf5_1 : decode cJ0_length_8abf5 1 = .ok (.getfield 9, 3) := by decide +kernel
theorem dJ0_length_8abf5_4 : decode cJ0_length_8abf5 4 = .ok (.arraylength, 1) := by decide +kernel
theorem dJ0_length_8abf5_5 : decode cJ0_length_8abf5 5 = .ok (.aload_n 0, 1) := by decide +kernel
theorem dJ0_length_8abf5_6 : decode cJ0_length_8abf5 6 = .ok (.invokevirtual 335, 3) := by decide +kernel
theorem dJ0_length_8abf5_9 : decode cJ0_length_8abf5 9 = .ok (.ishr, 1) := by decide +kernel
theorem dJ0_length_8abf5_10 : decode cJ0_length_8abf5 10 = .ok (.ireturn, 1) := by decide +kernel
theorem dJ0_charAt_5068e_0 : decode cJ0_charAt_5068e 0 = .ok (.aload_n 0, 1) := by decide +kernel
theorem dJ0_charAt_5068e_1 : decode cJ0_charAt_5068e 1 = .ok (.invokevirtual 492, 3) := by decide +kernel
theorem dJ0_charAt_5068e_4 : decode cJ0_charAt_5068e 4 = .ok (.ifCond .eq 12, 3) := by decide +kernel
theorem dJ0_charAt_5068e_7 : decode cJ0_charAt_5068e 7 = .ok (.aload_n 0, 1) := by decide +kernel
theorem dJ0_charAt_5068e_8 : decode cJ0_charAt_5068e 8 = .ok (.getfield 9, 3) := by decide +kernel
theorem dJ0_charAt_5068e_11 : decode cJ0_charAt_5068e 11 = .ok (.iload_n 1, 1) := by decide +kernel
theorem dJ0_charAt_5068e_12 : decode cJ0_charAt_5068e 12 = .ok (.invokestatic 495, 3) := by decide +kernel
theorem dJ0_charAt_5068e_15 : decode cJ0_charAt_5068e 15 = .ok (.ireturn, 1) := by decide +kernel
theorem dJ0_charAt_5068e_16 : decode cJ0_charAt_5068e 16 = .ok (.aload_n 0, 1) := by decide +kernel
theorem dJ0_charAt_5068e_17 : decode cJ0_charAt_5068e 17 = .ok (.getfield 9, 3) := by decide +kernel
theorem dJ0_charAt_5068e_20 : decode cJ0_charAt_5068e 20 = .ok (.iload_n 1, 1) := by decide +kernel
theorem dJ0_charAt_5068e_21 : decode cJ0_charAt_5068e 21 = .ok (.invokestatic 498, 3) := by decide +kernel
theorem dJ0_charAt_5068e_24 : decode cJ0_charAt_5068e 24 = .ok (.ireturn, 1) := by decide +kernel
theorem dJ0_coder_7d493_0 : decode cJ0_coder_7d493 0 = .ok (.getstatic 38, 3) := by decide +kernel
theorem dJ0_coder_7d493_3 : decode cJ0_coder_7d493 3 = .ok (.ifCond .eq 10, 3) := by decide +kernel
theorem dJ0_coder_7d493_6 : decode cJ0_coder_7d493 6 = .ok (.aload_n 0, 1) := by decide +kernel
theorem dJ0_coder_7d493_7 : decode cJ0_coder_7d493 7 = .ok (.getfield 15, 3) := by decide +kernel
theorem dJ0_coder_7d493_10 : decode cJ0_coder_7d493 10 = .ok (.goto 4, 3) := by decide +kernel
theorem dJ0_coder_7d493_13 : decode cJ0_coder_7d493 13 = .ok (.iconst 1, 1) := by decide +kernel
theorem dJ0_coder_7d493_14 : decode cJ0_coder_7d493 14 = .ok (.ireturn, 1) := by decide +kernel
theorem dJ0_isLatin1_aae02_0 : decode cJ0_isLatin1_aae02 0 = .ok (.getstatic 38, 3) := by decide +kernel
theorem dJ0_isLatin1_aae02_3 : decode cJ0_isLatin1_aae02 3 = .ok (.ifCond .eq 14, 3) := by decide +kernel
theorem dJ0_isLatin1_aae02_6 : decode cJ0_isLatin1_aae02 6 = .ok (.aload_n 0, 1) := by decide +kernel
theorem dJ0_isLatin1_aae02_7 : decode cJ0_isLatin1_aae02 7 = .ok (.getfield 15, 3) := by decide +kernel
theorem dJ0_isLatin1_aae02_10 : decode cJ0_isLatin1_aae02 10 = .ok (.ifCond .ne 7, 3) := by decide +kernel
theorem dJ0_isLatin1_aae02_13 : decode cJ0_isLatin1_aae02 13 = .ok (.iconst 1, 1) := by decide +kernel
theorem dJ0_isLatin1_aae02_14 : decode cJ0_isLatin1_aae02 14 = .ok (.goto 4, 3) := by decide +kernel
theorem dJ0_isLatin1_aae02_17 : decode cJ0_isLatin1_aae02 17 = .ok (.iconst 0, 1) := by decide +kernel
theorem dJ0_isLatin1_aae02_18 : decode cJ0_isLatin1_aae02 18 = .ok (.ireturn, 1) := by decide +kernel
theorem dJ0_checkIndex_df160_0 : decode cJ0_checkIndex_df160 0 = .ok (.iload_n 0, 1) := by decide +kernel
theorem dJ0_checkIndex_df160_1 : decode cJ0_checkIndex_df160 1 = .ok (.iload_n 1, 1) := by decide +kernel
theorem dJ0_checkIndex_df160_2 : decode cJ0_checkIndex_df160 2 = .ok (.getstatic 1053, 3) := by decide +kernel
theorem dJ0_checkIndex_df160_5 : decode cJ0_checkIndex_df160 5 = .ok (.invokestatic 1059, 3) := by decide +kernel
theorem dJ0_checkIndex_df160_8 : decode cJ0_checkIndex_df160 8 = .ok (.pop, 1) := by decide +kernel
theorem dJ0_checkIndex_df160_9 : decode cJ0_checkIndex_df160 9 = .ok (.return_, 1) := by decide +kernel
theorem dJ1_charAt_3b067_0 : decode cJ1_charAt_3b067 0 = .ok (.iload_n 1, 1) := by decide +kernel
theorem dJ1_charAt_3b067_1 : decode cJ1_charAt_3b067 1 = .ok (.aload_n 0, 1) := by decide +kernel
theorem dJ1_charAt_3b067_2 : decode cJ1_charAt_3b067 2 = .ok (.arraylength, 1) := by decide +kernel
theorem dJ1_charAt_3b067_3 : decode cJ1_charAt_3b067 3 = .ok (.invokestatic 9, 3) := by decide +kernel
theorem dJ1_charAt_3b067_6 : decode cJ1_charAt_3b067 6 = .ok (.aload_n 0, 1) := by decide +kernel
theorem dJ1_charAt_3b067_7 : decode cJ1_charAt_3b067 7 = .ok (.iload_n 1, 1) := by decide +kernel
theorem dJ1_charAt_3b067_8 : decode cJ1_charAt_3b067 8 = .ok (.baload, 1) := by decide +kernel
theorem dJ1_charAt_3b067_9 : decode cJ1_charAt_3b067 9 = .ok (.sipush 255, 3) := by decide +kernel
theorem dJ1_charAt_3b067_12 : decode cJ1_charAt_3b067 12 = .ok (.iand, 1) := by decide +kernel
theorem dJ1_charAt_3b067_13 : decode cJ1_charAt_3b067 13 = .ok (.i2c, 1) := by decide +kernel
theorem dJ1_charAt_3b067_14 : decode cJ1_charAt_3b067 14 = .ok (.ireturn, 1) := by decide +kernel
theorem dJ3_checkIndex_8e157_0 : decode cJ3_checkIndex_8e157 0 = .ok (.iload_n 0, 1) := by decide +kernel
theorem dJ3_checkIndex_8e157_1 : decode cJ3_checkIndex_8e157 1 = .ok (.ifCond .lt 8, 3) := by decide +kernel
theorem dJ3_checkIndex_8e157_4 : decode cJ3_checkIndex_8e157 4 = .ok (.iload_n 0, 1) := by decide +kernel
theorem dJ3_checkIndex_8e157_5 : decode cJ3_checkIndex_8e157 5 = .ok (.iload_n 1, 1) := by decide +kernel
theorem dJ3_checkIndex_8e157_6 : decode cJ3_checkIndex_8e157 6 = .ok (.if_icmp .lt 10, 3) := by decide +kernel
theorem dJ3_checkIndex_8e157_9 : decode cJ3_checkIndex_8e157 9 = .ok (.aload_n 2, 1) := by decide +kernel
theorem dJ3_checkIndex_8e157_10 : decode cJ3_checkIndex_8e157 10 = .ok (.iload_n 0, 1) := by decide +kernel
theorem dJ3_checkIndex_8e157_11 : decode cJ3_checkIndex_8e157 11 = .ok (.iload_n 1, 1) := by decide +kernel
theorem dJ3_checkIndex_8e157_12 : decode cJ3_checkIndex_8e157 12 = .ok (.invokestatic 95, 3) := by decide +kernel
theorem dJ3_checkIndex_8e157_15 : decode cJ3_checkIndex_8e157 15 = .ok (.athrow, 1) := by decide +kernel
theorem dJ3_checkIndex_8e157_16 : decode cJ3_checkIndex_8e157 16 = .ok (.iload_n 0, 1) := by decide +kernel
theorem dJ3_checkIndex_8e157_17 : decode cJ3_checkIndex_8e157 17 = .ok (.ireturn, 1) := by decide +kernel
abbrev jk_rm (d : Nat) : Room := { frames := d, cells := 0, slots := 0, locals := d * 80 }
theorem jk_rmE (d : Nat) (M : sm_M) : sm_rm d M M = jk_rm d := by
  unfold sm_rm
  rw [Nat.sub_self, Nat.sub_self]
def jk_mi (y : MethodName) (b : ByteArray) (n : Nat) (rt : Option FieldType) : sm_MI := (y, b, n, rt, [], [], [], [], [], [])
def jk_len : List Nat := [5, 6, 5, 3, 2, 6, 4, 4]
def jk_byt : List (List Int32) := [[98, 108, 111, 99, 107], [116, 104, 114, 101, 97, 100], [116, 114, 101, 97, 100], [116, 105, 101], [116, 111], [109, 105, 114, 114, 111, 114], [98, 97, 99, 107], [112, 108, 117, 115]]
/-- the script, the String constants, two statics: they lie below B -/
def jk_X (B : Nat) (ad : Nat → Nat) (f0 : Value) (L : Nat) (xs : Nat → Int32) (s : State) (H : Heap) : Prop := va_X (ad 1000) L xs s H ∧ ¬ B ≤ ad 1000 ∧ vk_S 8 jk_len jk_byt (fun i => ad (1001 + i)) (fun i => ad (1101 + i)) (fun q => B ≤ q) s H ∧ va_Z "java/lang/String" "COMPACT_STRINGS" "Z" (.int 1) (fun q => B ≤ q) s H ∧ va_Z "jdk/internal/util/Preconditions" "SIOOBE_FORMATTER" "Ljava/util/function/BiFunction;" (sm_cv B ad f0) (fun q => B ≤ q) s H
theorem jk_nst {w : Cond} (hn : sm_nst w = true) : w.onTables = true ∧ ∀ s U : State, s.WarmedH U.vm → va_Nw w s → va_Nw w U := by
  cases w <;> first
    | exact ⟨rfl, fun s U hW hZ => va_Nw.warmF hW hZ⟩
    | exact ⟨rfl, fun s U hW hZ => va_Nw.warmM hW hZ⟩
    | exact Bool.noConfusion hn
theorem jk_E (B : Nat) (ad : Nat → Nat) (f0 : Value) (L : Nat) (xs : Nat → Int32) : sm_okE sm_TB sm_NB (jk_X B ad f0 L xs) B := by
  refine ⟨fun w hw => (List.mem_filter.mp hw).2, fun w hw => jk_nst (List.mem_filter.mp hw).2, ?_, ?_⟩
  · intro u U H hal h
    obtain ⟨⟨scr, a1, a2, a3⟩, h2, h3, h4, h5⟩ := h
    exact ⟨⟨scr, a1, State.isArrayOf_alike hal a2, a3⟩, h2, h3.moved hal, h4.moved hal, h5.moved hal⟩
  · intro U H H1 hq h
    obtain ⟨⟨scr, a1, a2, a3⟩, h2, h3, h4, h5⟩ := h
    exact ⟨⟨scr, by rw [hq _ (Array.getElem?_eq_some_iff.mp a1).1 h2]; exact a1, a2, a3⟩, h2, h3.kept hq, h4.kept hq, h5.kept hq⟩
theorem jk_R (B : Nat) (ad : Nat → Nat) (f0 : Value) (L : Nat) (xs : Nat → Int32) : sm_okR B ad (jk_X B ad f0 L xs) := by
  intro s H h b h1 h2
  obtain ⟨i, rfl⟩ : ∃ i, b = 1001 + i := ⟨b - 1001, by omega⟩
  obtain ⟨cell, g1, g2, g3, -⟩ := (h.2.2.1.1 i (by omega)).1
  exact ⟨cell, by rw [show sm_rho B ad (1001 + i) = ad (1001 + i) from if_neg (by omega)]; exact g1, g2, g3⟩
theorem jk_S (B : Nat) (ad : Nat → Nat) (f0 : Value) (L : Nat) (xs : Nat → Int32) (s : State) (h : jk_X B ad f0 L xs s s.heap) : sm_okX B ad s (some (L, xs)) := by
  intro n g e
  cases e
  have e2 : sm_rho B ad sm_SC = ad 1000 := if_neg (by decide)
  rw [e2]
  obtain ⟨h1, h2, -⟩ := h
  refine ⟨h1, ?_, h2⟩
  obtain ⟨scr, a1, -⟩ := h1
  exact (Array.getElem?_eq_some_iff.mp a1).1
set_option maxHeartbeats 4000000 in
set_option maxRecDepth 20000 in
theorem jk_met {l : Launch} {D : va_G} {cl : List vw_C} {τ : Nat → ClassId} {B : Nat} {ad : Nat → Nat} {XT : State → Heap → Prop} {yN : MethodName} {bytes : ByteArray} {mL : Nat} {rt : Option FieldType} {as : List Value} {M : sm_M} {v : Option Value} {d : Nat} (hpl : plainName yN.cls = true) (hble : (sm_ent as).length ≤ mL)
    (body : ∀ (p : Program) (e : Env) (s : State) (m : MethodId) (below : List Frame) (meth : Method) (c : Code) (ls : Array Slot), sm_C p s m ((as.map (sm_cv B ad)).toArray) meth c D cl τ B ad sm_TB sm_NB sm_sks XT M.length (jk_mi yN bytes mL rt) → meth.locks = false → meth.sig.returnType = rt → lv_has ls mL (lv_args 0 (as.map (sm_cv B ad))) → va_P D cl (sm_w τ B ad 0 M) s.heap → M.length ≤ 1000 → W p l e (jk_rm d) s m ((as.map (sm_cv B ad)).toArray) below meth c s.heap [] 0 0 (MQ below (sm_Post D cl τ B ad M v) ((as.map (sm_cv B ad)).toArray) s 0 0 (fun q => B ≤ q)) (F0 m 0 ls [])) :
    Met l yN (.code yN bytes mL rt :: sm_TB) (jk_rm d) (sm_Pre D cl τ B ad sm_NB sm_sks XT as M) (sm_Post D cl τ B ad M v) 0 0 (fun q => B ≤ q) := by
  refine Met.ofW (cc := bytes) (maxL := mL) (ret := rt) hpl rfl ?_
  intro p e s m args below meth c s₁ Bd hml hv
  obtain ⟨rfl, hP, hm, hz, hK, hN, hS, hX⟩ := hv
  have hts := atoms_spec (ws := Cond.code yN bytes mL rt :: sm_TB) Bd.pre
  have C0 : sm_C p s m ((as.map (sm_cv B ad)).toArray) meth c D cl τ B ad sm_TB sm_NB sm_sks XT M.length (jk_mi yN bytes mL rt) := ⟨Bd.exec, Bd.bytes, hml, findClass_of_methodNamed Bd.named, fun w hw => hts w (List.mem_cons_of_mem _ hw), hN, hK, hS, hX, hz, fun hn => (name_of_methodNamed Bd.named Bd.method).1.trans hn⟩
  have hl := lv_entry (as.map (sm_cv B ad)) (n := mL) (by rw [sm_ent_len]; exact hble)
  rw [lg_entry_eq]
  exact body p e s m below meth c _ C0 Bd.notSynchronized Bd.returns hl hP hm
set_option maxHeartbeats 4000000 in
set_option maxRecDepth 20000 in
theorem jk_callS {p : Program} {l : Launch} {e : Env} {R : Room} {s : State} {m : MethodId} {args : Array Value} {below : List Frame} {meth : Method} {c : Code} {Q : State → Prop} {D : va_G} {cl : List vw_C} {τ : Nat → ClassId} {B : Nat} {ad : Nat → Nat} {XT : State → Heap → Prop} {m0 : Nat} {mi : sm_MI} {yN : MethodName} {bytes : ByteArray} {mL n d x pc : Nat} {rt : Option FieldType} {as rest : List Value} {M : sm_M} {v : Option Value} {ls : Array Slot} {H : Heap} {locs : List Loc} (C0 : sm_C p s m args meth c D cl τ B ad sm_TB sm_NB sm_sks XT m0 mi) (hE : sm_okE sm_TB sm_NB XT B) (hmet : Met l yN (.code yN bytes mL rt :: sm_TB) (jk_rm d) (sm_Pre D cl τ B ad sm_NB sm_sks XT as M) (sm_Post D cl τ B ad M v) 0 0 (fun q => B ≤ q)) (hhd : sm_hdk sm_TB yN bytes mL rt n) (hlk : Cond.methodLink mi.1.cls x yN ∈ sm_TB) (hst : Cond.static yN ∈ sm_TB) (hn : as.length = n) (hm0 : m0 = M.length) (hP : va_P D cl (sm_w τ B ad 0 M) H) (hm : M.length ≤ 1000) (hS : va_S (fun q => B ≤ q) s.heap H locs) (hls : ls.size = mi.2.2.1) (hR : d + 1 ≤ R.frames ∧ d * 80 + 80 ≤ R.locals) (hd : decode mi.2.1 pc = .ok (.invokestatic x, 3)) (hlow : (rest.map fun v => v.category).sum ≤ 8) (kk : ∀ (H1 : Heap) (locs1 : List Loc), va_P D cl (sm_w τ B ad 0 M) H1 → va_S (fun q => B ≤ q) s.heap H1 locs1 → W p l e R s m args below meth c H1 locs1 0 0 Q (F0 m (pc + 3) ls ((v.map (sm_cv B ad)).toList ++ rest))) : W p l e R s m args below meth c H locs 0 0 Q (F0 m pc ls ((as.map (sm_cv B ad)).reverse ++ rest)) := by
  refine sm_size_le (fun hle => ?_)
  have hz := sm_size hP hm hS C0.2.2.2.2.2.2.2.2.2.1 (show 0 + m0 = M.length by omega) hle
  have hpre := sm_preU C0 hE hP hm hz hS as
  obtain ⟨hcd, hini, hdd, hmL⟩ := hhd
  refine sm_after (D := D) (cl := cl) (τ := τ) (ad := ad) (a := (as.map (sm_cv B ad)).toArray) (rest := rest) (M1 := M) (v := v) (mc := 0) (ms := 0) ?_ hS (fun H1 locs1 hP1 hm1 hS1 => kk H1 locs1 hP1 hS1)
  exact va_runS (As := as.map (sm_cv B ad)) ⟨C0.1, C0.2.1, C0.2.2.1, C0.2.2.2.1, C0.2.2.2.2.1⟩ hmet ⟨callB_of n C0.2.2.2.2.1 (sm_goodIn hE.1 hcd) rfl rfl rfl (C0.2.2.2.2.1 _ hini) (C0.2.2.2.2.1 _ hlk) hdd ⟨hR.1, by show 8 + (mL + 11) + d * 80 ≤ R.locals; omega⟩, C0.2.2.2.2.1 _ hst⟩ ⟨sm_blind hE, hpre⟩ rfl (by rw [List.length_map]; exact hn) hls rfl (lv_room hlow) hd ⟨by omega, by omega⟩
set_option maxHeartbeats 4000000 in
set_option maxRecDepth 20000 in
theorem jk_callV {p : Program} {l : Launch} {e : Env} {R : Room} {s : State} {m : MethodId} {args : Array Value} {below : List Frame} {meth : Method} {c : Code} {Q : State → Prop} {D : va_G} {cl : List vw_C} {τ : Nat → ClassId} {B : Nat} {ad : Nat → Nat} {XT : State → Heap → Prop} {m0 : Nat} {mi : sm_MI} {yN : MethodName} {bytes : ByteArray} {mL d x pc w : Nat} {rt : Option FieldType} {rest : List Value} {M : sm_M} {v : Option Value} {ls : Array Slot} {H : Heap} {locs : List Loc} (C0 : sm_C p s m args meth c D cl τ B ad sm_TB sm_NB sm_sks XT m0 mi) (hE : sm_okE sm_TB sm_NB XT B) (hmet : Met l yN (.code yN bytes mL rt :: sm_TB) (jk_rm d) (sm_Pre D cl τ B ad sm_NB sm_sks XT [.ref w] M) (sm_Post D cl τ B ad M v) 0 0 (fun q => B ≤ q)) (hhd : sm_hdk sm_TB yN bytes mL rt 0) (hlk : Cond.methodLink mi.1.cls x yN ∈ sm_TB) (hst : Cond.instanceMethod yN ∈ sm_TB) (hsel : Cond.selects "java/lang/String" yN yN ∈ sm_TB) (hrc : ∃ cell : Cell, H[sm_rho B ad w]? = some cell ∧ cell.vm.isStatics = false ∧ s.vm.findClass "java/lang/String" = some cell.cls) (hm0 : m0 = M.length) (hP : va_P D cl (sm_w τ B ad 0 M) H) (hm : M.length ≤ 1000) (hS : va_S (fun q => B ≤ q) s.heap H locs) (hls : ls.size = mi.2.2.1) (hR : d + 1 ≤ R.frames ∧ d * 80 + 80 ≤ R.locals) (hd : decode mi.2.1 pc = .ok (.invokevirtual x, 3)) (hlow : (rest.map fun v => v.category).sum ≤ 8) (kk : ∀ (H1 : Heap) (locs1 : List Loc), va_P D cl (sm_w τ B ad 0 M) H1 → va_S (fun q => B ≤ q) s.heap H1 locs1 → W p l e R s m args below meth c H1 locs1 0 0 Q (F0 m (pc + 3) ls ((v.map (sm_cv B ad)).toList ++ rest))) : W p l e R s m args below meth c H locs 0 0 Q (F0 m pc ls (.ref (sm_rho B ad w) :: rest)) := by
  refine sm_size_le (fun hle => ?_)
  have hz := sm_size hP hm hS C0.2.2.2.2.2.2.2.2.2.1 (show 0 + m0 = M.length by omega) hle
  have hpre := sm_preU C0 hE hP hm hz hS [.ref w]
  obtain ⟨hcd, hini, hdd, hmL⟩ := hhd
  refine sm_after (D := D) (cl := cl) (τ := τ) (ad := ad) (a := (([.ref w] : List Value).map (sm_cv B ad)).toArray) (rest := rest) (M1 := M) (v := v) (mc := 0) (ms := 0) ?_ hS (fun H1 locs1 hP1 hm1 hS1 => kk H1 locs1 hP1 hS1)
  exact va_runV (As := []) (b := sm_rho B ad w) (C := "java/lang/String") ⟨C0.1, C0.2.1, C0.2.2.1, C0.2.2.2.1, C0.2.2.2.2.1⟩ hmet ⟨callB_of 0 C0.2.2.2.2.1 (sm_goodIn hE.1 hcd) rfl rfl rfl (C0.2.2.2.2.1 _ hini) (C0.2.2.2.2.1 _ hlk) hdd ⟨hR.1, by show 8 + (mL + 11) + d * 80 ≤ R.locals; omega⟩, C0.2.2.2.2.1 _ hst, C0.2.2.2.2.1 _ hsel⟩ ⟨sm_blind hE, hrc, hpre⟩ rfl rfl hls rfl (lv_room hlow) hd ⟨by omega, by omega⟩
set_option maxHeartbeats 4000000 in
set_option maxRecDepth 20000 in
theorem jk_check3 {l : Launch} {D : va_G} {cl : List vw_C} {τ : Nat → ClassId} {B : Nat} {ad : Nat → Nat} {XT : State → Heap → Prop} {M : sm_M} {k n : Int32} {f : Value} (hf : f = .null ∨ ∃ t, f = .ref t) (h0 : ¬ k < 0) (h1 : k < n) (d : Nat) : Met l yJ3_checkIndex_8e157 (.code yJ3_checkIndex_8e157 cJ3_checkIndex_8e157 3 (some .int) :: sm_TB) (jk_rm (d + 1)) (sm_Pre D cl τ B ad sm_NB sm_sks XT [.int k, .int n, f] M) (sm_Post D cl τ B ad M (some (.int k))) 0 0 (fun q => B ≤ q) := by
  refine jk_met (by decide +kernel) ?_ ?_
  · rcases hf with rfl | ⟨t, rfl⟩ <;> exact Nat.le_refl 3
  intro p e s m below meth c ls C0 hlk hrt hl hP hm
  have hx := C0.1
  have hb : c.code = cJ3_checkIndex_8e157 := C0.2.1
  refine lv_iload_n hx hb dJ3_checkIndex_8e157_0 rfl (lv_at hl 0 rfl) ?_
  refine lv_if_lt (tgt := 9) hx hb dJ3_checkIndex_8e157_1 rfl (fun h => absurd h h0) (fun _ => ?_)
  refine lv_iload_n hx hb dJ3_checkIndex_8e157_4 rfl (lv_at hl 0 rfl) ?_
  refine lv_iload_n hx hb dJ3_checkIndex_8e157_5 rfl (lv_at hl 1 rfl) ?_
  refine lv_icmp_lt (tgt := 16) hx hb dJ3_checkIndex_8e157_6 rfl (fun _ => ?_) (fun h => absurd h1 h)
  refine lv_iload_n hx hb dJ3_checkIndex_8e157_16 rfl (lv_at hl 0 rfl) ?_
  exact W.zret hx hb hrt rfl (fun t ht _ => ⟨rfl, by rw [ht]; exact hP, hm, va_S.rf.F ht⟩) (va_S.rf (A := fun q => B ≤ q) (H0 := s.heap)).2.2 dJ3_checkIndex_8e157_17 hlk
set_option maxHeartbeats 4000000 in
set_option maxRecDepth 20000 in
theorem jk_check {l : Launch} {D : va_G} {cl : List vw_C} {τ : Nat → ClassId} {B : Nat} {ad : Nat → Nat} {f0 : Value} {L : Nat} {xs : Nat → Int32} {M : sm_M} (hf : f0 = .null ∨ ∃ t, f0 = .ref t) {k n : Int32} (h0 : ¬ k < 0) (h1 : k < n) (d : Nat) : Met l yJ0_checkIndex_df160 (.code yJ0_checkIndex_df160 cJ0_checkIndex_df160 2 none :: sm_TB) (jk_rm (d + 2)) (sm_Pre D cl τ B ad sm_NB sm_sks (jk_X B ad f0 L xs) [.int k, .int n] M) (sm_Post D cl τ B ad M none) 0 0 (fun q => B ≤ q) := by
  refine jk_met (by decide +kernel) (Nat.le_refl 2) ?_
  intro p e s m below meth c ls C0 hlk hrt hl hP hm
  have hx := C0.1
  have hown := C0.2.2.2.1
  have hts := C0.2.2.2.2.1
  have hX := C0.2.2.2.2.2.2.2.2.1
  have hb : c.code = cJ0_checkIndex_df160 := C0.2.1
  refine lv_iload_n hx hb dJ0_checkIndex_df160_0 rfl (lv_at hl 0 rfl) ?_
  refine lv_iload_n hx hb dJ0_checkIndex_df160_1 rfl (lv_at hl 1 rfl) ?_
  refine va_gets hx hb hX.2.2.2.2 va_S.rf hown (hts _ jw_f1053) (fun _ h => h) dJ0_checkIndex_df160_2 ?_
  refine jk_callS (as := [.int k, .int n, f0]) (rest := []) (v := some (.int k)) C0 (jk_E B ad f0 L xs) (jk_check3 hf h0 h1 d) jw_h_check3 jw_m1059 jw_s_check3 rfl rfl hP hm va_S.rf hl.1 ⟨Nat.le_refl _, by show (d + 1) * 80 + 80 ≤ (d + 2) * 80; omega⟩ dJ0_checkIndex_df160_5 (by decide) (fun H1 locs1 hP1 hS1 => ?_)
  refine lv_pop hx hb dJ0_checkIndex_df160_8 rfl ?_
  exact W.vret hx hb hrt (fun t ht _ => ⟨rfl, by rw [ht]; exact hP1, hm, hS1.F ht⟩) hS1.2.2 dJ0_checkIndex_df160_9 hlk
theorem jk_lens : ∀ i, i < 8 → jk_len.getD i 0 < 100 ∧ jk_len.getD i 0 = (sm_wd (1001 + i)).length ∧ jk_byt.getD i [] = sm_wd (1001 + i) := by decide
theorem jk_chars : ∀ i, i < 8 → ∀ j, j < jk_len.getD i 0 → ((((jk_byt.getD i []).getD j 0 &&& 255).toUInt32 % 65536).toInt32 = (jk_byt.getD i []).getD j 0 ∧ narrow .char (.int ((jk_byt.getD i []).getD j 0)) = .int ((jk_byt.getD i []).getD j 0)) := by decide +kernel
set_option maxHeartbeats 4000000 in
set_option maxRecDepth 20000 in
theorem jk_l1 {l : Launch} {D : va_G} {cl : List vw_C} {τ : Nat → ClassId} {B : Nat} {ad : Nat → Nat} {f0 : Value} {L : Nat} {xs : Nat → Int32} {M : sm_M} (hf : f0 = .null ∨ ∃ t, f0 = .ref t) {i j : Nat} (hi : i < 8) (hj : j < jk_len.getD i 0) (d : Nat) : Met l yJ1_charAt_3b067 (.code yJ1_charAt_3b067 cJ1_charAt_3b067 2 (some .char) :: sm_TB) (jk_rm (d + 3)) (sm_Pre D cl τ B ad sm_NB sm_sks (jk_X B ad f0 L xs) [.ref (1101 + i), .int (nI j)] M) (sm_Post D cl τ B ad M (some (.int ((jk_byt.getD i []).getD j 0)))) 0 0 (fun q => B ≤ q) := by
  have hle := (jk_lens i hi).1
  refine jk_met (by decide +kernel) (Nat.le_refl 2) ?_
  intro p e s m below meth c ls C0 hlk hrt hl hP hm
  have hx := C0.1
  have hown := C0.2.2.2.1
  have hts := C0.2.2.2.2.1
  have hX := C0.2.2.2.2.2.2.2.2.1
  have hb : c.code = cJ1_charAt_3b067 := C0.2.1
  have er : sm_rho B ad (1101 + i) = ad (1101 + i) := if_neg (by omega)
  have hl : lv_has ls 2 [(0, .ref (ad (1101 + i))), (1, .int (nI j))] := by rw [← er]; exact hl
  have hT := (hX.2.2.1.1 i hi).2.2.2
  refine lv_iload_n hx hb dJ1_charAt_3b067_0 rfl (lv_at hl 1 rfl) ?_
  refine lv_aload_n hx hb dJ1_charAt_3b067_1 rfl (lv_at hl 0 rfl) ?_
  refine va_tlen (v := nI (jk_len.getD i 0)) hx hb hT va_S.rf rfl dJ1_charAt_3b067_2 ?_
  refine jk_callS (as := [.int (nI j), .int (nI (jk_len.getD i 0))]) (rest := []) (v := none) C0 (jk_E B ad f0 L xs) (jk_check hf (nI_pos (by omega)) (nI_lt hj (by omega)) d) jw_h_check jw_m9 jw_s_check rfl rfl hP hm va_S.rf hl.1 ⟨Nat.le_refl _, by show (d + 2) * 80 + 80 ≤ (d + 3) * 80; omega⟩ dJ1_charAt_3b067_3 (by decide) (fun H1 locs1 hP1 hS1 => ?_)
  refine lv_aload_n hx hb dJ1_charAt_3b067_6 rfl (lv_at hl 0 rfl) ?_
  refine lv_iload_n hx hb dJ1_charAt_3b067_7 rfl (lv_at hl 1 rfl) ?_
  refine va_tb (v := .int ((jk_byt.getD i []).getD j 0)) hx hb hT hS1 (vp_in_nI hj (by omega)) (by rw [nI_clamp (by omega)]) dJ1_charAt_3b067_8 ?_
  refine lv_sipush (v := 255) hx hb dJ1_charAt_3b067_9 (by decide) ?_
  refine lv_iand hx hb dJ1_charAt_3b067_12 ?_
  refine lv_i2c hx hb dJ1_charAt_3b067_13 (jk_chars i hi j hj).1 ?_
  exact W.zret hx hb hrt (jk_chars i hi j hj).2 (fun t ht _ => ⟨rfl, by rw [ht]; exact hP1, hm, hS1.F ht⟩) hS1.2.2 dJ1_charAt_3b067_14 hlk
set_option maxHeartbeats 4000000 in
set_option maxRecDepth 20000 in
theorem jk_coder {l : Launch} {D : va_G} {cl : List vw_C} {τ : Nat → ClassId} {B : Nat} {ad : Nat → Nat} {f0 : Value} {L : Nat} {xs : Nat → Int32} {M : sm_M} {i : Nat} (hi : i < 8) (d : Nat) : Met l yJ0_coder_7d493 (.code yJ0_coder_7d493 cJ0_coder_7d493 1 (some .byte) :: sm_TB) (jk_rm (d + 1)) (sm_Pre D cl τ B ad sm_NB sm_sks (jk_X B ad f0 L xs) [.ref (1001 + i)] M) (sm_Post D cl τ B ad M (some (.int 0))) 0 0 (fun q => B ≤ q) := by
  refine jk_met (by decide +kernel) (Nat.le_refl 1) ?_
  intro p e s m below meth c ls C0 hlk hrt hl hP hm
  have hx := C0.1
  have hown := C0.2.2.2.1
  have hts := C0.2.2.2.2.1
  have hX := C0.2.2.2.2.2.2.2.2.1
  have hb : c.code = cJ0_coder_7d493 := C0.2.1
  have er : sm_rho B ad (1001 + i) = ad (1001 + i) := if_neg (by omega)
  have hl : lv_has ls 1 [(0, .ref (ad (1001 + i)))] := by rw [← er]; exact hl
  refine va_gets hx hb hX.2.2.2.1 va_S.rf hown (hts _ jw_f38) (fun _ h => h) dJ0_coder_7d493_0 ?_
  refine lv_if_eq (tgt := 13) hx hb dJ0_coder_7d493_3 rfl (fun h => absurd h (by decide)) (fun _ => ?_)
  refine lv_aload_n hx hb dJ0_coder_7d493_6 rfl (lv_at hl 0 rfl) ?_
  refine vk_getf hx hb (hX.2.2.1.1 i hi).2.1 va_S.rf hown (hts _ jw_f15) (fun _ h => h) dJ0_coder_7d493_7 ?_
  refine lv_goto (tgt := 14) hx hb dJ0_coder_7d493_10 rfl ?_
  exact W.zret hx hb hrt (by decide) (fun t ht _ => ⟨rfl, by rw [ht]; exact hP, hm, va_S.rf.F ht⟩) (va_S.rf (A := fun q => B ≤ q) (H0 := s.heap)).2.2 dJ0_coder_7d493_14 hlk
set_option maxHeartbeats 4000000 in
set_option maxRecDepth 20000 in
theorem jk_isLatin1 {l : Launch} {D : va_G} {cl : List vw_C} {τ : Nat → ClassId} {B : Nat} {ad : Nat → Nat} {f0 : Value} {L : Nat} {xs : Nat → Int32} {M : sm_M} {i : Nat} (hi : i < 8) (d : Nat) : Met l yJ0_isLatin1_aae02 (.code yJ0_isLatin1_aae02 cJ0_isLatin1_aae02 1 (some .boolean) :: sm_TB) (jk_rm (d + 1)) (sm_Pre D cl τ B ad sm_NB sm_sks (jk_X B ad f0 L xs) [.ref (1001 + i)] M) (sm_Post D cl τ B ad M (some (.int 1))) 0 0 (fun q => B ≤ q) := by
  refine jk_met (by decide +kernel) (Nat.le_refl 1) ?_
  intro p e s m below meth c ls C0 hlk hrt hl hP hm
  have hx := C0.1
  have hown := C0.2.2.2.1
  have hts := C0.2.2.2.2.1
  have hX := C0.2.2.2.2.2.2.2.2.1
  have hb : c.code = cJ0_isLatin1_aae02 := C0.2.1
  have er : sm_rho B ad (1001 + i) = ad (1001 + i) := if_neg (by omega)
  have hl : lv_has ls 1 [(0, .ref (ad (1001 + i)))] := by rw [← er]; exact hl
  refine va_gets hx hb hX.2.2.2.1 va_S.rf hown (hts _ jw_f38) (fun _ h => h) dJ0_isLatin1_aae02_0 ?_
  refine lv_if_eq (tgt := 17) hx hb dJ0_isLatin1_aae02_3 rfl (fun h => absurd h (by decide)) (fun _ => ?_)
  refine lv_aload_n hx hb dJ0_isLatin1_aae02_6 rfl (lv_at hl 0 rfl) ?_
  refine vk_getf hx hb (hX.2.2.1.1 i hi).2.1 va_S.rf hown (hts _ jw_f15) (fun _ h => h) dJ0_isLatin1_aae02_7 ?_
  refine lv_if_ne (tgt := 17) hx hb dJ0_isLatin1_aae02_10 rfl (fun h => absurd rfl h) (fun _ => ?_)
  refine lv_iconst (v := 1) hx hb dJ0_isLatin1_aae02_13 (by decide) ?_
  refine lv_goto (tgt := 18) hx hb dJ0_isLatin1_aae02_14 rfl ?_
  exact W.zret hx hb hrt (by decide) (fun t ht _ => ⟨rfl, by rw [ht]; exact hP, hm, va_S.rf.F ht⟩) (va_S.rf (A := fun q => B ≤ q) (H0 := s.heap)).2.2 dJ0_isLatin1_aae02_18 hlk
theorem jk_shr0 : ∀ i, i < 8 → nI (jk_len.getD i 0) >>> ((0 : Int32) &&& 31) = nI (jk_len.getD i 0) := by decide
set_option maxHeartbeats 4000000 in
set_option maxRecDepth 20000 in
theorem jk_length {l : Launch} {D : va_G} {cl : List vw_C} {τ : Nat → ClassId} {B : Nat} {ad : Nat → Nat} {f0 : Value} {L : Nat} {xs : Nat → Int32} {M : sm_M} {i : Nat} (hi : i < 8) (d : Nat) : Met l yJ0_length_8abf5 (.code yJ0_length_8abf5 cJ0_length_8abf5 1 (some .int) :: sm_TB) (jk_rm (d + 2)) (sm_Pre D cl τ B ad sm_NB sm_sks (jk_X B ad f0 L xs) [.ref (1001 + i)] M) (sm_Post D cl τ B ad M (some (.int (nI (jk_len.getD i 0))))) 0 0 (fun q => B ≤ q) := by
  refine jk_met (by decide +kernel) (Nat.le_refl 1) ?_
  intro p e s m below meth c ls C0 hlk hrt hl hP hm
  have hx := C0.1
  have hown := C0.2.2.2.1
  have hts := C0.2.2.2.2.1
  have hX := C0.2.2.2.2.2.2.2.2.1
  have hb : c.code = cJ0_length_8abf5 := C0.2.1
  have er : sm_rho B ad (1001 + i) = ad (1001 + i) := if_neg (by omega)
  have hl : lv_has ls 1 [(0, .ref (sm_rho B ad (1001 + i)))] := hl
  have hrc := vk_recv (adK := fun i => ad (1001 + i)) (i := i) hX.2.2.1 hi (va_S.rf (A := fun q => B ≤ q) (H0 := s.heap))
  refine lv_aload_n hx hb dJ0_length_8abf5_0 rfl (lv_at hl 0 rfl) ?_
  rw [er]
  refine vk_getf hx hb (hX.2.2.1.1 i hi).2.2.1 va_S.rf hown (hts _ jw_f9) (fun _ h => h) dJ0_length_8abf5_1 ?_
  refine va_tlen (v := nI (jk_len.getD i 0)) hx hb (hX.2.2.1.1 i hi).2.2.2 va_S.rf rfl dJ0_length_8abf5_4 ?_
  refine lv_aload_n hx hb dJ0_length_8abf5_5 rfl (lv_at hl 0 rfl) ?_
  refine jk_callV (v := some (.int 0)) C0 (jk_E B ad f0 L xs) (jk_coder hi d) jw_h_coder jw_m335 jw_n_coder jw_v_coder (by rw [er]; exact hrc) rfl hP hm va_S.rf hl.1 ⟨Nat.le_refl _, by show (d + 1) * 80 + 80 ≤ (d + 2) * 80; omega⟩ dJ0_length_8abf5_6 (show (1 : Nat) ≤ 8 by decide) (fun H1 locs1 hP1 hS1 => ?_)
  refine lv_ishr hx hb dJ0_length_8abf5_9 ?_
  rw [jk_shr0 i hi]
  exact W.zret hx hb hrt rfl (fun t ht _ => ⟨rfl, by rw [ht]; exact hP1, hm, hS1.F ht⟩) hS1.2.2 dJ0_length_8abf5_10 hlk
set_option maxHeartbeats 4000000 in
set_option maxRecDepth 20000 in
theorem jk_charAt {l : Launch} {D : va_G} {cl : List vw_C} {τ : Nat → ClassId} {B : Nat} {ad : Nat → Nat} {f0 : Value} {L : Nat} {xs : Nat → Int32} {M : sm_M} (hf : f0 = .null ∨ ∃ t, f0 = .ref t) {i j : Nat} (hi : i < 8) (hj : j < jk_len.getD i 0) (d : Nat) : Met l yJ0_charAt_5068e (.code yJ0_charAt_5068e cJ0_charAt_5068e 2 (some .char) :: sm_TB) (jk_rm (d + 4)) (sm_Pre D cl τ B ad sm_NB sm_sks (jk_X B ad f0 L xs) [.ref (1001 + i), .int (nI j)] M) (sm_Post D cl τ B ad M (some (.int ((jk_byt.getD i []).getD j 0)))) 0 0 (fun q => B ≤ q) := by
  refine jk_met (by decide +kernel) (Nat.le_refl 2) ?_
  intro p e s m below meth c ls C0 hlk hrt hl hP hm
  have hx := C0.1
  have hown := C0.2.2.2.1
  have hts := C0.2.2.2.2.1
  have hX := C0.2.2.2.2.2.2.2.2.1
  have hb : c.code = cJ0_charAt_5068e := C0.2.1
  have er : sm_rho B ad (1001 + i) = ad (1001 + i) := if_neg (by omega)
  have hl : lv_has ls 2 [(0, .ref (sm_rho B ad (1001 + i))), (1, .int (nI j))] := hl
  have hrc := vk_recv (adK := fun i => ad (1001 + i)) (i := i) hX.2.2.1 hi (va_S.rf (A := fun q => B ≤ q) (H0 := s.heap))
  have er2 : sm_rho B ad (1101 + i) = ad (1101 + i) := if_neg (by omega)
  have hOF : va_OF "java/lang/String" "value" "[B" (.ref (sm_rho B ad (1101 + i))) (ad (1001 + i)) (fun q => B ≤ q) s s.heap := by rw [er2]; exact (hX.2.2.1.1 i hi).2.2.1
  refine lv_aload_n hx hb dJ0_charAt_5068e_0 rfl (lv_at hl 0 rfl) ?_
  refine jk_callV (rest := []) (v := some (.int 1)) C0 (jk_E B ad f0 L xs) (jk_isLatin1 hi (d + 2)) jw_h_isLatin1 jw_m492 jw_n_isLatin1 jw_v_isLatin1 (by rw [er]; exact hrc) rfl hP hm va_S.rf hl.1 ⟨Nat.le_refl _, by show (d + 3) * 80 + 80 ≤ (d + 4) * 80; omega⟩ dJ0_charAt_5068e_1 (by decide) (fun H1 locs1 hP1 hS1 => ?_)
  refine lv_if_eq (tgt := 16) hx hb dJ0_charAt_5068e_4 rfl (fun h => absurd h (by decide)) (fun _ => ?_)
  refine lv_aload_n hx hb dJ0_charAt_5068e_7 rfl (lv_at hl 0 rfl) ?_
  rw [er]
  refine vk_getf hx hb hOF hS1 hown (hts _ jw_f9) (fun _ h => h) dJ0_charAt_5068e_8 ?_
  refine lv_iload_n hx hb dJ0_charAt_5068e_11 rfl (lv_at hl 1 rfl) ?_
  refine jk_callS (as := [.ref (1101 + i), .int (nI j)]) (rest := []) (v := some (.int ((jk_byt.getD i []).getD j 0))) C0 (jk_E B ad f0 L xs) (jk_l1 hf hi hj d) jw_h_l1 jw_m495 jw_s_l1 rfl rfl hP1 hm hS1 hl.1 ⟨Nat.le_refl _, by show (d + 3) * 80 + 80 ≤ (d + 4) * 80; omega⟩ dJ0_charAt_5068e_12 (by decide) (fun H2 locs2 hP2 hS2 => ?_)
  exact W.zret hx hb hrt (jk_chars i hi j hj).2 (fun t ht _ => ⟨rfl, by rw [ht]; exact hP2, hm, hS2.F ht⟩) hS2.2.2 dJ0_charAt_5068e_15 hlk
set_option maxHeartbeats 4000000 in
set_option maxRecDepth 20000 in
/-- what the simulator takes of String is so -/
theorem jk_bi {l : Launch} {D : va_G} {cl : List vw_C} {τ : Nat → ClassId} {B : Nat} {ad : Nat → Nat} {f0 : Value} {L : Nat} {xs : Nat → Int32} (hf : f0 = .null ∨ ∃ t, f0 = .ref t) : ∀ d y as M M1 v, 4 ≤ d → sm_fd sm_pg y = none → sm_bi y as M = some (M1, v) → M.length ≤ M1.length ∧ sm_sl M ≤ sm_sl M1 ∧ ∀ yN bytes mL rt, sm_fd sm_hds y = some (yN, bytes, mL, rt) → Met l yN (.code yN bytes mL rt :: sm_TB) (sm_rm (d + 1) M M1) (sm_Pre D cl τ B ad sm_NB sm_sks (jk_X B ad f0 L xs) as M) (sm_Post D cl τ B ad M1 v) (M1.length - M.length) (sm_sl M1 - sm_sl M) (fun q => B ≤ q) := by
  intro d y as M M1 v hd hpg h
  unfold sm_bi at h
  split at h
  · rename_i w
    split at h
    · rename_i hw
      simp only [Bool.and_eq_true] at hw
      have w1 := Nat.le_of_ble_eq_true hw.1
      have w2 := Nat.le_of_ble_eq_true hw.2
      cases h
      refine ⟨Nat.le_refl _, Nat.le_refl _, fun yN bytes mL rt hh => ?_⟩
      rw [hhJ0_length_8abf5] at hh
      cases hh
      obtain ⟨i, rfl⟩ : ∃ i : Nat, w = 1001 + i := ⟨w - 1001, (Nat.add_sub_cancel' w1).symm⟩
      have hi8 : i < 8 := Nat.lt_of_add_lt_add_left (Nat.lt_succ_of_le w2)
      obtain ⟨d, rfl⟩ : ∃ q, d = q + 1 := ⟨d - 1, by omega⟩
      have hk := jk_length (l := l) (D := D) (cl := cl) (τ := τ) (B := B) (ad := ad) (f0 := f0) (L := L) (xs := xs) (M := M) (i := i) hi8 d
      rw [(jk_lens i hi8).2.1] at hk
      rw [jk_rmE, Nat.sub_self, Nat.sub_self]
      exact hk
    · cases h
  · rename_i w x
    split at h
    · rename_i hw
      simp only [Bool.and_eq_true] at hw
      have w1 := Nat.le_of_ble_eq_true hw.1
      have w2 := Nat.le_of_ble_eq_true hw.2
      split at h
      · cases h
      · rename_i hin
        cases h
        refine ⟨Nat.le_refl _, Nat.le_refl _, fun yN bytes mL rt hh => ?_⟩
        rw [hhJ0_charAt_5068e] at hh
        cases hh
        obtain ⟨i, rfl⟩ : ∃ i : Nat, w = 1001 + i := ⟨w - 1001, (Nat.add_sub_cancel' w1).symm⟩
        have hi8 : i < 8 := Nat.lt_of_add_lt_add_left (Nat.lt_succ_of_le w2)
        obtain ⟨d, rfl⟩ : ∃ q, d = q + 3 := ⟨d - 3, by omega⟩
        obtain ⟨j, hj, rfl⟩ := nI_of (fun z => hin (Or.inl z))
        have hlen := jk_lens i hi8
        rw [nI_clamp hj] at hin ⊢
        have hj2 : j < jk_len.getD i 0 := by
          rw [hlen.2.1]
          exact Nat.not_le.mp (fun z => hin (Or.inr z))
        have hk := jk_charAt (l := l) (D := D) (cl := cl) (τ := τ) (B := B) (ad := ad) (f0 := f0) (L := L) (xs := xs) (M := M) hf (i := i) (j := j) hi8 hj2 d
        rw [hlen.2.2] at hk
        rw [jk_rmE, Nat.sub_self, Nat.sub_self]
        exact hk
    · cases h
  · cases h

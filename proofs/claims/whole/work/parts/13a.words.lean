/-! THE LINKS: words of the tables by their places, heads of methods, links of classes -/
theorem sm_t1 {w : Cond} (h : w ∈ tables_1_1) : w ∈ lw_tbl := sm_inL (List.mem_append_left _ h)
theorem sm_t2 {w : Cond} (h : w ∈ tables_1_2) : w ∈ lw_tbl := sm_inL (List.mem_append_right _ (List.mem_append_left _ h))
theorem sm_t3 {w : Cond} (h : w ∈ tables_1_3) : w ∈ lw_tbl := sm_inL (List.mem_append_right _ (List.mem_append_right _ (List.mem_append_left _ h)))
theorem sm_t4 {w : Cond} (h : w ∈ tables_1_4) : w ∈ lw_tbl := sm_inL (List.mem_append_right _ (List.mem_append_right _ (List.mem_append_right _ (List.mem_append_left _ h))))
theorem sm_t5 {w : Cond} (h : w ∈ tables_1_5) : w ∈ lw_tbl := sm_inL (List.mem_append_right _ (List.mem_append_right _ (List.mem_append_right _ (List.mem_append_right _ (List.mem_append_left _ h)))))
theorem sm_t6 {w : Cond} (h : w ∈ tables_1_6) : w ∈ lw_tbl := sm_inL (List.mem_append_right _ (List.mem_append_right _ (List.mem_append_right _ (List.mem_append_right _ (List.mem_append_right _ (List.mem_append_left _ h))))))
theorem sm_t7 {w : Cond} (h : w ∈ tables_1_7) : w ∈ lw_tbl := sm_inL (List.mem_append_right _ (List.mem_append_right _ (List.mem_append_right _ (List.mem_append_right _ (List.mem_append_right _ (List.mem_append_right _ (List.mem_append_left _ h)))))))
theorem sm_t8 {w : Cond} (h : w ∈ tables_1_8) : w ∈ lw_tbl := sm_inL (List.mem_append_right _ (List.mem_append_right _ (List.mem_append_right _ (List.mem_append_right _ (List.mem_append_right _ (List.mem_append_right _ (List.mem_append_right _ (h))))))))
theorem sm_v1 {q : MethodName × Nat} (h : q ∈ lw_privs_1) : Cond.selects q.1.cls q.1 q.1 ∈ lw_tbl := List.mem_append_left _ (List.mem_map.mpr ⟨q, List.mem_append_left _ h, rfl⟩)
theorem sm_v2 {q : MethodName × Nat} (h : q ∈ lw_privs_2) : Cond.selects q.1.cls q.1 q.1 ∈ lw_tbl := List.mem_append_left _ (List.mem_map.mpr ⟨q, List.mem_append_right _ (List.mem_append_left _ h), rfl⟩)
theorem sm_v3 {q : MethodName × Nat} (h : q ∈ lw_privs_3) : Cond.selects q.1.cls q.1 q.1 ∈ lw_tbl := List.mem_append_left _ (List.mem_map.mpr ⟨q, List.mem_append_right _ (List.mem_append_right _ (List.mem_append_left _ h)), rfl⟩)
theorem sm_v4 {q : MethodName × Nat} (h : q ∈ lw_privs_4) : Cond.selects q.1.cls q.1 q.1 ∈ lw_tbl := List.mem_append_left _ (List.mem_map.mpr ⟨q, List.mem_append_right _ (List.mem_append_right _ (List.mem_append_right _ (List.mem_append_left _ h))), rfl⟩)
theorem sm_v5 {q : MethodName × Nat} (h : q ∈ lw_privs_5) : Cond.selects q.1.cls q.1 q.1 ∈ lw_tbl := List.mem_append_left _ (List.mem_map.mpr ⟨q, List.mem_append_right _ (List.mem_append_right _ (List.mem_append_right _ (List.mem_append_right _ (List.mem_append_left _ h)))), rfl⟩)
theorem sm_v6 {q : MethodName × Nat} (h : q ∈ lw_privs_6) : Cond.selects q.1.cls q.1 q.1 ∈ lw_tbl := List.mem_append_left _ (List.mem_map.mpr ⟨q, List.mem_append_right _ (List.mem_append_right _ (List.mem_append_right _ (List.mem_append_right _ (List.mem_append_right _ (List.mem_append_left _ h))))), rfl⟩)
theorem sm_v7 {q : MethodName × Nat} (h : q ∈ lw_privs_7) : Cond.selects q.1.cls q.1 q.1 ∈ lw_tbl := List.mem_append_left _ (List.mem_map.mpr ⟨q, List.mem_append_right _ (List.mem_append_right _ (List.mem_append_right _ (List.mem_append_right _ (List.mem_append_right _ (List.mem_append_right _ (List.mem_append_left _ h)))))), rfl⟩)
theorem sm_v8 {q : MethodName × Nat} (h : q ∈ lw_privs_8) : Cond.selects q.1.cls q.1 q.1 ∈ lw_tbl := List.mem_append_left _ (List.mem_map.mpr ⟨q, List.mem_append_right _ (List.mem_append_right _ (List.mem_append_right _ (List.mem_append_right _ (List.mem_append_right _ (List.mem_append_right _ (List.mem_append_right _ (List.mem_append_left _ h))))))), rfl⟩)
theorem sm_v9 {q : MethodName × Nat} (h : q ∈ lw_privs_9) : Cond.selects q.1.cls q.1 q.1 ∈ lw_tbl := List.mem_append_left _ (List.mem_map.mpr ⟨q, List.mem_append_right _ (List.mem_append_right _ (List.mem_append_right _ (List.mem_append_right _ (List.mem_append_right _ (List.mem_append_right _ (List.mem_append_right _ (List.mem_append_right _ (List.mem_append_left _ h)))))))), rfl⟩)
theorem sm_v10 {q : MethodName × Nat} (h : q ∈ lw_privs_10) : Cond.selects q.1.cls q.1 q.1 ∈ lw_tbl := List.mem_append_left _ (List.mem_map.mpr ⟨q, List.mem_append_right _ (List.mem_append_right _ (List.mem_append_right _ (List.mem_append_right _ (List.mem_append_right _ (List.mem_append_right _ (List.mem_append_right _ (List.mem_append_right _ (List.mem_append_right _ (h))))))))), rfl⟩)
theorem neX0 : RX0 ≠ "java/lang/invoke/MethodHandle" ∧ RX0 ≠ "java/lang/invoke/VarHandle" := by decide +kernel
theorem wNX0 : Cond.initialized RX0 ∈ sm_TB := sm_inT (sm_t1 (List.mem_of_getElem? (i := 5) rfl)) rfl
theorem neX1 : RX1 ≠ "java/lang/invoke/MethodHandle" ∧ RX1 ≠ "java/lang/invoke/VarHandle" := by decide +kernel
theorem wNX1 : Cond.initialized RX1 ∈ sm_TB := sm_inT (sm_t1 (List.mem_of_getElem? (i := 11) rfl)) rfl
theorem neX2 : RX2 ≠ "java/lang/invoke/MethodHandle" ∧ RX2 ≠ "java/lang/invoke/VarHandle" := by decide +kernel
theorem wNX2 : Cond.initialized RX2 ∈ sm_TB := sm_inT (sm_t1 (List.mem_of_getElem? (i := 10) rfl)) rfl
theorem neX3 : RX3 ≠ "java/lang/invoke/MethodHandle" ∧ RX3 ≠ "java/lang/invoke/VarHandle" := by decide +kernel
theorem wNX3 : Cond.initialized RX3 ∈ sm_TB := sm_inT (sm_t1 (List.mem_of_getElem? (i := 3) rfl)) rfl
theorem neX4 : RX4 ≠ "java/lang/invoke/MethodHandle" ∧ RX4 ≠ "java/lang/invoke/VarHandle" := by decide +kernel
theorem wNX4 : Cond.initialized RX4 ∈ sm_TB := sm_inT (sm_t1 (List.mem_of_getElem? (i := 13) rfl)) rfl
theorem neX5 : RX5 ≠ "java/lang/invoke/MethodHandle" ∧ RX5 ≠ "java/lang/invoke/VarHandle" := by decide +kernel
theorem wNX5 : Cond.initialized RX5 ∈ sm_TB := sm_inT (sm_t1 (List.mem_of_getElem? (i := 9) rfl)) rfl
theorem neX6 : RX6 ≠ "java/lang/invoke/MethodHandle" ∧ RX6 ≠ "java/lang/invoke/VarHandle" := by decide +kernel
theorem wNX6 : Cond.initialized RX6 ∈ sm_TB := sm_inT (sm_t1 (List.mem_of_getElem? (i := 7) rfl)) rfl
theorem neX7 : RX7 ≠ "java/lang/invoke/MethodHandle" ∧ RX7 ≠ "java/lang/invoke/VarHandle" := by decide +kernel
theorem wNX7 : Cond.initialized RX7 ∈ sm_TB := sm_inT (sm_t1 (List.mem_of_getElem? (i := 8) rfl)) rfl
theorem neX8 : RX8 ≠ "java/lang/invoke/MethodHandle" ∧ RX8 ≠ "java/lang/invoke/VarHandle" := by decide +kernel
theorem wNX8 : Cond.initialized RX8 ∈ sm_TB := sm_inT (sm_t1 (List.mem_of_getElem? (i := 12) rfl)) rfl
theorem neX9 : RX9 ≠ "java/lang/invoke/MethodHandle" ∧ RX9 ≠ "java/lang/invoke/VarHandle" := by decide +kernel
theorem wNX9 : Cond.initialized RX9 ∈ sm_TB := sm_inT (sm_t1 (List.mem_of_getElem? (i := 6) rfl)) rfl
theorem neX10 : RX10 ≠ "java/lang/invoke/MethodHandle" ∧ RX10 ≠ "java/lang/invoke/VarHandle" := by decide +kernel
theorem wNX10 : Cond.initialized RX10 ∈ sm_TB := sm_inT (sm_t1 (List.mem_of_getElem? (i := 1) rfl)) rfl
theorem neX11 : RX11 ≠ "java/lang/invoke/MethodHandle" ∧ RX11 ≠ "java/lang/invoke/VarHandle" := by decide +kernel
theorem wNX11 : Cond.initialized RX11 ∈ sm_TB := sm_inT (sm_t1 (List.mem_of_getElem? (i := 14) rfl)) rfl
theorem neJ6 : RJ6 ≠ "java/lang/invoke/MethodHandle" ∧ RJ6 ≠ "java/lang/invoke/VarHandle" := by decide +kernel
theorem wNJ6 : Cond.initialized RJ6 ∈ sm_TB := sm_inT (sm_t1 (List.mem_of_getElem? (i := 20) rfl)) rfl
theorem neJ13 : RJ13 ≠ "java/lang/invoke/MethodHandle" ∧ RJ13 ≠ "java/lang/invoke/VarHandle" := by decide +kernel
theorem wNJ13 : Cond.initialized RJ13 ∈ sm_TB := sm_inT (sm_t1 (List.mem_of_getElem? (i := 19) rfl)) rfl
theorem neJ7 : RJ7 ≠ "java/lang/invoke/MethodHandle" ∧ RJ7 ≠ "java/lang/invoke/VarHandle" := by decide +kernel
theorem wNJ7 : Cond.initialized RJ7 ∈ sm_TB := sm_inT (sm_t1 (List.mem_of_getElem? (i := 4) rfl)) rfl
theorem neL : RL ≠ "java/lang/invoke/MethodHandle" ∧ RL ≠ "java/lang/invoke/VarHandle" := by decide +kernel
theorem wNL : Cond.initialized RL ∈ sm_TB := sm_inT (sm_t1 (List.mem_of_getElem? (i := 0) rfl)) rfl
theorem neJ0 : RJ0 ≠ "java/lang/invoke/MethodHandle" ∧ RJ0 ≠ "java/lang/invoke/VarHandle" := by decide +kernel
theorem wNJ0 : Cond.initialized RJ0 ∈ sm_TB := sm_inT (sm_t1 (List.mem_of_getElem? (i := 15) rfl)) rfl
theorem wMn : Cond.initialized "java/lang/Math" ∈ sm_TB := sm_inT (sm_t1 (List.mem_of_getElem? (i := 2) rfl)) rfl
theorem wMs5 : Cond.static Lib.Math.max.name ∈ sm_TB := sm_inT (sm_t1 (List.mem_of_getElem? (i := 33) rfl)) rfl
theorem wMc5 : Cond.code Lib.Math.max.name Lib.Math.max.code 2 (some .int) ∈ sm_TB := sm_inT (sm_t1 (List.mem_of_getElem? (i := 34) rfl)) rfl
theorem wMs6 : Cond.static Lib.Math.min.name ∈ sm_TB := sm_inT (sm_t1 (List.mem_of_getElem? (i := 30) rfl)) rfl
theorem wMc6 : Cond.code Lib.Math.min.name Lib.Math.min.code 2 (some .int) ∈ sm_TB := sm_inT (sm_t1 (List.mem_of_getElem? (i := 31) rfl)) rfl
theorem wMs7 : Cond.static Lib.Math.abs.name ∈ sm_TB := sm_inT (sm_t4 (List.mem_of_getElem? (i := 35) rfl)) rfl
theorem wMc7 : Cond.code Lib.Math.abs.name Lib.Math.abs.code 1 (some .int) ∈ sm_TB := sm_inT (sm_t4 (List.mem_of_getElem? (i := 36) rfl)) rfl
theorem wObI : Cond.instanceMethod Lib.objectInit ∈ sm_TB := sm_inT (sm_t1 (List.mem_of_getElem? (i := 27) rfl)) rfl
theorem wObC : Cond.code Lib.objectInit ⟨#[0xb1]⟩ 1 none ∈ sm_TB := sm_inT (sm_t1 (List.mem_of_getElem? (i := 28) rfl)) rfl
theorem wCX0_init : Cond.code yX0_init cX0_init 4 none ∈ sm_TB := sm_inT (sm_t1 (List.mem_of_getElem? (i := 88) rfl)) rfl
theorem hdX0_init : sm_hdk sm_TB yX0_init cX0_init 4 none 3 := ⟨wCX0_init, wNX0, ⟨neX0.1, neX0.2, by decide +kernel⟩, by decide⟩
theorem wIX0_init : Cond.instanceMethod yX0_init ∈ sm_TB := sm_inT (sm_t1 (List.mem_of_getElem? (i := 87) rfl)) rfl
set_option maxRecDepth 20000 in
theorem hkX0_init : sm_fd sm_pg 0 = some miX0_init := by rfl
theorem hhX0_init : sm_fd sm_hds 0 = some (yX0_init, cX0_init, 4, none) := sm_hh hkX0_init
theorem wCX0_weave : Cond.code yX0_weave cX0_weave 1 none ∈ sm_TB := sm_inT (sm_t4 (List.mem_of_getElem? (i := 115) rfl)) rfl
theorem hdX0_weave : sm_hdk sm_TB yX0_weave cX0_weave 1 none 0 := ⟨wCX0_weave, wNX0, ⟨neX0.1, neX0.2, by decide +kernel⟩, by decide⟩
theorem wIX0_weave : Cond.instanceMethod yX0_weave ∈ sm_TB := sm_inT (sm_t4 (List.mem_of_getElem? (i := 114) rfl)) rfl
theorem wVX0_weave : Cond.selects RX0 yX0_weave yX0_weave ∈ sm_TB := sm_inT (sm_v4 (q := (yX0_weave, 12)) (List.mem_of_getElem? (i := 3) rfl)) rfl
set_option maxRecDepth 20000 in
theorem hkX0_weave : sm_fd sm_pg 1 = some miX0_weave := by rfl
theorem hhX0_weave : sm_fd sm_hds 1 = some (yX0_weave, cX0_weave, 1, none) := sm_hh hkX0_weave
theorem wCX0_picksOf : Cond.code yX0_picksOf cX0_picksOf 2 (some .long) ∈ sm_TB := sm_inT (sm_t4 (List.mem_of_getElem? (i := 138) rfl)) rfl
theorem hdX0_picksOf : sm_hdk sm_TB yX0_picksOf cX0_picksOf 2 (some .long) 1 := ⟨wCX0_picksOf, wNX0, ⟨neX0.1, neX0.2, by decide +kernel⟩, by decide⟩
theorem wIX0_picksOf : Cond.instanceMethod yX0_picksOf ∈ sm_TB := sm_inT (sm_t4 (List.mem_of_getElem? (i := 137) rfl)) rfl
theorem wVX0_picksOf : Cond.selects RX0 yX0_picksOf yX0_picksOf ∈ sm_TB := sm_inT (sm_v4 (q := (yX0_picksOf, 12)) (List.mem_of_getElem? (i := 7) rfl)) rfl
set_option maxRecDepth 20000 in
theorem hkX0_picksOf : sm_fd sm_pg 2 = some miX0_picksOf := by rfl
theorem hhX0_picksOf : sm_fd sm_hds 2 = some (yX0_picksOf, cX0_picksOf, 2, (some .long)) := sm_hh hkX0_picksOf
theorem wCX0_press : Cond.code yX0_press cX0_press 5 none ∈ sm_TB := sm_inT (sm_t4 (List.mem_of_getElem? (i := 119) rfl)) rfl
theorem hdX0_press : sm_hdk sm_TB yX0_press cX0_press 5 none 0 := ⟨wCX0_press, wNX0, ⟨neX0.1, neX0.2, by decide +kernel⟩, by decide⟩
theorem wIX0_press : Cond.instanceMethod yX0_press ∈ sm_TB := sm_inT (sm_t4 (List.mem_of_getElem? (i := 118) rfl)) rfl
theorem wVX0_press : Cond.selects RX0 yX0_press yX0_press ∈ sm_TB := sm_inT (sm_v4 (q := (yX0_press, 12)) (List.mem_of_getElem? (i := 4) rfl)) rfl
set_option maxRecDepth 20000 in
theorem hkX0_press : sm_fd sm_pg 3 = some miX0_press := by rfl
theorem hhX0_press : sm_fd sm_hds 3 = some (yX0_press, cX0_press, 5, none) := sm_hh hkX0_press
theorem wCX0_raise : Cond.code yX0_raise cX0_raise 3 none ∈ sm_TB := sm_inT (sm_t4 (List.mem_of_getElem? (i := 130) rfl)) rfl
theorem hdX0_raise : sm_hdk sm_TB yX0_raise cX0_raise 3 none 0 := ⟨wCX0_raise, wNX0, ⟨neX0.1, neX0.2, by decide +kernel⟩, by decide⟩
theorem wIX0_raise : Cond.instanceMethod yX0_raise ∈ sm_TB := sm_inT (sm_t4 (List.mem_of_getElem? (i := 129) rfl)) rfl
theorem wVX0_raise : Cond.selects RX0 yX0_raise yX0_raise ∈ sm_TB := sm_inT (sm_v4 (q := (yX0_raise, 12)) (List.mem_of_getElem? (i := 5) rfl)) rfl
set_option maxRecDepth 20000 in
theorem hkX0_raise : sm_fd sm_pg 4 = some miX0_raise := by rfl
theorem hhX0_raise : sm_fd sm_hds 4 = some (yX0_raise, cX0_raise, 3, none) := sm_hh hkX0_raise
theorem wCX0_hang : Cond.code yX0_hang cX0_hang 3 none ∈ sm_TB := sm_inT (sm_t4 (List.mem_of_getElem? (i := 134) rfl)) rfl
theorem hdX0_hang : sm_hdk sm_TB yX0_hang cX0_hang 3 none 0 := ⟨wCX0_hang, wNX0, ⟨neX0.1, neX0.2, by decide +kernel⟩, by decide⟩
theorem wIX0_hang : Cond.instanceMethod yX0_hang ∈ sm_TB := sm_inT (sm_t4 (List.mem_of_getElem? (i := 133) rfl)) rfl
theorem wVX0_hang : Cond.selects RX0 yX0_hang yX0_hang ∈ sm_TB := sm_inT (sm_v4 (q := (yX0_hang, 12)) (List.mem_of_getElem? (i := 6) rfl)) rfl
set_option maxRecDepth 20000 in
theorem hkX0_hang : sm_fd sm_pg 5 = some miX0_hang := by rfl
theorem hhX0_hang : sm_fd sm_hds 5 = some (yX0_hang, cX0_hang, 3, none) := sm_hh hkX0_hang
theorem wCX0_cross : Cond.code yX0_cross cX0_cross 5 none ∈ sm_TB := sm_inT (sm_t4 (List.mem_of_getElem? (i := 142) rfl)) rfl
theorem hdX0_cross : sm_hdk sm_TB yX0_cross cX0_cross 5 none 0 := ⟨wCX0_cross, wNX0, ⟨neX0.1, neX0.2, by decide +kernel⟩, by decide⟩
theorem wIX0_cross : Cond.instanceMethod yX0_cross ∈ sm_TB := sm_inT (sm_t4 (List.mem_of_getElem? (i := 141) rfl)) rfl
theorem wVX0_cross : Cond.selects RX0 yX0_cross yX0_cross ∈ sm_TB := sm_inT (sm_v4 (q := (yX0_cross, 12)) (List.mem_of_getElem? (i := 8) rfl)) rfl
set_option maxRecDepth 20000 in
theorem hkX0_cross : sm_fd sm_pg 6 = some miX0_cross := by rfl
theorem hhX0_cross : sm_fd sm_hds 6 = some (yX0_cross, cX0_cross, 5, none) := sm_hh hkX0_cross
theorem wCX1_init : Cond.code yX1_init cX1_init 2 none ∈ sm_TB := sm_inT (sm_t2 (List.mem_of_getElem? (i := 105) rfl)) rfl
theorem hdX1_init : sm_hdk sm_TB yX1_init cX1_init 2 none 1 := ⟨wCX1_init, wNX1, ⟨neX1.1, neX1.2, by decide +kernel⟩, by decide⟩
theorem wIX1_init : Cond.instanceMethod yX1_init ∈ sm_TB := sm_inT (sm_t2 (List.mem_of_getElem? (i := 104) rfl)) rfl
set_option maxRecDepth 20000 in
theorem hkX1_init : sm_fd sm_pg 7 = some miX1_init := by rfl
theorem hhX1_init : sm_fd sm_hds 7 = some (yX1_init, cX1_init, 2, none) := sm_hh hkX1_init
theorem wCX1_find : Cond.code yX1_find cX1_find 1 none ∈ sm_TB := sm_inT (sm_t5 (List.mem_of_getElem? (i := 84) rfl)) rfl
theorem hdX1_find : sm_hdk sm_TB yX1_find cX1_find 1 none 0 := ⟨wCX1_find, wNX1, ⟨neX1.1, neX1.2, by decide +kernel⟩, by decide⟩
theorem wIX1_find : Cond.instanceMethod yX1_find ∈ sm_TB := sm_inT (sm_t5 (List.mem_of_getElem? (i := 83) rfl)) rfl
theorem wVX1_find : Cond.selects RX1 yX1_find yX1_find ∈ sm_TB := sm_inT (sm_v5 (q := (yX1_find, 13)) (List.mem_of_getElem? (i := 15) rfl)) rfl
set_option maxRecDepth 20000 in
theorem hkX1_find : sm_fd sm_pg 8 = some miX1_find := by rfl
theorem hhX1_find : sm_fd sm_hds 8 = some (yX1_find, cX1_find, 1, none) := sm_hh hkX1_find
theorem wCX1_tieAt : Cond.code yX1_tieAt cX1_tieAt 2 (some .int) ∈ sm_TB := sm_inT (sm_t5 (List.mem_of_getElem? (i := 137) rfl)) rfl
theorem hdX1_tieAt : sm_hdk sm_TB yX1_tieAt cX1_tieAt 2 (some .int) 1 := ⟨wCX1_tieAt, wNX1, ⟨neX1.1, neX1.2, by decide +kernel⟩, by decide⟩
theorem wIX1_tieAt : Cond.instanceMethod yX1_tieAt ∈ sm_TB := sm_inT (sm_t5 (List.mem_of_getElem? (i := 136) rfl)) rfl
theorem wVX1_tieAt : Cond.selects RX1 yX1_tieAt yX1_tieAt ∈ sm_TB := sm_inT (sm_v6 (q := (yX1_tieAt, 13)) (List.mem_of_getElem? (i := 10) rfl)) rfl
set_option maxRecDepth 20000 in
theorem hkX1_tieAt : sm_fd sm_pg 9 = some miX1_tieAt := by rfl
theorem hhX1_tieAt : sm_fd sm_hds 9 = some (yX1_tieAt, cX1_tieAt, 2, (some .int)) := sm_hh hkX1_tieAt
theorem wCX1_collectLifts : Cond.code yX1_collectLifts cX1_collectLifts 3 (some .boolean) ∈ sm_TB := sm_inT (sm_t5 (List.mem_of_getElem? (i := 88) rfl)) rfl
theorem hdX1_collectLifts : sm_hdk sm_TB yX1_collectLifts cX1_collectLifts 3 (some .boolean) 0 := ⟨wCX1_collectLifts, wNX1, ⟨neX1.1, neX1.2, by decide +kernel⟩, by decide⟩
theorem wIX1_collectLifts : Cond.instanceMethod yX1_collectLifts ∈ sm_TB := sm_inT (sm_t5 (List.mem_of_getElem? (i := 87) rfl)) rfl
theorem wVX1_collectLifts : Cond.selects RX1 yX1_collectLifts yX1_collectLifts ∈ sm_TB := sm_inT (sm_v6 (q := (yX1_collectLifts, 13)) (List.mem_of_getElem? (i := 0) rfl)) rfl
set_option maxRecDepth 20000 in
theorem hkX1_collectLifts : sm_fd sm_pg 10 = some miX1_collectLifts := by rfl
theorem hhX1_collectLifts : sm_fd sm_hds 10 = some (yX1_collectLifts, cX1_collectLifts, 3, (some .boolean)) := sm_hh hkX1_collectLifts
theorem wCX1_isIn : Cond.code yX1_isIn cX1_isIn 5 (some .boolean) ∈ sm_TB := sm_inT (sm_t5 (List.mem_of_getElem? (i := 91) rfl)) rfl
theorem hdX1_isIn : sm_hdk sm_TB yX1_isIn cX1_isIn 5 (some .boolean) 3 := ⟨wCX1_isIn, wNX1, ⟨neX1.1, neX1.2, by decide +kernel⟩, by decide⟩
theorem wSX1_isIn : Cond.static yX1_isIn ∈ sm_TB := sm_inT (sm_t5 (List.mem_of_getElem? (i := 90) rfl)) rfl
set_option maxRecDepth 20000 in
theorem hkX1_isIn : sm_fd sm_pg 11 = some miX1_isIn := by rfl
theorem hhX1_isIn : sm_fd sm_hds 11 = some (yX1_isIn, cX1_isIn, 5, (some .boolean)) := sm_hh hkX1_isIn
theorem wCX1_collectTies : Cond.code yX1_collectTies cX1_collectTies 4 none ∈ sm_TB := sm_inT (sm_t5 (List.mem_of_getElem? (i := 95) rfl)) rfl
theorem hdX1_collectTies : sm_hdk sm_TB yX1_collectTies cX1_collectTies 4 none 0 := ⟨wCX1_collectTies, wNX1, ⟨neX1.1, neX1.2, by decide +kernel⟩, by decide⟩
theorem wIX1_collectTies : Cond.instanceMethod yX1_collectTies ∈ sm_TB := sm_inT (sm_t5 (List.mem_of_getElem? (i := 94) rfl)) rfl
theorem wVX1_collectTies : Cond.selects RX1 yX1_collectTies yX1_collectTies ∈ sm_TB := sm_inT (sm_v6 (q := (yX1_collectTies, 13)) (List.mem_of_getElem? (i := 1) rfl)) rfl
set_option maxRecDepth 20000 in
theorem hkX1_collectTies : sm_fd sm_pg 12 = some miX1_collectTies := by rfl
theorem hhX1_collectTies : sm_fd sm_hds 12 = some (yX1_collectTies, cX1_collectTies, 4, none) := sm_hh hkX1_collectTies
theorem wCX1_insertTie : Cond.code yX1_insertTie cX1_insertTie 3 none ∈ sm_TB := sm_inT (sm_t5 (List.mem_of_getElem? (i := 101) rfl)) rfl
theorem hdX1_insertTie : sm_hdk sm_TB yX1_insertTie cX1_insertTie 3 none 1 := ⟨wCX1_insertTie, wNX1, ⟨neX1.1, neX1.2, by decide +kernel⟩, by decide⟩
theorem wIX1_insertTie : Cond.instanceMethod yX1_insertTie ∈ sm_TB := sm_inT (sm_t5 (List.mem_of_getElem? (i := 100) rfl)) rfl
theorem wVX1_insertTie : Cond.selects RX1 yX1_insertTie yX1_insertTie ∈ sm_TB := sm_inT (sm_v6 (q := (yX1_insertTie, 13)) (List.mem_of_getElem? (i := 2) rfl)) rfl
set_option maxRecDepth 20000 in
theorem hkX1_insertTie : sm_fd sm_pg 13 = some miX1_insertTie := by rfl
theorem hhX1_insertTie : sm_fd sm_hds 13 = some (yX1_insertTie, cX1_insertTie, 3, none) := sm_hh hkX1_insertTie
theorem wCX1_markGifts : Cond.code yX1_markGifts cX1_markGifts 3 none ∈ sm_TB := sm_inT (sm_t5 (List.mem_of_getElem? (i := 105) rfl)) rfl
theorem hdX1_markGifts : sm_hdk sm_TB yX1_markGifts cX1_markGifts 3 none 0 := ⟨wCX1_markGifts, wNX1, ⟨neX1.1, neX1.2, by decide +kernel⟩, by decide⟩
theorem wIX1_markGifts : Cond.instanceMethod yX1_markGifts ∈ sm_TB := sm_inT (sm_t5 (List.mem_of_getElem? (i := 104) rfl)) rfl
theorem wVX1_markGifts : Cond.selects RX1 yX1_markGifts yX1_markGifts ∈ sm_TB := sm_inT (sm_v6 (q := (yX1_markGifts, 13)) (List.mem_of_getElem? (i := 3) rfl)) rfl
set_option maxRecDepth 20000 in
theorem hkX1_markGifts : sm_fd sm_pg 14 = some miX1_markGifts := by rfl
theorem hhX1_markGifts : sm_fd sm_hds 14 = some (yX1_markGifts, cX1_markGifts, 3, none) := sm_hh hkX1_markGifts
theorem wCX1_gatherGifts : Cond.code yX1_gatherGifts cX1_gatherGifts 3 none ∈ sm_TB := sm_inT (sm_t5 (List.mem_of_getElem? (i := 118) rfl)) rfl
theorem hdX1_gatherGifts : sm_hdk sm_TB yX1_gatherGifts cX1_gatherGifts 3 none 0 := ⟨wCX1_gatherGifts, wNX1, ⟨neX1.1, neX1.2, by decide +kernel⟩, by decide⟩
theorem wIX1_gatherGifts : Cond.instanceMethod yX1_gatherGifts ∈ sm_TB := sm_inT (sm_t5 (List.mem_of_getElem? (i := 117) rfl)) rfl
theorem wVX1_gatherGifts : Cond.selects RX1 yX1_gatherGifts yX1_gatherGifts ∈ sm_TB := sm_inT (sm_v6 (q := (yX1_gatherGifts, 13)) (List.mem_of_getElem? (i := 6) rfl)) rfl
set_option maxRecDepth 20000 in
theorem hkX1_gatherGifts : sm_fd sm_pg 15 = some miX1_gatherGifts := by rfl
theorem hhX1_gatherGifts : sm_fd sm_hds 15 = some (yX1_gatherGifts, cX1_gatherGifts, 3, none) := sm_hh hkX1_gatherGifts
theorem wCX1_sortShafts : Cond.code yX1_sortShafts cX1_sortShafts 4 none ∈ sm_TB := sm_inT (sm_t5 (List.mem_of_getElem? (i := 109) rfl)) rfl
theorem hdX1_sortShafts : sm_hdk sm_TB yX1_sortShafts cX1_sortShafts 4 none 0 := ⟨wCX1_sortShafts, wNX1, ⟨neX1.1, neX1.2, by decide +kernel⟩, by decide⟩
theorem wIX1_sortShafts : Cond.instanceMethod yX1_sortShafts ∈ sm_TB := sm_inT (sm_t5 (List.mem_of_getElem? (i := 108) rfl)) rfl
theorem wVX1_sortShafts : Cond.selects RX1 yX1_sortShafts yX1_sortShafts ∈ sm_TB := sm_inT (sm_v6 (q := (yX1_sortShafts, 13)) (List.mem_of_getElem? (i := 4) rfl)) rfl
set_option maxRecDepth 20000 in
theorem hkX1_sortShafts : sm_fd sm_pg 16 = some miX1_sortShafts := by rfl
theorem hhX1_sortShafts : sm_fd sm_hds 16 = some (yX1_sortShafts, cX1_sortShafts, 4, none) := sm_hh hkX1_sortShafts
theorem wCX1_markGift : Cond.code yX1_markGift cX1_markGift 4 none ∈ sm_TB := sm_inT (sm_t5 (List.mem_of_getElem? (i := 114) rfl)) rfl
theorem hdX1_markGift : sm_hdk sm_TB yX1_markGift cX1_markGift 4 none 2 := ⟨wCX1_markGift, wNX1, ⟨neX1.1, neX1.2, by decide +kernel⟩, by decide⟩
theorem wIX1_markGift : Cond.instanceMethod yX1_markGift ∈ sm_TB := sm_inT (sm_t5 (List.mem_of_getElem? (i := 113) rfl)) rfl
theorem wVX1_markGift : Cond.selects RX1 yX1_markGift yX1_markGift ∈ sm_TB := sm_inT (sm_v6 (q := (yX1_markGift, 13)) (List.mem_of_getElem? (i := 5) rfl)) rfl
set_option maxRecDepth 20000 in
theorem hkX1_markGift : sm_fd sm_pg 17 = some miX1_markGift := by rfl
theorem hhX1_markGift : sm_fd sm_hds 17 = some (yX1_markGift, cX1_markGift, 4, none) := sm_hh hkX1_markGift
theorem wCX1_findLeast : Cond.code yX1_findLeast cX1_findLeast 3 none ∈ sm_TB := sm_inT (sm_t5 (List.mem_of_getElem? (i := 122) rfl)) rfl
theorem hdX1_findLeast : sm_hdk sm_TB yX1_findLeast cX1_findLeast 3 none 0 := ⟨wCX1_findLeast, wNX1, ⟨neX1.1, neX1.2, by decide +kernel⟩, by decide⟩
theorem wIX1_findLeast : Cond.instanceMethod yX1_findLeast ∈ sm_TB := sm_inT (sm_t5 (List.mem_of_getElem? (i := 121) rfl)) rfl
theorem wVX1_findLeast : Cond.selects RX1 yX1_findLeast yX1_findLeast ∈ sm_TB := sm_inT (sm_v6 (q := (yX1_findLeast, 13)) (List.mem_of_getElem? (i := 7) rfl)) rfl
set_option maxRecDepth 20000 in
theorem hkX1_findLeast : sm_fd sm_pg 18 = some miX1_findLeast := by rfl
theorem hhX1_findLeast : sm_fd sm_hds 18 = some (yX1_findLeast, cX1_findLeast, 3, none) := sm_hh hkX1_findLeast
theorem wCX1_needsMore : Cond.code yX1_needsMore cX1_needsMore 8 (some .boolean) ∈ sm_TB := sm_inT (sm_t5 (List.mem_of_getElem? (i := 132) rfl)) rfl
theorem hdX1_needsMore : sm_hdk sm_TB yX1_needsMore cX1_needsMore 8 (some .boolean) 2 := ⟨wCX1_needsMore, wNX1, ⟨neX1.1, neX1.2, by decide +kernel⟩, by decide⟩
theorem wIX1_needsMore : Cond.instanceMethod yX1_needsMore ∈ sm_TB := sm_inT (sm_t5 (List.mem_of_getElem? (i := 131) rfl)) rfl
theorem wVX1_needsMore : Cond.selects RX1 yX1_needsMore yX1_needsMore ∈ sm_TB := sm_inT (sm_v6 (q := (yX1_needsMore, 13)) (List.mem_of_getElem? (i := 9) rfl)) rfl
set_option maxRecDepth 20000 in
theorem hkX1_needsMore : sm_fd sm_pg 19 = some miX1_needsMore := by rfl
theorem hhX1_needsMore : sm_fd sm_hds 19 = some (yX1_needsMore, cX1_needsMore, 8, (some .boolean)) := sm_hh hkX1_needsMore
theorem wCX1_choose : Cond.code yX1_choose cX1_choose 8 (some .boolean) ∈ sm_TB := sm_inT (sm_t5 (List.mem_of_getElem? (i := 126) rfl)) rfl
theorem hdX1_choose : sm_hdk sm_TB yX1_choose cX1_choose 8 (some .boolean) 3 := ⟨wCX1_choose, wNX1, ⟨neX1.1, neX1.2, by decide +kernel⟩, by decide⟩
theorem wIX1_choose : Cond.instanceMethod yX1_choose ∈ sm_TB := sm_inT (sm_t5 (List.mem_of_getElem? (i := 125) rfl)) rfl
theorem wVX1_choose : Cond.selects RX1 yX1_choose yX1_choose ∈ sm_TB := sm_inT (sm_v6 (q := (yX1_choose, 13)) (List.mem_of_getElem? (i := 8) rfl)) rfl
set_option maxRecDepth 20000 in
theorem hkX1_choose : sm_fd sm_pg 20 = some miX1_choose := by rfl
theorem hhX1_choose : sm_fd sm_hds 20 = some (yX1_choose, cX1_choose, 8, (some .boolean)) := sm_hh hkX1_choose
theorem wCX2_init : Cond.code yX2_init cX2_init 2 none ∈ sm_TB := sm_inT (sm_t2 (List.mem_of_getElem? (i := 55) rfl)) rfl
theorem hdX2_init : sm_hdk sm_TB yX2_init cX2_init 2 none 1 := ⟨wCX2_init, wNX2, ⟨neX2.1, neX2.2, by decide +kernel⟩, by decide⟩
theorem wIX2_init : Cond.instanceMethod yX2_init ∈ sm_TB := sm_inT (sm_t2 (List.mem_of_getElem? (i := 54) rfl)) rfl
set_option maxRecDepth 20000 in
theorem hkX2_init : sm_fd sm_pg 21 = some miX2_init := by rfl
theorem hhX2_init : sm_fd sm_hds 21 = some (yX2_init, cX2_init, 2, none) := sm_hh hkX2_init
theorem wCX2_sortPart : Cond.code yX2_sortPart cX2_sortPart 6 none ∈ sm_TB := sm_inT (sm_t4 (List.mem_of_getElem? (i := 213) rfl)) rfl
theorem hdX2_sortPart : sm_hdk sm_TB yX2_sortPart cX2_sortPart 6 none 4 := ⟨wCX2_sortPart, wNX2, ⟨neX2.1, neX2.2, by decide +kernel⟩, by decide⟩
theorem wIX2_sortPart : Cond.instanceMethod yX2_sortPart ∈ sm_TB := sm_inT (sm_t4 (List.mem_of_getElem? (i := 212) rfl)) rfl
theorem wVX2_sortPart : Cond.selects RX2 yX2_sortPart yX2_sortPart ∈ sm_TB := sm_inT (sm_v5 (q := (yX2_sortPart, 14)) (List.mem_of_getElem? (i := 0) rfl)) rfl
set_option maxRecDepth 20000 in
theorem hkX2_sortPart : sm_fd sm_pg 22 = some miX2_sortPart := by rfl
theorem hhX2_sortPart : sm_fd sm_hds 22 = some (yX2_sortPart, cX2_sortPart, 6, none) := sm_hh hkX2_sortPart
theorem wCX2_numberOf : Cond.code yX2_numberOf cX2_numberOf 2 (some .int) ∈ sm_TB := sm_inT (sm_t5 (List.mem_of_getElem? (i := 14) rfl)) rfl
theorem hdX2_numberOf : sm_hdk sm_TB yX2_numberOf cX2_numberOf 2 (some .int) 1 := ⟨wCX2_numberOf, wNX2, ⟨neX2.1, neX2.2, by decide +kernel⟩, by decide⟩
theorem wIX2_numberOf : Cond.instanceMethod yX2_numberOf ∈ sm_TB := sm_inT (sm_t5 (List.mem_of_getElem? (i := 13) rfl)) rfl
theorem wVX2_numberOf : Cond.selects RX2 yX2_numberOf yX2_numberOf ∈ sm_TB := sm_inT (sm_v5 (q := (yX2_numberOf, 14)) (List.mem_of_getElem? (i := 8) rfl)) rfl
set_option maxRecDepth 20000 in
theorem hkX2_numberOf : sm_fd sm_pg 23 = some miX2_numberOf := by rfl
theorem hhX2_numberOf : sm_fd sm_hds 23 = some (yX2_numberOf, cX2_numberOf, 2, (some .int)) := sm_hh hkX2_numberOf
theorem wCX2_relate : Cond.code yX2_relate cX2_relate 3 none ∈ sm_TB := sm_inT (sm_t4 (List.mem_of_getElem? (i := 221) rfl)) rfl
theorem hdX2_relate : sm_hdk sm_TB yX2_relate cX2_relate 3 none 0 := ⟨wCX2_relate, wNX2, ⟨neX2.1, neX2.2, by decide +kernel⟩, by decide⟩
theorem wIX2_relate : Cond.instanceMethod yX2_relate ∈ sm_TB := sm_inT (sm_t4 (List.mem_of_getElem? (i := 220) rfl)) rfl
theorem wVX2_relate : Cond.selects RX2 yX2_relate yX2_relate ∈ sm_TB := sm_inT (sm_v5 (q := (yX2_relate, 14)) (List.mem_of_getElem? (i := 1) rfl)) rfl
set_option maxRecDepth 20000 in
theorem hkX2_relate : sm_fd sm_pg 24 = some miX2_relate := by rfl
theorem hhX2_relate : sm_fd sm_hds 24 = some (yX2_relate, cX2_relate, 3, none) := sm_hh hkX2_relate
theorem wCX2_followChains : Cond.code yX2_followChains cX2_followChains 4 none ∈ sm_TB := sm_inT (sm_t4 (List.mem_of_getElem? (i := 225) rfl)) rfl
theorem hdX2_followChains : sm_hdk sm_TB yX2_followChains cX2_followChains 4 none 2 := ⟨wCX2_followChains, wNX2, ⟨neX2.1, neX2.2, by decide +kernel⟩, by decide⟩
theorem wIX2_followChains : Cond.instanceMethod yX2_followChains ∈ sm_TB := sm_inT (sm_t4 (List.mem_of_getElem? (i := 224) rfl)) rfl
theorem wVX2_followChains : Cond.selects RX2 yX2_followChains yX2_followChains ∈ sm_TB := sm_inT (sm_v5 (q := (yX2_followChains, 14)) (List.mem_of_getElem? (i := 2) rfl)) rfl
set_option maxRecDepth 20000 in
theorem hkX2_followChains : sm_fd sm_pg 25 = some miX2_followChains := by rfl
theorem hhX2_followChains : sm_fd sm_hds 25 = some (yX2_followChains, cX2_followChains, 4, none) := sm_hh hkX2_followChains
theorem wCX2_followThrough : Cond.code yX2_followThrough cX2_followThrough 13 none ∈ sm_TB := sm_inT (sm_t4 (List.mem_of_getElem? (i := 229) rfl)) rfl
theorem hdX2_followThrough : sm_hdk sm_TB yX2_followThrough cX2_followThrough 13 none 3 := ⟨wCX2_followThrough, wNX2, ⟨neX2.1, neX2.2, by decide +kernel⟩, by decide⟩
theorem wIX2_followThrough : Cond.instanceMethod yX2_followThrough ∈ sm_TB := sm_inT (sm_t4 (List.mem_of_getElem? (i := 228) rfl)) rfl
theorem wVX2_followThrough : Cond.selects RX2 yX2_followThrough yX2_followThrough ∈ sm_TB := sm_inT (sm_v5 (q := (yX2_followThrough, 14)) (List.mem_of_getElem? (i := 3) rfl)) rfl
set_option maxRecDepth 20000 in
theorem hkX2_followThrough : sm_fd sm_pg 26 = some miX2_followThrough := by rfl
theorem hhX2_followThrough : sm_fd sm_hds 26 = some (yX2_followThrough, cX2_followThrough, 13, none) := sm_hh hkX2_followThrough
theorem wCX2_numberAll : Cond.code yX2_numberAll cX2_numberAll 3 none ∈ sm_TB := sm_inT (sm_t4 (List.mem_of_getElem? (i := 233) rfl)) rfl
theorem hdX2_numberAll : sm_hdk sm_TB yX2_numberAll cX2_numberAll 3 none 0 := ⟨wCX2_numberAll, wNX2, ⟨neX2.1, neX2.2, by decide +kernel⟩, by decide⟩
theorem wIX2_numberAll : Cond.instanceMethod yX2_numberAll ∈ sm_TB := sm_inT (sm_t4 (List.mem_of_getElem? (i := 232) rfl)) rfl
theorem wVX2_numberAll : Cond.selects RX2 yX2_numberAll yX2_numberAll ∈ sm_TB := sm_inT (sm_v5 (q := (yX2_numberAll, 14)) (List.mem_of_getElem? (i := 4) rfl)) rfl
set_option maxRecDepth 20000 in
theorem hkX2_numberAll : sm_fd sm_pg 27 = some miX2_numberAll := by rfl
theorem hhX2_numberAll : sm_fd sm_hds 27 = some (yX2_numberAll, cX2_numberAll, 3, none) := sm_hh hkX2_numberAll
theorem wCX2_lowestOnTop : Cond.code yX2_lowestOnTop cX2_lowestOnTop 2 (some .int) ∈ sm_TB := sm_inT (sm_t4 (List.mem_of_getElem? (i := 237) rfl)) rfl
theorem hdX2_lowestOnTop : sm_hdk sm_TB yX2_lowestOnTop cX2_lowestOnTop 2 (some .int) 0 := ⟨wCX2_lowestOnTop, wNX2, ⟨neX2.1, neX2.2, by decide +kernel⟩, by decide⟩
theorem wIX2_lowestOnTop : Cond.instanceMethod yX2_lowestOnTop ∈ sm_TB := sm_inT (sm_t4 (List.mem_of_getElem? (i := 236) rfl)) rfl
theorem wVX2_lowestOnTop : Cond.selects RX2 yX2_lowestOnTop yX2_lowestOnTop ∈ sm_TB := sm_inT (sm_v5 (q := (yX2_lowestOnTop, 14)) (List.mem_of_getElem? (i := 5) rfl)) rfl
set_option maxRecDepth 20000 in
theorem hkX2_lowestOnTop : sm_fd sm_pg 28 = some miX2_lowestOnTop := by rfl
theorem hhX2_lowestOnTop : sm_fd sm_hds 28 = some (yX2_lowestOnTop, cX2_lowestOnTop, 2, (some .int)) := sm_hh hkX2_lowestOnTop
theorem wCX2_isOnTop : Cond.code yX2_isOnTop cX2_isOnTop 2 (some .boolean) ∈ sm_TB := sm_inT (sm_t5 (List.mem_of_getElem? (i := 2) rfl)) rfl
theorem hdX2_isOnTop : sm_hdk sm_TB yX2_isOnTop cX2_isOnTop 2 (some .boolean) 1 := ⟨wCX2_isOnTop, wNX2, ⟨neX2.1, neX2.2, by decide +kernel⟩, by decide⟩
theorem wIX2_isOnTop : Cond.instanceMethod yX2_isOnTop ∈ sm_TB := sm_inT (sm_t5 (List.mem_of_getElem? (i := 1) rfl)) rfl
theorem wVX2_isOnTop : Cond.selects RX2 yX2_isOnTop yX2_isOnTop ∈ sm_TB := sm_inT (sm_v5 (q := (yX2_isOnTop, 14)) (List.mem_of_getElem? (i := 6) rfl)) rfl
set_option maxRecDepth 20000 in
theorem hkX2_isOnTop : sm_fd sm_pg 29 = some miX2_isOnTop := by rfl
theorem hhX2_isOnTop : sm_fd sm_hds 29 = some (yX2_isOnTop, cX2_isOnTop, 2, (some .boolean)) := sm_hh hkX2_isOnTop
theorem wCX2_numberLayerOf : Cond.code yX2_numberLayerOf cX2_numberLayerOf 8 none ∈ sm_TB := sm_inT (sm_t5 (List.mem_of_getElem? (i := 6) rfl)) rfl
theorem hdX2_numberLayerOf : sm_hdk sm_TB yX2_numberLayerOf cX2_numberLayerOf 8 none 1 := ⟨wCX2_numberLayerOf, wNX2, ⟨neX2.1, neX2.2, by decide +kernel⟩, by decide⟩
theorem wIX2_numberLayerOf : Cond.instanceMethod yX2_numberLayerOf ∈ sm_TB := sm_inT (sm_t5 (List.mem_of_getElem? (i := 5) rfl)) rfl
theorem wVX2_numberLayerOf : Cond.selects RX2 yX2_numberLayerOf yX2_numberLayerOf ∈ sm_TB := sm_inT (sm_v5 (q := (yX2_numberLayerOf, 14)) (List.mem_of_getElem? (i := 7) rfl)) rfl
set_option maxRecDepth 20000 in
theorem hkX2_numberLayerOf : sm_fd sm_pg 30 = some miX2_numberLayerOf := by rfl
theorem hhX2_numberLayerOf : sm_fd sm_hds 30 = some (yX2_numberLayerOf, cX2_numberLayerOf, 8, none) := sm_hh hkX2_numberLayerOf
theorem wCX3_init : Cond.code yX3_init cX3_init 1 none ∈ sm_TB := sm_inT (sm_t1 (List.mem_of_getElem? (i := 39) rfl)) rfl
theorem hdX3_init : sm_hdk sm_TB yX3_init cX3_init 1 none 0 := ⟨wCX3_init, wNX3, ⟨neX3.1, neX3.2, by decide +kernel⟩, by decide⟩
theorem wIX3_init : Cond.instanceMethod yX3_init ∈ sm_TB := sm_inT (sm_t1 (List.mem_of_getElem? (i := 38) rfl)) rfl
set_option maxRecDepth 20000 in
theorem hkX3_init : sm_fd sm_pg 31 = some miX3_init := by rfl
theorem hhX3_init : sm_fd sm_hds 31 = some (yX3_init, cX3_init, 1, none) := sm_hh hkX3_init
theorem wCX3_valueOf : Cond.code yX3_valueOf cX3_valueOf 2 (some .int) ∈ sm_TB := sm_inT (sm_t4 (List.mem_of_getElem? (i := 107) rfl)) rfl
theorem hdX3_valueOf : sm_hdk sm_TB yX3_valueOf cX3_valueOf 2 (some .int) 1 := ⟨wCX3_valueOf, wNX3, ⟨neX3.1, neX3.2, by decide +kernel⟩, by decide⟩
theorem wIX3_valueOf : Cond.instanceMethod yX3_valueOf ∈ sm_TB := sm_inT (sm_t4 (List.mem_of_getElem? (i := 106) rfl)) rfl
theorem wVX3_valueOf : Cond.selects RX3 yX3_valueOf yX3_valueOf ∈ sm_TB := sm_inT (sm_v4 (q := (yX3_valueOf, 10)) (List.mem_of_getElem? (i := 2) rfl)) rfl
set_option maxRecDepth 20000 in
theorem hkX3_valueOf : sm_fd sm_pg 32 = some miX3_valueOf := by rfl
theorem hhX3_valueOf : sm_fd sm_hds 32 = some (yX3_valueOf, cX3_valueOf, 2, (some .int)) := sm_hh hkX3_valueOf
theorem wCX3_timeOf : Cond.code yX3_timeOf cX3_timeOf 2 (some .int) ∈ sm_TB := sm_inT (sm_t4 (List.mem_of_getElem? (i := 160) rfl)) rfl
theorem hdX3_timeOf : sm_hdk sm_TB yX3_timeOf cX3_timeOf 2 (some .int) 1 := ⟨wCX3_timeOf, wNX3, ⟨neX3.1, neX3.2, by decide +kernel⟩, by decide⟩
theorem wIX3_timeOf : Cond.instanceMethod yX3_timeOf ∈ sm_TB := sm_inT (sm_t4 (List.mem_of_getElem? (i := 159) rfl)) rfl
theorem wVX3_timeOf : Cond.selects RX3 yX3_timeOf yX3_timeOf ∈ sm_TB := sm_inT (sm_v4 (q := (yX3_timeOf, 10)) (List.mem_of_getElem? (i := 10) rfl)) rfl
set_option maxRecDepth 20000 in
theorem hkX3_timeOf : sm_fd sm_pg 33 = some miX3_timeOf := by rfl
theorem hhX3_timeOf : sm_fd sm_hds 33 = some (yX3_timeOf, cX3_timeOf, 2, (some .int)) := sm_hh hkX3_timeOf
theorem wCX3_tellOne : Cond.code yX3_tellOne cX3_tellOne 3 (some .int) ∈ sm_TB := sm_inT (sm_t3 (List.mem_of_getElem? (i := 35) rfl)) rfl
theorem hdX3_tellOne : sm_hdk sm_TB yX3_tellOne cX3_tellOne 3 (some .int) 2 := ⟨wCX3_tellOne, wNX3, ⟨neX3.1, neX3.2, by decide +kernel⟩, by decide⟩
theorem wIX3_tellOne : Cond.instanceMethod yX3_tellOne ∈ sm_TB := sm_inT (sm_t3 (List.mem_of_getElem? (i := 34) rfl)) rfl
theorem wVX3_tellOne : Cond.selects RX3 yX3_tellOne yX3_tellOne ∈ sm_TB := sm_inT (sm_v1 (q := (yX3_tellOne, 10)) (List.mem_of_getElem? (i := 2) rfl)) rfl
set_option maxRecDepth 20000 in
theorem hkX3_tellOne : sm_fd sm_pg 34 = some miX3_tellOne := by rfl
theorem hhX3_tellOne : sm_fd sm_hds 34 = some (yX3_tellOne, cX3_tellOne, 3, (some .int)) := sm_hh hkX3_tellOne
theorem wCX3_dropStaged : Cond.code yX3_dropStaged cX3_dropStaged 1 none ∈ sm_TB := sm_inT (sm_t3 (List.mem_of_getElem? (i := 39) rfl)) rfl
theorem hdX3_dropStaged : sm_hdk sm_TB yX3_dropStaged cX3_dropStaged 1 none 0 := ⟨wCX3_dropStaged, wNX3, ⟨neX3.1, neX3.2, by decide +kernel⟩, by decide⟩
theorem wIX3_dropStaged : Cond.instanceMethod yX3_dropStaged ∈ sm_TB := sm_inT (sm_t3 (List.mem_of_getElem? (i := 38) rfl)) rfl
theorem wVX3_dropStaged : Cond.selects RX3 yX3_dropStaged yX3_dropStaged ∈ sm_TB := sm_inT (sm_v1 (q := (yX3_dropStaged, 10)) (List.mem_of_getElem? (i := 3) rfl)) rfl
set_option maxRecDepth 20000 in
theorem hkX3_dropStaged : sm_fd sm_pg 35 = some miX3_dropStaged := by rfl
theorem hhX3_dropStaged : sm_fd sm_hds 35 = some (yX3_dropStaged, cX3_dropStaged, 1, none) := sm_hh hkX3_dropStaged
theorem wCX3_stage : Cond.code yX3_stage cX3_stage 3 none ∈ sm_TB := sm_inT (sm_t3 (List.mem_of_getElem? (i := 43) rfl)) rfl
theorem hdX3_stage : sm_hdk sm_TB yX3_stage cX3_stage 3 none 2 := ⟨wCX3_stage, wNX3, ⟨neX3.1, neX3.2, by decide +kernel⟩, by decide⟩
theorem wIX3_stage : Cond.instanceMethod yX3_stage ∈ sm_TB := sm_inT (sm_t3 (List.mem_of_getElem? (i := 42) rfl)) rfl
theorem wVX3_stage : Cond.selects RX3 yX3_stage yX3_stage ∈ sm_TB := sm_inT (sm_v1 (q := (yX3_stage, 10)) (List.mem_of_getElem? (i := 4) rfl)) rfl
set_option maxRecDepth 20000 in
theorem hkX3_stage : sm_fd sm_pg 36 = some miX3_stage := by rfl
theorem hhX3_stage : sm_fd sm_hds 36 = some (yX3_stage, cX3_stage, 3, none) := sm_hh hkX3_stage
theorem wCX3_takeStaged : Cond.code yX3_takeStaged cX3_takeStaged 2 (some .int) ∈ sm_TB := sm_inT (sm_t3 (List.mem_of_getElem? (i := 47) rfl)) rfl
theorem hdX3_takeStaged : sm_hdk sm_TB yX3_takeStaged cX3_takeStaged 2 (some .int) 0 := ⟨wCX3_takeStaged, wNX3, ⟨neX3.1, neX3.2, by decide +kernel⟩, by decide⟩
theorem wIX3_takeStaged : Cond.instanceMethod yX3_takeStaged ∈ sm_TB := sm_inT (sm_t3 (List.mem_of_getElem? (i := 46) rfl)) rfl
theorem wVX3_takeStaged : Cond.selects RX3 yX3_takeStaged yX3_takeStaged ∈ sm_TB := sm_inT (sm_v1 (q := (yX3_takeStaged, 10)) (List.mem_of_getElem? (i := 5) rfl)) rfl
set_option maxRecDepth 20000 in
theorem hkX3_takeStaged : sm_fd sm_pg 37 = some miX3_takeStaged := by rfl
theorem hhX3_takeStaged : sm_fd sm_hds 37 = some (yX3_takeStaged, cX3_takeStaged, 2, (some .int)) := sm_hh hkX3_takeStaged
theorem wCX3_lookAt : Cond.code yX3_lookAt cX3_lookAt 2 none ∈ sm_TB := sm_inT (sm_t4 (List.mem_of_getElem? (i := 99) rfl)) rfl
theorem hdX3_lookAt : sm_hdk sm_TB yX3_lookAt cX3_lookAt 2 none 1 := ⟨wCX3_lookAt, wNX3, ⟨neX3.1, neX3.2, by decide +kernel⟩, by decide⟩
theorem wIX3_lookAt : Cond.instanceMethod yX3_lookAt ∈ sm_TB := sm_inT (sm_t4 (List.mem_of_getElem? (i := 98) rfl)) rfl
theorem wVX3_lookAt : Cond.selects RX3 yX3_lookAt yX3_lookAt ∈ sm_TB := sm_inT (sm_v4 (q := (yX3_lookAt, 10)) (List.mem_of_getElem? (i := 1) rfl)) rfl
set_option maxRecDepth 20000 in
theorem hkX3_lookAt : sm_fd sm_pg 38 = some miX3_lookAt := by rfl
theorem hhX3_lookAt : sm_fd sm_hds 38 = some (yX3_lookAt, cX3_lookAt, 2, none) := sm_hh hkX3_lookAt
theorem wCX3_forget : Cond.code yX3_forget cX3_forget 2 none ∈ sm_TB := sm_inT (sm_t1 (List.mem_of_getElem? (i := 44) rfl)) rfl
theorem hdX3_forget : sm_hdk sm_TB yX3_forget cX3_forget 2 none 0 := ⟨wCX3_forget, wNX3, ⟨neX3.1, neX3.2, by decide +kernel⟩, by decide⟩
theorem wIX3_forget : Cond.instanceMethod yX3_forget ∈ sm_TB := sm_inT (sm_t1 (List.mem_of_getElem? (i := 43) rfl)) rfl
theorem wVX3_forget : Cond.selects RX3 yX3_forget yX3_forget ∈ sm_TB := sm_inT (sm_v1 (q := (yX3_forget, 10)) (List.mem_of_getElem? (i := 0) rfl)) rfl
set_option maxRecDepth 20000 in
theorem hkX3_forget : sm_fd sm_pg 39 = some miX3_forget := by rfl
theorem hhX3_forget : sm_fd sm_hds 39 = some (yX3_forget, cX3_forget, 2, none) := sm_hh hkX3_forget
theorem wCX3_replay : Cond.code yX3_replay cX3_replay 4 none ∈ sm_TB := sm_inT (sm_t3 (List.mem_of_getElem? (i := 51) rfl)) rfl
theorem hdX3_replay : sm_hdk sm_TB yX3_replay cX3_replay 4 none 1 := ⟨wCX3_replay, wNX3, ⟨neX3.1, neX3.2, by decide +kernel⟩, by decide⟩
theorem wIX3_replay : Cond.instanceMethod yX3_replay ∈ sm_TB := sm_inT (sm_t3 (List.mem_of_getElem? (i := 50) rfl)) rfl
theorem wVX3_replay : Cond.selects RX3 yX3_replay yX3_replay ∈ sm_TB := sm_inT (sm_v1 (q := (yX3_replay, 10)) (List.mem_of_getElem? (i := 6) rfl)) rfl
set_option maxRecDepth 20000 in
theorem hkX3_replay : sm_fd sm_pg 40 = some miX3_replay := by rfl
theorem hhX3_replay : sm_fd sm_hds 40 = some (yX3_replay, cX3_replay, 4, none) := sm_hh hkX3_replay
theorem wCX4_init : Cond.code yX4_init cX4_init 4 none ∈ sm_TB := sm_inT (sm_t2 (List.mem_of_getElem? (i := 174) rfl)) rfl
theorem hdX4_init : sm_hdk sm_TB yX4_init cX4_init 4 none 3 := ⟨wCX4_init, wNX4, ⟨neX4.1, neX4.2, by decide +kernel⟩, by decide⟩
theorem wIX4_init : Cond.instanceMethod yX4_init ∈ sm_TB := sm_inT (sm_t2 (List.mem_of_getElem? (i := 173) rfl)) rfl
set_option maxRecDepth 20000 in
theorem hkX4_init : sm_fd sm_pg 41 = some miX4_init := by rfl
theorem hhX4_init : sm_fd sm_hds 41 = some (yX4_init, cX4_init, 4, none) := sm_hh hkX4_init
theorem wCX4_find : Cond.code yX4_find cX4_find 3 none ∈ sm_TB := sm_inT (sm_t5 (List.mem_of_getElem? (i := 172) rfl)) rfl
theorem hdX4_find : sm_hdk sm_TB yX4_find cX4_find 3 none 0 := ⟨wCX4_find, wNX4, ⟨neX4.1, neX4.2, by decide +kernel⟩, by decide⟩
theorem wIX4_find : Cond.instanceMethod yX4_find ∈ sm_TB := sm_inT (sm_t5 (List.mem_of_getElem? (i := 171) rfl)) rfl
theorem wVX4_find : Cond.selects RX4 yX4_find yX4_find ∈ sm_TB := sm_inT (sm_v6 (q := (yX4_find, 15)) (List.mem_of_getElem? (i := 14) rfl)) rfl
set_option maxRecDepth 20000 in
theorem hkX4_find : sm_fd sm_pg 42 = some miX4_find := by rfl
theorem hhX4_find : sm_fd sm_hds 42 = some (yX4_find, cX4_find, 3, none) := sm_hh hkX4_find
theorem wCX4_fitEnds : Cond.code yX4_fitEnds cX4_fitEnds 10 none ∈ sm_TB := sm_inT (sm_t5 (List.mem_of_getElem? (i := 176) rfl)) rfl
theorem hdX4_fitEnds : sm_hdk sm_TB yX4_fitEnds cX4_fitEnds 10 none 0 := ⟨wCX4_fitEnds, wNX4, ⟨neX4.1, neX4.2, by decide +kernel⟩, by decide⟩
theorem wIX4_fitEnds : Cond.instanceMethod yX4_fitEnds ∈ sm_TB := sm_inT (sm_t5 (List.mem_of_getElem? (i := 175) rfl)) rfl
theorem wVX4_fitEnds : Cond.selects RX4 yX4_fitEnds yX4_fitEnds ∈ sm_TB := sm_inT (sm_v6 (q := (yX4_fitEnds, 15)) (List.mem_of_getElem? (i := 15) rfl)) rfl
set_option maxRecDepth 20000 in
theorem hkX4_fitEnds : sm_fd sm_pg 43 = some miX4_fitEnds := by rfl
theorem hhX4_fitEnds : sm_fd sm_hds 43 = some (yX4_fitEnds, cX4_fitEnds, 10, none) := sm_hh hkX4_fitEnds
theorem wCX4_weighThreading : Cond.code yX4_weighThreading cX4_weighThreading 1 none ∈ sm_TB := sm_inT (sm_t5 (List.mem_of_getElem? (i := 185) rfl)) rfl
theorem hdX4_weighThreading : sm_hdk sm_TB yX4_weighThreading cX4_weighThreading 1 none 0 := ⟨wCX4_weighThreading, wNX4, ⟨neX4.1, neX4.2, by decide +kernel⟩, by decide⟩
theorem wIX4_weighThreading : Cond.instanceMethod yX4_weighThreading ∈ sm_TB := sm_inT (sm_t5 (List.mem_of_getElem? (i := 184) rfl)) rfl
theorem wVX4_weighThreading : Cond.selects RX4 yX4_weighThreading yX4_weighThreading ∈ sm_TB := sm_inT (sm_v7 (q := (yX4_weighThreading, 15)) (List.mem_of_getElem? (i := 1) rfl)) rfl
set_option maxRecDepth 20000 in
theorem hkX4_weighThreading : sm_fd sm_pg 44 = some miX4_weighThreading := by rfl
theorem hhX4_weighThreading : sm_fd sm_hds 44 = some (yX4_weighThreading, cX4_weighThreading, 1, none) := sm_hh hkX4_weighThreading
theorem wCX4_weighTie : Cond.code yX4_weighTie cX4_weighTie 10 none ∈ sm_TB := sm_inT (sm_t5 (List.mem_of_getElem? (i := 190) rfl)) rfl
theorem hdX4_weighTie : sm_hdk sm_TB yX4_weighTie cX4_weighTie 10 none 2 := ⟨wCX4_weighTie, wNX4, ⟨neX4.1, neX4.2, by decide +kernel⟩, by decide⟩
theorem wIX4_weighTie : Cond.instanceMethod yX4_weighTie ∈ sm_TB := sm_inT (sm_t5 (List.mem_of_getElem? (i := 189) rfl)) rfl
theorem wVX4_weighTie : Cond.selects RX4 yX4_weighTie yX4_weighTie ∈ sm_TB := sm_inT (sm_v7 (q := (yX4_weighTie, 15)) (List.mem_of_getElem? (i := 2) rfl)) rfl
set_option maxRecDepth 20000 in
theorem hkX4_weighTie : sm_fd sm_pg 45 = some miX4_weighTie := by rfl
theorem hhX4_weighTie : sm_fd sm_hds 45 = some (yX4_weighTie, cX4_weighTie, 10, none) := sm_hh hkX4_weighTie
theorem wCX4_picksAfter : Cond.code yX4_picksAfter cX4_picksAfter 7 (some .long) ∈ sm_TB := sm_inT (sm_t5 (List.mem_of_getElem? (i := 194) rfl)) rfl
theorem hdX4_picksAfter : sm_hdk sm_TB yX4_picksAfter cX4_picksAfter 7 (some .long) 2 := ⟨wCX4_picksAfter, wNX4, ⟨neX4.1, neX4.2, by decide +kernel⟩, by decide⟩
theorem wIX4_picksAfter : Cond.instanceMethod yX4_picksAfter ∈ sm_TB := sm_inT (sm_t5 (List.mem_of_getElem? (i := 193) rfl)) rfl
theorem wVX4_picksAfter : Cond.selects RX4 yX4_picksAfter yX4_picksAfter ∈ sm_TB := sm_inT (sm_v7 (q := (yX4_picksAfter, 15)) (List.mem_of_getElem? (i := 3) rfl)) rfl
set_option maxRecDepth 20000 in
theorem hkX4_picksAfter : sm_fd sm_pg 46 = some miX4_picksAfter := by rfl
theorem hhX4_picksAfter : sm_fd sm_hds 46 = some (yX4_picksAfter, cX4_picksAfter, 7, (some .long)) := sm_hh hkX4_picksAfter
theorem wCX4_settle : Cond.code yX4_settle cX4_settle 3 none ∈ sm_TB := sm_inT (sm_t5 (List.mem_of_getElem? (i := 200) rfl)) rfl
theorem hdX4_settle : sm_hdk sm_TB yX4_settle cX4_settle 3 none 0 := ⟨wCX4_settle, wNX4, ⟨neX4.1, neX4.2, by decide +kernel⟩, by decide⟩
theorem wIX4_settle : Cond.instanceMethod yX4_settle ∈ sm_TB := sm_inT (sm_t5 (List.mem_of_getElem? (i := 199) rfl)) rfl
theorem wVX4_settle : Cond.selects RX4 yX4_settle yX4_settle ∈ sm_TB := sm_inT (sm_v7 (q := (yX4_settle, 15)) (List.mem_of_getElem? (i := 4) rfl)) rfl
set_option maxRecDepth 20000 in
theorem hkX4_settle : sm_fd sm_pg 47 = some miX4_settle := by rfl
theorem hhX4_settle : sm_fd sm_hds 47 = some (yX4_settle, cX4_settle, 3, none) := sm_hh hkX4_settle
theorem wCX4_fits : Cond.code yX4_fits cX4_fits 3 (some .boolean) ∈ sm_TB := sm_inT (sm_t5 (List.mem_of_getElem? (i := 204) rfl)) rfl
theorem hdX4_fits : sm_hdk sm_TB yX4_fits cX4_fits 3 (some .boolean) 2 := ⟨wCX4_fits, wNX4, ⟨neX4.1, neX4.2, by decide +kernel⟩, by decide⟩
theorem wIX4_fits : Cond.instanceMethod yX4_fits ∈ sm_TB := sm_inT (sm_t5 (List.mem_of_getElem? (i := 203) rfl)) rfl
theorem wVX4_fits : Cond.selects RX4 yX4_fits yX4_fits ∈ sm_TB := sm_inT (sm_v7 (q := (yX4_fits, 15)) (List.mem_of_getElem? (i := 5) rfl)) rfl
set_option maxRecDepth 20000 in
theorem hkX4_fits : sm_fd sm_pg 48 = some miX4_fits := by rfl
theorem hhX4_fits : sm_fd sm_hds 48 = some (yX4_fits, cX4_fits, 3, (some .boolean)) := sm_hh hkX4_fits
theorem wCX4_firstFitting : Cond.code yX4_firstFitting cX4_firstFitting 3 (some .int) ∈ sm_TB := sm_inT (sm_t5 (List.mem_of_getElem? (i := 208) rfl)) rfl
theorem hdX4_firstFitting : sm_hdk sm_TB yX4_firstFitting cX4_firstFitting 3 (some .int) 1 := ⟨wCX4_firstFitting, wNX4, ⟨neX4.1, neX4.2, by decide +kernel⟩, by decide⟩
theorem wIX4_firstFitting : Cond.instanceMethod yX4_firstFitting ∈ sm_TB := sm_inT (sm_t5 (List.mem_of_getElem? (i := 207) rfl)) rfl
theorem wVX4_firstFitting : Cond.selects RX4 yX4_firstFitting yX4_firstFitting ∈ sm_TB := sm_inT (sm_v7 (q := (yX4_firstFitting, 15)) (List.mem_of_getElem? (i := 6) rfl)) rfl
set_option maxRecDepth 20000 in
theorem hkX4_firstFitting : sm_fd sm_pg 49 = some miX4_firstFitting := by rfl
theorem hhX4_firstFitting : sm_fd sm_hds 49 = some (yX4_firstFitting, cX4_firstFitting, 3, (some .int)) := sm_hh hkX4_firstFitting
theorem wCX5_init : Cond.code yX5_init cX5_init 3 none ∈ sm_TB := sm_inT (sm_t2 (List.mem_of_getElem? (i := 36) rfl)) rfl
theorem hdX5_init : sm_hdk sm_TB yX5_init cX5_init 3 none 2 := ⟨wCX5_init, wNX5, ⟨neX5.1, neX5.2, by decide +kernel⟩, by decide⟩
theorem wIX5_init : Cond.instanceMethod yX5_init ∈ sm_TB := sm_inT (sm_t2 (List.mem_of_getElem? (i := 35) rfl)) rfl
set_option maxRecDepth 20000 in
theorem hkX5_init : sm_fd sm_pg 50 = some miX5_init := by rfl
theorem hhX5_init : sm_fd sm_hds 50 = some (yX5_init, cX5_init, 3, none) := sm_hh hkX5_init
theorem wCX5_showCells : Cond.code yX5_showCells cX5_showCells 2 none ∈ sm_TB := sm_inT (sm_t5 (List.mem_of_getElem? (i := 47) rfl)) rfl
theorem hdX5_showCells : sm_hdk sm_TB yX5_showCells cX5_showCells 2 none 0 := ⟨wCX5_showCells, wNX5, ⟨neX5.1, neX5.2, by decide +kernel⟩, by decide⟩
theorem wIX5_showCells : Cond.instanceMethod yX5_showCells ∈ sm_TB := sm_inT (sm_t5 (List.mem_of_getElem? (i := 46) rfl)) rfl
theorem wVX5_showCells : Cond.selects RX5 yX5_showCells yX5_showCells ∈ sm_TB := sm_inT (sm_v5 (q := (yX5_showCells, 4)) (List.mem_of_getElem? (i := 11) rfl)) rfl
set_option maxRecDepth 20000 in
theorem hkX5_showCells : sm_fd sm_pg 51 = some miX5_showCells := by rfl
theorem hhX5_showCells : sm_fd sm_hds 51 = some (yX5_showCells, cX5_showCells, 2, none) := sm_hh hkX5_showCells
theorem wCX5_showColours : Cond.code yX5_showColours cX5_showColours 8 none ∈ sm_TB := sm_inT (sm_t5 (List.mem_of_getElem? (i := 40) rfl)) rfl
theorem hdX5_showColours : sm_hdk sm_TB yX5_showColours cX5_showColours 8 none 0 := ⟨wCX5_showColours, wNX5, ⟨neX5.1, neX5.2, by decide +kernel⟩, by decide⟩
theorem wIX5_showColours : Cond.instanceMethod yX5_showColours ∈ sm_TB := sm_inT (sm_t5 (List.mem_of_getElem? (i := 39) rfl)) rfl
theorem wVX5_showColours : Cond.selects RX5 yX5_showColours yX5_showColours ∈ sm_TB := sm_inT (sm_v5 (q := (yX5_showColours, 4)) (List.mem_of_getElem? (i := 10) rfl)) rfl
set_option maxRecDepth 20000 in
theorem hkX5_showColours : sm_fd sm_pg 52 = some miX5_showColours := by rfl
theorem hhX5_showColours : sm_fd sm_hds 52 = some (yX5_showColours, cX5_showColours, 8, none) := sm_hh hkX5_showColours
theorem wCX5_likeAlongEnds : Cond.code yX5_likeAlongEnds cX5_likeAlongEnds 9 (some .boolean) ∈ sm_TB := sm_inT (sm_t5 (List.mem_of_getElem? (i := 51) rfl)) rfl
theorem hdX5_likeAlongEnds : sm_hdk sm_TB yX5_likeAlongEnds cX5_likeAlongEnds 9 (some .boolean) 1 := ⟨wCX5_likeAlongEnds, wNX5, ⟨neX5.1, neX5.2, by decide +kernel⟩, by decide⟩
theorem wIX5_likeAlongEnds : Cond.instanceMethod yX5_likeAlongEnds ∈ sm_TB := sm_inT (sm_t5 (List.mem_of_getElem? (i := 50) rfl)) rfl
theorem wVX5_likeAlongEnds : Cond.selects RX5 yX5_likeAlongEnds yX5_likeAlongEnds ∈ sm_TB := sm_inT (sm_v5 (q := (yX5_likeAlongEnds, 4)) (List.mem_of_getElem? (i := 12) rfl)) rfl
set_option maxRecDepth 20000 in
theorem hkX5_likeAlongEnds : sm_fd sm_pg 53 = some miX5_likeAlongEnds := by rfl
theorem hhX5_likeAlongEnds : sm_fd sm_hds 53 = some (yX5_likeAlongEnds, cX5_likeAlongEnds, 9, (some .boolean)) := sm_hh hkX5_likeAlongEnds
theorem wCX5_likeAlongPicks : Cond.code yX5_likeAlongPicks cX5_likeAlongPicks 5 (some .boolean) ∈ sm_TB := sm_inT (sm_t5 (List.mem_of_getElem? (i := 59) rfl)) rfl
theorem hdX5_likeAlongPicks : sm_hdk sm_TB yX5_likeAlongPicks cX5_likeAlongPicks 5 (some .boolean) 1 := ⟨wCX5_likeAlongPicks, wNX5, ⟨neX5.1, neX5.2, by decide +kernel⟩, by decide⟩
theorem wIX5_likeAlongPicks : Cond.instanceMethod yX5_likeAlongPicks ∈ sm_TB := sm_inT (sm_t5 (List.mem_of_getElem? (i := 58) rfl)) rfl
theorem wVX5_likeAlongPicks : Cond.selects RX5 yX5_likeAlongPicks yX5_likeAlongPicks ∈ sm_TB := sm_inT (sm_v5 (q := (yX5_likeAlongPicks, 4)) (List.mem_of_getElem? (i := 14) rfl)) rfl
set_option maxRecDepth 20000 in
theorem hkX5_likeAlongPicks : sm_fd sm_pg 54 = some miX5_likeAlongPicks := by rfl
theorem hhX5_likeAlongPicks : sm_fd sm_hds 54 = some (yX5_likeAlongPicks, cX5_likeAlongPicks, 5, (some .boolean)) := sm_hh hkX5_likeAlongPicks
theorem wCX5_rowAt : Cond.code yX5_rowAt cX5_rowAt 4 (some .long) ∈ sm_TB := sm_inT (sm_t5 (List.mem_of_getElem? (i := 55) rfl)) rfl
theorem hdX5_rowAt : sm_hdk sm_TB yX5_rowAt cX5_rowAt 4 (some .long) 2 := ⟨wCX5_rowAt, wNX5, ⟨neX5.1, neX5.2, by decide +kernel⟩, by decide⟩
theorem wIX5_rowAt : Cond.instanceMethod yX5_rowAt ∈ sm_TB := sm_inT (sm_t5 (List.mem_of_getElem? (i := 54) rfl)) rfl
theorem wVX5_rowAt : Cond.selects RX5 yX5_rowAt yX5_rowAt ∈ sm_TB := sm_inT (sm_v5 (q := (yX5_rowAt, 4)) (List.mem_of_getElem? (i := 13) rfl)) rfl
set_option maxRecDepth 20000 in
theorem hkX5_rowAt : sm_fd sm_pg 55 = some miX5_rowAt := by rfl
theorem hhX5_rowAt : sm_fd sm_hds 55 = some (yX5_rowAt, cX5_rowAt, 4, (some .long)) := sm_hh hkX5_rowAt
theorem wCX6_init : Cond.code yX6_init cX6_init 5 none ∈ sm_TB := sm_inT (sm_t1 (List.mem_of_getElem? (i := 194) rfl)) rfl
theorem hdX6_init : sm_hdk sm_TB yX6_init cX6_init 5 none 4 := ⟨wCX6_init, wNX6, ⟨neX6.1, neX6.2, by decide +kernel⟩, by decide⟩
theorem wIX6_init : Cond.instanceMethod yX6_init ∈ sm_TB := sm_inT (sm_t1 (List.mem_of_getElem? (i := 193) rfl)) rfl
set_option maxRecDepth 20000 in
theorem hkX6_init : sm_fd sm_pg 56 = some miX6_init := by rfl
theorem hhX6_init : sm_fd sm_hds 56 = some (yX6_init, cX6_init, 5, none) := sm_hh hkX6_init
theorem wCX6_readTape : Cond.code yX6_readTape cX6_readTape 2 none ∈ sm_TB := sm_inT (sm_t3 (List.mem_of_getElem? (i := 92) rfl)) rfl
theorem hdX6_readTape : sm_hdk sm_TB yX6_readTape cX6_readTape 2 none 0 := ⟨wCX6_readTape, wNX6, ⟨neX6.1, neX6.2, by decide +kernel⟩, by decide⟩
theorem wIX6_readTape : Cond.instanceMethod yX6_readTape ∈ sm_TB := sm_inT (sm_t3 (List.mem_of_getElem? (i := 91) rfl)) rfl
theorem wVX6_readTape : Cond.selects RX6 yX6_readTape yX6_readTape ∈ sm_TB := sm_inT (sm_v1 (q := (yX6_readTape, 20)) (List.mem_of_getElem? (i := 9) rfl)) rfl
set_option maxRecDepth 20000 in
theorem hkX6_readTape : sm_fd sm_pg 57 = some miX6_readTape := by rfl
theorem hhX6_readTape : sm_fd sm_hds 57 = some (yX6_readTape, cX6_readTape, 2, none) := sm_hh hkX6_readTape
theorem wCX6_endWhatCannotGoOn : Cond.code yX6_endWhatCannotGoOn cX6_endWhatCannotGoOn 1 none ∈ sm_TB := sm_inT (sm_t3 (List.mem_of_getElem? (i := 195) rfl)) rfl
theorem hdX6_endWhatCannotGoOn : sm_hdk sm_TB yX6_endWhatCannotGoOn cX6_endWhatCannotGoOn 1 none 0 := ⟨wCX6_endWhatCannotGoOn, wNX6, ⟨neX6.1, neX6.2, by decide +kernel⟩, by decide⟩
theorem wIX6_endWhatCannotGoOn : Cond.instanceMethod yX6_endWhatCannotGoOn ∈ sm_TB := sm_inT (sm_t3 (List.mem_of_getElem? (i := 194) rfl)) rfl
theorem wVX6_endWhatCannotGoOn : Cond.selects RX6 yX6_endWhatCannotGoOn yX6_endWhatCannotGoOn ∈ sm_TB := sm_inT (sm_v2 (q := (yX6_endWhatCannotGoOn, 20)) (List.mem_of_getElem? (i := 1) rfl)) rfl
set_option maxRecDepth 20000 in
theorem hkX6_endWhatCannotGoOn : sm_fd sm_pg 58 = some miX6_endWhatCannotGoOn := by rfl
theorem hhX6_endWhatCannotGoOn : sm_fd sm_hds 58 = some (yX6_endWhatCannotGoOn, cX6_endWhatCannotGoOn, 1, none) := sm_hh hkX6_endWhatCannotGoOn
theorem wCX6_fail : Cond.code yX6_fail cX6_fail 2 none ∈ sm_TB := sm_inT (sm_t3 (List.mem_of_getElem? (i := 233) rfl)) rfl
theorem hdX6_fail : sm_hdk sm_TB yX6_fail cX6_fail 2 none 1 := ⟨wCX6_fail, wNX6, ⟨neX6.1, neX6.2, by decide +kernel⟩, by decide⟩
theorem wIX6_fail : Cond.instanceMethod yX6_fail ∈ sm_TB := sm_inT (sm_t3 (List.mem_of_getElem? (i := 232) rfl)) rfl
theorem wVX6_fail : Cond.selects RX6 yX6_fail yX6_fail ∈ sm_TB := sm_inT (sm_v2 (q := (yX6_fail, 20)) (List.mem_of_getElem? (i := 10) rfl)) rfl
set_option maxRecDepth 20000 in
theorem hkX6_fail : sm_fd sm_pg 59 = some miX6_fail := by rfl
theorem hhX6_fail : sm_fd sm_hds 59 = some (yX6_fail, cX6_fail, 2, none) := sm_hh hkX6_fail
theorem wCX6_failAt : Cond.code yX6_failAt cX6_failAt 3 none ∈ sm_TB := sm_inT (sm_t3 (List.mem_of_getElem? (i := 217) rfl)) rfl
theorem hdX6_failAt : sm_hdk sm_TB yX6_failAt cX6_failAt 3 none 2 := ⟨wCX6_failAt, wNX6, ⟨neX6.1, neX6.2, by decide +kernel⟩, by decide⟩
theorem wIX6_failAt : Cond.instanceMethod yX6_failAt ∈ sm_TB := sm_inT (sm_t3 (List.mem_of_getElem? (i := 216) rfl)) rfl
theorem wVX6_failAt : Cond.selects RX6 yX6_failAt yX6_failAt ∈ sm_TB := sm_inT (sm_v2 (q := (yX6_failAt, 20)) (List.mem_of_getElem? (i := 6) rfl)) rfl
set_option maxRecDepth 20000 in
theorem hkX6_failAt : sm_fd sm_pg 60 = some miX6_failAt := by rfl
theorem hhX6_failAt : sm_fd sm_hds 60 = some (yX6_failAt, cX6_failAt, 3, none) := sm_hh hkX6_failAt
theorem wCX6_step : Cond.code yX6_step cX6_step 1 none ∈ sm_TB := sm_inT (sm_t3 (List.mem_of_getElem? (i := 221) rfl)) rfl
theorem hdX6_step : sm_hdk sm_TB yX6_step cX6_step 1 none 0 := ⟨wCX6_step, wNX6, ⟨neX6.1, neX6.2, by decide +kernel⟩, by decide⟩
theorem wIX6_step : Cond.instanceMethod yX6_step ∈ sm_TB := sm_inT (sm_t3 (List.mem_of_getElem? (i := 220) rfl)) rfl
theorem wVX6_step : Cond.selects RX6 yX6_step yX6_step ∈ sm_TB := sm_inT (sm_v2 (q := (yX6_step, 20)) (List.mem_of_getElem? (i := 7) rfl)) rfl
set_option maxRecDepth 20000 in
theorem hkX6_step : sm_fd sm_pg 61 = some miX6_step := by rfl
theorem hhX6_step : sm_fd sm_hds 61 = some (yX6_step, cX6_step, 1, none) := sm_hh hkX6_step
theorem wCX6_startClause : Cond.code yX6_startClause cX6_startClause 1 none ∈ sm_TB := sm_inT (sm_t3 (List.mem_of_getElem? (i := 225) rfl)) rfl
theorem hdX6_startClause : sm_hdk sm_TB yX6_startClause cX6_startClause 1 none 0 := ⟨wCX6_startClause, wNX6, ⟨neX6.1, neX6.2, by decide +kernel⟩, by decide⟩
theorem wIX6_startClause : Cond.instanceMethod yX6_startClause ∈ sm_TB := sm_inT (sm_t3 (List.mem_of_getElem? (i := 224) rfl)) rfl
theorem wVX6_startClause : Cond.selects RX6 yX6_startClause yX6_startClause ∈ sm_TB := sm_inT (sm_v2 (q := (yX6_startClause, 20)) (List.mem_of_getElem? (i := 8) rfl)) rfl
set_option maxRecDepth 20000 in
theorem hkX6_startClause : sm_fd sm_pg 62 = some miX6_startClause := by rfl
theorem hhX6_startClause : sm_fd sm_hds 62 = some (yX6_startClause, cX6_startClause, 1, none) := sm_hh hkX6_startClause
theorem wCX6_nameBlock : Cond.code yX6_nameBlock cX6_nameBlock 1 none ∈ sm_TB := sm_inT (sm_t3 (List.mem_of_getElem? (i := 237) rfl)) rfl
theorem hdX6_nameBlock : sm_hdk sm_TB yX6_nameBlock cX6_nameBlock 1 none 0 := ⟨wCX6_nameBlock, wNX6, ⟨neX6.1, neX6.2, by decide +kernel⟩, by decide⟩
theorem wIX6_nameBlock : Cond.instanceMethod yX6_nameBlock ∈ sm_TB := sm_inT (sm_t3 (List.mem_of_getElem? (i := 236) rfl)) rfl
theorem wVX6_nameBlock : Cond.selects RX6 yX6_nameBlock yX6_nameBlock ∈ sm_TB := sm_inT (sm_v2 (q := (yX6_nameBlock, 20)) (List.mem_of_getElem? (i := 11) rfl)) rfl
set_option maxRecDepth 20000 in
theorem hkX6_nameBlock : sm_fd sm_pg 63 = some miX6_nameBlock := by rfl
theorem hhX6_nameBlock : sm_fd sm_hds 63 = some (yX6_nameBlock, cX6_nameBlock, 1, none) := sm_hh hkX6_nameBlock
theorem wCX6_nameTreadle : Cond.code yX6_nameTreadle cX6_nameTreadle 1 none ∈ sm_TB := sm_inT (sm_t4 (List.mem_of_getElem? (i := 5) rfl)) rfl
theorem hdX6_nameTreadle : sm_hdk sm_TB yX6_nameTreadle cX6_nameTreadle 1 none 0 := ⟨wCX6_nameTreadle, wNX6, ⟨neX6.1, neX6.2, by decide +kernel⟩, by decide⟩
theorem wIX6_nameTreadle : Cond.instanceMethod yX6_nameTreadle ∈ sm_TB := sm_inT (sm_t4 (List.mem_of_getElem? (i := 4) rfl)) rfl
theorem wVX6_nameTreadle : Cond.selects RX6 yX6_nameTreadle yX6_nameTreadle ∈ sm_TB := sm_inT (sm_v2 (q := (yX6_nameTreadle, 20)) (List.mem_of_getElem? (i := 13) rfl)) rfl
set_option maxRecDepth 20000 in
theorem hkX6_nameTreadle : sm_fd sm_pg 64 = some miX6_nameTreadle := by rfl
theorem hhX6_nameTreadle : sm_fd sm_hds 64 = some (yX6_nameTreadle, cX6_nameTreadle, 1, none) := sm_hh hkX6_nameTreadle
theorem wCX6_isNumber : Cond.code yX6_isNumber cX6_isNumber 3 (some .boolean) ∈ sm_TB := sm_inT (sm_t4 (List.mem_of_getElem? (i := 9) rfl)) rfl
theorem hdX6_isNumber : sm_hdk sm_TB yX6_isNumber cX6_isNumber 3 (some .boolean) 2 := ⟨wCX6_isNumber, wNX6, ⟨neX6.1, neX6.2, by decide +kernel⟩, by decide⟩
theorem wIX6_isNumber : Cond.instanceMethod yX6_isNumber ∈ sm_TB := sm_inT (sm_t4 (List.mem_of_getElem? (i := 8) rfl)) rfl
theorem wVX6_isNumber : Cond.selects RX6 yX6_isNumber yX6_isNumber ∈ sm_TB := sm_inT (sm_v2 (q := (yX6_isNumber, 20)) (List.mem_of_getElem? (i := 14) rfl)) rfl
set_option maxRecDepth 20000 in
theorem hkX6_isNumber : sm_fd sm_pg 65 = some miX6_isNumber := by rfl
theorem hhX6_isNumber : sm_fd sm_hds 65 = some (yX6_isNumber, cX6_isNumber, 3, (some .boolean)) := sm_hh hkX6_isNumber
theorem wCX6_openFirstRow : Cond.code yX6_openFirstRow cX6_openFirstRow 2 none ∈ sm_TB := sm_inT (sm_t3 (List.mem_of_getElem? (i := 229) rfl)) rfl
theorem hdX6_openFirstRow : sm_hdk sm_TB yX6_openFirstRow cX6_openFirstRow 2 none 1 := ⟨wCX6_openFirstRow, wNX6, ⟨neX6.1, neX6.2, by decide +kernel⟩, by decide⟩
theorem wIX6_openFirstRow : Cond.instanceMethod yX6_openFirstRow ∈ sm_TB := sm_inT (sm_t3 (List.mem_of_getElem? (i := 228) rfl)) rfl
theorem wVX6_openFirstRow : Cond.selects RX6 yX6_openFirstRow yX6_openFirstRow ∈ sm_TB := sm_inT (sm_v2 (q := (yX6_openFirstRow, 20)) (List.mem_of_getElem? (i := 9) rfl)) rfl
set_option maxRecDepth 20000 in
theorem hkX6_openFirstRow : sm_fd sm_pg 66 = some miX6_openFirstRow := by rfl
theorem hhX6_openFirstRow : sm_fd sm_hds 66 = some (yX6_openFirstRow, cX6_openFirstRow, 2, none) := sm_hh hkX6_openFirstRow
theorem wCX6_startOne : Cond.code yX6_startOne cX6_startOne 1 none ∈ sm_TB := sm_inT (sm_t4 (List.mem_of_getElem? (i := 13) rfl)) rfl
theorem hdX6_startOne : sm_hdk sm_TB yX6_startOne cX6_startOne 1 none 0 := ⟨wCX6_startOne, wNX6, ⟨neX6.1, neX6.2, by decide +kernel⟩, by decide⟩
theorem wIX6_startOne : Cond.instanceMethod yX6_startOne ∈ sm_TB := sm_inT (sm_t4 (List.mem_of_getElem? (i := 12) rfl)) rfl
theorem wVX6_startOne : Cond.selects RX6 yX6_startOne yX6_startOne ∈ sm_TB := sm_inT (sm_v2 (q := (yX6_startOne, 20)) (List.mem_of_getElem? (i := 15) rfl)) rfl
set_option maxRecDepth 20000 in
theorem hkX6_startOne : sm_fd sm_pg 67 = some miX6_startOne := by rfl
theorem hhX6_startOne : sm_fd sm_hds 67 = some (yX6_startOne, cX6_startOne, 1, none) := sm_hh hkX6_startOne
theorem wCX6_holdNumber : Cond.code yX6_holdNumber cX6_holdNumber 1 none ∈ sm_TB := sm_inT (sm_t4 (List.mem_of_getElem? (i := 17) rfl)) rfl
theorem hdX6_holdNumber : sm_hdk sm_TB yX6_holdNumber cX6_holdNumber 1 none 0 := ⟨wCX6_holdNumber, wNX6, ⟨neX6.1, neX6.2, by decide +kernel⟩, by decide⟩
theorem wIX6_holdNumber : Cond.instanceMethod yX6_holdNumber ∈ sm_TB := sm_inT (sm_t4 (List.mem_of_getElem? (i := 16) rfl)) rfl
theorem wVX6_holdNumber : Cond.selects RX6 yX6_holdNumber yX6_holdNumber ∈ sm_TB := sm_inT (sm_v3 (q := (yX6_holdNumber, 20)) (List.mem_of_getElem? (i := 0) rfl)) rfl
set_option maxRecDepth 20000 in
theorem hkX6_holdNumber : sm_fd sm_pg 68 = some miX6_holdNumber := by rfl
theorem hhX6_holdNumber : sm_fd sm_hds 68 = some (yX6_holdNumber, cX6_holdNumber, 1, none) := sm_hh hkX6_holdNumber
theorem wCX6_endNumber : Cond.code yX6_endNumber cX6_endNumber 1 none ∈ sm_TB := sm_inT (sm_t3 (List.mem_of_getElem? (i := 199) rfl)) rfl
theorem hdX6_endNumber : sm_hdk sm_TB yX6_endNumber cX6_endNumber 1 none 0 := ⟨wCX6_endNumber, wNX6, ⟨neX6.1, neX6.2, by decide +kernel⟩, by decide⟩
theorem wIX6_endNumber : Cond.instanceMethod yX6_endNumber ∈ sm_TB := sm_inT (sm_t3 (List.mem_of_getElem? (i := 198) rfl)) rfl
theorem wVX6_endNumber : Cond.selects RX6 yX6_endNumber yX6_endNumber ∈ sm_TB := sm_inT (sm_v2 (q := (yX6_endNumber, 20)) (List.mem_of_getElem? (i := 2) rfl)) rfl
set_option maxRecDepth 20000 in
theorem hkX6_endNumber : sm_fd sm_pg 69 = some miX6_endNumber := by rfl
theorem hhX6_endNumber : sm_fd sm_hds 69 = some (yX6_endNumber, cX6_endNumber, 1, none) := sm_hh hkX6_endNumber
theorem wCX6_endRange : Cond.code yX6_endRange cX6_endRange 4 none ∈ sm_TB := sm_inT (sm_t4 (List.mem_of_getElem? (i := 33) rfl)) rfl
theorem hdX6_endRange : sm_hdk sm_TB yX6_endRange cX6_endRange 4 none 0 := ⟨wCX6_endRange, wNX6, ⟨neX6.1, neX6.2, by decide +kernel⟩, by decide⟩
theorem wIX6_endRange : Cond.instanceMethod yX6_endRange ∈ sm_TB := sm_inT (sm_t4 (List.mem_of_getElem? (i := 32) rfl)) rfl
theorem wVX6_endRange : Cond.selects RX6 yX6_endRange yX6_endRange ∈ sm_TB := sm_inT (sm_v3 (q := (yX6_endRange, 20)) (List.mem_of_getElem? (i := 4) rfl)) rfl
set_option maxRecDepth 20000 in
theorem hkX6_endRange : sm_fd sm_pg 70 = some miX6_endRange := by rfl
theorem hhX6_endRange : sm_fd sm_hds 70 = some (yX6_endRange, cX6_endRange, 4, none) := sm_hh hkX6_endRange
theorem wCX6_addBlock : Cond.code yX6_addBlock cX6_addBlock 4 none ∈ sm_TB := sm_inT (sm_t4 (List.mem_of_getElem? (i := 21) rfl)) rfl
theorem hdX6_addBlock : sm_hdk sm_TB yX6_addBlock cX6_addBlock 4 none 0 := ⟨wCX6_addBlock, wNX6, ⟨neX6.1, neX6.2, by decide +kernel⟩, by decide⟩
theorem wIX6_addBlock : Cond.instanceMethod yX6_addBlock ∈ sm_TB := sm_inT (sm_t4 (List.mem_of_getElem? (i := 20) rfl)) rfl
theorem wVX6_addBlock : Cond.selects RX6 yX6_addBlock yX6_addBlock ∈ sm_TB := sm_inT (sm_v3 (q := (yX6_addBlock, 20)) (List.mem_of_getElem? (i := 1) rfl)) rfl
set_option maxRecDepth 20000 in
theorem hkX6_addBlock : sm_fd sm_pg 71 = some miX6_addBlock := by rfl
theorem hhX6_addBlock : sm_fd sm_hds 71 = some (yX6_addBlock, cX6_addBlock, 4, none) := sm_hh hkX6_addBlock
theorem wCX6_nameSum : Cond.code yX6_nameSum cX6_nameSum 1 none ∈ sm_TB := sm_inT (sm_t4 (List.mem_of_getElem? (i := 40) rfl)) rfl
theorem hdX6_nameSum : sm_hdk sm_TB yX6_nameSum cX6_nameSum 1 none 0 := ⟨wCX6_nameSum, wNX6, ⟨neX6.1, neX6.2, by decide +kernel⟩, by decide⟩
theorem wIX6_nameSum : Cond.instanceMethod yX6_nameSum ∈ sm_TB := sm_inT (sm_t4 (List.mem_of_getElem? (i := 39) rfl)) rfl
theorem wVX6_nameSum : Cond.selects RX6 yX6_nameSum yX6_nameSum ∈ sm_TB := sm_inT (sm_v3 (q := (yX6_nameSum, 20)) (List.mem_of_getElem? (i := 5) rfl)) rfl
set_option maxRecDepth 20000 in
theorem hkX6_nameSum : sm_fd sm_pg 72 = some miX6_nameSum := by rfl
theorem hhX6_nameSum : sm_fd sm_hds 72 = some (yX6_nameSum, cX6_nameSum, 1, none) := sm_hh hkX6_nameSum
theorem wCX6_openBracket : Cond.code yX6_openBracket cX6_openBracket 2 none ∈ sm_TB := sm_inT (sm_t4 (List.mem_of_getElem? (i := 29) rfl)) rfl
theorem hdX6_openBracket : sm_hdk sm_TB yX6_openBracket cX6_openBracket 2 none 0 := ⟨wCX6_openBracket, wNX6, ⟨neX6.1, neX6.2, by decide +kernel⟩, by decide⟩
theorem wIX6_openBracket : Cond.instanceMethod yX6_openBracket ∈ sm_TB := sm_inT (sm_t4 (List.mem_of_getElem? (i := 28) rfl)) rfl
theorem wVX6_openBracket : Cond.selects RX6 yX6_openBracket yX6_openBracket ∈ sm_TB := sm_inT (sm_v3 (q := (yX6_openBracket, 20)) (List.mem_of_getElem? (i := 3) rfl)) rfl
set_option maxRecDepth 20000 in
theorem hkX6_openBracket : sm_fd sm_pg 73 = some miX6_openBracket := by rfl
theorem hhX6_openBracket : sm_fd sm_hds 73 = some (yX6_openBracket, cX6_openBracket, 2, none) := sm_hh hkX6_openBracket
theorem wCX6_closeBracket : Cond.code yX6_closeBracket cX6_closeBracket 7 none ∈ sm_TB := sm_inT (sm_t4 (List.mem_of_getElem? (i := 56) rfl)) rfl
theorem hdX6_closeBracket : sm_hdk sm_TB yX6_closeBracket cX6_closeBracket 7 none 0 := ⟨wCX6_closeBracket, wNX6, ⟨neX6.1, neX6.2, by decide +kernel⟩, by decide⟩
theorem wIX6_closeBracket : Cond.instanceMethod yX6_closeBracket ∈ sm_TB := sm_inT (sm_t4 (List.mem_of_getElem? (i := 55) rfl)) rfl
theorem wVX6_closeBracket : Cond.selects RX6 yX6_closeBracket yX6_closeBracket ∈ sm_TB := sm_inT (sm_v3 (q := (yX6_closeBracket, 20)) (List.mem_of_getElem? (i := 9) rfl)) rfl
set_option maxRecDepth 20000 in
theorem hkX6_closeBracket : sm_fd sm_pg 74 = some miX6_closeBracket := by rfl
theorem hhX6_closeBracket : sm_fd sm_hds 74 = some (yX6_closeBracket, cX6_closeBracket, 7, none) := sm_hh hkX6_closeBracket
theorem wCX6_turnBack : Cond.code yX6_turnBack cX6_turnBack 6 none ∈ sm_TB := sm_inT (sm_t4 (List.mem_of_getElem? (i := 60) rfl)) rfl
theorem hdX6_turnBack : sm_hdk sm_TB yX6_turnBack cX6_turnBack 6 none 2 := ⟨wCX6_turnBack, wNX6, ⟨neX6.1, neX6.2, by decide +kernel⟩, by decide⟩
theorem wIX6_turnBack : Cond.instanceMethod yX6_turnBack ∈ sm_TB := sm_inT (sm_t4 (List.mem_of_getElem? (i := 59) rfl)) rfl
theorem wVX6_turnBack : Cond.selects RX6 yX6_turnBack yX6_turnBack ∈ sm_TB := sm_inT (sm_v3 (q := (yX6_turnBack, 20)) (List.mem_of_getElem? (i := 10) rfl)) rfl
set_option maxRecDepth 20000 in
theorem hkX6_turnBack : sm_fd sm_pg 75 = some miX6_turnBack := by rfl
theorem hhX6_turnBack : sm_fd sm_hds 75 = some (yX6_turnBack, cX6_turnBack, 6, none) := sm_hh hkX6_turnBack
theorem wCX6_raiseNumbers : Cond.code yX6_raiseNumbers cX6_raiseNumbers 5 none ∈ sm_TB := sm_inT (sm_t4 (List.mem_of_getElem? (i := 68) rfl)) rfl
theorem hdX6_raiseNumbers : sm_hdk sm_TB yX6_raiseNumbers cX6_raiseNumbers 5 none 3 := ⟨wCX6_raiseNumbers, wNX6, ⟨neX6.1, neX6.2, by decide +kernel⟩, by decide⟩
theorem wIX6_raiseNumbers : Cond.instanceMethod yX6_raiseNumbers ∈ sm_TB := sm_inT (sm_t4 (List.mem_of_getElem? (i := 67) rfl)) rfl
theorem wVX6_raiseNumbers : Cond.selects RX6 yX6_raiseNumbers yX6_raiseNumbers ∈ sm_TB := sm_inT (sm_v3 (q := (yX6_raiseNumbers, 20)) (List.mem_of_getElem? (i := 12) rfl)) rfl
set_option maxRecDepth 20000 in
theorem hkX6_raiseNumbers : sm_fd sm_pg 76 = some miX6_raiseNumbers := by rfl
theorem hhX6_raiseNumbers : sm_fd sm_hds 76 = some (yX6_raiseNumbers, cX6_raiseNumbers, 5, none) := sm_hh hkX6_raiseNumbers
theorem wCX6_copyItem : Cond.code yX6_copyItem cX6_copyItem 4 none ∈ sm_TB := sm_inT (sm_t4 (List.mem_of_getElem? (i := 44) rfl)) rfl
theorem hdX6_copyItem : sm_hdk sm_TB yX6_copyItem cX6_copyItem 4 none 0 := ⟨wCX6_copyItem, wNX6, ⟨neX6.1, neX6.2, by decide +kernel⟩, by decide⟩
theorem wIX6_copyItem : Cond.instanceMethod yX6_copyItem ∈ sm_TB := sm_inT (sm_t4 (List.mem_of_getElem? (i := 43) rfl)) rfl
theorem wVX6_copyItem : Cond.selects RX6 yX6_copyItem yX6_copyItem ∈ sm_TB := sm_inT (sm_v3 (q := (yX6_copyItem, 20)) (List.mem_of_getElem? (i := 6) rfl)) rfl
set_option maxRecDepth 20000 in
theorem hkX6_copyItem : sm_fd sm_pg 77 = some miX6_copyItem := by rfl
theorem hhX6_copyItem : sm_fd sm_hds 77 = some (yX6_copyItem, cX6_copyItem, 4, none) := sm_hh hkX6_copyItem
theorem wCX6_goOnBehindItem : Cond.code yX6_goOnBehindItem cX6_goOnBehindItem 1 none ∈ sm_TB := sm_inT (sm_t4 (List.mem_of_getElem? (i := 52) rfl)) rfl
theorem hdX6_goOnBehindItem : sm_hdk sm_TB yX6_goOnBehindItem cX6_goOnBehindItem 1 none 0 := ⟨wCX6_goOnBehindItem, wNX6, ⟨neX6.1, neX6.2, by decide +kernel⟩, by decide⟩
theorem wIX6_goOnBehindItem : Cond.instanceMethod yX6_goOnBehindItem ∈ sm_TB := sm_inT (sm_t4 (List.mem_of_getElem? (i := 51) rfl)) rfl
theorem wVX6_goOnBehindItem : Cond.selects RX6 yX6_goOnBehindItem yX6_goOnBehindItem ∈ sm_TB := sm_inT (sm_v3 (q := (yX6_goOnBehindItem, 20)) (List.mem_of_getElem? (i := 8) rfl)) rfl
set_option maxRecDepth 20000 in
theorem hkX6_goOnBehindItem : sm_fd sm_pg 78 = some miX6_goOnBehindItem := by rfl
theorem hhX6_goOnBehindItem : sm_fd sm_hds 78 = some (yX6_goOnBehindItem, cX6_goOnBehindItem, 1, none) := sm_hh hkX6_goOnBehindItem
theorem wCX6_endClause : Cond.code yX6_endClause cX6_endClause 1 none ∈ sm_TB := sm_inT (sm_t4 (List.mem_of_getElem? (i := 72) rfl)) rfl
theorem hdX6_endClause : sm_hdk sm_TB yX6_endClause cX6_endClause 1 none 0 := ⟨wCX6_endClause, wNX6, ⟨neX6.1, neX6.2, by decide +kernel⟩, by decide⟩
theorem wIX6_endClause : Cond.instanceMethod yX6_endClause ∈ sm_TB := sm_inT (sm_t4 (List.mem_of_getElem? (i := 71) rfl)) rfl
theorem wVX6_endClause : Cond.selects RX6 yX6_endClause yX6_endClause ∈ sm_TB := sm_inT (sm_v3 (q := (yX6_endClause, 20)) (List.mem_of_getElem? (i := 13) rfl)) rfl
set_option maxRecDepth 20000 in
theorem hkX6_endClause : sm_fd sm_pg 79 = some miX6_endClause := by rfl
theorem hhX6_endClause : sm_fd sm_hds 79 = some (yX6_endClause, cX6_endClause, 1, none) := sm_hh hkX6_endClause
theorem wCX6_keepBlock : Cond.code yX6_keepBlock cX6_keepBlock 2 none ∈ sm_TB := sm_inT (sm_t4 (List.mem_of_getElem? (i := 76) rfl)) rfl
theorem hdX6_keepBlock : sm_hdk sm_TB yX6_keepBlock cX6_keepBlock 2 none 0 := ⟨wCX6_keepBlock, wNX6, ⟨neX6.1, neX6.2, by decide +kernel⟩, by decide⟩
theorem wIX6_keepBlock : Cond.instanceMethod yX6_keepBlock ∈ sm_TB := sm_inT (sm_t4 (List.mem_of_getElem? (i := 75) rfl)) rfl
theorem wVX6_keepBlock : Cond.selects RX6 yX6_keepBlock yX6_keepBlock ∈ sm_TB := sm_inT (sm_v3 (q := (yX6_keepBlock, 20)) (List.mem_of_getElem? (i := 14) rfl)) rfl
set_option maxRecDepth 20000 in
theorem hkX6_keepBlock : sm_fd sm_pg 80 = some miX6_keepBlock := by rfl
theorem hhX6_keepBlock : sm_fd sm_hds 80 = some (yX6_keepBlock, cX6_keepBlock, 2, none) := sm_hh hkX6_keepBlock
theorem wCX6_stageAlong : Cond.code yX6_stageAlong cX6_stageAlong 6 none ∈ sm_TB := sm_inT (sm_t4 (List.mem_of_getElem? (i := 80) rfl)) rfl
theorem hdX6_stageAlong : sm_hdk sm_TB yX6_stageAlong cX6_stageAlong 6 none 2 := ⟨wCX6_stageAlong, wNX6, ⟨neX6.1, neX6.2, by decide +kernel⟩, by decide⟩
theorem wIX6_stageAlong : Cond.instanceMethod yX6_stageAlong ∈ sm_TB := sm_inT (sm_t4 (List.mem_of_getElem? (i := 79) rfl)) rfl
theorem wVX6_stageAlong : Cond.selects RX6 yX6_stageAlong yX6_stageAlong ∈ sm_TB := sm_inT (sm_v3 (q := (yX6_stageAlong, 20)) (List.mem_of_getElem? (i := 15) rfl)) rfl
set_option maxRecDepth 20000 in
theorem hkX6_stageAlong : sm_fd sm_pg 81 = some miX6_stageAlong := by rfl
theorem hhX6_stageAlong : sm_fd sm_hds 81 = some (yX6_stageAlong, cX6_stageAlong, 6, none) := sm_hh hkX6_stageAlong
theorem wCX6_stageTie : Cond.code yX6_stageTie cX6_stageTie 3 none ∈ sm_TB := sm_inT (sm_t4 (List.mem_of_getElem? (i := 85) rfl)) rfl
theorem hdX6_stageTie : sm_hdk sm_TB yX6_stageTie cX6_stageTie 3 none 0 := ⟨wCX6_stageTie, wNX6, ⟨neX6.1, neX6.2, by decide +kernel⟩, by decide⟩
theorem wIX6_stageTie : Cond.instanceMethod yX6_stageTie ∈ sm_TB := sm_inT (sm_t4 (List.mem_of_getElem? (i := 84) rfl)) rfl
theorem wVX6_stageTie : Cond.selects RX6 yX6_stageTie yX6_stageTie ∈ sm_TB := sm_inT (sm_v4 (q := (yX6_stageTie, 20)) (List.mem_of_getElem? (i := 0) rfl)) rfl
set_option maxRecDepth 20000 in
theorem hkX6_stageTie : sm_fd sm_pg 82 = some miX6_stageTie := by rfl
theorem hhX6_stageTie : sm_fd sm_hds 82 = some (yX6_stageTie, cX6_stageTie, 3, none) := sm_hh hkX6_stageTie
theorem wCX6_openRow : Cond.code yX6_openRow cX6_openRow 1 (some .int) ∈ sm_TB := sm_inT (sm_t3 (List.mem_of_getElem? (i := 207) rfl)) rfl
theorem hdX6_openRow : sm_hdk sm_TB yX6_openRow cX6_openRow 1 (some .int) 0 := ⟨wCX6_openRow, wNX6, ⟨neX6.1, neX6.2, by decide +kernel⟩, by decide⟩
theorem wIX6_openRow : Cond.instanceMethod yX6_openRow ∈ sm_TB := sm_inT (sm_t3 (List.mem_of_getElem? (i := 206) rfl)) rfl
theorem wVX6_openRow : Cond.selects RX6 yX6_openRow yX6_openRow ∈ sm_TB := sm_inT (sm_v2 (q := (yX6_openRow, 20)) (List.mem_of_getElem? (i := 4) rfl)) rfl
set_option maxRecDepth 20000 in
theorem hkX6_openRow : sm_fd sm_pg 83 = some miX6_openRow := by rfl
theorem hhX6_openRow : sm_fd sm_hds 83 = some (yX6_openRow, cX6_openRow, 1, (some .int)) := sm_hh hkX6_openRow
theorem wCX6_hasRoom : Cond.code yX6_hasRoom cX6_hasRoom 2 (some .boolean) ∈ sm_TB := sm_inT (sm_t3 (List.mem_of_getElem? (i := 203) rfl)) rfl
theorem hdX6_hasRoom : sm_hdk sm_TB yX6_hasRoom cX6_hasRoom 2 (some .boolean) 1 := ⟨wCX6_hasRoom, wNX6, ⟨neX6.1, neX6.2, by decide +kernel⟩, by decide⟩
theorem wIX6_hasRoom : Cond.instanceMethod yX6_hasRoom ∈ sm_TB := sm_inT (sm_t3 (List.mem_of_getElem? (i := 202) rfl)) rfl
theorem wVX6_hasRoom : Cond.selects RX6 yX6_hasRoom yX6_hasRoom ∈ sm_TB := sm_inT (sm_v2 (q := (yX6_hasRoom, 20)) (List.mem_of_getElem? (i := 3) rfl)) rfl
set_option maxRecDepth 20000 in
theorem hkX6_hasRoom : sm_fd sm_pg 84 = some miX6_hasRoom := by rfl
theorem hhX6_hasRoom : sm_fd sm_hds 84 = some (yX6_hasRoom, cX6_hasRoom, 2, (some .boolean)) := sm_hh hkX6_hasRoom
theorem wCX6_add : Cond.code yX6_add cX6_add 2 none ∈ sm_TB := sm_inT (sm_t3 (List.mem_of_getElem? (i := 213) rfl)) rfl
theorem hdX6_add : sm_hdk sm_TB yX6_add cX6_add 2 none 1 := ⟨wCX6_add, wNX6, ⟨neX6.1, neX6.2, by decide +kernel⟩, by decide⟩
theorem wIX6_add : Cond.instanceMethod yX6_add ∈ sm_TB := sm_inT (sm_t3 (List.mem_of_getElem? (i := 212) rfl)) rfl
theorem wVX6_add : Cond.selects RX6 yX6_add yX6_add ∈ sm_TB := sm_inT (sm_v2 (q := (yX6_add, 20)) (List.mem_of_getElem? (i := 5) rfl)) rfl
set_option maxRecDepth 20000 in
theorem hkX6_add : sm_fd sm_pg 85 = some miX6_add := by rfl
theorem hhX6_add : sm_fd sm_hds 85 = some (yX6_add, cX6_add, 2, none) := sm_hh hkX6_add
theorem wCX6_numberAt : Cond.code yX6_numberAt cX6_numberAt 2 (some .int) ∈ sm_TB := sm_inT (sm_t4 (List.mem_of_getElem? (i := 48) rfl)) rfl
theorem hdX6_numberAt : sm_hdk sm_TB yX6_numberAt cX6_numberAt 2 (some .int) 1 := ⟨wCX6_numberAt, wNX6, ⟨neX6.1, neX6.2, by decide +kernel⟩, by decide⟩
theorem wIX6_numberAt : Cond.instanceMethod yX6_numberAt ∈ sm_TB := sm_inT (sm_t4 (List.mem_of_getElem? (i := 47) rfl)) rfl
theorem wVX6_numberAt : Cond.selects RX6 yX6_numberAt yX6_numberAt ∈ sm_TB := sm_inT (sm_v3 (q := (yX6_numberAt, 20)) (List.mem_of_getElem? (i := 7) rfl)) rfl
set_option maxRecDepth 20000 in
theorem hkX6_numberAt : sm_fd sm_pg 86 = some miX6_numberAt := by rfl
theorem hhX6_numberAt : sm_fd sm_hds 86 = some (yX6_numberAt, cX6_numberAt, 2, (some .int)) := sm_hh hkX6_numberAt
theorem wCX6_put : Cond.code yX6_put cX6_put 3 none ∈ sm_TB := sm_inT (sm_t4 (List.mem_of_getElem? (i := 64) rfl)) rfl
theorem hdX6_put : sm_hdk sm_TB yX6_put cX6_put 3 none 2 := ⟨wCX6_put, wNX6, ⟨neX6.1, neX6.2, by decide +kernel⟩, by decide⟩
theorem wIX6_put : Cond.instanceMethod yX6_put ∈ sm_TB := sm_inT (sm_t4 (List.mem_of_getElem? (i := 63) rfl)) rfl
theorem wVX6_put : Cond.selects RX6 yX6_put yX6_put ∈ sm_TB := sm_inT (sm_v3 (q := (yX6_put, 20)) (List.mem_of_getElem? (i := 11) rfl)) rfl
set_option maxRecDepth 20000 in
theorem hkX6_put : sm_fd sm_pg 87 = some miX6_put := by rfl
theorem hhX6_put : sm_fd sm_hds 87 = some (yX6_put, cX6_put, 3, none) := sm_hh hkX6_put
theorem wCX6_blockSize : Cond.code yX6_blockSize cX6_blockSize 2 (some .int) ∈ sm_TB := sm_inT (sm_t4 (List.mem_of_getElem? (i := 1) rfl)) rfl
theorem hdX6_blockSize : sm_hdk sm_TB yX6_blockSize cX6_blockSize 2 (some .int) 1 := ⟨wCX6_blockSize, wNX6, ⟨neX6.1, neX6.2, by decide +kernel⟩, by decide⟩
theorem wIX6_blockSize : Cond.instanceMethod yX6_blockSize ∈ sm_TB := sm_inT (sm_t4 (List.mem_of_getElem? (i := 0) rfl)) rfl
theorem wVX6_blockSize : Cond.selects RX6 yX6_blockSize yX6_blockSize ∈ sm_TB := sm_inT (sm_v2 (q := (yX6_blockSize, 20)) (List.mem_of_getElem? (i := 12) rfl)) rfl
set_option maxRecDepth 20000 in
theorem hkX6_blockSize : sm_fd sm_pg 88 = some miX6_blockSize := by rfl
theorem hhX6_blockSize : sm_fd sm_hds 88 = some (yX6_blockSize, cX6_blockSize, 2, (some .int)) := sm_hh hkX6_blockSize
theorem wCX6_blockNumber : Cond.code yX6_blockNumber cX6_blockNumber 4 (some .int) ∈ sm_TB := sm_inT (sm_t4 (List.mem_of_getElem? (i := 25) rfl)) rfl
theorem hdX6_blockNumber : sm_hdk sm_TB yX6_blockNumber cX6_blockNumber 4 (some .int) 2 := ⟨wCX6_blockNumber, wNX6, ⟨neX6.1, neX6.2, by decide +kernel⟩, by decide⟩
theorem wIX6_blockNumber : Cond.instanceMethod yX6_blockNumber ∈ sm_TB := sm_inT (sm_t4 (List.mem_of_getElem? (i := 24) rfl)) rfl
theorem wVX6_blockNumber : Cond.selects RX6 yX6_blockNumber yX6_blockNumber ∈ sm_TB := sm_inT (sm_v3 (q := (yX6_blockNumber, 20)) (List.mem_of_getElem? (i := 2) rfl)) rfl
set_option maxRecDepth 20000 in
theorem hkX6_blockNumber : sm_fd sm_pg 89 = some miX6_blockNumber := by rfl
theorem hhX6_blockNumber : sm_fd sm_hds 89 = some (yX6_blockNumber, cX6_blockNumber, 4, (some .int)) := sm_hh hkX6_blockNumber
theorem wCX7_init : Cond.code yX7_init cX7_init 2 none ∈ sm_TB := sm_inT (sm_t2 (List.mem_of_getElem? (i := 23) rfl)) rfl
theorem hdX7_init : sm_hdk sm_TB yX7_init cX7_init 2 none 1 := ⟨wCX7_init, wNX7, ⟨neX7.1, neX7.2, by decide +kernel⟩, by decide⟩
theorem wIX7_init : Cond.instanceMethod yX7_init ∈ sm_TB := sm_inT (sm_t2 (List.mem_of_getElem? (i := 22) rfl)) rfl
set_option maxRecDepth 20000 in
theorem hkX7_init : sm_fd sm_pg 90 = some miX7_init := by rfl
theorem hhX7_init : sm_fd sm_hds 90 = some (yX7_init, cX7_init, 2, none) := sm_hh hkX7_init
theorem wCX7_countFloats : Cond.code yX7_countFloats cX7_countFloats 8 none ∈ sm_TB := sm_inT (sm_t4 (List.mem_of_getElem? (i := 168) rfl)) rfl
theorem hdX7_countFloats : sm_hdk sm_TB yX7_countFloats cX7_countFloats 8 none 2 := ⟨wCX7_countFloats, wNX7, ⟨neX7.1, neX7.2, by decide +kernel⟩, by decide⟩
theorem wIX7_countFloats : Cond.instanceMethod yX7_countFloats ∈ sm_TB := sm_inT (sm_t4 (List.mem_of_getElem? (i := 167) rfl)) rfl
theorem wVX7_countFloats : Cond.selects RX7 yX7_countFloats yX7_countFloats ∈ sm_TB := sm_inT (sm_v4 (q := (yX7_countFloats, 2)) (List.mem_of_getElem? (i := 11) rfl)) rfl
set_option maxRecDepth 20000 in
theorem hkX7_countFloats : sm_fd sm_pg 91 = some miX7_countFloats := by rfl
theorem hhX7_countFloats : sm_fd sm_hds 91 = some (yX7_countFloats, cX7_countFloats, 8, none) := sm_hh hkX7_countFloats
theorem wCX7_cutOpen : Cond.code yX7_cutOpen cX7_cutOpen 4 (some .long) ∈ sm_TB := sm_inT (sm_t4 (List.mem_of_getElem? (i := 173) rfl)) rfl
theorem hdX7_cutOpen : sm_hdk sm_TB yX7_cutOpen cX7_cutOpen 4 (some .long) 2 := ⟨wCX7_cutOpen, wNX7, ⟨neX7.1, neX7.2, by decide +kernel⟩, by decide⟩
theorem wSX7_cutOpen : Cond.static yX7_cutOpen ∈ sm_TB := sm_inT (sm_t4 (List.mem_of_getElem? (i := 172) rfl)) rfl
set_option maxRecDepth 20000 in
theorem hkX7_cutOpen : sm_fd sm_pg 92 = some miX7_cutOpen := by rfl
theorem hhX7_cutOpen : sm_fd sm_hds 92 = some (yX7_cutOpen, cX7_cutOpen, 4, (some .long)) := sm_hh hkX7_cutOpen
theorem wCX7_countLine : Cond.code yX7_countLine cX7_countLine 6 none ∈ sm_TB := sm_inT (sm_t4 (List.mem_of_getElem? (i := 188) rfl)) rfl
theorem hdX7_countLine : sm_hdk sm_TB yX7_countLine cX7_countLine 6 none 2 := ⟨wCX7_countLine, wNX7, ⟨neX7.1, neX7.2, by decide +kernel⟩, by decide⟩
theorem wIX7_countLine : Cond.instanceMethod yX7_countLine ∈ sm_TB := sm_inT (sm_t4 (List.mem_of_getElem? (i := 187) rfl)) rfl
theorem wVX7_countLine : Cond.selects RX7 yX7_countLine yX7_countLine ∈ sm_TB := sm_inT (sm_v4 (q := (yX7_countLine, 2)) (List.mem_of_getElem? (i := 12) rfl)) rfl
set_option maxRecDepth 20000 in
theorem hkX7_countLine : sm_fd sm_pg 93 = some miX7_countLine := by rfl
theorem hhX7_countLine : sm_fd sm_hds 93 = some (yX7_countLine, cX7_countLine, 6, none) := sm_hh hkX7_countLine
theorem wCX7_longestOne : Cond.code yX7_longestOne cX7_longestOne 2 (some .int) ∈ sm_TB := sm_inT (sm_t4 (List.mem_of_getElem? (i := 193) rfl)) rfl
theorem hdX7_longestOne : sm_hdk sm_TB yX7_longestOne cX7_longestOne 2 (some .int) 0 := ⟨wCX7_longestOne, wNX7, ⟨neX7.1, neX7.2, by decide +kernel⟩, by decide⟩
theorem wIX7_longestOne : Cond.instanceMethod yX7_longestOne ∈ sm_TB := sm_inT (sm_t4 (List.mem_of_getElem? (i := 192) rfl)) rfl
theorem wVX7_longestOne : Cond.selects RX7 yX7_longestOne yX7_longestOne ∈ sm_TB := sm_inT (sm_v4 (q := (yX7_longestOne, 2)) (List.mem_of_getElem? (i := 13) rfl)) rfl
set_option maxRecDepth 20000 in
theorem hkX7_longestOne : sm_fd sm_pg 94 = some miX7_longestOne := by rfl
theorem hhX7_longestOne : sm_fd sm_hds 94 = some (yX7_longestOne, cX7_longestOne, 2, (some .int)) := sm_hh hkX7_longestOne
theorem wCX7_longerThan : Cond.code yX7_longerThan cX7_longerThan 4 (some .int) ∈ sm_TB := sm_inT (sm_t4 (List.mem_of_getElem? (i := 201) rfl)) rfl
theorem hdX7_longerThan : sm_hdk sm_TB yX7_longerThan cX7_longerThan 4 (some .int) 1 := ⟨wCX7_longerThan, wNX7, ⟨neX7.1, neX7.2, by decide +kernel⟩, by decide⟩
theorem wIX7_longerThan : Cond.instanceMethod yX7_longerThan ∈ sm_TB := sm_inT (sm_t4 (List.mem_of_getElem? (i := 200) rfl)) rfl
theorem wVX7_longerThan : Cond.selects RX7 yX7_longerThan yX7_longerThan ∈ sm_TB := sm_inT (sm_v4 (q := (yX7_longerThan, 2)) (List.mem_of_getElem? (i := 14) rfl)) rfl
set_option maxRecDepth 20000 in
theorem hkX7_longerThan : sm_fd sm_pg 95 = some miX7_longerThan := by rfl
theorem hhX7_longerThan : sm_fd sm_hds 95 = some (yX7_longerThan, cX7_longerThan, 4, (some .int)) := sm_hh hkX7_longerThan
theorem wCX8_init : Cond.code yX8_init cX8_init 2 none ∈ sm_TB := sm_inT (sm_t2 (List.mem_of_getElem? (i := 152) rfl)) rfl
theorem hdX8_init : sm_hdk sm_TB yX8_init cX8_init 2 none 1 := ⟨wCX8_init, wNX8, ⟨neX8.1, neX8.2, by decide +kernel⟩, by decide⟩
theorem wIX8_init : Cond.instanceMethod yX8_init ∈ sm_TB := sm_inT (sm_t2 (List.mem_of_getElem? (i := 151) rfl)) rfl
set_option maxRecDepth 20000 in
theorem hkX8_init : sm_fd sm_pg 96 = some miX8_init := by rfl
theorem hhX8_init : sm_fd sm_hds 96 = some (yX8_init, cX8_init, 2, none) := sm_hh hkX8_init
theorem wCX8_noteRow : Cond.code yX8_noteRow cX8_noteRow 7 none ∈ sm_TB := sm_inT (sm_t5 (List.mem_of_getElem? (i := 145) rfl)) rfl
theorem hdX8_noteRow : sm_hdk sm_TB yX8_noteRow cX8_noteRow 7 none 2 := ⟨wCX8_noteRow, wNX8, ⟨neX8.1, neX8.2, by decide +kernel⟩, by decide⟩
theorem wIX8_noteRow : Cond.instanceMethod yX8_noteRow ∈ sm_TB := sm_inT (sm_t5 (List.mem_of_getElem? (i := 144) rfl)) rfl
theorem wVX8_noteRow : Cond.selects RX8 yX8_noteRow yX8_noteRow ∈ sm_TB := sm_inT (sm_v6 (q := (yX8_noteRow, 4)) (List.mem_of_getElem? (i := 11) rfl)) rfl
set_option maxRecDepth 20000 in
theorem hkX8_noteRow : sm_fd sm_pg 97 = some miX8_noteRow := by rfl
theorem hhX8_noteRow : sm_fd sm_hds 97 = some (yX8_noteRow, cX8_noteRow, 7, none) := sm_hh hkX8_noteRow
theorem wCX8_endsLike : Cond.code yX8_endsLike cX8_endsLike 6 (some .long) ∈ sm_TB := sm_inT (sm_t5 (List.mem_of_getElem? (i := 180) rfl)) rfl
theorem hdX8_endsLike : sm_hdk sm_TB yX8_endsLike cX8_endsLike 6 (some .long) 1 := ⟨wCX8_endsLike, wNX8, ⟨neX8.1, neX8.2, by decide +kernel⟩, by decide⟩
theorem wIX8_endsLike : Cond.instanceMethod yX8_endsLike ∈ sm_TB := sm_inT (sm_t5 (List.mem_of_getElem? (i := 179) rfl)) rfl
theorem wVX8_endsLike : Cond.selects RX8 yX8_endsLike yX8_endsLike ∈ sm_TB := sm_inT (sm_v7 (q := (yX8_endsLike, 4)) (List.mem_of_getElem? (i := 0) rfl)) rfl
set_option maxRecDepth 20000 in
theorem hkX8_endsLike : sm_fd sm_pg 98 = some miX8_endsLike := by rfl
theorem hhX8_endsLike : sm_fd sm_hds 98 = some (yX8_endsLike, cX8_endsLike, 6, (some .long)) := sm_hh hkX8_endsLike
theorem wCX8_isMoved : Cond.code yX8_isMoved cX8_isMoved 9 (some .boolean) ∈ sm_TB := sm_inT (sm_t5 (List.mem_of_getElem? (i := 231) rfl)) rfl
theorem hdX8_isMoved : sm_hdk sm_TB yX8_isMoved cX8_isMoved 9 (some .boolean) 3 := ⟨wCX8_isMoved, wNX8, ⟨neX8.1, neX8.2, by decide +kernel⟩, by decide⟩
theorem wIX8_isMoved : Cond.instanceMethod yX8_isMoved ∈ sm_TB := sm_inT (sm_t5 (List.mem_of_getElem? (i := 230) rfl)) rfl
theorem wVX8_isMoved : Cond.selects RX8 yX8_isMoved yX8_isMoved ∈ sm_TB := sm_inT (sm_v7 (q := (yX8_isMoved, 4)) (List.mem_of_getElem? (i := 9) rfl)) rfl
set_option maxRecDepth 20000 in
theorem hkX8_isMoved : sm_fd sm_pg 99 = some miX8_isMoved := by rfl
theorem hhX8_isMoved : sm_fd sm_hds 99 = some (yX8_isMoved, cX8_isMoved, 9, (some .boolean)) := sm_hh hkX8_isMoved
theorem wCX8_wrapped : Cond.code yX8_wrapped cX8_wrapped 2 (some .int) ∈ sm_TB := sm_inT (sm_t5 (List.mem_of_getElem? (i := 234) rfl)) rfl
theorem hdX8_wrapped : sm_hdk sm_TB yX8_wrapped cX8_wrapped 2 (some .int) 2 := ⟨wCX8_wrapped, wNX8, ⟨neX8.1, neX8.2, by decide +kernel⟩, by decide⟩
theorem wSX8_wrapped : Cond.static yX8_wrapped ∈ sm_TB := sm_inT (sm_t5 (List.mem_of_getElem? (i := 233) rfl)) rfl
set_option maxRecDepth 20000 in
theorem hkX8_wrapped : sm_fd sm_pg 100 = some miX8_wrapped := by rfl
theorem hhX8_wrapped : sm_fd sm_hds 100 = some (yX8_wrapped, cX8_wrapped, 2, (some .int)) := sm_hh hkX8_wrapped
theorem wCX8_rowAt : Cond.code yX8_rowAt cX8_rowAt 2 (some .long) ∈ sm_TB := sm_inT (sm_t5 (List.mem_of_getElem? (i := 237) rfl)) rfl
theorem hdX8_rowAt : sm_hdk sm_TB yX8_rowAt cX8_rowAt 2 (some .long) 2 := ⟨wCX8_rowAt, wNX8, ⟨neX8.1, neX8.2, by decide +kernel⟩, by decide⟩
theorem wSX8_rowAt : Cond.static yX8_rowAt ∈ sm_TB := sm_inT (sm_t5 (List.mem_of_getElem? (i := 236) rfl)) rfl
set_option maxRecDepth 20000 in
theorem hkX8_rowAt : sm_fd sm_pg 101 = some miX8_rowAt := by rfl
theorem hhX8_rowAt : sm_fd sm_hds 101 = some (yX8_rowAt, cX8_rowAt, 2, (some .long)) := sm_hh hkX8_rowAt
theorem wCX9_init : Cond.code yX9_init cX9_init 1 none ∈ sm_TB := sm_inT (sm_t1 (List.mem_of_getElem? (i := 165) rfl)) rfl
theorem hdX9_init : sm_hdk sm_TB yX9_init cX9_init 1 none 0 := ⟨wCX9_init, wNX9, ⟨neX9.1, neX9.2, by decide +kernel⟩, by decide⟩
theorem wIX9_init : Cond.instanceMethod yX9_init ∈ sm_TB := sm_inT (sm_t1 (List.mem_of_getElem? (i := 164) rfl)) rfl
set_option maxRecDepth 20000 in
theorem hkX9_init : sm_fd sm_pg 102 = some miX9_init := by rfl
theorem hhX9_init : sm_fd sm_hds 102 = some (yX9_init, cX9_init, 1, none) := sm_hh hkX9_init
theorem wCX9_appendWord : Cond.code yX9_appendWord cX9_appendWord 3 none ∈ sm_TB := sm_inT (sm_t3 (List.mem_of_getElem? (i := 80) rfl)) rfl
theorem hdX9_appendWord : sm_hdk sm_TB yX9_appendWord cX9_appendWord 3 none 1 := ⟨wCX9_appendWord, wNX9, ⟨neX9.1, neX9.2, by decide +kernel⟩, by decide⟩
theorem wIX9_appendWord : Cond.instanceMethod yX9_appendWord ∈ sm_TB := sm_inT (sm_t3 (List.mem_of_getElem? (i := 79) rfl)) rfl
theorem wVX9_appendWord : Cond.selects RX9 yX9_appendWord yX9_appendWord ∈ sm_TB := sm_inT (sm_v1 (q := (yX9_appendWord, 6)) (List.mem_of_getElem? (i := 8) rfl)) rfl
set_option maxRecDepth 20000 in
theorem hkX9_appendWord : sm_fd sm_pg 103 = some miX9_appendWord := by rfl
theorem hhX9_appendWord : sm_fd sm_hds 103 = some (yX9_appendWord, cX9_appendWord, 3, none) := sm_hh hkX9_appendWord
theorem wCX9_rewind : Cond.code yX9_rewind cX9_rewind 1 none ∈ sm_TB := sm_inT (sm_t3 (List.mem_of_getElem? (i := 98) rfl)) rfl
theorem hdX9_rewind : sm_hdk sm_TB yX9_rewind cX9_rewind 1 none 0 := ⟨wCX9_rewind, wNX9, ⟨neX9.1, neX9.2, by decide +kernel⟩, by decide⟩
theorem wIX9_rewind : Cond.instanceMethod yX9_rewind ∈ sm_TB := sm_inT (sm_t3 (List.mem_of_getElem? (i := 97) rfl)) rfl
theorem wVX9_rewind : Cond.selects RX9 yX9_rewind yX9_rewind ∈ sm_TB := sm_inT (sm_v1 (q := (yX9_rewind, 6)) (List.mem_of_getElem? (i := 10) rfl)) rfl
set_option maxRecDepth 20000 in
theorem hkX9_rewind : sm_fd sm_pg 104 = some miX9_rewind := by rfl
theorem hhX9_rewind : sm_fd sm_hds 104 = some (yX9_rewind, cX9_rewind, 1, none) := sm_hh hkX9_rewind
theorem wCX9_advance : Cond.code yX9_advance cX9_advance 2 none ∈ sm_TB := sm_inT (sm_t3 (List.mem_of_getElem? (i := 102) rfl)) rfl
theorem hdX9_advance : sm_hdk sm_TB yX9_advance cX9_advance 2 none 0 := ⟨wCX9_advance, wNX9, ⟨neX9.1, neX9.2, by decide +kernel⟩, by decide⟩
theorem wIX9_advance : Cond.instanceMethod yX9_advance ∈ sm_TB := sm_inT (sm_t3 (List.mem_of_getElem? (i := 101) rfl)) rfl
theorem wVX9_advance : Cond.selects RX9 yX9_advance yX9_advance ∈ sm_TB := sm_inT (sm_v1 (q := (yX9_advance, 6)) (List.mem_of_getElem? (i := 11) rfl)) rfl
set_option maxRecDepth 20000 in
theorem hkX9_advance : sm_fd sm_pg 105 = some miX9_advance := by rfl
theorem hhX9_advance : sm_fd sm_hds 105 = some (yX9_advance, cX9_advance, 2, none) := sm_hh hkX9_advance
theorem wCX9_byteAt : Cond.code yX9_byteAt cX9_byteAt 2 (some .int) ∈ sm_TB := sm_inT (sm_t3 (List.mem_of_getElem? (i := 106) rfl)) rfl
theorem hdX9_byteAt : sm_hdk sm_TB yX9_byteAt cX9_byteAt 2 (some .int) 1 := ⟨wCX9_byteAt, wNX9, ⟨neX9.1, neX9.2, by decide +kernel⟩, by decide⟩
theorem wIX9_byteAt : Cond.instanceMethod yX9_byteAt ∈ sm_TB := sm_inT (sm_t3 (List.mem_of_getElem? (i := 105) rfl)) rfl
theorem wVX9_byteAt : Cond.selects RX9 yX9_byteAt yX9_byteAt ∈ sm_TB := sm_inT (sm_v1 (q := (yX9_byteAt, 6)) (List.mem_of_getElem? (i := 12) rfl)) rfl
set_option maxRecDepth 20000 in
theorem hkX9_byteAt : sm_fd sm_pg 106 = some miX9_byteAt := by rfl
theorem hhX9_byteAt : sm_fd sm_hds 106 = some (yX9_byteAt, cX9_byteAt, 2, (some .int)) := sm_hh hkX9_byteAt
theorem wCX9_readNumber : Cond.code yX9_readNumber cX9_readNumber 1 none ∈ sm_TB := sm_inT (sm_t3 (List.mem_of_getElem? (i := 116) rfl)) rfl
theorem hdX9_readNumber : sm_hdk sm_TB yX9_readNumber cX9_readNumber 1 none 0 := ⟨wCX9_readNumber, wNX9, ⟨neX9.1, neX9.2, by decide +kernel⟩, by decide⟩
theorem wIX9_readNumber : Cond.instanceMethod yX9_readNumber ∈ sm_TB := sm_inT (sm_t3 (List.mem_of_getElem? (i := 115) rfl)) rfl
theorem wVX9_readNumber : Cond.selects RX9 yX9_readNumber yX9_readNumber ∈ sm_TB := sm_inT (sm_v1 (q := (yX9_readNumber, 6)) (List.mem_of_getElem? (i := 13) rfl)) rfl
set_option maxRecDepth 20000 in
theorem hkX9_readNumber : sm_fd sm_pg 107 = some miX9_readNumber := by rfl
theorem hhX9_readNumber : sm_fd sm_hds 107 = some (yX9_readNumber, cX9_readNumber, 1, none) := sm_hh hkX9_readNumber
theorem wCX9_readWord : Cond.code yX9_readWord cX9_readWord 2 none ∈ sm_TB := sm_inT (sm_t3 (List.mem_of_getElem? (i := 124) rfl)) rfl
theorem hdX9_readWord : sm_hdk sm_TB yX9_readWord cX9_readWord 2 none 0 := ⟨wCX9_readWord, wNX9, ⟨neX9.1, neX9.2, by decide +kernel⟩, by decide⟩
theorem wIX9_readWord : Cond.instanceMethod yX9_readWord ∈ sm_TB := sm_inT (sm_t3 (List.mem_of_getElem? (i := 123) rfl)) rfl
theorem wVX9_readWord : Cond.selects RX9 yX9_readWord yX9_readWord ∈ sm_TB := sm_inT (sm_v1 (q := (yX9_readWord, 6)) (List.mem_of_getElem? (i := 14) rfl)) rfl
set_option maxRecDepth 20000 in
theorem hkX9_readWord : sm_fd sm_pg 108 = some miX9_readWord := by rfl
theorem hhX9_readWord : sm_fd sm_hds 108 = some (yX9_readWord, cX9_readWord, 2, none) := sm_hh hkX9_readWord
theorem wCX9_kindOfWord : Cond.code yX9_kindOfWord cX9_kindOfWord 1 (some .int) ∈ sm_TB := sm_inT (sm_t3 (List.mem_of_getElem? (i := 128) rfl)) rfl
theorem hdX9_kindOfWord : sm_hdk sm_TB yX9_kindOfWord cX9_kindOfWord 1 (some .int) 0 := ⟨wCX9_kindOfWord, wNX9, ⟨neX9.1, neX9.2, by decide +kernel⟩, by decide⟩
theorem wIX9_kindOfWord : Cond.instanceMethod yX9_kindOfWord ∈ sm_TB := sm_inT (sm_t3 (List.mem_of_getElem? (i := 127) rfl)) rfl
theorem wVX9_kindOfWord : Cond.selects RX9 yX9_kindOfWord yX9_kindOfWord ∈ sm_TB := sm_inT (sm_v1 (q := (yX9_kindOfWord, 6)) (List.mem_of_getElem? (i := 15) rfl)) rfl
set_option maxRecDepth 20000 in
theorem hkX9_kindOfWord : sm_fd sm_pg 109 = some miX9_kindOfWord := by rfl
theorem hhX9_kindOfWord : sm_fd sm_hds 109 = some (yX9_kindOfWord, cX9_kindOfWord, 1, (some .int)) := sm_hh hkX9_kindOfWord
theorem wCX9_isWord : Cond.code yX9_isWord cX9_isWord 4 (some .boolean) ∈ sm_TB := sm_inT (sm_t3 (List.mem_of_getElem? (i := 133) rfl)) rfl
theorem hdX9_isWord : sm_hdk sm_TB yX9_isWord cX9_isWord 4 (some .boolean) 1 := ⟨wCX9_isWord, wNX9, ⟨neX9.1, neX9.2, by decide +kernel⟩, by decide⟩
theorem wIX9_isWord : Cond.instanceMethod yX9_isWord ∈ sm_TB := sm_inT (sm_t3 (List.mem_of_getElem? (i := 132) rfl)) rfl
theorem wVX9_isWord : Cond.selects RX9 yX9_isWord yX9_isWord ∈ sm_TB := sm_inT (sm_v2 (q := (yX9_isWord, 6)) (List.mem_of_getElem? (i := 0) rfl)) rfl
set_option maxRecDepth 20000 in
theorem hkX9_isWord : sm_fd sm_pg 110 = some miX9_isWord := by rfl
theorem hhX9_isWord : sm_fd sm_hds 110 = some (yX9_isWord, cX9_isWord, 4, (some .boolean)) := sm_hh hkX9_isWord
theorem wCX9_isBlank : Cond.code yX9_isBlank cX9_isBlank 1 (some .boolean) ∈ sm_TB := sm_inT (sm_t3 (List.mem_of_getElem? (i := 109) rfl)) rfl
theorem hdX9_isBlank : sm_hdk sm_TB yX9_isBlank cX9_isBlank 1 (some .boolean) 1 := ⟨wCX9_isBlank, wNX9, ⟨neX9.1, neX9.2, by decide +kernel⟩, by decide⟩
theorem wSX9_isBlank : Cond.static yX9_isBlank ∈ sm_TB := sm_inT (sm_t3 (List.mem_of_getElem? (i := 108) rfl)) rfl
set_option maxRecDepth 20000 in
theorem hkX9_isBlank : sm_fd sm_pg 111 = some miX9_isBlank := by rfl
theorem hhX9_isBlank : sm_fd sm_hds 111 = some (yX9_isBlank, cX9_isBlank, 1, (some .boolean)) := sm_hh hkX9_isBlank
theorem wCX9_isDigit : Cond.code yX9_isDigit cX9_isDigit 1 (some .boolean) ∈ sm_TB := sm_inT (sm_t3 (List.mem_of_getElem? (i := 112) rfl)) rfl
theorem hdX9_isDigit : sm_hdk sm_TB yX9_isDigit cX9_isDigit 1 (some .boolean) 1 := ⟨wCX9_isDigit, wNX9, ⟨neX9.1, neX9.2, by decide +kernel⟩, by decide⟩
theorem wSX9_isDigit : Cond.static yX9_isDigit ∈ sm_TB := sm_inT (sm_t3 (List.mem_of_getElem? (i := 111) rfl)) rfl
set_option maxRecDepth 20000 in
theorem hkX9_isDigit : sm_fd sm_pg 112 = some miX9_isDigit := by rfl
theorem hhX9_isDigit : sm_fd sm_hds 112 = some (yX9_isDigit, cX9_isDigit, 1, (some .boolean)) := sm_hh hkX9_isDigit
theorem wCX9_isAlphabetic : Cond.code yX9_isAlphabetic cX9_isAlphabetic 1 (some .boolean) ∈ sm_TB := sm_inT (sm_t3 (List.mem_of_getElem? (i := 120) rfl)) rfl
theorem hdX9_isAlphabetic : sm_hdk sm_TB yX9_isAlphabetic cX9_isAlphabetic 1 (some .boolean) 1 := ⟨wCX9_isAlphabetic, wNX9, ⟨neX9.1, neX9.2, by decide +kernel⟩, by decide⟩
theorem wSX9_isAlphabetic : Cond.static yX9_isAlphabetic ∈ sm_TB := sm_inT (sm_t3 (List.mem_of_getElem? (i := 119) rfl)) rfl
set_option maxRecDepth 20000 in
theorem hkX9_isAlphabetic : sm_fd sm_pg 113 = some miX9_isAlphabetic := by rfl
theorem hhX9_isAlphabetic : sm_fd sm_hds 113 = some (yX9_isAlphabetic, cX9_isAlphabetic, 1, (some .boolean)) := sm_hh hkX9_isAlphabetic
theorem wCX9_isSign : Cond.code yX9_isSign cX9_isSign 1 (some .boolean) ∈ sm_TB := sm_inT (sm_t3 (List.mem_of_getElem? (i := 191) rfl)) rfl
theorem hdX9_isSign : sm_hdk sm_TB yX9_isSign cX9_isSign 1 (some .boolean) 1 := ⟨wCX9_isSign, wNX9, ⟨neX9.1, neX9.2, by decide +kernel⟩, by decide⟩
theorem wSX9_isSign : Cond.static yX9_isSign ∈ sm_TB := sm_inT (sm_t3 (List.mem_of_getElem? (i := 190) rfl)) rfl
set_option maxRecDepth 20000 in
theorem hkX9_isSign : sm_fd sm_pg 114 = some miX9_isSign := by rfl
theorem hhX9_isSign : sm_fd sm_hds 114 = some (yX9_isSign, cX9_isSign, 1, (some .boolean)) := sm_hh hkX9_isSign
theorem wCX10_init : Cond.code yX10_init cX10_init 3 none ∈ sm_TB := sm_inT (sm_t1 (List.mem_of_getElem? (i := 25) rfl)) rfl
theorem hdX10_init : sm_hdk sm_TB yX10_init cX10_init 3 none 2 := ⟨wCX10_init, wNX10, ⟨neX10.1, neX10.2, by decide +kernel⟩, by decide⟩
theorem wIX10_init : Cond.instanceMethod yX10_init ∈ sm_TB := sm_inT (sm_t1 (List.mem_of_getElem? (i := 24) rfl)) rfl
set_option maxRecDepth 20000 in
theorem hkX10_init : sm_fd sm_pg 115 = some miX10_init := by rfl
theorem hhX10_init : sm_fd sm_hds 115 = some (yX10_init, cX10_init, 3, none) := sm_hh hkX10_init
theorem wCX10_thread : Cond.code yX10_thread cX10_thread 3 (some .int) ∈ sm_TB := sm_inT (sm_t3 (List.mem_of_getElem? (i := 27) rfl)) rfl
theorem hdX10_thread : sm_hdk sm_TB yX10_thread cX10_thread 3 (some .int) 2 := ⟨wCX10_thread, wNX10, ⟨neX10.1, neX10.2, by decide +kernel⟩, by decide⟩
theorem wIX10_thread : Cond.instanceMethod yX10_thread ∈ sm_TB := sm_inT (sm_t3 (List.mem_of_getElem? (i := 25) rfl)) rfl
theorem wVX10_thread : Cond.selects RX10 yX10_thread yX10_thread ∈ sm_TB := sm_inT (sm_t3 (List.mem_of_getElem? (i := 26) rfl)) rfl
set_option maxRecDepth 20000 in
theorem hkX10_thread : sm_fd sm_pg 116 = some miX10_thread := by rfl
theorem hhX10_thread : sm_fd sm_hds 116 = some (yX10_thread, cX10_thread, 3, (some .int)) := sm_hh hkX10_thread
theorem wCX10_tie : Cond.code yX10_tie cX10_tie 3 (some .int) ∈ sm_TB := sm_inT (sm_t3 (List.mem_of_getElem? (i := 56) rfl)) rfl
theorem hdX10_tie : sm_hdk sm_TB yX10_tie cX10_tie 3 (some .int) 2 := ⟨wCX10_tie, wNX10, ⟨neX10.1, neX10.2, by decide +kernel⟩, by decide⟩
theorem wIX10_tie : Cond.instanceMethod yX10_tie ∈ sm_TB := sm_inT (sm_t3 (List.mem_of_getElem? (i := 54) rfl)) rfl
theorem wVX10_tie : Cond.selects RX10 yX10_tie yX10_tie ∈ sm_TB := sm_inT (sm_t3 (List.mem_of_getElem? (i := 55) rfl)) rfl
set_option maxRecDepth 20000 in
theorem hkX10_tie : sm_fd sm_pg 117 = some miX10_tie := by rfl
theorem hhX10_tie : sm_fd sm_hds 117 = some (yX10_tie, cX10_tie, 3, (some .int)) := sm_hh hkX10_tie
theorem wCX10_tread : Cond.code yX10_tread cX10_tread 3 (some .int) ∈ sm_TB := sm_inT (sm_t3 (List.mem_of_getElem? (i := 61) rfl)) rfl
theorem hdX10_tread : sm_hdk sm_TB yX10_tread cX10_tread 3 (some .int) 2 := ⟨wCX10_tread, wNX10, ⟨neX10.1, neX10.2, by decide +kernel⟩, by decide⟩
theorem wIX10_tread : Cond.instanceMethod yX10_tread ∈ sm_TB := sm_inT (sm_t3 (List.mem_of_getElem? (i := 59) rfl)) rfl
theorem wVX10_tread : Cond.selects RX10 yX10_tread yX10_tread ∈ sm_TB := sm_inT (sm_t3 (List.mem_of_getElem? (i := 60) rfl)) rfl
set_option maxRecDepth 20000 in
theorem hkX10_tread : sm_fd sm_pg 118 = some miX10_tread := by rfl
theorem hhX10_tread : sm_fd sm_hds 118 = some (yX10_tread, cX10_tread, 3, (some .int)) := sm_hh hkX10_tread
theorem wCX10_colour : Cond.code yX10_colour cX10_colour 5 (some .int) ∈ sm_TB := sm_inT (sm_t3 (List.mem_of_getElem? (i := 69) rfl)) rfl
theorem hdX10_colour : sm_hdk sm_TB yX10_colour cX10_colour 5 (some .int) 3 := ⟨wCX10_colour, wNX10, ⟨neX10.1, neX10.2, by decide +kernel⟩, by decide⟩
theorem wIX10_colour : Cond.instanceMethod yX10_colour ∈ sm_TB := sm_inT (sm_t3 (List.mem_of_getElem? (i := 67) rfl)) rfl
theorem wVX10_colour : Cond.selects RX10 yX10_colour yX10_colour ∈ sm_TB := sm_inT (sm_t3 (List.mem_of_getElem? (i := 68) rfl)) rfl
set_option maxRecDepth 20000 in
theorem hkX10_colour : sm_fd sm_pg 119 = some miX10_colour := by rfl
theorem hhX10_colour : sm_fd sm_hds 119 = some (yX10_colour, cX10_colour, 5, (some .int)) := sm_hh hkX10_colour
theorem wCX10_feed : Cond.code yX10_feed cX10_feed 6 (some .int) ∈ sm_TB := sm_inT (sm_t3 (List.mem_of_getElem? (i := 76) rfl)) rfl
theorem hdX10_feed : sm_hdk sm_TB yX10_feed cX10_feed 6 (some .int) 5 := ⟨wCX10_feed, wNX10, ⟨neX10.1, neX10.2, by decide +kernel⟩, by decide⟩
theorem wIX10_feed : Cond.instanceMethod yX10_feed ∈ sm_TB := sm_inT (sm_t3 (List.mem_of_getElem? (i := 74) rfl)) rfl
theorem wVX10_feed : Cond.selects RX10 yX10_feed yX10_feed ∈ sm_TB := sm_inT (sm_t3 (List.mem_of_getElem? (i := 75) rfl)) rfl
set_option maxRecDepth 20000 in
theorem hkX10_feed : sm_fd sm_pg 120 = some miX10_feed := by rfl
theorem hhX10_feed : sm_fd sm_hds 120 = some (yX10_feed, cX10_feed, 6, (some .int)) := sm_hh hkX10_feed
theorem wCX10_end : Cond.code yX10_end cX10_end 2 (some .int) ∈ sm_TB := sm_inT (sm_t3 (List.mem_of_getElem? (i := 84) rfl)) rfl
theorem hdX10_end : sm_hdk sm_TB yX10_end cX10_end 2 (some .int) 1 := ⟨wCX10_end, wNX10, ⟨neX10.1, neX10.2, by decide +kernel⟩, by decide⟩
theorem wIX10_end : Cond.instanceMethod yX10_end ∈ sm_TB := sm_inT (sm_t3 (List.mem_of_getElem? (i := 82) rfl)) rfl
theorem wVX10_end : Cond.selects RX10 yX10_end yX10_end ∈ sm_TB := sm_inT (sm_t3 (List.mem_of_getElem? (i := 83) rfl)) rfl
set_option maxRecDepth 20000 in
theorem hkX10_end : sm_fd sm_pg 121 = some miX10_end := by rfl
theorem hhX10_end : sm_fd sm_hds 121 = some (yX10_end, cX10_end, 2, (some .int)) := sm_hh hkX10_end
theorem wCX10_text : Cond.code yX10_text cX10_text 1 (some .int) ∈ sm_TB := sm_inT (sm_t3 (List.mem_of_getElem? (i := 88) rfl)) rfl
theorem hdX10_text : sm_hdk sm_TB yX10_text cX10_text 1 (some .int) 0 := ⟨wCX10_text, wNX10, ⟨neX10.1, neX10.2, by decide +kernel⟩, by decide⟩
theorem wIX10_text : Cond.instanceMethod yX10_text ∈ sm_TB := sm_inT (sm_t3 (List.mem_of_getElem? (i := 86) rfl)) rfl
theorem wVX10_text : Cond.selects RX10 yX10_text yX10_text ∈ sm_TB := sm_inT (sm_t3 (List.mem_of_getElem? (i := 87) rfl)) rfl
set_option maxRecDepth 20000 in
theorem hkX10_text : sm_fd sm_pg 122 = some miX10_text := by rfl
theorem hhX10_text : sm_fd sm_hds 122 = some (yX10_text, cX10_text, 1, (some .int)) := sm_hh hkX10_text
theorem wCX10_fault : Cond.code yX10_fault cX10_fault 2 (some .int) ∈ sm_TB := sm_inT (sm_t4 (List.mem_of_getElem? (i := 91) rfl)) rfl
theorem hdX10_fault : sm_hdk sm_TB yX10_fault cX10_fault 2 (some .int) 1 := ⟨wCX10_fault, wNX10, ⟨neX10.1, neX10.2, by decide +kernel⟩, by decide⟩
theorem wIX10_fault : Cond.instanceMethod yX10_fault ∈ sm_TB := sm_inT (sm_t4 (List.mem_of_getElem? (i := 89) rfl)) rfl
theorem wVX10_fault : Cond.selects RX10 yX10_fault yX10_fault ∈ sm_TB := sm_inT (sm_t4 (List.mem_of_getElem? (i := 90) rfl)) rfl
set_option maxRecDepth 20000 in
theorem hkX10_fault : sm_fd sm_pg 123 = some miX10_fault := by rfl
theorem hhX10_fault : sm_fd sm_hds 123 = some (yX10_fault, cX10_fault, 2, (some .int)) := sm_hh hkX10_fault
theorem wCX10_look : Cond.code yX10_look cX10_look 2 (some .boolean) ∈ sm_TB := sm_inT (sm_t4 (List.mem_of_getElem? (i := 95) rfl)) rfl
theorem hdX10_look : sm_hdk sm_TB yX10_look cX10_look 2 (some .boolean) 1 := ⟨wCX10_look, wNX10, ⟨neX10.1, neX10.2, by decide +kernel⟩, by decide⟩
theorem wIX10_look : Cond.instanceMethod yX10_look ∈ sm_TB := sm_inT (sm_t4 (List.mem_of_getElem? (i := 93) rfl)) rfl
theorem wVX10_look : Cond.selects RX10 yX10_look yX10_look ∈ sm_TB := sm_inT (sm_t4 (List.mem_of_getElem? (i := 94) rfl)) rfl
set_option maxRecDepth 20000 in
theorem hkX10_look : sm_fd sm_pg 124 = some miX10_look := by rfl
theorem hhX10_look : sm_fd sm_hds 124 = some (yX10_look, cX10_look, 2, (some .boolean)) := sm_hh hkX10_look
theorem wCX10_shaft : Cond.code yX10_shaft cX10_shaft 2 (some .int) ∈ sm_TB := sm_inT (sm_t4 (List.mem_of_getElem? (i := 103) rfl)) rfl
theorem hdX10_shaft : sm_hdk sm_TB yX10_shaft cX10_shaft 2 (some .int) 1 := ⟨wCX10_shaft, wNX10, ⟨neX10.1, neX10.2, by decide +kernel⟩, by decide⟩
theorem wIX10_shaft : Cond.instanceMethod yX10_shaft ∈ sm_TB := sm_inT (sm_t4 (List.mem_of_getElem? (i := 101) rfl)) rfl
theorem wVX10_shaft : Cond.selects RX10 yX10_shaft yX10_shaft ∈ sm_TB := sm_inT (sm_t4 (List.mem_of_getElem? (i := 102) rfl)) rfl
set_option maxRecDepth 20000 in
theorem hkX10_shaft : sm_fd sm_pg 125 = some miX10_shaft := by rfl
theorem hhX10_shaft : sm_fd sm_hds 125 = some (yX10_shaft, cX10_shaft, 2, (some .int)) := sm_hh hkX10_shaft
theorem wCX10_lift : Cond.code yX10_lift cX10_lift 2 (some .int) ∈ sm_TB := sm_inT (sm_t4 (List.mem_of_getElem? (i := 111) rfl)) rfl
theorem hdX10_lift : sm_hdk sm_TB yX10_lift cX10_lift 2 (some .int) 1 := ⟨wCX10_lift, wNX10, ⟨neX10.1, neX10.2, by decide +kernel⟩, by decide⟩
theorem wIX10_lift : Cond.instanceMethod yX10_lift ∈ sm_TB := sm_inT (sm_t4 (List.mem_of_getElem? (i := 109) rfl)) rfl
theorem wVX10_lift : Cond.selects RX10 yX10_lift yX10_lift ∈ sm_TB := sm_inT (sm_t4 (List.mem_of_getElem? (i := 110) rfl)) rfl
set_option maxRecDepth 20000 in
theorem hkX10_lift : sm_fd sm_pg 126 = some miX10_lift := by rfl
theorem hhX10_lift : sm_fd sm_hds 126 = some (yX10_lift, cX10_lift, 2, (some .int)) := sm_hh hkX10_lift
theorem wCX10_row : Cond.code yX10_row cX10_row 2 (some .long) ∈ sm_TB := sm_inT (sm_t4 (List.mem_of_getElem? (i := 146) rfl)) rfl
theorem hdX10_row : sm_hdk sm_TB yX10_row cX10_row 2 (some .long) 1 := ⟨wCX10_row, wNX10, ⟨neX10.1, neX10.2, by decide +kernel⟩, by decide⟩
theorem wIX10_row : Cond.instanceMethod yX10_row ∈ sm_TB := sm_inT (sm_t4 (List.mem_of_getElem? (i := 144) rfl)) rfl
theorem wVX10_row : Cond.selects RX10 yX10_row yX10_row ∈ sm_TB := sm_inT (sm_t4 (List.mem_of_getElem? (i := 145) rfl)) rfl
set_option maxRecDepth 20000 in
theorem hkX10_row : sm_fd sm_pg 127 = some miX10_row := by rfl
theorem hhX10_row : sm_fd sm_hds 127 = some (yX10_row, cX10_row, 2, (some .long)) := sm_hh hkX10_row
theorem wCX10_lead : Cond.code yX10_lead cX10_lead 4 (some .int) ∈ sm_TB := sm_inT (sm_t4 (List.mem_of_getElem? (i := 151) rfl)) rfl
theorem hdX10_lead : sm_hdk sm_TB yX10_lead cX10_lead 4 (some .int) 3 := ⟨wCX10_lead, wNX10, ⟨neX10.1, neX10.2, by decide +kernel⟩, by decide⟩
theorem wIX10_lead : Cond.instanceMethod yX10_lead ∈ sm_TB := sm_inT (sm_t4 (List.mem_of_getElem? (i := 149) rfl)) rfl
theorem wVX10_lead : Cond.selects RX10 yX10_lead yX10_lead ∈ sm_TB := sm_inT (sm_t4 (List.mem_of_getElem? (i := 150) rfl)) rfl
set_option maxRecDepth 20000 in
theorem hkX10_lead : sm_fd sm_pg 128 = some miX10_lead := by rfl
theorem hhX10_lead : sm_fd sm_hds 128 = some (yX10_lead, cX10_lead, 4, (some .int)) := sm_hh hkX10_lead
theorem wCX10_longest : Cond.code yX10_longest cX10_longest 3 (some .int) ∈ sm_TB := sm_inT (sm_t4 (List.mem_of_getElem? (i := 164) rfl)) rfl
theorem hdX10_longest : sm_hdk sm_TB yX10_longest cX10_longest 3 (some .int) 2 := ⟨wCX10_longest, wNX10, ⟨neX10.1, neX10.2, by decide +kernel⟩, by decide⟩
theorem wIX10_longest : Cond.instanceMethod yX10_longest ∈ sm_TB := sm_inT (sm_t4 (List.mem_of_getElem? (i := 162) rfl)) rfl
theorem wVX10_longest : Cond.selects RX10 yX10_longest yX10_longest ∈ sm_TB := sm_inT (sm_t4 (List.mem_of_getElem? (i := 163) rfl)) rfl
set_option maxRecDepth 20000 in
theorem hkX10_longest : sm_fd sm_pg 129 = some miX10_longest := by rfl
theorem hhX10_longest : sm_fd sm_hds 129 = some (yX10_longest, cX10_longest, 3, (some .int)) := sm_hh hkX10_longest
theorem wCX10_floats : Cond.code yX10_floats cX10_floats 4 (some .int) ∈ sm_TB := sm_inT (sm_t4 (List.mem_of_getElem? (i := 197) rfl)) rfl
theorem hdX10_floats : sm_hdk sm_TB yX10_floats cX10_floats 4 (some .int) 3 := ⟨wCX10_floats, wNX10, ⟨neX10.1, neX10.2, by decide +kernel⟩, by decide⟩
theorem wIX10_floats : Cond.instanceMethod yX10_floats ∈ sm_TB := sm_inT (sm_t4 (List.mem_of_getElem? (i := 195) rfl)) rfl
theorem wVX10_floats : Cond.selects RX10 yX10_floats yX10_floats ∈ sm_TB := sm_inT (sm_t4 (List.mem_of_getElem? (i := 196) rfl)) rfl
set_option maxRecDepth 20000 in
theorem hkX10_floats : sm_fd sm_pg 130 = some miX10_floats := by rfl
theorem hhX10_floats : sm_fd sm_hds 130 = some (yX10_floats, cX10_floats, 4, (some .int)) := sm_hh hkX10_floats
theorem wCX10_layers : Cond.code yX10_layers cX10_layers 5 (some .int) ∈ sm_TB := sm_inT (sm_t4 (List.mem_of_getElem? (i := 205) rfl)) rfl
theorem hdX10_layers : sm_hdk sm_TB yX10_layers cX10_layers 5 (some .int) 4 := ⟨wCX10_layers, wNX10, ⟨neX10.1, neX10.2, by decide +kernel⟩, by decide⟩
theorem wIX10_layers : Cond.instanceMethod yX10_layers ∈ sm_TB := sm_inT (sm_t4 (List.mem_of_getElem? (i := 203) rfl)) rfl
theorem wVX10_layers : Cond.selects RX10 yX10_layers yX10_layers ∈ sm_TB := sm_inT (sm_t4 (List.mem_of_getElem? (i := 204) rfl)) rfl
set_option maxRecDepth 20000 in
theorem hkX10_layers : sm_fd sm_pg 131 = some miX10_layers := by rfl
theorem hhX10_layers : sm_fd sm_hds 131 = some (yX10_layers, cX10_layers, 5, (some .int)) := sm_hh hkX10_layers
theorem wCX10_layer : Cond.code yX10_layer cX10_layer 6 (some .int) ∈ sm_TB := sm_inT (sm_t5 (List.mem_of_getElem? (i := 10) rfl)) rfl
theorem hdX10_layer : sm_hdk sm_TB yX10_layer cX10_layer 6 (some .int) 5 := ⟨wCX10_layer, wNX10, ⟨neX10.1, neX10.2, by decide +kernel⟩, by decide⟩
theorem wIX10_layer : Cond.instanceMethod yX10_layer ∈ sm_TB := sm_inT (sm_t5 (List.mem_of_getElem? (i := 8) rfl)) rfl
theorem wVX10_layer : Cond.selects RX10 yX10_layer yX10_layer ∈ sm_TB := sm_inT (sm_t5 (List.mem_of_getElem? (i := 9) rfl)) rfl
set_option maxRecDepth 20000 in
theorem hkX10_layer : sm_fd sm_pg 132 = some miX10_layer := by rfl
theorem hhX10_layer : sm_fd sm_hds 132 = some (yX10_layer, cX10_layer, 6, (some .int)) := sm_hh hkX10_layer
theorem wCX10_seenColour : Cond.code yX10_seenColour cX10_seenColour 4 (some .int) ∈ sm_TB := sm_inT (sm_t5 (List.mem_of_getElem? (i := 18) rfl)) rfl
theorem hdX10_seenColour : sm_hdk sm_TB yX10_seenColour cX10_seenColour 4 (some .int) 2 := ⟨wCX10_seenColour, wNX10, ⟨neX10.1, neX10.2, by decide +kernel⟩, by decide⟩
theorem wIX10_seenColour : Cond.instanceMethod yX10_seenColour ∈ sm_TB := sm_inT (sm_t5 (List.mem_of_getElem? (i := 16) rfl)) rfl
theorem wVX10_seenColour : Cond.selects RX10 yX10_seenColour yX10_seenColour ∈ sm_TB := sm_inT (sm_t5 (List.mem_of_getElem? (i := 17) rfl)) rfl
set_option maxRecDepth 20000 in
theorem hkX10_seenColour : sm_fd sm_pg 133 = some miX10_seenColour := by rfl
theorem hhX10_seenColour : sm_fd sm_hds 133 = some (yX10_seenColour, cX10_seenColour, 4, (some .int)) := sm_hh hkX10_seenColour
theorem wCX10_coloured : Cond.code yX10_coloured cX10_coloured 8 (some .int) ∈ sm_TB := sm_inT (sm_t5 (List.mem_of_getElem? (i := 22) rfl)) rfl
theorem hdX10_coloured : sm_hdk sm_TB yX10_coloured cX10_coloured 8 (some .int) 1 := ⟨wCX10_coloured, wNX10, ⟨neX10.1, neX10.2, by decide +kernel⟩, by decide⟩
theorem wIX10_coloured : Cond.instanceMethod yX10_coloured ∈ sm_TB := sm_inT (sm_t5 (List.mem_of_getElem? (i := 20) rfl)) rfl
theorem wVX10_coloured : Cond.selects RX10 yX10_coloured yX10_coloured ∈ sm_TB := sm_inT (sm_t5 (List.mem_of_getElem? (i := 21) rfl)) rfl
set_option maxRecDepth 20000 in
theorem hkX10_coloured : sm_fd sm_pg 134 = some miX10_coloured := by rfl
theorem hhX10_coloured : sm_fd sm_hds 134 = some (yX10_coloured, cX10_coloured, 8, (some .int)) := sm_hh hkX10_coloured
theorem wCX10_period : Cond.code yX10_period cX10_period 5 (some .int) ∈ sm_TB := sm_inT (sm_t5 (List.mem_of_getElem? (i := 36) rfl)) rfl
theorem hdX10_period : sm_hdk sm_TB yX10_period cX10_period 5 (some .int) 2 := ⟨wCX10_period, wNX10, ⟨neX10.1, neX10.2, by decide +kernel⟩, by decide⟩
theorem wIX10_period : Cond.instanceMethod yX10_period ∈ sm_TB := sm_inT (sm_t5 (List.mem_of_getElem? (i := 34) rfl)) rfl
theorem wVX10_period : Cond.selects RX10 yX10_period yX10_period ∈ sm_TB := sm_inT (sm_t5 (List.mem_of_getElem? (i := 35) rfl)) rfl
set_option maxRecDepth 20000 in
theorem hkX10_period : sm_fd sm_pg 135 = some miX10_period := by rfl
theorem hhX10_period : sm_fd sm_hds 135 = some (yX10_period, cX10_period, 5, (some .int)) := sm_hh hkX10_period
theorem wCX10_fewest : Cond.code yX10_fewest cX10_fewest 2 (some .int) ∈ sm_TB := sm_inT (sm_t5 (List.mem_of_getElem? (i := 63) rfl)) rfl
theorem hdX10_fewest : sm_hdk sm_TB yX10_fewest cX10_fewest 2 (some .int) 1 := ⟨wCX10_fewest, wNX10, ⟨neX10.1, neX10.2, by decide +kernel⟩, by decide⟩
theorem wIX10_fewest : Cond.instanceMethod yX10_fewest ∈ sm_TB := sm_inT (sm_t5 (List.mem_of_getElem? (i := 61) rfl)) rfl
theorem wVX10_fewest : Cond.selects RX10 yX10_fewest yX10_fewest ∈ sm_TB := sm_inT (sm_t5 (List.mem_of_getElem? (i := 62) rfl)) rfl
set_option maxRecDepth 20000 in
theorem hkX10_fewest : sm_fd sm_pg 136 = some miX10_fewest := by rfl
theorem hhX10_fewest : sm_fd sm_hds 136 = some (yX10_fewest, cX10_fewest, 2, (some .int)) := sm_hh hkX10_fewest
theorem wCX10_pegs : Cond.code yX10_pegs cX10_pegs 5 (some .int) ∈ sm_TB := sm_inT (sm_t5 (List.mem_of_getElem? (i := 70) rfl)) rfl
theorem hdX10_pegs : sm_hdk sm_TB yX10_pegs cX10_pegs 5 (some .int) 1 := ⟨wCX10_pegs, wNX10, ⟨neX10.1, neX10.2, by decide +kernel⟩, by decide⟩
theorem wIX10_pegs : Cond.instanceMethod yX10_pegs ∈ sm_TB := sm_inT (sm_t5 (List.mem_of_getElem? (i := 68) rfl)) rfl
theorem wVX10_pegs : Cond.selects RX10 yX10_pegs yX10_pegs ∈ sm_TB := sm_inT (sm_t5 (List.mem_of_getElem? (i := 69) rfl)) rfl
set_option maxRecDepth 20000 in
theorem hkX10_pegs : sm_fd sm_pg 137 = some miX10_pegs := by rfl
theorem hhX10_pegs : sm_fd sm_hds 137 = some (yX10_pegs, cX10_pegs, 5, (some .int)) := sm_hh hkX10_pegs
theorem wCX10_cover : Cond.code yX10_cover cX10_cover 2 (some .int) ∈ sm_TB := sm_inT (sm_t5 (List.mem_of_getElem? (i := 80) rfl)) rfl
theorem hdX10_cover : sm_hdk sm_TB yX10_cover cX10_cover 2 (some .int) 1 := ⟨wCX10_cover, wNX10, ⟨neX10.1, neX10.2, by decide +kernel⟩, by decide⟩
theorem wIX10_cover : Cond.instanceMethod yX10_cover ∈ sm_TB := sm_inT (sm_t5 (List.mem_of_getElem? (i := 78) rfl)) rfl
theorem wVX10_cover : Cond.selects RX10 yX10_cover yX10_cover ∈ sm_TB := sm_inT (sm_t5 (List.mem_of_getElem? (i := 79) rfl)) rfl
set_option maxRecDepth 20000 in
theorem hkX10_cover : sm_fd sm_pg 138 = some miX10_cover := by rfl
theorem hhX10_cover : sm_fd sm_hds 138 = some (yX10_cover, cX10_cover, 2, (some .int)) := sm_hh hkX10_cover
theorem wCX10_seen : Cond.code yX10_seen cX10_seen 4 (some .boolean) ∈ sm_TB := sm_inT (sm_t5 (List.mem_of_getElem? (i := 141) rfl)) rfl
theorem hdX10_seen : sm_hdk sm_TB yX10_seen cX10_seen 4 (some .boolean) 2 := ⟨wCX10_seen, wNX10, ⟨neX10.1, neX10.2, by decide +kernel⟩, by decide⟩
theorem wIX10_seen : Cond.instanceMethod yX10_seen ∈ sm_TB := sm_inT (sm_t5 (List.mem_of_getElem? (i := 139) rfl)) rfl
theorem wVX10_seen : Cond.selects RX10 yX10_seen yX10_seen ∈ sm_TB := sm_inT (sm_t5 (List.mem_of_getElem? (i := 140) rfl)) rfl
set_option maxRecDepth 20000 in
theorem hkX10_seen : sm_fd sm_pg 139 = some miX10_seen := by rfl
theorem hhX10_seen : sm_fd sm_hds 139 = some (yX10_seen, cX10_seen, 4, (some .boolean)) := sm_hh hkX10_seen
theorem wCX10_wrong : Cond.code yX10_wrong cX10_wrong 2 (some .int) ∈ sm_TB := sm_inT (sm_t5 (List.mem_of_getElem? (i := 151) rfl)) rfl
theorem hdX10_wrong : sm_hdk sm_TB yX10_wrong cX10_wrong 2 (some .int) 1 := ⟨wCX10_wrong, wNX10, ⟨neX10.1, neX10.2, by decide +kernel⟩, by decide⟩
theorem wIX10_wrong : Cond.instanceMethod yX10_wrong ∈ sm_TB := sm_inT (sm_t5 (List.mem_of_getElem? (i := 149) rfl)) rfl
theorem wVX10_wrong : Cond.selects RX10 yX10_wrong yX10_wrong ∈ sm_TB := sm_inT (sm_t5 (List.mem_of_getElem? (i := 150) rfl)) rfl
set_option maxRecDepth 20000 in
theorem hkX10_wrong : sm_fd sm_pg 140 = some miX10_wrong := by rfl
theorem hhX10_wrong : sm_fd sm_hds 140 = some (yX10_wrong, cX10_wrong, 2, (some .int)) := sm_hh hkX10_wrong
theorem wCX10_nearest : Cond.code yX10_nearest cX10_nearest 4 (some .int) ∈ sm_TB := sm_inT (sm_t5 (List.mem_of_getElem? (i := 155) rfl)) rfl
theorem hdX10_nearest : sm_hdk sm_TB yX10_nearest cX10_nearest 4 (some .int) 2 := ⟨wCX10_nearest, wNX10, ⟨neX10.1, neX10.2, by decide +kernel⟩, by decide⟩
theorem wIX10_nearest : Cond.instanceMethod yX10_nearest ∈ sm_TB := sm_inT (sm_t5 (List.mem_of_getElem? (i := 153) rfl)) rfl
theorem wVX10_nearest : Cond.selects RX10 yX10_nearest yX10_nearest ∈ sm_TB := sm_inT (sm_t5 (List.mem_of_getElem? (i := 154) rfl)) rfl
set_option maxRecDepth 20000 in
theorem hkX10_nearest : sm_fd sm_pg 141 = some miX10_nearest := by rfl
theorem hhX10_nearest : sm_fd sm_hds 141 = some (yX10_nearest, cX10_nearest, 4, (some .int)) := sm_hh hkX10_nearest
theorem wCX10_mended : Cond.code yX10_mended cX10_mended 2 (some .int) ∈ sm_TB := sm_inT (sm_t5 (List.mem_of_getElem? (i := 168) rfl)) rfl
theorem hdX10_mended : sm_hdk sm_TB yX10_mended cX10_mended 2 (some .int) 1 := ⟨wCX10_mended, wNX10, ⟨neX10.1, neX10.2, by decide +kernel⟩, by decide⟩
theorem wIX10_mended : Cond.instanceMethod yX10_mended ∈ sm_TB := sm_inT (sm_t5 (List.mem_of_getElem? (i := 166) rfl)) rfl
theorem wVX10_mended : Cond.selects RX10 yX10_mended yX10_mended ∈ sm_TB := sm_inT (sm_t5 (List.mem_of_getElem? (i := 167) rfl)) rfl
set_option maxRecDepth 20000 in
theorem hkX10_mended : sm_fd sm_pg 142 = some miX10_mended := by rfl
theorem hhX10_mended : sm_fd sm_hds 142 = some (yX10_mended, cX10_mended, 2, (some .int)) := sm_hh hkX10_mended
theorem wCX10_mendedShaft : Cond.code yX10_mendedShaft cX10_mendedShaft 2 (some .int) ∈ sm_TB := sm_inT (sm_t5 (List.mem_of_getElem? (i := 212) rfl)) rfl
theorem hdX10_mendedShaft : sm_hdk sm_TB yX10_mendedShaft cX10_mendedShaft 2 (some .int) 1 := ⟨wCX10_mendedShaft, wNX10, ⟨neX10.1, neX10.2, by decide +kernel⟩, by decide⟩
theorem wIX10_mendedShaft : Cond.instanceMethod yX10_mendedShaft ∈ sm_TB := sm_inT (sm_t5 (List.mem_of_getElem? (i := 210) rfl)) rfl
theorem wVX10_mendedShaft : Cond.selects RX10 yX10_mendedShaft yX10_mendedShaft ∈ sm_TB := sm_inT (sm_t5 (List.mem_of_getElem? (i := 211) rfl)) rfl
set_option maxRecDepth 20000 in
theorem hkX10_mendedShaft : sm_fd sm_pg 143 = some miX10_mendedShaft := by rfl
theorem hhX10_mendedShaft : sm_fd sm_hds 143 = some (yX10_mendedShaft, cX10_mendedShaft, 2, (some .int)) := sm_hh hkX10_mendedShaft
theorem wCX10_shifted : Cond.code yX10_shifted cX10_shifted 5 (some .int) ∈ sm_TB := sm_inT (sm_t5 (List.mem_of_getElem? (i := 216) rfl)) rfl
theorem hdX10_shifted : sm_hdk sm_TB yX10_shifted cX10_shifted 5 (some .int) 1 := ⟨wCX10_shifted, wNX10, ⟨neX10.1, neX10.2, by decide +kernel⟩, by decide⟩
theorem wIX10_shifted : Cond.instanceMethod yX10_shifted ∈ sm_TB := sm_inT (sm_t5 (List.mem_of_getElem? (i := 214) rfl)) rfl
theorem wVX10_shifted : Cond.selects RX10 yX10_shifted yX10_shifted ∈ sm_TB := sm_inT (sm_t5 (List.mem_of_getElem? (i := 215) rfl)) rfl
set_option maxRecDepth 20000 in
theorem hkX10_shifted : sm_fd sm_pg 144 = some miX10_shifted := by rfl
theorem hhX10_shifted : sm_fd sm_hds 144 = some (yX10_shifted, cX10_shifted, 5, (some .int)) := sm_hh hkX10_shifted
theorem wCX10_about : Cond.code yX10_about cX10_about 2 (some .int) ∈ sm_TB := sm_inT (sm_t6 (List.mem_of_getElem? (i := 2) rfl)) rfl
theorem hdX10_about : sm_hdk sm_TB yX10_about cX10_about 2 (some .int) 1 := ⟨wCX10_about, wNX10, ⟨neX10.1, neX10.2, by decide +kernel⟩, by decide⟩
theorem wIX10_about : Cond.instanceMethod yX10_about ∈ sm_TB := sm_inT (sm_t6 (List.mem_of_getElem? (i := 0) rfl)) rfl
theorem wVX10_about : Cond.selects RX10 yX10_about yX10_about ∈ sm_TB := sm_inT (sm_t6 (List.mem_of_getElem? (i := 1) rfl)) rfl
set_option maxRecDepth 20000 in
theorem hkX10_about : sm_fd sm_pg 145 = some miX10_about := by rfl
theorem hhX10_about : sm_fd sm_hds 145 = some (yX10_about, cX10_about, 2, (some .int)) := sm_hh hkX10_about
theorem wCX10_isEnd : Cond.code yX10_isEnd cX10_isEnd 2 (some .boolean) ∈ sm_TB := sm_inT (sm_t3 (List.mem_of_getElem? (i := 31) rfl)) rfl
theorem hdX10_isEnd : sm_hdk sm_TB yX10_isEnd cX10_isEnd 2 (some .boolean) 1 := ⟨wCX10_isEnd, wNX10, ⟨neX10.1, neX10.2, by decide +kernel⟩, by decide⟩
theorem wIX10_isEnd : Cond.instanceMethod yX10_isEnd ∈ sm_TB := sm_inT (sm_t3 (List.mem_of_getElem? (i := 30) rfl)) rfl
theorem wVX10_isEnd : Cond.selects RX10 yX10_isEnd yX10_isEnd ∈ sm_TB := sm_inT (sm_v1 (q := (yX10_isEnd, 12)) (List.mem_of_getElem? (i := 1) rfl)) rfl
set_option maxRecDepth 20000 in
theorem hkX10_isEnd : sm_fd sm_pg 146 = some miX10_isEnd := by rfl
theorem hhX10_isEnd : sm_fd sm_hds 146 = some (yX10_isEnd, cX10_isEnd, 2, (some .boolean)) := sm_hh hkX10_isEnd
theorem wCX10_isPick : Cond.code yX10_isPick cX10_isPick 2 (some .boolean) ∈ sm_TB := sm_inT (sm_t3 (List.mem_of_getElem? (i := 65) rfl)) rfl
theorem hdX10_isPick : sm_hdk sm_TB yX10_isPick cX10_isPick 2 (some .boolean) 1 := ⟨wCX10_isPick, wNX10, ⟨neX10.1, neX10.2, by decide +kernel⟩, by decide⟩
theorem wIX10_isPick : Cond.instanceMethod yX10_isPick ∈ sm_TB := sm_inT (sm_t3 (List.mem_of_getElem? (i := 64) rfl)) rfl
theorem wVX10_isPick : Cond.selects RX10 yX10_isPick yX10_isPick ∈ sm_TB := sm_inT (sm_v1 (q := (yX10_isPick, 12)) (List.mem_of_getElem? (i := 7) rfl)) rfl
set_option maxRecDepth 20000 in
theorem hkX10_isPick : sm_fd sm_pg 147 = some miX10_isPick := by rfl
theorem hhX10_isPick : sm_fd sm_hds 147 = some (yX10_isPick, cX10_isPick, 2, (some .boolean)) := sm_hh hkX10_isPick
theorem wCX10_isPart : Cond.code yX10_isPart cX10_isPart 5 (some .boolean) ∈ sm_TB := sm_inT (sm_t4 (List.mem_of_getElem? (i := 209) rfl)) rfl
theorem hdX10_isPart : sm_hdk sm_TB yX10_isPart cX10_isPart 5 (some .boolean) 4 := ⟨wCX10_isPart, wNX10, ⟨neX10.1, neX10.2, by decide +kernel⟩, by decide⟩
theorem wIX10_isPart : Cond.instanceMethod yX10_isPart ∈ sm_TB := sm_inT (sm_t4 (List.mem_of_getElem? (i := 208) rfl)) rfl
theorem wVX10_isPart : Cond.selects RX10 yX10_isPart yX10_isPart ∈ sm_TB := sm_inT (sm_v4 (q := (yX10_isPart, 12)) (List.mem_of_getElem? (i := 15) rfl)) rfl
set_option maxRecDepth 20000 in
theorem hkX10_isPart : sm_fd sm_pg 148 = some miX10_isPart := by rfl
theorem hhX10_isPart : sm_fd sm_hds 148 = some (yX10_isPart, cX10_isPart, 5, (some .boolean)) := sm_hh hkX10_isPart
theorem wCX10_isColour : Cond.code yX10_isColour cX10_isColour 1 (some .boolean) ∈ sm_TB := sm_inT (sm_t3 (List.mem_of_getElem? (i := 72) rfl)) rfl
theorem hdX10_isColour : sm_hdk sm_TB yX10_isColour cX10_isColour 1 (some .boolean) 1 := ⟨wCX10_isColour, wNX10, ⟨neX10.1, neX10.2, by decide +kernel⟩, by decide⟩
theorem wSX10_isColour : Cond.static yX10_isColour ∈ sm_TB := sm_inT (sm_t3 (List.mem_of_getElem? (i := 71) rfl)) rfl
set_option maxRecDepth 20000 in
theorem hkX10_isColour : sm_fd sm_pg 149 = some miX10_isColour := by rfl
theorem hhX10_isColour : sm_fd sm_hds 149 = some (yX10_isColour, cX10_isColour, 1, (some .boolean)) := sm_hh hkX10_isColour
theorem wCX10_has : Cond.code yX10_has cX10_has 3 (some .boolean) ∈ sm_TB := sm_inT (sm_t4 (List.mem_of_getElem? (i := 126) rfl)) rfl
theorem hdX10_has : sm_hdk sm_TB yX10_has cX10_has 3 (some .boolean) 2 := ⟨wCX10_has, wNX10, ⟨neX10.1, neX10.2, by decide +kernel⟩, by decide⟩
theorem wSX10_has : Cond.static yX10_has ∈ sm_TB := sm_inT (sm_t4 (List.mem_of_getElem? (i := 125) rfl)) rfl
set_option maxRecDepth 20000 in
theorem hkX10_has : sm_fd sm_pg 150 = some miX10_has := by rfl
theorem hhX10_has : sm_fd sm_hds 150 = some (yX10_has, cX10_has, 3, (some .boolean)) := sm_hh hkX10_has
theorem wCX10_firstBits : Cond.code yX10_firstBits cX10_firstBits 1 (some .long) ∈ sm_TB := sm_inT (sm_t1 (List.mem_of_getElem? (i := 92) rfl)) rfl
theorem hdX10_firstBits : sm_hdk sm_TB yX10_firstBits cX10_firstBits 1 (some .long) 1 := ⟨wCX10_firstBits, wNX10, ⟨neX10.1, neX10.2, by decide +kernel⟩, by decide⟩
theorem wSX10_firstBits : Cond.static yX10_firstBits ∈ sm_TB := sm_inT (sm_t1 (List.mem_of_getElem? (i := 91) rfl)) rfl
set_option maxRecDepth 20000 in
theorem hkX10_firstBits : sm_fd sm_pg 151 = some miX10_firstBits := by rfl
theorem hhX10_firstBits : sm_fd sm_hds 151 = some (yX10_firstBits, cX10_firstBits, 1, (some .long)) := sm_hh hkX10_firstBits
theorem wCX10_moved : Cond.code yX10_moved cX10_moved 4 (some .long) ∈ sm_TB := sm_inT (sm_t4 (List.mem_of_getElem? (i := 183) rfl)) rfl
theorem hdX10_moved : sm_hdk sm_TB yX10_moved cX10_moved 4 (some .long) 3 := ⟨wCX10_moved, wNX10, ⟨neX10.1, neX10.2, by decide +kernel⟩, by decide⟩
theorem wSX10_moved : Cond.static yX10_moved ∈ sm_TB := sm_inT (sm_t4 (List.mem_of_getElem? (i := 182) rfl)) rfl
set_option maxRecDepth 20000 in
theorem hkX10_moved : sm_fd sm_pg 152 = some miX10_moved := by rfl
theorem hhX10_moved : sm_fd sm_hds 152 = some (yX10_moved, cX10_moved, 4, (some .long)) := sm_hh hkX10_moved
theorem wCX10_lowestTreadle : Cond.code yX10_lowestTreadle cX10_lowestTreadle 5 (some .int) ∈ sm_TB := sm_inT (sm_t4 (List.mem_of_getElem? (i := 155) rfl)) rfl
theorem hdX10_lowestTreadle : sm_hdk sm_TB yX10_lowestTreadle cX10_lowestTreadle 5 (some .int) 2 := ⟨wCX10_lowestTreadle, wNX10, ⟨neX10.1, neX10.2, by decide +kernel⟩, by decide⟩
theorem wIX10_lowestTreadle : Cond.instanceMethod yX10_lowestTreadle ∈ sm_TB := sm_inT (sm_t4 (List.mem_of_getElem? (i := 154) rfl)) rfl
theorem wVX10_lowestTreadle : Cond.selects RX10 yX10_lowestTreadle yX10_lowestTreadle ∈ sm_TB := sm_inT (sm_v4 (q := (yX10_lowestTreadle, 12)) (List.mem_of_getElem? (i := 9) rfl)) rfl
set_option maxRecDepth 20000 in
theorem hkX10_lowestTreadle : sm_fd sm_pg 153 = some miX10_lowestTreadle := by rfl
theorem hhX10_lowestTreadle : sm_fd sm_hds 153 = some (yX10_lowestTreadle, cX10_lowestTreadle, 5, (some .int)) := sm_hh hkX10_lowestTreadle
theorem wCX10_endsOfColour : Cond.code yX10_endsOfColour cX10_endsOfColour 5 (some .long) ∈ sm_TB := sm_inT (sm_t5 (List.mem_of_getElem? (i := 26) rfl)) rfl
theorem hdX10_endsOfColour : sm_hdk sm_TB yX10_endsOfColour cX10_endsOfColour 5 (some .long) 1 := ⟨wCX10_endsOfColour, wNX10, ⟨neX10.1, neX10.2, by decide +kernel⟩, by decide⟩
theorem wIX10_endsOfColour : Cond.instanceMethod yX10_endsOfColour ∈ sm_TB := sm_inT (sm_t5 (List.mem_of_getElem? (i := 25) rfl)) rfl
theorem wVX10_endsOfColour : Cond.selects RX10 yX10_endsOfColour yX10_endsOfColour ∈ sm_TB := sm_inT (sm_v5 (q := (yX10_endsOfColour, 12)) (List.mem_of_getElem? (i := 9) rfl)) rfl
set_option maxRecDepth 20000 in
theorem hkX10_endsOfColour : sm_fd sm_pg 154 = some miX10_endsOfColour := by rfl
theorem hhX10_endsOfColour : sm_fd sm_hds 154 = some (yX10_endsOfColour, cX10_endsOfColour, 5, (some .long)) := sm_hh hkX10_endsOfColour
theorem wCX10_unlikeLines : Cond.code yX10_unlikeLines cX10_unlikeLines 6 (some .int) ∈ sm_TB := sm_inT (sm_t5 (List.mem_of_getElem? (i := 66) rfl)) rfl
theorem hdX10_unlikeLines : sm_hdk sm_TB yX10_unlikeLines cX10_unlikeLines 6 (some .int) 2 := ⟨wCX10_unlikeLines, wNX10, ⟨neX10.1, neX10.2, by decide +kernel⟩, by decide⟩
theorem wSX10_unlikeLines : Cond.static yX10_unlikeLines ∈ sm_TB := sm_inT (sm_t5 (List.mem_of_getElem? (i := 65) rfl)) rfl
set_option maxRecDepth 20000 in
theorem hkX10_unlikeLines : sm_fd sm_pg 155 = some miX10_unlikeLines := by rfl
theorem hhX10_unlikeLines : sm_fd sm_hds 155 = some (yX10_unlikeLines, cX10_unlikeLines, 6, (some .int)) := sm_hh hkX10_unlikeLines
theorem wCX10_unlikePicks : Cond.code yX10_unlikePicks cX10_unlikePicks 3 (some .int) ∈ sm_TB := sm_inT (sm_t5 (List.mem_of_getElem? (i := 163) rfl)) rfl
theorem hdX10_unlikePicks : sm_hdk sm_TB yX10_unlikePicks cX10_unlikePicks 3 (some .int) 2 := ⟨wCX10_unlikePicks, wNX10, ⟨neX10.1, neX10.2, by decide +kernel⟩, by decide⟩
theorem wIX10_unlikePicks : Cond.instanceMethod yX10_unlikePicks ∈ sm_TB := sm_inT (sm_t5 (List.mem_of_getElem? (i := 162) rfl)) rfl
theorem wVX10_unlikePicks : Cond.selects RX10 yX10_unlikePicks yX10_unlikePicks ∈ sm_TB := sm_inT (sm_v6 (q := (yX10_unlikePicks, 12)) (List.mem_of_getElem? (i := 13) rfl)) rfl
set_option maxRecDepth 20000 in
theorem hkX10_unlikePicks : sm_fd sm_pg 156 = some miX10_unlikePicks := by rfl
theorem hhX10_unlikePicks : sm_fd sm_hds 156 = some (yX10_unlikePicks, cX10_unlikePicks, 3, (some .int)) := sm_hh hkX10_unlikePicks
theorem wCX10_nearestShaft : Cond.code yX10_nearestShaft cX10_nearestShaft 6 (some .int) ∈ sm_TB := sm_inT (sm_t5 (List.mem_of_getElem? (i := 159) rfl)) rfl
theorem hdX10_nearestShaft : sm_hdk sm_TB yX10_nearestShaft cX10_nearestShaft 6 (some .int) 1 := ⟨wCX10_nearestShaft, wNX10, ⟨neX10.1, neX10.2, by decide +kernel⟩, by decide⟩
theorem wIX10_nearestShaft : Cond.instanceMethod yX10_nearestShaft ∈ sm_TB := sm_inT (sm_t5 (List.mem_of_getElem? (i := 158) rfl)) rfl
theorem wVX10_nearestShaft : Cond.selects RX10 yX10_nearestShaft yX10_nearestShaft ∈ sm_TB := sm_inT (sm_v6 (q := (yX10_nearestShaft, 12)) (List.mem_of_getElem? (i := 12) rfl)) rfl
set_option maxRecDepth 20000 in
theorem hkX10_nearestShaft : sm_fd sm_pg 157 = some miX10_nearestShaft := by rfl
theorem hhX10_nearestShaft : sm_fd sm_hds 157 = some (yX10_nearestShaft, cX10_nearestShaft, 6, (some .int)) := sm_hh hkX10_nearestShaft
theorem wCX10_cellsUp : Cond.code yX10_cellsUp cX10_cellsUp 1 (some .int) ∈ sm_TB := sm_inT (sm_t5 (List.mem_of_getElem? (i := 223) rfl)) rfl
theorem hdX10_cellsUp : sm_hdk sm_TB yX10_cellsUp cX10_cellsUp 1 (some .int) 0 := ⟨wCX10_cellsUp, wNX10, ⟨neX10.1, neX10.2, by decide +kernel⟩, by decide⟩
theorem wIX10_cellsUp : Cond.instanceMethod yX10_cellsUp ∈ sm_TB := sm_inT (sm_t5 (List.mem_of_getElem? (i := 222) rfl)) rfl
theorem wVX10_cellsUp : Cond.selects RX10 yX10_cellsUp yX10_cellsUp ∈ sm_TB := sm_inT (sm_v7 (q := (yX10_cellsUp, 12)) (List.mem_of_getElem? (i := 7) rfl)) rfl
set_option maxRecDepth 20000 in
theorem hkX10_cellsUp : sm_fd sm_pg 158 = some miX10_cellsUp := by rfl
theorem hhX10_cellsUp : sm_fd sm_hds 158 = some (yX10_cellsUp, cX10_cellsUp, 1, (some .int)) := sm_hh hkX10_cellsUp
theorem wCX10_countCells : Cond.code yX10_countCells cX10_countCells 7 (some .int) ∈ sm_TB := sm_inT (sm_t5 (List.mem_of_getElem? (i := 219) rfl)) rfl
theorem hdX10_countCells : sm_hdk sm_TB yX10_countCells cX10_countCells 7 (some .int) 1 := ⟨wCX10_countCells, wNX10, ⟨neX10.1, neX10.2, by decide +kernel⟩, by decide⟩
theorem wSX10_countCells : Cond.static yX10_countCells ∈ sm_TB := sm_inT (sm_t5 (List.mem_of_getElem? (i := 218) rfl)) rfl
set_option maxRecDepth 20000 in
theorem hkX10_countCells : sm_fd sm_pg 159 = some miX10_countCells := by rfl
theorem hhX10_countCells : sm_fd sm_hds 159 = some (yX10_countCells, cX10_countCells, 7, (some .int)) := sm_hh hkX10_countCells
theorem wCX10_firstMixedPick : Cond.code yX10_firstMixedPick cX10_firstMixedPick 2 (some .int) ∈ sm_TB := sm_inT (sm_t5 (List.mem_of_getElem? (i := 227) rfl)) rfl
theorem hdX10_firstMixedPick : sm_hdk sm_TB yX10_firstMixedPick cX10_firstMixedPick 2 (some .int) 0 := ⟨wCX10_firstMixedPick, wNX10, ⟨neX10.1, neX10.2, by decide +kernel⟩, by decide⟩
theorem wIX10_firstMixedPick : Cond.instanceMethod yX10_firstMixedPick ∈ sm_TB := sm_inT (sm_t5 (List.mem_of_getElem? (i := 226) rfl)) rfl
theorem wVX10_firstMixedPick : Cond.selects RX10 yX10_firstMixedPick yX10_firstMixedPick ∈ sm_TB := sm_inT (sm_v7 (q := (yX10_firstMixedPick, 12)) (List.mem_of_getElem? (i := 8) rfl)) rfl
set_option maxRecDepth 20000 in
theorem hkX10_firstMixedPick : sm_fd sm_pg 160 = some miX10_firstMixedPick := by rfl
theorem hhX10_firstMixedPick : sm_fd sm_hds 160 = some (yX10_firstMixedPick, cX10_firstMixedPick, 2, (some .int)) := sm_hh hkX10_firstMixedPick
theorem wCX10_threadedEnds : Cond.code yX10_threadedEnds cX10_threadedEnds 3 (some .int) ∈ sm_TB := sm_inT (sm_t6 (List.mem_of_getElem? (i := 6) rfl)) rfl
theorem hdX10_threadedEnds : sm_hdk sm_TB yX10_threadedEnds cX10_threadedEnds 3 (some .int) 0 := ⟨wCX10_threadedEnds, wNX10, ⟨neX10.1, neX10.2, by decide +kernel⟩, by decide⟩
theorem wIX10_threadedEnds : Cond.instanceMethod yX10_threadedEnds ∈ sm_TB := sm_inT (sm_t6 (List.mem_of_getElem? (i := 5) rfl)) rfl
theorem wVX10_threadedEnds : Cond.selects RX10 yX10_threadedEnds yX10_threadedEnds ∈ sm_TB := sm_inT (sm_v7 (q := (yX10_threadedEnds, 12)) (List.mem_of_getElem? (i := 10) rfl)) rfl
set_option maxRecDepth 20000 in
theorem hkX10_threadedEnds : sm_fd sm_pg 161 = some miX10_threadedEnds := by rfl
theorem hhX10_threadedEnds : sm_fd sm_hds 161 = some (yX10_threadedEnds, cX10_threadedEnds, 3, (some .int)) := sm_hh hkX10_threadedEnds
theorem wCX11_init : Cond.code yX11_init cX11_init 3 none ∈ sm_TB := sm_inT (sm_t6 (List.mem_of_getElem? (i := 14) rfl)) rfl
theorem hdX11_init : sm_hdk sm_TB yX11_init cX11_init 3 none 2 := ⟨wCX11_init, wNX11, ⟨neX11.1, neX11.2, by decide +kernel⟩, by decide⟩
theorem wIX11_init : Cond.instanceMethod yX11_init ∈ sm_TB := sm_inT (sm_t6 (List.mem_of_getElem? (i := 13) rfl)) rfl
set_option maxRecDepth 20000 in
theorem hkX11_init : sm_fd sm_pg 162 = some miX11_init := by rfl
theorem hhX11_init : sm_fd sm_hds 162 = some (yX11_init, cX11_init, 3, none) := sm_hh hkX11_init
theorem wCX11_isIn : Cond.code yX11_isIn cX11_isIn 3 (some .boolean) ∈ sm_TB := sm_inT (sm_t6 (List.mem_of_getElem? (i := 195) rfl)) rfl
theorem hdX11_isIn : sm_hdk sm_TB yX11_isIn cX11_isIn 3 (some .boolean) 3 := ⟨wCX11_isIn, wNX11, ⟨neX11.1, neX11.2, by decide +kernel⟩, by decide⟩
theorem wSX11_isIn : Cond.static yX11_isIn ∈ sm_TB := sm_inT (sm_t6 (List.mem_of_getElem? (i := 194) rfl)) rfl
set_option maxRecDepth 20000 in
theorem hkX11_isIn : sm_fd sm_pg 163 = some miX11_isIn := by rfl
theorem hhX11_isIn : sm_fd sm_hds 163 = some (yX11_isIn, cX11_isIn, 3, (some .boolean)) := sm_hh hkX11_isIn
theorem wCX11_isEnd : Cond.code yX11_isEnd cX11_isEnd 2 (some .boolean) ∈ sm_TB := sm_inT (sm_t6 (List.mem_of_getElem? (i := 192) rfl)) rfl
theorem hdX11_isEnd : sm_hdk sm_TB yX11_isEnd cX11_isEnd 2 (some .boolean) 1 := ⟨wCX11_isEnd, wNX11, ⟨neX11.1, neX11.2, by decide +kernel⟩, by decide⟩
theorem wIX11_isEnd : Cond.instanceMethod yX11_isEnd ∈ sm_TB := sm_inT (sm_t6 (List.mem_of_getElem? (i := 191) rfl)) rfl
theorem wVX11_isEnd : Cond.selects RX11 yX11_isEnd yX11_isEnd ∈ sm_TB := sm_inT (sm_v7 (q := (yX11_isEnd, 56)) (List.mem_of_getElem? (i := 11) rfl)) rfl
set_option maxRecDepth 20000 in
theorem hkX11_isEnd : sm_fd sm_pg 164 = some miX11_isEnd := by rfl
theorem hhX11_isEnd : sm_fd sm_hds 164 = some (yX11_isEnd, cX11_isEnd, 2, (some .boolean)) := sm_hh hkX11_isEnd
theorem wCX11_isPick : Cond.code yX11_isPick cX11_isPick 2 (some .boolean) ∈ sm_TB := sm_inT (sm_t6 (List.mem_of_getElem? (i := 220) rfl)) rfl
theorem hdX11_isPick : sm_hdk sm_TB yX11_isPick cX11_isPick 2 (some .boolean) 1 := ⟨wCX11_isPick, wNX11, ⟨neX11.1, neX11.2, by decide +kernel⟩, by decide⟩
theorem wIX11_isPick : Cond.instanceMethod yX11_isPick ∈ sm_TB := sm_inT (sm_t6 (List.mem_of_getElem? (i := 219) rfl)) rfl
theorem wVX11_isPick : Cond.selects RX11 yX11_isPick yX11_isPick ∈ sm_TB := sm_inT (sm_v7 (q := (yX11_isPick, 56)) (List.mem_of_getElem? (i := 15) rfl)) rfl
set_option maxRecDepth 20000 in
theorem hkX11_isPick : sm_fd sm_pg 165 = some miX11_isPick := by rfl
theorem hhX11_isPick : sm_fd sm_hds 165 = some (yX11_isPick, cX11_isPick, 2, (some .boolean)) := sm_hh hkX11_isPick
theorem wCX11_enter : Cond.code yX11_enter cX11_enter 4 none ∈ sm_TB := sm_inT (sm_t6 (List.mem_of_getElem? (i := 203) rfl)) rfl
theorem hdX11_enter : sm_hdk sm_TB yX11_enter cX11_enter 4 none 3 := ⟨wCX11_enter, wNX11, ⟨neX11.1, neX11.2, by decide +kernel⟩, by decide⟩
theorem wIX11_enter : Cond.instanceMethod yX11_enter ∈ sm_TB := sm_inT (sm_t6 (List.mem_of_getElem? (i := 202) rfl)) rfl
theorem wVX11_enter : Cond.selects RX11 yX11_enter yX11_enter ∈ sm_TB := sm_inT (sm_v7 (q := (yX11_enter, 56)) (List.mem_of_getElem? (i := 13) rfl)) rfl
set_option maxRecDepth 20000 in
theorem hkX11_enter : sm_fd sm_pg 166 = some miX11_enter := by rfl
theorem hhX11_enter : sm_fd sm_hds 166 = some (yX11_enter, cX11_enter, 4, none) := sm_hh hkX11_enter
theorem wCX11_telling : Cond.code yX11_telling cX11_telling 5 (some .int) ∈ sm_TB := sm_inT (sm_t6 (List.mem_of_getElem? (i := 199) rfl)) rfl
theorem hdX11_telling : sm_hdk sm_TB yX11_telling cX11_telling 5 (some .int) 4 := ⟨wCX11_telling, wNX11, ⟨neX11.1, neX11.2, by decide +kernel⟩, by decide⟩
theorem wIX11_telling : Cond.instanceMethod yX11_telling ∈ sm_TB := sm_inT (sm_t6 (List.mem_of_getElem? (i := 198) rfl)) rfl
theorem wVX11_telling : Cond.selects RX11 yX11_telling yX11_telling ∈ sm_TB := sm_inT (sm_v7 (q := (yX11_telling, 56)) (List.mem_of_getElem? (i := 12) rfl)) rfl
set_option maxRecDepth 20000 in
theorem hkX11_telling : sm_fd sm_pg 167 = some miX11_telling := by rfl
theorem hhX11_telling : sm_fd sm_hds 167 = some (yX11_telling, cX11_telling, 5, (some .int)) := sm_hh hkX11_telling
theorem wCX11_passes : Cond.code yX11_passes cX11_passes 1 (some .int) ∈ sm_TB := sm_inT (sm_t6 (List.mem_of_getElem? (i := 207) rfl)) rfl
theorem hdX11_passes : sm_hdk sm_TB yX11_passes cX11_passes 1 (some .int) 0 := ⟨wCX11_passes, wNX11, ⟨neX11.1, neX11.2, by decide +kernel⟩, by decide⟩
theorem wIX11_passes : Cond.instanceMethod yX11_passes ∈ sm_TB := sm_inT (sm_t6 (List.mem_of_getElem? (i := 206) rfl)) rfl
theorem wVX11_passes : Cond.selects RX11 yX11_passes yX11_passes ∈ sm_TB := sm_inT (sm_v7 (q := (yX11_passes, 56)) (List.mem_of_getElem? (i := 14) rfl)) rfl
set_option maxRecDepth 20000 in
theorem hkX11_passes : sm_fd sm_pg 168 = some miX11_passes := by rfl
theorem hhX11_passes : sm_fd sm_hds 168 = some (yX11_passes, cX11_passes, 1, (some .int)) := sm_hh hkX11_passes
theorem wCX11_thread : Cond.code yX11_thread cX11_thread 3 (some .int) ∈ sm_TB := sm_inT (sm_t6 (List.mem_of_getElem? (i := 188) rfl)) rfl
theorem hdX11_thread : sm_hdk sm_TB yX11_thread cX11_thread 3 (some .int) 2 := ⟨wCX11_thread, wNX11, ⟨neX11.1, neX11.2, by decide +kernel⟩, by decide⟩
theorem wIX11_thread : Cond.instanceMethod yX11_thread ∈ sm_TB := sm_inT (sm_t6 (List.mem_of_getElem? (i := 186) rfl)) rfl
theorem wVX11_thread : Cond.selects RX11 yX11_thread yX11_thread ∈ sm_TB := sm_inT (sm_t6 (List.mem_of_getElem? (i := 187) rfl)) rfl
set_option maxRecDepth 20000 in
theorem hkX11_thread : sm_fd sm_pg 169 = some miX11_thread := by rfl
theorem hhX11_thread : sm_fd sm_hds 169 = some (yX11_thread, cX11_thread, 3, (some .int)) := sm_hh hkX11_thread
theorem wCX11_tie : Cond.code yX11_tie cX11_tie 3 (some .int) ∈ sm_TB := sm_inT (sm_t6 (List.mem_of_getElem? (i := 211) rfl)) rfl
theorem hdX11_tie : sm_hdk sm_TB yX11_tie cX11_tie 3 (some .int) 2 := ⟨wCX11_tie, wNX11, ⟨neX11.1, neX11.2, by decide +kernel⟩, by decide⟩
theorem wIX11_tie : Cond.instanceMethod yX11_tie ∈ sm_TB := sm_inT (sm_t6 (List.mem_of_getElem? (i := 209) rfl)) rfl
theorem wVX11_tie : Cond.selects RX11 yX11_tie yX11_tie ∈ sm_TB := sm_inT (sm_t6 (List.mem_of_getElem? (i := 210) rfl)) rfl
set_option maxRecDepth 20000 in
theorem hkX11_tie : sm_fd sm_pg 170 = some miX11_tie := by rfl
theorem hhX11_tie : sm_fd sm_hds 170 = some (yX11_tie, cX11_tie, 3, (some .int)) := sm_hh hkX11_tie
theorem wCX11_tread : Cond.code yX11_tread cX11_tread 3 (some .int) ∈ sm_TB := sm_inT (sm_t6 (List.mem_of_getElem? (i := 216) rfl)) rfl
theorem hdX11_tread : sm_hdk sm_TB yX11_tread cX11_tread 3 (some .int) 2 := ⟨wCX11_tread, wNX11, ⟨neX11.1, neX11.2, by decide +kernel⟩, by decide⟩
theorem wIX11_tread : Cond.instanceMethod yX11_tread ∈ sm_TB := sm_inT (sm_t6 (List.mem_of_getElem? (i := 214) rfl)) rfl
theorem wVX11_tread : Cond.selects RX11 yX11_tread yX11_tread ∈ sm_TB := sm_inT (sm_t6 (List.mem_of_getElem? (i := 215) rfl)) rfl
set_option maxRecDepth 20000 in
theorem hkX11_tread : sm_fd sm_pg 171 = some miX11_tread := by rfl
theorem hhX11_tread : sm_fd sm_hds 171 = some (yX11_tread, cX11_tread, 3, (some .int)) := sm_hh hkX11_tread
theorem wCX11_colour : Cond.code yX11_colour cX11_colour 4 (some .int) ∈ sm_TB := sm_inT (sm_t6 (List.mem_of_getElem? (i := 224) rfl)) rfl
theorem hdX11_colour : sm_hdk sm_TB yX11_colour cX11_colour 4 (some .int) 3 := ⟨wCX11_colour, wNX11, ⟨neX11.1, neX11.2, by decide +kernel⟩, by decide⟩
theorem wIX11_colour : Cond.instanceMethod yX11_colour ∈ sm_TB := sm_inT (sm_t6 (List.mem_of_getElem? (i := 222) rfl)) rfl
theorem wVX11_colour : Cond.selects RX11 yX11_colour yX11_colour ∈ sm_TB := sm_inT (sm_t6 (List.mem_of_getElem? (i := 223) rfl)) rfl
set_option maxRecDepth 20000 in
theorem hkX11_colour : sm_fd sm_pg 172 = some miX11_colour := by rfl
theorem hhX11_colour : sm_fd sm_hds 172 = some (yX11_colour, cX11_colour, 4, (some .int)) := sm_hh hkX11_colour
theorem wCX11_entryOf : Cond.code yX11_entryOf cX11_entryOf 4 (some .int) ∈ sm_TB := sm_inT (sm_t7 (List.mem_of_getElem? (i := 0) rfl)) rfl
theorem hdX11_entryOf : sm_hdk sm_TB yX11_entryOf cX11_entryOf 4 (some .int) 2 := ⟨wCX11_entryOf, wNX11, ⟨neX11.1, neX11.2, by decide +kernel⟩, by decide⟩
theorem wIX11_entryOf : Cond.instanceMethod yX11_entryOf ∈ sm_TB := sm_inT (sm_t6 (List.mem_of_getElem? (i := 239) rfl)) rfl
theorem wVX11_entryOf : Cond.selects RX11 yX11_entryOf yX11_entryOf ∈ sm_TB := sm_inT (sm_v8 (q := (yX11_entryOf, 56)) (List.mem_of_getElem? (i := 1) rfl)) rfl
set_option maxRecDepth 20000 in
theorem hkX11_entryOf : sm_fd sm_pg 173 = some miX11_entryOf := by rfl
theorem hhX11_entryOf : sm_fd sm_hds 173 = some (yX11_entryOf, cX11_entryOf, 4, (some .int)) := sm_hh hkX11_entryOf
theorem wCX11_valueOf : Cond.code yX11_valueOf cX11_valueOf 4 (some .int) ∈ sm_TB := sm_inT (sm_t6 (List.mem_of_getElem? (i := 236) rfl)) rfl
theorem hdX11_valueOf : sm_hdk sm_TB yX11_valueOf cX11_valueOf 4 (some .int) 2 := ⟨wCX11_valueOf, wNX11, ⟨neX11.1, neX11.2, by decide +kernel⟩, by decide⟩
theorem wIX11_valueOf : Cond.instanceMethod yX11_valueOf ∈ sm_TB := sm_inT (sm_t6 (List.mem_of_getElem? (i := 235) rfl)) rfl
theorem wVX11_valueOf : Cond.selects RX11 yX11_valueOf yX11_valueOf ∈ sm_TB := sm_inT (sm_v8 (q := (yX11_valueOf, 56)) (List.mem_of_getElem? (i := 0) rfl)) rfl
set_option maxRecDepth 20000 in
theorem hkX11_valueOf : sm_fd sm_pg 174 = some miX11_valueOf := by rfl
theorem hhX11_valueOf : sm_fd sm_hds 174 = some (yX11_valueOf, cX11_valueOf, 4, (some .int)) := sm_hh hkX11_valueOf
theorem wCX11_look : Cond.code yX11_look cX11_look 2 (some .boolean) ∈ sm_TB := sm_inT (sm_t6 (List.mem_of_getElem? (i := 228) rfl)) rfl
theorem hdX11_look : sm_hdk sm_TB yX11_look cX11_look 2 (some .boolean) 1 := ⟨wCX11_look, wNX11, ⟨neX11.1, neX11.2, by decide +kernel⟩, by decide⟩
theorem wIX11_look : Cond.instanceMethod yX11_look ∈ sm_TB := sm_inT (sm_t6 (List.mem_of_getElem? (i := 226) rfl)) rfl
theorem wVX11_look : Cond.selects RX11 yX11_look yX11_look ∈ sm_TB := sm_inT (sm_t6 (List.mem_of_getElem? (i := 227) rfl)) rfl
set_option maxRecDepth 20000 in
theorem hkX11_look : sm_fd sm_pg 175 = some miX11_look := by rfl
theorem hhX11_look : sm_fd sm_hds 175 = some (yX11_look, cX11_look, 2, (some .boolean)) := sm_hh hkX11_look
theorem wCX11_draw : Cond.code yX11_draw cX11_draw 3 none ∈ sm_TB := sm_inT (sm_t7 (List.mem_of_getElem? (i := 8) rfl)) rfl
theorem hdX11_draw : sm_hdk sm_TB yX11_draw cX11_draw 3 none 0 := ⟨wCX11_draw, wNX11, ⟨neX11.1, neX11.2, by decide +kernel⟩, by decide⟩
theorem wIX11_draw : Cond.instanceMethod yX11_draw ∈ sm_TB := sm_inT (sm_t7 (List.mem_of_getElem? (i := 7) rfl)) rfl
theorem wVX11_draw : Cond.selects RX11 yX11_draw yX11_draw ∈ sm_TB := sm_inT (sm_v8 (q := (yX11_draw, 56)) (List.mem_of_getElem? (i := 2) rfl)) rfl
set_option maxRecDepth 20000 in
theorem hkX11_draw : sm_fd sm_pg 176 = some miX11_draw := by rfl
theorem hhX11_draw : sm_fd sm_hds 176 = some (yX11_draw, cX11_draw, 3, none) := sm_hh hkX11_draw
theorem wCX11_lifts : Cond.code yX11_lifts cX11_lifts 3 none ∈ sm_TB := sm_inT (sm_t7 (List.mem_of_getElem? (i := 12) rfl)) rfl
theorem hdX11_lifts : sm_hdk sm_TB yX11_lifts cX11_lifts 3 none 0 := ⟨wCX11_lifts, wNX11, ⟨neX11.1, neX11.2, by decide +kernel⟩, by decide⟩
theorem wIX11_lifts : Cond.instanceMethod yX11_lifts ∈ sm_TB := sm_inT (sm_t7 (List.mem_of_getElem? (i := 11) rfl)) rfl
theorem wVX11_lifts : Cond.selects RX11 yX11_lifts yX11_lifts ∈ sm_TB := sm_inT (sm_v8 (q := (yX11_lifts, 56)) (List.mem_of_getElem? (i := 3) rfl)) rfl
set_option maxRecDepth 20000 in
theorem hkX11_lifts : sm_fd sm_pg 177 = some miX11_lifts := by rfl
theorem hhX11_lifts : sm_fd sm_hds 177 = some (yX11_lifts, cX11_lifts, 3, none) := sm_hh hkX11_lifts
theorem wCX11_shaft : Cond.code yX11_shaft cX11_shaft 2 (some .int) ∈ sm_TB := sm_inT (sm_t6 (List.mem_of_getElem? (i := 232) rfl)) rfl
theorem hdX11_shaft : sm_hdk sm_TB yX11_shaft cX11_shaft 2 (some .int) 1 := ⟨wCX11_shaft, wNX11, ⟨neX11.1, neX11.2, by decide +kernel⟩, by decide⟩
theorem wIX11_shaft : Cond.instanceMethod yX11_shaft ∈ sm_TB := sm_inT (sm_t6 (List.mem_of_getElem? (i := 230) rfl)) rfl
theorem wVX11_shaft : Cond.selects RX11 yX11_shaft yX11_shaft ∈ sm_TB := sm_inT (sm_t6 (List.mem_of_getElem? (i := 231) rfl)) rfl
set_option maxRecDepth 20000 in
theorem hkX11_shaft : sm_fd sm_pg 178 = some miX11_shaft := by rfl
theorem hhX11_shaft : sm_fd sm_hds 178 = some (yX11_shaft, cX11_shaft, 2, (some .int)) := sm_hh hkX11_shaft
theorem wCX11_lift : Cond.code yX11_lift cX11_lift 2 (some .int) ∈ sm_TB := sm_inT (sm_t7 (List.mem_of_getElem? (i := 4) rfl)) rfl
theorem hdX11_lift : sm_hdk sm_TB yX11_lift cX11_lift 2 (some .int) 1 := ⟨wCX11_lift, wNX11, ⟨neX11.1, neX11.2, by decide +kernel⟩, by decide⟩
theorem wIX11_lift : Cond.instanceMethod yX11_lift ∈ sm_TB := sm_inT (sm_t7 (List.mem_of_getElem? (i := 2) rfl)) rfl
theorem wVX11_lift : Cond.selects RX11 yX11_lift yX11_lift ∈ sm_TB := sm_inT (sm_t7 (List.mem_of_getElem? (i := 3) rfl)) rfl
set_option maxRecDepth 20000 in
theorem hkX11_lift : sm_fd sm_pg 179 = some miX11_lift := by rfl
theorem hhX11_lift : sm_fd sm_hds 179 = some (yX11_lift, cX11_lift, 2, (some .int)) := sm_hh hkX11_lift
theorem wCX11_row : Cond.code yX11_row cX11_row 2 (some .long) ∈ sm_TB := sm_inT (sm_t7 (List.mem_of_getElem? (i := 16) rfl)) rfl
theorem hdX11_row : sm_hdk sm_TB yX11_row cX11_row 2 (some .long) 1 := ⟨wCX11_row, wNX11, ⟨neX11.1, neX11.2, by decide +kernel⟩, by decide⟩
theorem wIX11_row : Cond.instanceMethod yX11_row ∈ sm_TB := sm_inT (sm_t7 (List.mem_of_getElem? (i := 14) rfl)) rfl
theorem wVX11_row : Cond.selects RX11 yX11_row yX11_row ∈ sm_TB := sm_inT (sm_t7 (List.mem_of_getElem? (i := 15) rfl)) rfl
set_option maxRecDepth 20000 in
theorem hkX11_row : sm_fd sm_pg 180 = some miX11_row := by rfl
theorem hhX11_row : sm_fd sm_hds 180 = some (yX11_row, cX11_row, 2, (some .long)) := sm_hh hkX11_row
theorem wCX11_lead : Cond.code yX11_lead cX11_lead 6 (some .int) ∈ sm_TB := sm_inT (sm_t7 (List.mem_of_getElem? (i := 21) rfl)) rfl
theorem hdX11_lead : sm_hdk sm_TB yX11_lead cX11_lead 6 (some .int) 3 := ⟨wCX11_lead, wNX11, ⟨neX11.1, neX11.2, by decide +kernel⟩, by decide⟩
theorem wIX11_lead : Cond.instanceMethod yX11_lead ∈ sm_TB := sm_inT (sm_t7 (List.mem_of_getElem? (i := 19) rfl)) rfl
theorem wVX11_lead : Cond.selects RX11 yX11_lead yX11_lead ∈ sm_TB := sm_inT (sm_t7 (List.mem_of_getElem? (i := 20) rfl)) rfl
set_option maxRecDepth 20000 in
theorem hkX11_lead : sm_fd sm_pg 181 = some miX11_lead := by rfl
theorem hhX11_lead : sm_fd sm_hds 181 = some (yX11_lead, cX11_lead, 6, (some .int)) := sm_hh hkX11_lead
theorem wCX11_four : Cond.code yX11_four cX11_four 3 none ∈ sm_TB := sm_inT (sm_t7 (List.mem_of_getElem? (i := 29) rfl)) rfl
theorem hdX11_four : sm_hdk sm_TB yX11_four cX11_four 3 none 1 := ⟨wCX11_four, wNX11, ⟨neX11.1, neX11.2, by decide +kernel⟩, by decide⟩
theorem wIX11_four : Cond.instanceMethod yX11_four ∈ sm_TB := sm_inT (sm_t7 (List.mem_of_getElem? (i := 28) rfl)) rfl
theorem wVX11_four : Cond.selects RX11 yX11_four yX11_four ∈ sm_TB := sm_inT (sm_v8 (q := (yX11_four, 56)) (List.mem_of_getElem? (i := 4) rfl)) rfl
set_option maxRecDepth 20000 in
theorem hkX11_four : sm_fd sm_pg 182 = some miX11_four := by rfl
theorem hhX11_four : sm_fd sm_hds 182 = some (yX11_four, cX11_four, 3, none) := sm_hh hkX11_four
theorem wCX11_feed : Cond.code yX11_feed cX11_feed 6 (some .int) ∈ sm_TB := sm_inT (sm_t7 (List.mem_of_getElem? (i := 25) rfl)) rfl
theorem hdX11_feed : sm_hdk sm_TB yX11_feed cX11_feed 6 (some .int) 5 := ⟨wCX11_feed, wNX11, ⟨neX11.1, neX11.2, by decide +kernel⟩, by decide⟩
theorem wIX11_feed : Cond.instanceMethod yX11_feed ∈ sm_TB := sm_inT (sm_t7 (List.mem_of_getElem? (i := 23) rfl)) rfl
theorem wVX11_feed : Cond.selects RX11 yX11_feed yX11_feed ∈ sm_TB := sm_inT (sm_t7 (List.mem_of_getElem? (i := 24) rfl)) rfl
set_option maxRecDepth 20000 in
theorem hkX11_feed : sm_fd sm_pg 183 = some miX11_feed := by rfl
theorem hhX11_feed : sm_fd sm_hds 183 = some (yX11_feed, cX11_feed, 6, (some .int)) := sm_hh hkX11_feed
theorem wCX11_end : Cond.code yX11_end cX11_end 2 (some .int) ∈ sm_TB := sm_inT (sm_t7 (List.mem_of_getElem? (i := 33) rfl)) rfl
theorem hdX11_end : sm_hdk sm_TB yX11_end cX11_end 2 (some .int) 1 := ⟨wCX11_end, wNX11, ⟨neX11.1, neX11.2, by decide +kernel⟩, by decide⟩
theorem wIX11_end : Cond.instanceMethod yX11_end ∈ sm_TB := sm_inT (sm_t7 (List.mem_of_getElem? (i := 31) rfl)) rfl
theorem wVX11_end : Cond.selects RX11 yX11_end yX11_end ∈ sm_TB := sm_inT (sm_t7 (List.mem_of_getElem? (i := 32) rfl)) rfl
set_option maxRecDepth 20000 in
theorem hkX11_end : sm_fd sm_pg 184 = some miX11_end := by rfl
theorem hhX11_end : sm_fd sm_hds 184 = some (yX11_end, cX11_end, 2, (some .int)) := sm_hh hkX11_end
theorem wCX11_see : Cond.code yX11_see cX11_see 2 (some .int) ∈ sm_TB := sm_inT (sm_t7 (List.mem_of_getElem? (i := 49) rfl)) rfl
theorem hdX11_see : sm_hdk sm_TB yX11_see cX11_see 2 (some .int) 1 := ⟨wCX11_see, wNX11, ⟨neX11.1, neX11.2, by decide +kernel⟩, by decide⟩
theorem wIX11_see : Cond.instanceMethod yX11_see ∈ sm_TB := sm_inT (sm_t7 (List.mem_of_getElem? (i := 48) rfl)) rfl
theorem wVX11_see : Cond.selects RX11 yX11_see yX11_see ∈ sm_TB := sm_inT (sm_v8 (q := (yX11_see, 56)) (List.mem_of_getElem? (i := 7) rfl)) rfl
set_option maxRecDepth 20000 in
theorem hkX11_see : sm_fd sm_pg 185 = some miX11_see := by rfl
theorem hhX11_see : sm_fd sm_hds 185 = some (yX11_see, cX11_see, 2, (some .int)) := sm_hh hkX11_see
theorem wCX11_isLetter : Cond.code yX11_isLetter cX11_isLetter 1 (some .boolean) ∈ sm_TB := sm_inT (sm_t7 (List.mem_of_getElem? (i := 56) rfl)) rfl
theorem hdX11_isLetter : sm_hdk sm_TB yX11_isLetter cX11_isLetter 1 (some .boolean) 1 := ⟨wCX11_isLetter, wNX11, ⟨neX11.1, neX11.2, by decide +kernel⟩, by decide⟩
theorem wSX11_isLetter : Cond.static yX11_isLetter ∈ sm_TB := sm_inT (sm_t7 (List.mem_of_getElem? (i := 55) rfl)) rfl
set_option maxRecDepth 20000 in
theorem hkX11_isLetter : sm_fd sm_pg 186 = some miX11_isLetter := by rfl
theorem hhX11_isLetter : sm_fd sm_hds 186 = some (yX11_isLetter, cX11_isLetter, 1, (some .boolean)) := sm_hh hkX11_isLetter
theorem wCX11_isDigit : Cond.code yX11_isDigit cX11_isDigit 1 (some .boolean) ∈ sm_TB := sm_inT (sm_t7 (List.mem_of_getElem? (i := 52) rfl)) rfl
theorem hdX11_isDigit : sm_hdk sm_TB yX11_isDigit cX11_isDigit 1 (some .boolean) 1 := ⟨wCX11_isDigit, wNX11, ⟨neX11.1, neX11.2, by decide +kernel⟩, by decide⟩
theorem wSX11_isDigit : Cond.static yX11_isDigit ∈ sm_TB := sm_inT (sm_t7 (List.mem_of_getElem? (i := 51) rfl)) rfl
set_option maxRecDepth 20000 in
theorem hkX11_isDigit : sm_fd sm_pg 187 = some miX11_isDigit := by rfl
theorem hhX11_isDigit : sm_fd sm_hds 187 = some (yX11_isDigit, cX11_isDigit, 1, (some .boolean)) := sm_hh hkX11_isDigit
theorem wCX11_pack : Cond.code yX11_pack cX11_pack 5 (some .int) ∈ sm_TB := sm_inT (sm_t7 (List.mem_of_getElem? (i := 69) rfl)) rfl
theorem hdX11_pack : sm_hdk sm_TB yX11_pack cX11_pack 5 (some .int) 5 := ⟨wCX11_pack, wNX11, ⟨neX11.1, neX11.2, by decide +kernel⟩, by decide⟩
theorem wSX11_pack : Cond.static yX11_pack ∈ sm_TB := sm_inT (sm_t7 (List.mem_of_getElem? (i := 68) rfl)) rfl
set_option maxRecDepth 20000 in
theorem hkX11_pack : sm_fd sm_pg 188 = some miX11_pack := by rfl
theorem hhX11_pack : sm_fd sm_hds 188 = some (yX11_pack, cX11_pack, 5, (some .int)) := sm_hh hkX11_pack
theorem wCX11_n : Cond.code yX11_n cX11_n 1 (some .int) ∈ sm_TB := sm_inT (sm_t7 (List.mem_of_getElem? (i := 59) rfl)) rfl
theorem hdX11_n : sm_hdk sm_TB yX11_n cX11_n 1 (some .int) 1 := ⟨wCX11_n, wNX11, ⟨neX11.1, neX11.2, by decide +kernel⟩, by decide⟩
theorem wSX11_n : Cond.static yX11_n ∈ sm_TB := sm_inT (sm_t7 (List.mem_of_getElem? (i := 58) rfl)) rfl
set_option maxRecDepth 20000 in
theorem hkX11_n : sm_fd sm_pg 189 = some miX11_n := by rfl
theorem hhX11_n : sm_fd sm_hds 189 = some (yX11_n, cX11_n, 1, (some .int)) := sm_hh hkX11_n
theorem wCX11_w : Cond.code yX11_w cX11_w 5 (some .int) ∈ sm_TB := sm_inT (sm_t7 (List.mem_of_getElem? (i := 66) rfl)) rfl
theorem hdX11_w : sm_hdk sm_TB yX11_w cX11_w 5 (some .int) 5 := ⟨wCX11_w, wNX11, ⟨neX11.1, neX11.2, by decide +kernel⟩, by decide⟩
theorem wSX11_w : Cond.static yX11_w ∈ sm_TB := sm_inT (sm_t7 (List.mem_of_getElem? (i := 65) rfl)) rfl
set_option maxRecDepth 20000 in
theorem hkX11_w : sm_fd sm_pg 190 = some miX11_w := by rfl
theorem hhX11_w : sm_fd sm_hds 190 = some (yX11_w, cX11_w, 5, (some .int)) := sm_hh hkX11_w
theorem wCX11_wordOf : Cond.code yX11_wordOf cX11_wordOf 4 (some .int) ∈ sm_TB := sm_inT (sm_t7 (List.mem_of_getElem? (i := 63) rfl)) rfl
theorem hdX11_wordOf : sm_hdk sm_TB yX11_wordOf cX11_wordOf 4 (some .int) 3 := ⟨wCX11_wordOf, wNX11, ⟨neX11.1, neX11.2, by decide +kernel⟩, by decide⟩
theorem wIX11_wordOf : Cond.instanceMethod yX11_wordOf ∈ sm_TB := sm_inT (sm_t7 (List.mem_of_getElem? (i := 62) rfl)) rfl
theorem wVX11_wordOf : Cond.selects RX11 yX11_wordOf yX11_wordOf ∈ sm_TB := sm_inT (sm_v8 (q := (yX11_wordOf, 56)) (List.mem_of_getElem? (i := 8) rfl)) rfl
set_option maxRecDepth 20000 in
theorem hkX11_wordOf : sm_fd sm_pg 191 = some miX11_wordOf := by rfl
theorem hhX11_wordOf : sm_fd sm_hds 191 = some (yX11_wordOf, cX11_wordOf, 4, (some .int)) := sm_hh hkX11_wordOf
theorem wCX11_nextToken : Cond.code yX11_nextToken cX11_nextToken 4 none ∈ sm_TB := sm_inT (sm_t7 (List.mem_of_getElem? (i := 45) rfl)) rfl
theorem hdX11_nextToken : sm_hdk sm_TB yX11_nextToken cX11_nextToken 4 none 0 := ⟨wCX11_nextToken, wNX11, ⟨neX11.1, neX11.2, by decide +kernel⟩, by decide⟩
theorem wIX11_nextToken : Cond.instanceMethod yX11_nextToken ∈ sm_TB := sm_inT (sm_t7 (List.mem_of_getElem? (i := 44) rfl)) rfl
theorem wVX11_nextToken : Cond.selects RX11 yX11_nextToken yX11_nextToken ∈ sm_TB := sm_inT (sm_v8 (q := (yX11_nextToken, 56)) (List.mem_of_getElem? (i := 6) rfl)) rfl
set_option maxRecDepth 20000 in
theorem hkX11_nextToken : sm_fd sm_pg 192 = some miX11_nextToken := by rfl
theorem hhX11_nextToken : sm_fd sm_hds 192 = some (yX11_nextToken, cX11_nextToken, 4, none) := sm_hh hkX11_nextToken
theorem wCX11_fails : Cond.code yX11_fails cX11_fails 3 (some .int) ∈ sm_TB := sm_inT (sm_t7 (List.mem_of_getElem? (i := 77) rfl)) rfl
theorem hdX11_fails : sm_hdk sm_TB yX11_fails cX11_fails 3 (some .int) 2 := ⟨wCX11_fails, wNX11, ⟨neX11.1, neX11.2, by decide +kernel⟩, by decide⟩
theorem wIX11_fails : Cond.instanceMethod yX11_fails ∈ sm_TB := sm_inT (sm_t7 (List.mem_of_getElem? (i := 76) rfl)) rfl
theorem wVX11_fails : Cond.selects RX11 yX11_fails yX11_fails ∈ sm_TB := sm_inT (sm_v8 (q := (yX11_fails, 56)) (List.mem_of_getElem? (i := 10) rfl)) rfl
set_option maxRecDepth 20000 in
theorem hkX11_fails : sm_fd sm_pg 193 = some miX11_fails := by rfl
theorem hhX11_fails : sm_fd sm_hds 193 = some (yX11_fails, cX11_fails, 3, (some .int)) := sm_hh hkX11_fails
theorem wCX11_many : Cond.code yX11_many cX11_many 1 (some .int) ∈ sm_TB := sm_inT (sm_t7 (List.mem_of_getElem? (i := 93) rfl)) rfl
theorem hdX11_many : sm_hdk sm_TB yX11_many cX11_many 1 (some .int) 0 := ⟨wCX11_many, wNX11, ⟨neX11.1, neX11.2, by decide +kernel⟩, by decide⟩
theorem wIX11_many : Cond.instanceMethod yX11_many ∈ sm_TB := sm_inT (sm_t7 (List.mem_of_getElem? (i := 92) rfl)) rfl
theorem wVX11_many : Cond.selects RX11 yX11_many yX11_many ∈ sm_TB := sm_inT (sm_v8 (q := (yX11_many, 56)) (List.mem_of_getElem? (i := 14) rfl)) rfl
set_option maxRecDepth 20000 in
theorem hkX11_many : sm_fd sm_pg 194 = some miX11_many := by rfl
theorem hhX11_many : sm_fd sm_hds 194 = some (yX11_many, cX11_many, 1, (some .int)) := sm_hh hkX11_many
theorem wCX11_push : Cond.code yX11_push cX11_push 2 none ∈ sm_TB := sm_inT (sm_t7 (List.mem_of_getElem? (i := 97) rfl)) rfl
theorem hdX11_push : sm_hdk sm_TB yX11_push cX11_push 2 none 1 := ⟨wCX11_push, wNX11, ⟨neX11.1, neX11.2, by decide +kernel⟩, by decide⟩
theorem wIX11_push : Cond.instanceMethod yX11_push ∈ sm_TB := sm_inT (sm_t7 (List.mem_of_getElem? (i := 96) rfl)) rfl
theorem wVX11_push : Cond.selects RX11 yX11_push yX11_push ∈ sm_TB := sm_inT (sm_v8 (q := (yX11_push, 56)) (List.mem_of_getElem? (i := 15) rfl)) rfl
set_option maxRecDepth 20000 in
theorem hkX11_push : sm_fd sm_pg 195 = some miX11_push := by rfl
theorem hhX11_push : sm_fd sm_hds 195 = some (yX11_push, cX11_push, 2, none) := sm_hh hkX11_push
theorem wCX11_plainOne : Cond.code yX11_plainOne cX11_plainOne 6 (some .int) ∈ sm_TB := sm_inT (sm_t7 (List.mem_of_getElem? (i := 89) rfl)) rfl
theorem hdX11_plainOne : sm_hdk sm_TB yX11_plainOne cX11_plainOne 6 (some .int) 0 := ⟨wCX11_plainOne, wNX11, ⟨neX11.1, neX11.2, by decide +kernel⟩, by decide⟩
theorem wIX11_plainOne : Cond.instanceMethod yX11_plainOne ∈ sm_TB := sm_inT (sm_t7 (List.mem_of_getElem? (i := 88) rfl)) rfl
theorem wVX11_plainOne : Cond.selects RX11 yX11_plainOne yX11_plainOne ∈ sm_TB := sm_inT (sm_v8 (q := (yX11_plainOne, 56)) (List.mem_of_getElem? (i := 13) rfl)) rfl
set_option maxRecDepth 20000 in
theorem hkX11_plainOne : sm_fd sm_pg 196 = some miX11_plainOne := by rfl
theorem hhX11_plainOne : sm_fd sm_hds 196 = some (yX11_plainOne, cX11_plainOne, 6, (some .int)) := sm_hh hkX11_plainOne
theorem wCX11_opens : Cond.code yX11_opens cX11_opens 3 (some .int) ∈ sm_TB := sm_inT (sm_t7 (List.mem_of_getElem? (i := 85) rfl)) rfl
theorem hdX11_opens : sm_hdk sm_TB yX11_opens cX11_opens 3 (some .int) 0 := ⟨wCX11_opens, wNX11, ⟨neX11.1, neX11.2, by decide +kernel⟩, by decide⟩
theorem wIX11_opens : Cond.instanceMethod yX11_opens ∈ sm_TB := sm_inT (sm_t7 (List.mem_of_getElem? (i := 84) rfl)) rfl
theorem wVX11_opens : Cond.selects RX11 yX11_opens yX11_opens ∈ sm_TB := sm_inT (sm_v8 (q := (yX11_opens, 56)) (List.mem_of_getElem? (i := 12) rfl)) rfl
set_option maxRecDepth 20000 in
theorem hkX11_opens : sm_fd sm_pg 197 = some miX11_opens := by rfl
theorem hhX11_opens : sm_fd sm_hds 197 = some (yX11_opens, cX11_opens, 3, (some .int)) := sm_hh hkX11_opens
theorem wCX11_closes : Cond.code yX11_closes cX11_closes 7 (some .int) ∈ sm_TB := sm_inT (sm_t7 (List.mem_of_getElem? (i := 105) rfl)) rfl
theorem hdX11_closes : sm_hdk sm_TB yX11_closes cX11_closes 7 (some .int) 0 := ⟨wCX11_closes, wNX11, ⟨neX11.1, neX11.2, by decide +kernel⟩, by decide⟩
theorem wIX11_closes : Cond.instanceMethod yX11_closes ∈ sm_TB := sm_inT (sm_t7 (List.mem_of_getElem? (i := 104) rfl)) rfl
theorem wVX11_closes : Cond.selects RX11 yX11_closes yX11_closes ∈ sm_TB := sm_inT (sm_v9 (q := (yX11_closes, 56)) (List.mem_of_getElem? (i := 1) rfl)) rfl
set_option maxRecDepth 20000 in
theorem hkX11_closes : sm_fd sm_pg 198 = some miX11_closes := by rfl
theorem hhX11_closes : sm_fd sm_hds 198 = some (yX11_closes, cX11_closes, 7, (some .int)) := sm_hh hkX11_closes
theorem wCX11_times : Cond.code yX11_times cX11_times 3 (some .int) ∈ sm_TB := sm_inT (sm_t7 (List.mem_of_getElem? (i := 101) rfl)) rfl
theorem hdX11_times : sm_hdk sm_TB yX11_times cX11_times 3 (some .int) 0 := ⟨wCX11_times, wNX11, ⟨neX11.1, neX11.2, by decide +kernel⟩, by decide⟩
theorem wIX11_times : Cond.instanceMethod yX11_times ∈ sm_TB := sm_inT (sm_t7 (List.mem_of_getElem? (i := 100) rfl)) rfl
theorem wVX11_times : Cond.selects RX11 yX11_times yX11_times ∈ sm_TB := sm_inT (sm_v9 (q := (yX11_times, 56)) (List.mem_of_getElem? (i := 0) rfl)) rfl
set_option maxRecDepth 20000 in
theorem hkX11_times : sm_fd sm_pg 199 = some miX11_times := by rfl
theorem hhX11_times : sm_fd sm_hds 199 = some (yX11_times, cX11_times, 3, (some .int)) := sm_hh hkX11_times
theorem wCX11_readRow : Cond.code yX11_readRow cX11_readRow 5 (some .int) ∈ sm_TB := sm_inT (sm_t7 (List.mem_of_getElem? (i := 81) rfl)) rfl
theorem hdX11_readRow : sm_hdk sm_TB yX11_readRow cX11_readRow 5 (some .int) 0 := ⟨wCX11_readRow, wNX11, ⟨neX11.1, neX11.2, by decide +kernel⟩, by decide⟩
theorem wIX11_readRow : Cond.instanceMethod yX11_readRow ∈ sm_TB := sm_inT (sm_t7 (List.mem_of_getElem? (i := 80) rfl)) rfl
theorem wVX11_readRow : Cond.selects RX11 yX11_readRow yX11_readRow ∈ sm_TB := sm_inT (sm_v8 (q := (yX11_readRow, 56)) (List.mem_of_getElem? (i := 11) rfl)) rfl
set_option maxRecDepth 20000 in
theorem hkX11_readRow : sm_fd sm_pg 200 = some miX11_readRow := by rfl
theorem hhX11_readRow : sm_fd sm_hds 200 = some (yX11_readRow, cX11_readRow, 5, (some .int)) := sm_hh hkX11_readRow
theorem wCX11_block : Cond.code yX11_block cX11_block 4 (some .int) ∈ sm_TB := sm_inT (sm_t7 (List.mem_of_getElem? (i := 73) rfl)) rfl
theorem hdX11_block : sm_hdk sm_TB yX11_block cX11_block 4 (some .int) 0 := ⟨wCX11_block, wNX11, ⟨neX11.1, neX11.2, by decide +kernel⟩, by decide⟩
theorem wIX11_block : Cond.instanceMethod yX11_block ∈ sm_TB := sm_inT (sm_t7 (List.mem_of_getElem? (i := 72) rfl)) rfl
theorem wVX11_block : Cond.selects RX11 yX11_block yX11_block ∈ sm_TB := sm_inT (sm_v8 (q := (yX11_block, 56)) (List.mem_of_getElem? (i := 9) rfl)) rfl
set_option maxRecDepth 20000 in
theorem hkX11_block : sm_fd sm_pg 201 = some miX11_block := by rfl
theorem hhX11_block : sm_fd sm_hds 201 = some (yX11_block, cX11_block, 4, (some .int)) := sm_hh hkX11_block
theorem wCX11_bring : Cond.code yX11_bring cX11_bring 4 none ∈ sm_TB := sm_inT (sm_t7 (List.mem_of_getElem? (i := 113) rfl)) rfl
theorem hdX11_bring : sm_hdk sm_TB yX11_bring cX11_bring 4 none 3 := ⟨wCX11_bring, wNX11, ⟨neX11.1, neX11.2, by decide +kernel⟩, by decide⟩
theorem wIX11_bring : Cond.instanceMethod yX11_bring ∈ sm_TB := sm_inT (sm_t7 (List.mem_of_getElem? (i := 112) rfl)) rfl
theorem wVX11_bring : Cond.selects RX11 yX11_bring yX11_bring ∈ sm_TB := sm_inT (sm_v9 (q := (yX11_bring, 56)) (List.mem_of_getElem? (i := 3) rfl)) rfl
set_option maxRecDepth 20000 in
theorem hkX11_bring : sm_fd sm_pg 202 = some miX11_bring := by rfl
theorem hhX11_bring : sm_fd sm_hds 202 = some (yX11_bring, cX11_bring, 4, none) := sm_hh hkX11_bring
theorem wCX11_rowClause : Cond.code yX11_rowClause cX11_rowClause 6 (some .int) ∈ sm_TB := sm_inT (sm_t7 (List.mem_of_getElem? (i := 109) rfl)) rfl
theorem hdX11_rowClause : sm_hdk sm_TB yX11_rowClause cX11_rowClause 6 (some .int) 1 := ⟨wCX11_rowClause, wNX11, ⟨neX11.1, neX11.2, by decide +kernel⟩, by decide⟩
theorem wIX11_rowClause : Cond.instanceMethod yX11_rowClause ∈ sm_TB := sm_inT (sm_t7 (List.mem_of_getElem? (i := 108) rfl)) rfl
theorem wVX11_rowClause : Cond.selects RX11 yX11_rowClause yX11_rowClause ∈ sm_TB := sm_inT (sm_v9 (q := (yX11_rowClause, 56)) (List.mem_of_getElem? (i := 2) rfl)) rfl
set_option maxRecDepth 20000 in
theorem hkX11_rowClause : sm_fd sm_pg 203 = some miX11_rowClause := by rfl
theorem hhX11_rowClause : sm_fd sm_hds 203 = some (yX11_rowClause, cX11_rowClause, 6, (some .int)) := sm_hh hkX11_rowClause
theorem wCX11_readText : Cond.code yX11_readText cX11_readText 2 (some .int) ∈ sm_TB := sm_inT (sm_t7 (List.mem_of_getElem? (i := 41) rfl)) rfl
theorem hdX11_readText : sm_hdk sm_TB yX11_readText cX11_readText 2 (some .int) 0 := ⟨wCX11_readText, wNX11, ⟨neX11.1, neX11.2, by decide +kernel⟩, by decide⟩
theorem wIX11_readText : Cond.instanceMethod yX11_readText ∈ sm_TB := sm_inT (sm_t7 (List.mem_of_getElem? (i := 40) rfl)) rfl
theorem wVX11_readText : Cond.selects RX11 yX11_readText yX11_readText ∈ sm_TB := sm_inT (sm_v8 (q := (yX11_readText, 56)) (List.mem_of_getElem? (i := 5) rfl)) rfl
set_option maxRecDepth 20000 in
theorem hkX11_readText : sm_fd sm_pg 204 = some miX11_readText := by rfl
theorem hhX11_readText : sm_fd sm_hds 204 = some (yX11_readText, cX11_readText, 2, (some .int)) := sm_hh hkX11_readText
theorem wCX11_text : Cond.code yX11_text cX11_text 2 (some .int) ∈ sm_TB := sm_inT (sm_t7 (List.mem_of_getElem? (i := 37) rfl)) rfl
theorem hdX11_text : sm_hdk sm_TB yX11_text cX11_text 2 (some .int) 0 := ⟨wCX11_text, wNX11, ⟨neX11.1, neX11.2, by decide +kernel⟩, by decide⟩
theorem wIX11_text : Cond.instanceMethod yX11_text ∈ sm_TB := sm_inT (sm_t7 (List.mem_of_getElem? (i := 35) rfl)) rfl
theorem wVX11_text : Cond.selects RX11 yX11_text yX11_text ∈ sm_TB := sm_inT (sm_t7 (List.mem_of_getElem? (i := 36) rfl)) rfl
set_option maxRecDepth 20000 in
theorem hkX11_text : sm_fd sm_pg 205 = some miX11_text := by rfl
theorem hhX11_text : sm_fd sm_hds 205 = some (yX11_text, cX11_text, 2, (some .int)) := sm_hh hkX11_text
theorem wCX11_fault : Cond.code yX11_fault cX11_fault 2 (some .int) ∈ sm_TB := sm_inT (sm_t7 (List.mem_of_getElem? (i := 117) rfl)) rfl
theorem hdX11_fault : sm_hdk sm_TB yX11_fault cX11_fault 2 (some .int) 1 := ⟨wCX11_fault, wNX11, ⟨neX11.1, neX11.2, by decide +kernel⟩, by decide⟩
theorem wIX11_fault : Cond.instanceMethod yX11_fault ∈ sm_TB := sm_inT (sm_t7 (List.mem_of_getElem? (i := 115) rfl)) rfl
theorem wVX11_fault : Cond.selects RX11 yX11_fault yX11_fault ∈ sm_TB := sm_inT (sm_t7 (List.mem_of_getElem? (i := 116) rfl)) rfl
set_option maxRecDepth 20000 in
theorem hkX11_fault : sm_fd sm_pg 206 = some miX11_fault := by rfl
theorem hhX11_fault : sm_fd sm_hds 206 = some (yX11_fault, cX11_fault, 2, (some .int)) := sm_hh hkX11_fault
theorem wCX11_runsOf : Cond.code yX11_runsOf cX11_runsOf 10 none ∈ sm_TB := sm_inT (sm_t7 (List.mem_of_getElem? (i := 129) rfl)) rfl
theorem hdX11_runsOf : sm_hdk sm_TB yX11_runsOf cX11_runsOf 10 none 4 := ⟨wCX11_runsOf, wNX11, ⟨neX11.1, neX11.2, by decide +kernel⟩, by decide⟩
theorem wIX11_runsOf : Cond.instanceMethod yX11_runsOf ∈ sm_TB := sm_inT (sm_t7 (List.mem_of_getElem? (i := 128) rfl)) rfl
theorem wVX11_runsOf : Cond.selects RX11 yX11_runsOf yX11_runsOf ∈ sm_TB := sm_inT (sm_v9 (q := (yX11_runsOf, 56)) (List.mem_of_getElem? (i := 5) rfl)) rfl
set_option maxRecDepth 20000 in
theorem hkX11_runsOf : sm_fd sm_pg 207 = some miX11_runsOf := by rfl
theorem hhX11_runsOf : sm_fd sm_hds 207 = some (yX11_runsOf, cX11_runsOf, 10, none) := sm_hh hkX11_runsOf
theorem wCX11_findRuns : Cond.code yX11_findRuns cX11_findRuns 4 none ∈ sm_TB := sm_inT (sm_t7 (List.mem_of_getElem? (i := 125) rfl)) rfl
theorem hdX11_findRuns : sm_hdk sm_TB yX11_findRuns cX11_findRuns 4 none 2 := ⟨wCX11_findRuns, wNX11, ⟨neX11.1, neX11.2, by decide +kernel⟩, by decide⟩
theorem wIX11_findRuns : Cond.instanceMethod yX11_findRuns ∈ sm_TB := sm_inT (sm_t7 (List.mem_of_getElem? (i := 124) rfl)) rfl
theorem wVX11_findRuns : Cond.selects RX11 yX11_findRuns yX11_findRuns ∈ sm_TB := sm_inT (sm_v9 (q := (yX11_findRuns, 56)) (List.mem_of_getElem? (i := 4) rfl)) rfl
set_option maxRecDepth 20000 in
theorem hkX11_findRuns : sm_fd sm_pg 208 = some miX11_findRuns := by rfl
theorem hhX11_findRuns : sm_fd sm_hds 208 = some (yX11_findRuns, cX11_findRuns, 4, none) := sm_hh hkX11_findRuns
theorem wCX11_longest : Cond.code yX11_longest cX11_longest 5 (some .int) ∈ sm_TB := sm_inT (sm_t7 (List.mem_of_getElem? (i := 121) rfl)) rfl
theorem hdX11_longest : sm_hdk sm_TB yX11_longest cX11_longest 5 (some .int) 2 := ⟨wCX11_longest, wNX11, ⟨neX11.1, neX11.2, by decide +kernel⟩, by decide⟩
theorem wIX11_longest : Cond.instanceMethod yX11_longest ∈ sm_TB := sm_inT (sm_t7 (List.mem_of_getElem? (i := 119) rfl)) rfl
theorem wVX11_longest : Cond.selects RX11 yX11_longest yX11_longest ∈ sm_TB := sm_inT (sm_t7 (List.mem_of_getElem? (i := 120) rfl)) rfl
set_option maxRecDepth 20000 in
theorem hkX11_longest : sm_fd sm_pg 209 = some miX11_longest := by rfl
theorem hhX11_longest : sm_fd sm_hds 209 = some (yX11_longest, cX11_longest, 5, (some .int)) := sm_hh hkX11_longest
theorem wCX11_floats : Cond.code yX11_floats cX11_floats 6 (some .int) ∈ sm_TB := sm_inT (sm_t7 (List.mem_of_getElem? (i := 133) rfl)) rfl
theorem hdX11_floats : sm_hdk sm_TB yX11_floats cX11_floats 6 (some .int) 3 := ⟨wCX11_floats, wNX11, ⟨neX11.1, neX11.2, by decide +kernel⟩, by decide⟩
theorem wIX11_floats : Cond.instanceMethod yX11_floats ∈ sm_TB := sm_inT (sm_t7 (List.mem_of_getElem? (i := 131) rfl)) rfl
theorem wVX11_floats : Cond.selects RX11 yX11_floats yX11_floats ∈ sm_TB := sm_inT (sm_t7 (List.mem_of_getElem? (i := 132) rfl)) rfl
set_option maxRecDepth 20000 in
theorem hkX11_floats : sm_fd sm_pg 210 = some miX11_floats := by rfl
theorem hhX11_floats : sm_fd sm_hds 210 = some (yX11_floats, cX11_floats, 6, (some .int)) := sm_hh hkX11_floats
theorem wCX11_isPart : Cond.code yX11_isPart cX11_isPart 5 (some .boolean) ∈ sm_TB := sm_inT (sm_t7 (List.mem_of_getElem? (i := 141) rfl)) rfl
theorem hdX11_isPart : sm_hdk sm_TB yX11_isPart cX11_isPart 5 (some .boolean) 4 := ⟨wCX11_isPart, wNX11, ⟨neX11.1, neX11.2, by decide +kernel⟩, by decide⟩
theorem wIX11_isPart : Cond.instanceMethod yX11_isPart ∈ sm_TB := sm_inT (sm_t7 (List.mem_of_getElem? (i := 140) rfl)) rfl
theorem wVX11_isPart : Cond.selects RX11 yX11_isPart yX11_isPart ∈ sm_TB := sm_inT (sm_v9 (q := (yX11_isPart, 56)) (List.mem_of_getElem? (i := 6) rfl)) rfl
set_option maxRecDepth 20000 in
theorem hkX11_isPart : sm_fd sm_pg 211 = some miX11_isPart := by rfl
theorem hhX11_isPart : sm_fd sm_hds 211 = some (yX11_isPart, cX11_isPart, 5, (some .boolean)) := sm_hh hkX11_isPart
theorem wCX11_span : Cond.code yX11_span cX11_span 2 (some .long) ∈ sm_TB := sm_inT (sm_t7 (List.mem_of_getElem? (i := 152) rfl)) rfl
theorem hdX11_span : sm_hdk sm_TB yX11_span cX11_span 2 (some .long) 2 := ⟨wCX11_span, wNX11, ⟨neX11.1, neX11.2, by decide +kernel⟩, by decide⟩
theorem wSX11_span : Cond.static yX11_span ∈ sm_TB := sm_inT (sm_t7 (List.mem_of_getElem? (i := 151) rfl)) rfl
set_option maxRecDepth 20000 in
theorem hkX11_span : sm_fd sm_pg 212 = some miX11_span := by rfl
theorem hhX11_span : sm_fd sm_hds 212 = some (yX11_span, cX11_span, 2, (some .long)) := sm_hh hkX11_span
theorem wCX11_reach : Cond.code yX11_reach cX11_reach 12 none ∈ sm_TB := sm_inT (sm_t7 (List.mem_of_getElem? (i := 149) rfl)) rfl
theorem hdX11_reach : sm_hdk sm_TB yX11_reach cX11_reach 12 none 4 := ⟨wCX11_reach, wNX11, ⟨neX11.1, neX11.2, by decide +kernel⟩, by decide⟩
theorem wIX11_reach : Cond.instanceMethod yX11_reach ∈ sm_TB := sm_inT (sm_t7 (List.mem_of_getElem? (i := 148) rfl)) rfl
theorem wVX11_reach : Cond.selects RX11 yX11_reach yX11_reach ∈ sm_TB := sm_inT (sm_v9 (q := (yX11_reach, 56)) (List.mem_of_getElem? (i := 8) rfl)) rfl
set_option maxRecDepth 20000 in
theorem hkX11_reach : sm_fd sm_pg 213 = some miX11_reach := by rfl
theorem hhX11_reach : sm_fd sm_hds 213 = some (yX11_reach, cX11_reach, 12, none) := sm_hh hkX11_reach
theorem wCX11_isStrand : Cond.code yX11_isStrand cX11_isStrand 5 (some .boolean) ∈ sm_TB := sm_inT (sm_t7 (List.mem_of_getElem? (i := 155) rfl)) rfl
theorem hdX11_isStrand : sm_hdk sm_TB yX11_isStrand cX11_isStrand 5 (some .boolean) 5 := ⟨wCX11_isStrand, wNX11, ⟨neX11.1, neX11.2, by decide +kernel⟩, by decide⟩
theorem wSX11_isStrand : Cond.static yX11_isStrand ∈ sm_TB := sm_inT (sm_t7 (List.mem_of_getElem? (i := 154) rfl)) rfl
set_option maxRecDepth 20000 in
theorem hkX11_isStrand : sm_fd sm_pg 214 = some miX11_isStrand := by rfl
theorem hhX11_isStrand : sm_fd sm_hds 214 = some (yX11_isStrand, cX11_isStrand, 5, (some .boolean)) := sm_hh hkX11_isStrand
theorem wCX11_isAbove : Cond.code yX11_isAbove cX11_isAbove 3 (some .boolean) ∈ sm_TB := sm_inT (sm_t7 (List.mem_of_getElem? (i := 163) rfl)) rfl
theorem hdX11_isAbove : sm_hdk sm_TB yX11_isAbove cX11_isAbove 3 (some .boolean) 2 := ⟨wCX11_isAbove, wNX11, ⟨neX11.1, neX11.2, by decide +kernel⟩, by decide⟩
theorem wIX11_isAbove : Cond.instanceMethod yX11_isAbove ∈ sm_TB := sm_inT (sm_t7 (List.mem_of_getElem? (i := 162) rfl)) rfl
theorem wVX11_isAbove : Cond.selects RX11 yX11_isAbove yX11_isAbove ∈ sm_TB := sm_inT (sm_v9 (q := (yX11_isAbove, 56)) (List.mem_of_getElem? (i := 10) rfl)) rfl
set_option maxRecDepth 20000 in
theorem hkX11_isAbove : sm_fd sm_pg 215 = some miX11_isAbove := by rfl
theorem hhX11_isAbove : sm_fd sm_hds 215 = some (yX11_isAbove, cX11_isAbove, 3, (some .boolean)) := sm_hh hkX11_isAbove
theorem wCX11_number : Cond.code yX11_number cX11_number 8 none ∈ sm_TB := sm_inT (sm_t7 (List.mem_of_getElem? (i := 145) rfl)) rfl
theorem hdX11_number : sm_hdk sm_TB yX11_number cX11_number 8 none 4 := ⟨wCX11_number, wNX11, ⟨neX11.1, neX11.2, by decide +kernel⟩, by decide⟩
theorem wIX11_number : Cond.instanceMethod yX11_number ∈ sm_TB := sm_inT (sm_t7 (List.mem_of_getElem? (i := 144) rfl)) rfl
theorem wVX11_number : Cond.selects RX11 yX11_number yX11_number ∈ sm_TB := sm_inT (sm_v9 (q := (yX11_number, 56)) (List.mem_of_getElem? (i := 7) rfl)) rfl
set_option maxRecDepth 20000 in
theorem hkX11_number : sm_fd sm_pg 216 = some miX11_number := by rfl
theorem hhX11_number : sm_fd sm_hds 216 = some (yX11_number, cX11_number, 8, none) := sm_hh hkX11_number
theorem wCX11_isTop : Cond.code yX11_isTop cX11_isTop 7 (some .boolean) ∈ sm_TB := sm_inT (sm_t7 (List.mem_of_getElem? (i := 159) rfl)) rfl
theorem hdX11_isTop : sm_hdk sm_TB yX11_isTop cX11_isTop 7 (some .boolean) 5 := ⟨wCX11_isTop, wNX11, ⟨neX11.1, neX11.2, by decide +kernel⟩, by decide⟩
theorem wIX11_isTop : Cond.instanceMethod yX11_isTop ∈ sm_TB := sm_inT (sm_t7 (List.mem_of_getElem? (i := 158) rfl)) rfl
theorem wVX11_isTop : Cond.selects RX11 yX11_isTop yX11_isTop ∈ sm_TB := sm_inT (sm_v9 (q := (yX11_isTop, 56)) (List.mem_of_getElem? (i := 9) rfl)) rfl
set_option maxRecDepth 20000 in
theorem hkX11_isTop : sm_fd sm_pg 217 = some miX11_isTop := by rfl
theorem hhX11_isTop : sm_fd sm_hds 217 = some (yX11_isTop, cX11_isTop, 7, (some .boolean)) := sm_hh hkX11_isTop
theorem wCX11_layers : Cond.code yX11_layers cX11_layers 5 (some .int) ∈ sm_TB := sm_inT (sm_t7 (List.mem_of_getElem? (i := 137) rfl)) rfl
theorem hdX11_layers : sm_hdk sm_TB yX11_layers cX11_layers 5 (some .int) 4 := ⟨wCX11_layers, wNX11, ⟨neX11.1, neX11.2, by decide +kernel⟩, by decide⟩
theorem wIX11_layers : Cond.instanceMethod yX11_layers ∈ sm_TB := sm_inT (sm_t7 (List.mem_of_getElem? (i := 135) rfl)) rfl
theorem wVX11_layers : Cond.selects RX11 yX11_layers yX11_layers ∈ sm_TB := sm_inT (sm_t7 (List.mem_of_getElem? (i := 136) rfl)) rfl
set_option maxRecDepth 20000 in
theorem hkX11_layers : sm_fd sm_pg 218 = some miX11_layers := by rfl
theorem hhX11_layers : sm_fd sm_hds 218 = some (yX11_layers, cX11_layers, 5, (some .int)) := sm_hh hkX11_layers
theorem wCX11_layer : Cond.code yX11_layer cX11_layer 6 (some .int) ∈ sm_TB := sm_inT (sm_t7 (List.mem_of_getElem? (i := 167) rfl)) rfl
theorem hdX11_layer : sm_hdk sm_TB yX11_layer cX11_layer 6 (some .int) 5 := ⟨wCX11_layer, wNX11, ⟨neX11.1, neX11.2, by decide +kernel⟩, by decide⟩
theorem wIX11_layer : Cond.instanceMethod yX11_layer ∈ sm_TB := sm_inT (sm_t7 (List.mem_of_getElem? (i := 165) rfl)) rfl
theorem wVX11_layer : Cond.selects RX11 yX11_layer yX11_layer ∈ sm_TB := sm_inT (sm_t7 (List.mem_of_getElem? (i := 166) rfl)) rfl
set_option maxRecDepth 20000 in
theorem hkX11_layer : sm_fd sm_pg 219 = some miX11_layer := by rfl
theorem hhX11_layer : sm_fd sm_hds 219 = some (yX11_layer, cX11_layer, 6, (some .int)) := sm_hh hkX11_layer
theorem wCX11_colourAt : Cond.code yX11_colourAt cX11_colourAt 3 (some .int) ∈ sm_TB := sm_inT (sm_t7 (List.mem_of_getElem? (i := 175) rfl)) rfl
theorem hdX11_colourAt : sm_hdk sm_TB yX11_colourAt cX11_colourAt 3 (some .int) 2 := ⟨wCX11_colourAt, wNX11, ⟨neX11.1, neX11.2, by decide +kernel⟩, by decide⟩
theorem wIX11_colourAt : Cond.instanceMethod yX11_colourAt ∈ sm_TB := sm_inT (sm_t7 (List.mem_of_getElem? (i := 174) rfl)) rfl
theorem wVX11_colourAt : Cond.selects RX11 yX11_colourAt yX11_colourAt ∈ sm_TB := sm_inT (sm_v9 (q := (yX11_colourAt, 56)) (List.mem_of_getElem? (i := 11) rfl)) rfl
set_option maxRecDepth 20000 in
theorem hkX11_colourAt : sm_fd sm_pg 220 = some miX11_colourAt := by rfl
theorem hhX11_colourAt : sm_fd sm_hds 220 = some (yX11_colourAt, cX11_colourAt, 3, (some .int)) := sm_hh hkX11_colourAt
theorem wCX11_seenColour : Cond.code yX11_seenColour cX11_seenColour 3 (some .int) ∈ sm_TB := sm_inT (sm_t7 (List.mem_of_getElem? (i := 171) rfl)) rfl
theorem hdX11_seenColour : sm_hdk sm_TB yX11_seenColour cX11_seenColour 3 (some .int) 2 := ⟨wCX11_seenColour, wNX11, ⟨neX11.1, neX11.2, by decide +kernel⟩, by decide⟩
theorem wIX11_seenColour : Cond.instanceMethod yX11_seenColour ∈ sm_TB := sm_inT (sm_t7 (List.mem_of_getElem? (i := 169) rfl)) rfl
theorem wVX11_seenColour : Cond.selects RX11 yX11_seenColour yX11_seenColour ∈ sm_TB := sm_inT (sm_t7 (List.mem_of_getElem? (i := 170) rfl)) rfl
set_option maxRecDepth 20000 in
theorem hkX11_seenColour : sm_fd sm_pg 221 = some miX11_seenColour := by rfl
theorem hhX11_seenColour : sm_fd sm_hds 221 = some (yX11_seenColour, cX11_seenColour, 3, (some .int)) := sm_hh hkX11_seenColour
theorem wCX11_paint : Cond.code yX11_paint cX11_paint 6 none ∈ sm_TB := sm_inT (sm_t7 (List.mem_of_getElem? (i := 183) rfl)) rfl
theorem hdX11_paint : sm_hdk sm_TB yX11_paint cX11_paint 6 none 1 := ⟨wCX11_paint, wNX11, ⟨neX11.1, neX11.2, by decide +kernel⟩, by decide⟩
theorem wIX11_paint : Cond.instanceMethod yX11_paint ∈ sm_TB := sm_inT (sm_t7 (List.mem_of_getElem? (i := 182) rfl)) rfl
theorem wVX11_paint : Cond.selects RX11 yX11_paint yX11_paint ∈ sm_TB := sm_inT (sm_v9 (q := (yX11_paint, 56)) (List.mem_of_getElem? (i := 12) rfl)) rfl
set_option maxRecDepth 20000 in
theorem hkX11_paint : sm_fd sm_pg 222 = some miX11_paint := by rfl
theorem hhX11_paint : sm_fd sm_hds 222 = some (yX11_paint, cX11_paint, 6, none) := sm_hh hkX11_paint
theorem wCX11_coloured : Cond.code yX11_coloured cX11_coloured 5 (some .int) ∈ sm_TB := sm_inT (sm_t7 (List.mem_of_getElem? (i := 179) rfl)) rfl
theorem hdX11_coloured : sm_hdk sm_TB yX11_coloured cX11_coloured 5 (some .int) 1 := ⟨wCX11_coloured, wNX11, ⟨neX11.1, neX11.2, by decide +kernel⟩, by decide⟩
theorem wIX11_coloured : Cond.instanceMethod yX11_coloured ∈ sm_TB := sm_inT (sm_t7 (List.mem_of_getElem? (i := 177) rfl)) rfl
theorem wVX11_coloured : Cond.selects RX11 yX11_coloured yX11_coloured ∈ sm_TB := sm_inT (sm_t7 (List.mem_of_getElem? (i := 178) rfl)) rfl
set_option maxRecDepth 20000 in
theorem hkX11_coloured : sm_fd sm_pg 223 = some miX11_coloured := by rfl
theorem hhX11_coloured : sm_fd sm_hds 223 = some (yX11_coloured, cX11_coloured, 5, (some .int)) := sm_hh hkX11_coloured
theorem wCX11_isAlike : Cond.code yX11_isAlike cX11_isAlike 5 (some .boolean) ∈ sm_TB := sm_inT (sm_t7 (List.mem_of_getElem? (i := 191) rfl)) rfl
theorem hdX11_isAlike : sm_hdk sm_TB yX11_isAlike cX11_isAlike 5 (some .boolean) 2 := ⟨wCX11_isAlike, wNX11, ⟨neX11.1, neX11.2, by decide +kernel⟩, by decide⟩
theorem wIX11_isAlike : Cond.instanceMethod yX11_isAlike ∈ sm_TB := sm_inT (sm_t7 (List.mem_of_getElem? (i := 190) rfl)) rfl
theorem wVX11_isAlike : Cond.selects RX11 yX11_isAlike yX11_isAlike ∈ sm_TB := sm_inT (sm_v9 (q := (yX11_isAlike, 56)) (List.mem_of_getElem? (i := 13) rfl)) rfl
set_option maxRecDepth 20000 in
theorem hkX11_isAlike : sm_fd sm_pg 224 = some miX11_isAlike := by rfl
theorem hhX11_isAlike : sm_fd sm_hds 224 = some (yX11_isAlike, cX11_isAlike, 5, (some .boolean)) := sm_hh hkX11_isAlike
theorem wCX11_period : Cond.code yX11_period cX11_period 5 (some .int) ∈ sm_TB := sm_inT (sm_t7 (List.mem_of_getElem? (i := 187) rfl)) rfl
theorem hdX11_period : sm_hdk sm_TB yX11_period cX11_period 5 (some .int) 2 := ⟨wCX11_period, wNX11, ⟨neX11.1, neX11.2, by decide +kernel⟩, by decide⟩
theorem wIX11_period : Cond.instanceMethod yX11_period ∈ sm_TB := sm_inT (sm_t7 (List.mem_of_getElem? (i := 185) rfl)) rfl
theorem wVX11_period : Cond.selects RX11 yX11_period yX11_period ∈ sm_TB := sm_inT (sm_t7 (List.mem_of_getElem? (i := 186) rfl)) rfl
set_option maxRecDepth 20000 in
theorem hkX11_period : sm_fd sm_pg 225 = some miX11_period := by rfl
theorem hhX11_period : sm_fd sm_hds 225 = some (yX11_period, cX11_period, 5, (some .int)) := sm_hh hkX11_period
theorem wCX11_fewestOf : Cond.code yX11_fewestOf cX11_fewestOf 6 (some .int) ∈ sm_TB := sm_inT (sm_t7 (List.mem_of_getElem? (i := 198) rfl)) rfl
theorem hdX11_fewestOf : sm_hdk sm_TB yX11_fewestOf cX11_fewestOf 6 (some .int) 2 := ⟨wCX11_fewestOf, wNX11, ⟨neX11.1, neX11.2, by decide +kernel⟩, by decide⟩
theorem wSX11_fewestOf : Cond.static yX11_fewestOf ∈ sm_TB := sm_inT (sm_t7 (List.mem_of_getElem? (i := 197) rfl)) rfl
set_option maxRecDepth 20000 in
theorem hkX11_fewestOf : sm_fd sm_pg 226 = some miX11_fewestOf := by rfl
theorem hhX11_fewestOf : sm_fd sm_hds 226 = some (yX11_fewestOf, cX11_fewestOf, 6, (some .int)) := sm_hh hkX11_fewestOf
theorem wCX11_fewest : Cond.code yX11_fewest cX11_fewest 2 (some .int) ∈ sm_TB := sm_inT (sm_t7 (List.mem_of_getElem? (i := 195) rfl)) rfl
theorem hdX11_fewest : sm_hdk sm_TB yX11_fewest cX11_fewest 2 (some .int) 1 := ⟨wCX11_fewest, wNX11, ⟨neX11.1, neX11.2, by decide +kernel⟩, by decide⟩
theorem wIX11_fewest : Cond.instanceMethod yX11_fewest ∈ sm_TB := sm_inT (sm_t7 (List.mem_of_getElem? (i := 193) rfl)) rfl
theorem wVX11_fewest : Cond.selects RX11 yX11_fewest yX11_fewest ∈ sm_TB := sm_inT (sm_t7 (List.mem_of_getElem? (i := 194) rfl)) rfl
set_option maxRecDepth 20000 in
theorem hkX11_fewest : sm_fd sm_pg 227 = some miX11_fewest := by rfl
theorem hhX11_fewest : sm_fd sm_hds 227 = some (yX11_fewest, cX11_fewest, 2, (some .int)) := sm_hh hkX11_fewest
theorem wCX11_usedShafts : Cond.code yX11_usedShafts cX11_usedShafts 3 (some .int) ∈ sm_TB := sm_inT (sm_t7 (List.mem_of_getElem? (i := 206) rfl)) rfl
theorem hdX11_usedShafts : sm_hdk sm_TB yX11_usedShafts cX11_usedShafts 3 (some .int) 0 := ⟨wCX11_usedShafts, wNX11, ⟨neX11.1, neX11.2, by decide +kernel⟩, by decide⟩
theorem wIX11_usedShafts : Cond.instanceMethod yX11_usedShafts ∈ sm_TB := sm_inT (sm_t7 (List.mem_of_getElem? (i := 205) rfl)) rfl
theorem wVX11_usedShafts : Cond.selects RX11 yX11_usedShafts yX11_usedShafts ∈ sm_TB := sm_inT (sm_v9 (q := (yX11_usedShafts, 56)) (List.mem_of_getElem? (i := 14) rfl)) rfl
set_option maxRecDepth 20000 in
theorem hkX11_usedShafts : sm_fd sm_pg 228 = some miX11_usedShafts := by rfl
theorem hhX11_usedShafts : sm_fd sm_hds 228 = some (yX11_usedShafts, cX11_usedShafts, 3, (some .int)) := sm_hh hkX11_usedShafts
theorem wCX11_bits : Cond.code yX11_bits cX11_bits 3 (some .int) ∈ sm_TB := sm_inT (sm_t7 (List.mem_of_getElem? (i := 209) rfl)) rfl
theorem hdX11_bits : sm_hdk sm_TB yX11_bits cX11_bits 3 (some .int) 1 := ⟨wCX11_bits, wNX11, ⟨neX11.1, neX11.2, by decide +kernel⟩, by decide⟩
theorem wSX11_bits : Cond.static yX11_bits ∈ sm_TB := sm_inT (sm_t7 (List.mem_of_getElem? (i := 208) rfl)) rfl
set_option maxRecDepth 20000 in
theorem hkX11_bits : sm_fd sm_pg 229 = some miX11_bits := by rfl
theorem hhX11_bits : sm_fd sm_hds 229 = some (yX11_bits, cX11_bits, 3, (some .int)) := sm_hh hkX11_bits
theorem wCX11_pegs : Cond.code yX11_pegs cX11_pegs 5 (some .int) ∈ sm_TB := sm_inT (sm_t7 (List.mem_of_getElem? (i := 202) rfl)) rfl
theorem hdX11_pegs : sm_hdk sm_TB yX11_pegs cX11_pegs 5 (some .int) 1 := ⟨wCX11_pegs, wNX11, ⟨neX11.1, neX11.2, by decide +kernel⟩, by decide⟩
theorem wIX11_pegs : Cond.instanceMethod yX11_pegs ∈ sm_TB := sm_inT (sm_t7 (List.mem_of_getElem? (i := 200) rfl)) rfl
theorem wVX11_pegs : Cond.selects RX11 yX11_pegs yX11_pegs ∈ sm_TB := sm_inT (sm_t7 (List.mem_of_getElem? (i := 201) rfl)) rfl
set_option maxRecDepth 20000 in
theorem hkX11_pegs : sm_fd sm_pg 230 = some miX11_pegs := by rfl
theorem hhX11_pegs : sm_fd sm_hds 230 = some (yX11_pegs, cX11_pegs, 5, (some .int)) := sm_hh hkX11_pegs
theorem wCX11_gather : Cond.code yX11_gather cX11_gather 6 none ∈ sm_TB := sm_inT (sm_t7 (List.mem_of_getElem? (i := 217) rfl)) rfl
theorem hdX11_gather : sm_hdk sm_TB yX11_gather cX11_gather 6 none 0 := ⟨wCX11_gather, wNX11, ⟨neX11.1, neX11.2, by decide +kernel⟩, by decide⟩
theorem wIX11_gather : Cond.instanceMethod yX11_gather ∈ sm_TB := sm_inT (sm_t7 (List.mem_of_getElem? (i := 216) rfl)) rfl
theorem wVX11_gather : Cond.selects RX11 yX11_gather yX11_gather ∈ sm_TB := sm_inT (sm_v9 (q := (yX11_gather, 56)) (List.mem_of_getElem? (i := 15) rfl)) rfl
set_option maxRecDepth 20000 in
theorem hkX11_gather : sm_fd sm_pg 231 = some miX11_gather := by rfl
theorem hhX11_gather : sm_fd sm_hds 231 = some (yX11_gather, cX11_gather, 6, none) := sm_hh hkX11_gather
theorem wCX11_findCommons : Cond.code yX11_findCommons cX11_findCommons 5 none ∈ sm_TB := sm_inT (sm_t7 (List.mem_of_getElem? (i := 221) rfl)) rfl
theorem hdX11_findCommons : sm_hdk sm_TB yX11_findCommons cX11_findCommons 5 none 0 := ⟨wCX11_findCommons, wNX11, ⟨neX11.1, neX11.2, by decide +kernel⟩, by decide⟩
theorem wIX11_findCommons : Cond.instanceMethod yX11_findCommons ∈ sm_TB := sm_inT (sm_t7 (List.mem_of_getElem? (i := 220) rfl)) rfl
theorem wVX11_findCommons : Cond.selects RX11 yX11_findCommons yX11_findCommons ∈ sm_TB := sm_inT (sm_v10 (q := (yX11_findCommons, 56)) (List.mem_of_getElem? (i := 0) rfl)) rfl
set_option maxRecDepth 20000 in
theorem hkX11_findCommons : sm_fd sm_pg 232 = some miX11_findCommons := by rfl
theorem hhX11_findCommons : sm_fd sm_hds 232 = some (yX11_findCommons, cX11_findCommons, 5, none) := sm_hh hkX11_findCommons
theorem wCX11_covers : Cond.code yX11_covers cX11_covers 5 (some .boolean) ∈ sm_TB := sm_inT (sm_t7 (List.mem_of_getElem? (i := 229) rfl)) rfl
theorem hdX11_covers : sm_hdk sm_TB yX11_covers cX11_covers 5 (some .boolean) 1 := ⟨wCX11_covers, wNX11, ⟨neX11.1, neX11.2, by decide +kernel⟩, by decide⟩
theorem wIX11_covers : Cond.instanceMethod yX11_covers ∈ sm_TB := sm_inT (sm_t7 (List.mem_of_getElem? (i := 228) rfl)) rfl
theorem wVX11_covers : Cond.selects RX11 yX11_covers yX11_covers ∈ sm_TB := sm_inT (sm_v10 (q := (yX11_covers, 56)) (List.mem_of_getElem? (i := 2) rfl)) rfl
set_option maxRecDepth 20000 in
theorem hkX11_covers : sm_fd sm_pg 233 = some miX11_covers := by rfl
theorem hhX11_covers : sm_fd sm_hds 233 = some (yX11_covers, cX11_covers, 5, (some .boolean)) := sm_hh hkX11_covers
theorem wCX11_chooses : Cond.code yX11_chooses cX11_chooses 5 (some .boolean) ∈ sm_TB := sm_inT (sm_t7 (List.mem_of_getElem? (i := 225) rfl)) rfl
theorem hdX11_chooses : sm_hdk sm_TB yX11_chooses cX11_chooses 5 (some .boolean) 1 := ⟨wCX11_chooses, wNX11, ⟨neX11.1, neX11.2, by decide +kernel⟩, by decide⟩
theorem wIX11_chooses : Cond.instanceMethod yX11_chooses ∈ sm_TB := sm_inT (sm_t7 (List.mem_of_getElem? (i := 224) rfl)) rfl
theorem wVX11_chooses : Cond.selects RX11 yX11_chooses yX11_chooses ∈ sm_TB := sm_inT (sm_v10 (q := (yX11_chooses, 56)) (List.mem_of_getElem? (i := 1) rfl)) rfl
set_option maxRecDepth 20000 in
theorem hkX11_chooses : sm_fd sm_pg 234 = some miX11_chooses := by rfl
theorem hhX11_chooses : sm_fd sm_hds 234 = some (yX11_chooses, cX11_chooses, 5, (some .boolean)) := sm_hh hkX11_chooses
theorem wCX11_cover : Cond.code yX11_cover cX11_cover 3 (some .int) ∈ sm_TB := sm_inT (sm_t7 (List.mem_of_getElem? (i := 213) rfl)) rfl
theorem hdX11_cover : sm_hdk sm_TB yX11_cover cX11_cover 3 (some .int) 1 := ⟨wCX11_cover, wNX11, ⟨neX11.1, neX11.2, by decide +kernel⟩, by decide⟩
theorem wIX11_cover : Cond.instanceMethod yX11_cover ∈ sm_TB := sm_inT (sm_t7 (List.mem_of_getElem? (i := 211) rfl)) rfl
theorem wVX11_cover : Cond.selects RX11 yX11_cover yX11_cover ∈ sm_TB := sm_inT (sm_t7 (List.mem_of_getElem? (i := 212) rfl)) rfl
set_option maxRecDepth 20000 in
theorem hkX11_cover : sm_fd sm_pg 235 = some miX11_cover := by rfl
theorem hhX11_cover : sm_fd sm_hds 235 = some (yX11_cover, cX11_cover, 3, (some .int)) := sm_hh hkX11_cover
theorem wCX11_seen : Cond.code yX11_seen cX11_seen 4 (some .boolean) ∈ sm_TB := sm_inT (sm_t7 (List.mem_of_getElem? (i := 233) rfl)) rfl
theorem hdX11_seen : sm_hdk sm_TB yX11_seen cX11_seen 4 (some .boolean) 2 := ⟨wCX11_seen, wNX11, ⟨neX11.1, neX11.2, by decide +kernel⟩, by decide⟩
theorem wIX11_seen : Cond.instanceMethod yX11_seen ∈ sm_TB := sm_inT (sm_t7 (List.mem_of_getElem? (i := 231) rfl)) rfl
theorem wVX11_seen : Cond.selects RX11 yX11_seen yX11_seen ∈ sm_TB := sm_inT (sm_t7 (List.mem_of_getElem? (i := 232) rfl)) rfl
set_option maxRecDepth 20000 in
theorem hkX11_seen : sm_fd sm_pg 236 = some miX11_seen := by rfl
theorem hhX11_seen : sm_fd sm_hds 236 = some (yX11_seen, cX11_seen, 4, (some .boolean)) := sm_hh hkX11_seen
theorem wCX11_seenColumn : Cond.code yX11_seenColumn cX11_seenColumn 5 (some .long) ∈ sm_TB := sm_inT (sm_t8 (List.mem_of_getElem? (i := 1) rfl)) rfl
theorem hdX11_seenColumn : sm_hdk sm_TB yX11_seenColumn cX11_seenColumn 5 (some .long) 1 := ⟨wCX11_seenColumn, wNX11, ⟨neX11.1, neX11.2, by decide +kernel⟩, by decide⟩
theorem wIX11_seenColumn : Cond.instanceMethod yX11_seenColumn ∈ sm_TB := sm_inT (sm_t8 (List.mem_of_getElem? (i := 0) rfl)) rfl
theorem wVX11_seenColumn : Cond.selects RX11 yX11_seenColumn yX11_seenColumn ∈ sm_TB := sm_inT (sm_v10 (q := (yX11_seenColumn, 56)) (List.mem_of_getElem? (i := 3) rfl)) rfl
set_option maxRecDepth 20000 in
theorem hkX11_seenColumn : sm_fd sm_pg 237 = some miX11_seenColumn := by rfl
theorem hhX11_seenColumn : sm_fd sm_hds 237 = some (yX11_seenColumn, cX11_seenColumn, 5, (some .long)) := sm_hh hkX11_seenColumn
theorem wCX11_columnBy : Cond.code yX11_columnBy cX11_columnBy 5 (some .long) ∈ sm_TB := sm_inT (sm_t8 (List.mem_of_getElem? (i := 16) rfl)) rfl
theorem hdX11_columnBy : sm_hdk sm_TB yX11_columnBy cX11_columnBy 5 (some .long) 1 := ⟨wCX11_columnBy, wNX11, ⟨neX11.1, neX11.2, by decide +kernel⟩, by decide⟩
theorem wIX11_columnBy : Cond.instanceMethod yX11_columnBy ∈ sm_TB := sm_inT (sm_t8 (List.mem_of_getElem? (i := 15) rfl)) rfl
theorem wVX11_columnBy : Cond.selects RX11 yX11_columnBy yX11_columnBy ∈ sm_TB := sm_inT (sm_v10 (q := (yX11_columnBy, 56)) (List.mem_of_getElem? (i := 5) rfl)) rfl
set_option maxRecDepth 20000 in
theorem hkX11_columnBy : sm_fd sm_pg 238 = some miX11_columnBy := by rfl
theorem hhX11_columnBy : sm_fd sm_hds 238 = some (yX11_columnBy, cX11_columnBy, 5, (some .long)) := sm_hh hkX11_columnBy
theorem wCX11_unlike : Cond.code yX11_unlike cX11_unlike 7 (some .int) ∈ sm_TB := sm_inT (sm_t8 (List.mem_of_getElem? (i := 4) rfl)) rfl
theorem hdX11_unlike : sm_hdk sm_TB yX11_unlike cX11_unlike 7 (some .int) 2 := ⟨wCX11_unlike, wNX11, ⟨neX11.1, neX11.2, by decide +kernel⟩, by decide⟩
theorem wSX11_unlike : Cond.static yX11_unlike ∈ sm_TB := sm_inT (sm_t8 (List.mem_of_getElem? (i := 3) rfl)) rfl
set_option maxRecDepth 20000 in
theorem hkX11_unlike : sm_fd sm_pg 239 = some miX11_unlike := by rfl
theorem hhX11_unlike : sm_fd sm_hds 239 = some (yX11_unlike, cX11_unlike, 7, (some .int)) := sm_hh hkX11_unlike
theorem wCX11_wrong : Cond.code yX11_wrong cX11_wrong 2 (some .int) ∈ sm_TB := sm_inT (sm_t7 (List.mem_of_getElem? (i := 237) rfl)) rfl
theorem hdX11_wrong : sm_hdk sm_TB yX11_wrong cX11_wrong 2 (some .int) 1 := ⟨wCX11_wrong, wNX11, ⟨neX11.1, neX11.2, by decide +kernel⟩, by decide⟩
theorem wIX11_wrong : Cond.instanceMethod yX11_wrong ∈ sm_TB := sm_inT (sm_t7 (List.mem_of_getElem? (i := 235) rfl)) rfl
theorem wVX11_wrong : Cond.selects RX11 yX11_wrong yX11_wrong ∈ sm_TB := sm_inT (sm_t7 (List.mem_of_getElem? (i := 236) rfl)) rfl
set_option maxRecDepth 20000 in
theorem hkX11_wrong : sm_fd sm_pg 240 = some miX11_wrong := by rfl
theorem hhX11_wrong : sm_fd sm_hds 240 = some (yX11_wrong, cX11_wrong, 2, (some .int)) := sm_hh hkX11_wrong
theorem wCX11_nearestOf : Cond.code yX11_nearestOf cX11_nearestOf 6 (some .int) ∈ sm_TB := sm_inT (sm_t8 (List.mem_of_getElem? (i := 12) rfl)) rfl
theorem hdX11_nearestOf : sm_hdk sm_TB yX11_nearestOf cX11_nearestOf 6 (some .int) 1 := ⟨wCX11_nearestOf, wNX11, ⟨neX11.1, neX11.2, by decide +kernel⟩, by decide⟩
theorem wIX11_nearestOf : Cond.instanceMethod yX11_nearestOf ∈ sm_TB := sm_inT (sm_t8 (List.mem_of_getElem? (i := 11) rfl)) rfl
theorem wVX11_nearestOf : Cond.selects RX11 yX11_nearestOf yX11_nearestOf ∈ sm_TB := sm_inT (sm_v10 (q := (yX11_nearestOf, 56)) (List.mem_of_getElem? (i := 4) rfl)) rfl
set_option maxRecDepth 20000 in
theorem hkX11_nearestOf : sm_fd sm_pg 241 = some miX11_nearestOf := by rfl
theorem hhX11_nearestOf : sm_fd sm_hds 241 = some (yX11_nearestOf, cX11_nearestOf, 6, (some .int)) := sm_hh hkX11_nearestOf
theorem wCX11_nearest : Cond.code yX11_nearest cX11_nearest 4 (some .int) ∈ sm_TB := sm_inT (sm_t8 (List.mem_of_getElem? (i := 8) rfl)) rfl
theorem hdX11_nearest : sm_hdk sm_TB yX11_nearest cX11_nearest 4 (some .int) 2 := ⟨wCX11_nearest, wNX11, ⟨neX11.1, neX11.2, by decide +kernel⟩, by decide⟩
theorem wIX11_nearest : Cond.instanceMethod yX11_nearest ∈ sm_TB := sm_inT (sm_t8 (List.mem_of_getElem? (i := 6) rfl)) rfl
theorem wVX11_nearest : Cond.selects RX11 yX11_nearest yX11_nearest ∈ sm_TB := sm_inT (sm_t8 (List.mem_of_getElem? (i := 7) rfl)) rfl
set_option maxRecDepth 20000 in
theorem hkX11_nearest : sm_fd sm_pg 242 = some miX11_nearest := by rfl
theorem hhX11_nearest : sm_fd sm_hds 242 = some (yX11_nearest, cX11_nearest, 4, (some .int)) := sm_hh hkX11_nearest
theorem wCX11_costOfEnds : Cond.code yX11_costOfEnds cX11_costOfEnds 4 (some .int) ∈ sm_TB := sm_inT (sm_t8 (List.mem_of_getElem? (i := 28) rfl)) rfl
theorem hdX11_costOfEnds : sm_hdk sm_TB yX11_costOfEnds cX11_costOfEnds 4 (some .int) 0 := ⟨wCX11_costOfEnds, wNX11, ⟨neX11.1, neX11.2, by decide +kernel⟩, by decide⟩
theorem wIX11_costOfEnds : Cond.instanceMethod yX11_costOfEnds ∈ sm_TB := sm_inT (sm_t8 (List.mem_of_getElem? (i := 27) rfl)) rfl
theorem wVX11_costOfEnds : Cond.selects RX11 yX11_costOfEnds yX11_costOfEnds ∈ sm_TB := sm_inT (sm_v10 (q := (yX11_costOfEnds, 56)) (List.mem_of_getElem? (i := 7) rfl)) rfl
set_option maxRecDepth 20000 in
theorem hkX11_costOfEnds : sm_fd sm_pg 243 = some miX11_costOfEnds := by rfl
theorem hhX11_costOfEnds : sm_fd sm_hds 243 = some (yX11_costOfEnds, cX11_costOfEnds, 4, (some .int)) := sm_hh hkX11_costOfEnds
theorem wCX11_mend : Cond.code yX11_mend cX11_mend 4 none ∈ sm_TB := sm_inT (sm_t8 (List.mem_of_getElem? (i := 24) rfl)) rfl
theorem hdX11_mend : sm_hdk sm_TB yX11_mend cX11_mend 4 none 0 := ⟨wCX11_mend, wNX11, ⟨neX11.1, neX11.2, by decide +kernel⟩, by decide⟩
theorem wIX11_mend : Cond.instanceMethod yX11_mend ∈ sm_TB := sm_inT (sm_t8 (List.mem_of_getElem? (i := 23) rfl)) rfl
theorem wVX11_mend : Cond.selects RX11 yX11_mend yX11_mend ∈ sm_TB := sm_inT (sm_v10 (q := (yX11_mend, 56)) (List.mem_of_getElem? (i := 6) rfl)) rfl
set_option maxRecDepth 20000 in
theorem hkX11_mend : sm_fd sm_pg 244 = some miX11_mend := by rfl
theorem hhX11_mend : sm_fd sm_hds 244 = some (yX11_mend, cX11_mend, 4, none) := sm_hh hkX11_mend
theorem wCX11_mended : Cond.code yX11_mended cX11_mended 2 (some .int) ∈ sm_TB := sm_inT (sm_t8 (List.mem_of_getElem? (i := 20) rfl)) rfl
theorem hdX11_mended : sm_hdk sm_TB yX11_mended cX11_mended 2 (some .int) 1 := ⟨wCX11_mended, wNX11, ⟨neX11.1, neX11.2, by decide +kernel⟩, by decide⟩
theorem wIX11_mended : Cond.instanceMethod yX11_mended ∈ sm_TB := sm_inT (sm_t8 (List.mem_of_getElem? (i := 18) rfl)) rfl
theorem wVX11_mended : Cond.selects RX11 yX11_mended yX11_mended ∈ sm_TB := sm_inT (sm_t8 (List.mem_of_getElem? (i := 19) rfl)) rfl
set_option maxRecDepth 20000 in
theorem hkX11_mended : sm_fd sm_pg 245 = some miX11_mended := by rfl
theorem hhX11_mended : sm_fd sm_hds 245 = some (yX11_mended, cX11_mended, 2, (some .int)) := sm_hh hkX11_mended
theorem wCX11_mendedShaft : Cond.code yX11_mendedShaft cX11_mendedShaft 2 (some .int) ∈ sm_TB := sm_inT (sm_t8 (List.mem_of_getElem? (i := 32) rfl)) rfl
theorem hdX11_mendedShaft : sm_hdk sm_TB yX11_mendedShaft cX11_mendedShaft 2 (some .int) 1 := ⟨wCX11_mendedShaft, wNX11, ⟨neX11.1, neX11.2, by decide +kernel⟩, by decide⟩
theorem wIX11_mendedShaft : Cond.instanceMethod yX11_mendedShaft ∈ sm_TB := sm_inT (sm_t8 (List.mem_of_getElem? (i := 30) rfl)) rfl
theorem wVX11_mendedShaft : Cond.selects RX11 yX11_mendedShaft yX11_mendedShaft ∈ sm_TB := sm_inT (sm_t8 (List.mem_of_getElem? (i := 31) rfl)) rfl
set_option maxRecDepth 20000 in
theorem hkX11_mendedShaft : sm_fd sm_pg 246 = some miX11_mendedShaft := by rfl
theorem hhX11_mendedShaft : sm_fd sm_hds 246 = some (yX11_mendedShaft, cX11_mendedShaft, 2, (some .int)) := sm_hh hkX11_mendedShaft
theorem wCX11_isMoved : Cond.code yX11_isMoved cX11_isMoved 7 (some .boolean) ∈ sm_TB := sm_inT (sm_t8 (List.mem_of_getElem? (i := 40) rfl)) rfl
theorem hdX11_isMoved : sm_hdk sm_TB yX11_isMoved cX11_isMoved 7 (some .boolean) 2 := ⟨wCX11_isMoved, wNX11, ⟨neX11.1, neX11.2, by decide +kernel⟩, by decide⟩
theorem wIX11_isMoved : Cond.instanceMethod yX11_isMoved ∈ sm_TB := sm_inT (sm_t8 (List.mem_of_getElem? (i := 39) rfl)) rfl
theorem wVX11_isMoved : Cond.selects RX11 yX11_isMoved yX11_isMoved ∈ sm_TB := sm_inT (sm_v10 (q := (yX11_isMoved, 56)) (List.mem_of_getElem? (i := 8) rfl)) rfl
set_option maxRecDepth 20000 in
theorem hkX11_isMoved : sm_fd sm_pg 247 = some miX11_isMoved := by rfl
theorem hhX11_isMoved : sm_fd sm_hds 247 = some (yX11_isMoved, cX11_isMoved, 7, (some .boolean)) := sm_hh hkX11_isMoved
theorem wCX11_shifted : Cond.code yX11_shifted cX11_shifted 4 (some .int) ∈ sm_TB := sm_inT (sm_t8 (List.mem_of_getElem? (i := 36) rfl)) rfl
theorem hdX11_shifted : sm_hdk sm_TB yX11_shifted cX11_shifted 4 (some .int) 1 := ⟨wCX11_shifted, wNX11, ⟨neX11.1, neX11.2, by decide +kernel⟩, by decide⟩
theorem wIX11_shifted : Cond.instanceMethod yX11_shifted ∈ sm_TB := sm_inT (sm_t8 (List.mem_of_getElem? (i := 34) rfl)) rfl
theorem wVX11_shifted : Cond.selects RX11 yX11_shifted yX11_shifted ∈ sm_TB := sm_inT (sm_t8 (List.mem_of_getElem? (i := 35) rfl)) rfl
set_option maxRecDepth 20000 in
theorem hkX11_shifted : sm_fd sm_pg 248 = some miX11_shifted := by rfl
theorem hhX11_shifted : sm_fd sm_hds 248 = some (yX11_shifted, cX11_shifted, 4, (some .int)) := sm_hh hkX11_shifted
theorem wCX11_about : Cond.code yX11_about cX11_about 4 (some .int) ∈ sm_TB := sm_inT (sm_t8 (List.mem_of_getElem? (i := 44) rfl)) rfl
theorem hdX11_about : sm_hdk sm_TB yX11_about cX11_about 4 (some .int) 1 := ⟨wCX11_about, wNX11, ⟨neX11.1, neX11.2, by decide +kernel⟩, by decide⟩
theorem wIX11_about : Cond.instanceMethod yX11_about ∈ sm_TB := sm_inT (sm_t8 (List.mem_of_getElem? (i := 42) rfl)) rfl
theorem wVX11_about : Cond.selects RX11 yX11_about yX11_about ∈ sm_TB := sm_inT (sm_t8 (List.mem_of_getElem? (i := 43) rfl)) rfl
set_option maxRecDepth 20000 in
theorem hkX11_about : sm_fd sm_pg 249 = some miX11_about := by rfl
theorem hhX11_about : sm_fd sm_hds 249 = some (yX11_about, cX11_about, 4, (some .int)) := sm_hh hkX11_about
theorem wCJ6_numberOfTrailingZeros_0f7a4 : Cond.code yJ6_numberOfTrailingZeros_0f7a4 cJ6_numberOfTrailingZeros_0f7a4 2 (some .int) ∈ sm_TB := sm_inT (sm_t4 (List.mem_of_getElem? (i := 179) rfl)) rfl
theorem hdJ6_numberOfTrailingZeros_0f7a4 : sm_hdk sm_TB yJ6_numberOfTrailingZeros_0f7a4 cJ6_numberOfTrailingZeros_0f7a4 2 (some .int) 1 := ⟨wCJ6_numberOfTrailingZeros_0f7a4, wNJ6, ⟨neJ6.1, neJ6.2, by decide +kernel⟩, by decide⟩
theorem wSJ6_numberOfTrailingZeros_0f7a4 : Cond.static yJ6_numberOfTrailingZeros_0f7a4 ∈ sm_TB := sm_inT (sm_t4 (List.mem_of_getElem? (i := 178) rfl)) rfl
set_option maxRecDepth 20000 in
theorem hkJ6_numberOfTrailingZeros_0f7a4 : sm_fd sm_pg 250 = some miJ6_numberOfTrailingZeros_0f7a4 := by rfl
theorem hhJ6_numberOfTrailingZeros_0f7a4 : sm_fd sm_hds 250 = some (yJ6_numberOfTrailingZeros_0f7a4, cJ6_numberOfTrailingZeros_0f7a4, 2, (some .int)) := sm_hh hkJ6_numberOfTrailingZeros_0f7a4
theorem wCJ6_bitCount_0f7a4 : Cond.code yJ6_bitCount_0f7a4 cJ6_bitCount_0f7a4 1 (some .int) ∈ sm_TB := sm_inT (sm_t5 (List.mem_of_getElem? (i := 73) rfl)) rfl
theorem hdJ6_bitCount_0f7a4 : sm_hdk sm_TB yJ6_bitCount_0f7a4 cJ6_bitCount_0f7a4 1 (some .int) 1 := ⟨wCJ6_bitCount_0f7a4, wNJ6, ⟨neJ6.1, neJ6.2, by decide +kernel⟩, by decide⟩
theorem wSJ6_bitCount_0f7a4 : Cond.static yJ6_bitCount_0f7a4 ∈ sm_TB := sm_inT (sm_t5 (List.mem_of_getElem? (i := 72) rfl)) rfl
set_option maxRecDepth 20000 in
theorem hkJ6_bitCount_0f7a4 : sm_fd sm_pg 251 = some miJ6_bitCount_0f7a4 := by rfl
theorem hhJ6_bitCount_0f7a4 : sm_fd sm_hds 251 = some (yJ6_bitCount_0f7a4, cJ6_bitCount_0f7a4, 1, (some .int)) := sm_hh hkJ6_bitCount_0f7a4
theorem wCJ13_numberOfTrailingZeros_95d88 : Cond.code yJ13_numberOfTrailingZeros_95d88 cJ13_numberOfTrailingZeros_95d88 3 (some .int) ∈ sm_TB := sm_inT (sm_t4 (List.mem_of_getElem? (i := 176) rfl)) rfl
theorem hdJ13_numberOfTrailingZeros_95d88 : sm_hdk sm_TB yJ13_numberOfTrailingZeros_95d88 cJ13_numberOfTrailingZeros_95d88 3 (some .int) 1 := ⟨wCJ13_numberOfTrailingZeros_95d88, wNJ13, ⟨neJ13.1, neJ13.2, by decide +kernel⟩, by decide⟩
theorem wSJ13_numberOfTrailingZeros_95d88 : Cond.static yJ13_numberOfTrailingZeros_95d88 ∈ sm_TB := sm_inT (sm_t4 (List.mem_of_getElem? (i := 175) rfl)) rfl
set_option maxRecDepth 20000 in
theorem hkJ13_numberOfTrailingZeros_95d88 : sm_fd sm_pg 252 = some miJ13_numberOfTrailingZeros_95d88 := by rfl
theorem hhJ13_numberOfTrailingZeros_95d88 : sm_fd sm_hds 252 = some (yJ13_numberOfTrailingZeros_95d88, cJ13_numberOfTrailingZeros_95d88, 3, (some .int)) := sm_hh hkJ13_numberOfTrailingZeros_95d88
theorem wCJ13_bitCount_95d88 : Cond.code yJ13_bitCount_95d88 cJ13_bitCount_95d88 2 (some .int) ∈ sm_TB := sm_inT (sm_t5 (List.mem_of_getElem? (i := 29) rfl)) rfl
theorem hdJ13_bitCount_95d88 : sm_hdk sm_TB yJ13_bitCount_95d88 cJ13_bitCount_95d88 2 (some .int) 1 := ⟨wCJ13_bitCount_95d88, wNJ13, ⟨neJ13.1, neJ13.2, by decide +kernel⟩, by decide⟩
theorem wSJ13_bitCount_95d88 : Cond.static yJ13_bitCount_95d88 ∈ sm_TB := sm_inT (sm_t5 (List.mem_of_getElem? (i := 28) rfl)) rfl
set_option maxRecDepth 20000 in
theorem hkJ13_bitCount_95d88 : sm_fd sm_pg 253 = some miJ13_bitCount_95d88 := by rfl
theorem hhJ13_bitCount_95d88 : sm_fd sm_hds 253 = some (yJ13_bitCount_95d88, cJ13_bitCount_95d88, 2, (some .int)) := sm_hh hkJ13_bitCount_95d88
theorem wCJ7_fill_d0a16 : Cond.code yJ7_fill_d0a16 cJ7_fill_d0a16 5 none ∈ sm_TB := sm_inT (sm_t4 (List.mem_of_getElem? (i := 122) rfl)) rfl
theorem hdJ7_fill_d0a16 : sm_hdk sm_TB yJ7_fill_d0a16 cJ7_fill_d0a16 5 none 2 := ⟨wCJ7_fill_d0a16, wNJ7, ⟨neJ7.1, neJ7.2, by decide +kernel⟩, by decide⟩
theorem wSJ7_fill_d0a16 : Cond.static yJ7_fill_d0a16 ∈ sm_TB := sm_inT (sm_t4 (List.mem_of_getElem? (i := 121) rfl)) rfl
set_option maxRecDepth 20000 in
theorem hkJ7_fill_d0a16 : sm_fd sm_pg 254 = some miJ7_fill_d0a16 := by rfl
theorem hhJ7_fill_d0a16 : sm_fd sm_hds 254 = some (yJ7_fill_d0a16, cJ7_fill_d0a16, 5, none) := sm_hh hkJ7_fill_d0a16
theorem wCJ7_fill_53178 : Cond.code yJ7_fill_53178 cJ7_fill_53178 4 none ∈ sm_TB := sm_inT (sm_t1 (List.mem_of_getElem? (i := 47) rfl)) rfl
theorem hdJ7_fill_53178 : sm_hdk sm_TB yJ7_fill_53178 cJ7_fill_53178 4 none 2 := ⟨wCJ7_fill_53178, wNJ7, ⟨neJ7.1, neJ7.2, by decide +kernel⟩, by decide⟩
theorem wSJ7_fill_53178 : Cond.static yJ7_fill_53178 ∈ sm_TB := sm_inT (sm_t1 (List.mem_of_getElem? (i := 46) rfl)) rfl
set_option maxRecDepth 20000 in
theorem hkJ7_fill_53178 : sm_fd sm_pg 255 = some miJ7_fill_53178 := by rfl
theorem hhJ7_fill_53178 : sm_fd sm_hds 255 = some (yJ7_fill_53178, cJ7_fill_53178, 4, none) := sm_hh hkJ7_fill_53178
theorem wCL_cell : Cond.code yL_cell cL_cell 2 (some .int) ∈ sm_TB := sm_inT (sm_t6 (List.mem_of_getElem? (i := 9) rfl)) rfl
theorem hdL_cell : sm_hdk sm_TB yL_cell cL_cell 2 (some .int) 2 := ⟨wCL_cell, wNL, ⟨neL.1, neL.2, by decide +kernel⟩, by decide⟩
theorem wSL_cell : Cond.static yL_cell ∈ sm_TB := sm_inT (sm_t6 (List.mem_of_getElem? (i := 8) rfl)) rfl
set_option maxRecDepth 20000 in
theorem hkL_cell : sm_fd sm_pg 256 = some miL_cell := by rfl
theorem hhL_cell : sm_fd sm_hds 256 = some (yL_cell, cL_cell, 2, (some .int)) := sm_hh hkL_cell
theorem wCJ0_length_8abf5 : Cond.code yJ0_length_8abf5 cJ0_length_8abf5 1 (some .int) ∈ sm_TB := sm_inT (sm_t3 (List.mem_of_getElem? (i := 137) rfl)) rfl
theorem hdJ0_length_8abf5 : sm_hdk sm_TB yJ0_length_8abf5 cJ0_length_8abf5 1 (some .int) 0 := ⟨wCJ0_length_8abf5, wNJ0, ⟨neJ0.1, neJ0.2, by decide +kernel⟩, by decide⟩
theorem wIJ0_length_8abf5 : Cond.instanceMethod yJ0_length_8abf5 ∈ sm_TB := sm_inT (sm_t3 (List.mem_of_getElem? (i := 135) rfl)) rfl
theorem wVJ0_length_8abf5 : Cond.selects RJ0 yJ0_length_8abf5 yJ0_length_8abf5 ∈ sm_TB := sm_inT (sm_t3 (List.mem_of_getElem? (i := 136) rfl)) rfl
set_option maxRecDepth 20000 in
theorem hhJ0_length_8abf5 : sm_fd sm_hds 900 = some (yJ0_length_8abf5, cJ0_length_8abf5, 1, (some .int)) := by rfl
theorem wCJ0_charAt_5068e : Cond.code yJ0_charAt_5068e cJ0_charAt_5068e 2 (some .char) ∈ sm_TB := sm_inT (sm_t3 (List.mem_of_getElem? (i := 147) rfl)) rfl
theorem hdJ0_charAt_5068e : sm_hdk sm_TB yJ0_charAt_5068e cJ0_charAt_5068e 2 (some .char) 1 := ⟨wCJ0_charAt_5068e, wNJ0, ⟨neJ0.1, neJ0.2, by decide +kernel⟩, by decide⟩
theorem wIJ0_charAt_5068e : Cond.instanceMethod yJ0_charAt_5068e ∈ sm_TB := sm_inT (sm_t3 (List.mem_of_getElem? (i := 145) rfl)) rfl
theorem wVJ0_charAt_5068e : Cond.selects RJ0 yJ0_charAt_5068e yJ0_charAt_5068e ∈ sm_TB := sm_inT (sm_t3 (List.mem_of_getElem? (i := 146) rfl)) rfl
set_option maxRecDepth 20000 in
theorem hhJ0_charAt_5068e : sm_fd sm_hds 901 = some (yJ0_charAt_5068e, cJ0_charAt_5068e, 2, (some .char)) := by rfl

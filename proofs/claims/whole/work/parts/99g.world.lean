/-! THE WORLD AT THE START: classes, array classes, the String constants, two statics -/
theorem jk_inst : ∀ r ∈ vwCl, ∃ n, Cond.instantiable r.1 n ∈ lw_tbl := List.forall_mem_cons.mpr ⟨⟨12, sm_t1 (List.mem_of_getElem? (i := 85) rfl)⟩, List.forall_mem_cons.mpr ⟨⟨13, sm_t2 (List.mem_of_getElem? (i := 102) rfl)⟩, List.forall_mem_cons.mpr ⟨⟨14, sm_t2 (List.mem_of_getElem? (i := 52) rfl)⟩, List.forall_mem_cons.mpr ⟨⟨10, sm_t1 (List.mem_of_getElem? (i := 36) rfl)⟩, List.forall_mem_cons.mpr ⟨⟨15, sm_t2 (List.mem_of_getElem? (i := 171) rfl)⟩, List.forall_mem_cons.mpr ⟨⟨4, sm_t2 (List.mem_of_getElem? (i := 33) rfl)⟩, List.forall_mem_cons.mpr ⟨⟨20, sm_t1 (List.mem_of_getElem? (i := 191) rfl)⟩, List.forall_mem_cons.mpr ⟨⟨2, sm_t2 (List.mem_of_getElem? (i := 20) rfl)⟩, List.forall_mem_cons.mpr ⟨⟨4, sm_t2 (List.mem_of_getElem? (i := 149) rfl)⟩, List.forall_mem_cons.mpr ⟨⟨6, sm_t1 (List.mem_of_getElem? (i := 162) rfl)⟩, List.forall_mem_cons.mpr ⟨⟨12, sm_t1 (List.mem_of_getElem? (i := 22) rfl)⟩, List.forall_mem_cons.mpr ⟨⟨56, sm_t6 (List.mem_of_getElem? (i := 11) rfl)⟩, fun _ h => absurd h List.not_mem_nil⟩⟩⟩⟩⟩⟩⟩⟩⟩⟩⟩⟩
theorem jk_K {s : State} {args : Array Value} (hts : ∀ w ∈ lw_tbl, w.before args s = true) : ∃ (D : va_G) (τ : Nat → ClassId), va_K D vwCl (sm_tys τ) s := by
  have h0 : ∀ c : Nat, ∃ q : ClassId × (Nat → Nat), ∀ r, vwCl[c]? = some r → u_Kn s r.1 r.2.1 r.2.2 q.1 q.2 := by
    intro c
    cases hc : vwCl[c]? with
    | none => exact ⟨(0, fun _ => 0), fun r h => by cases h⟩
    | some r =>
      have hm : r ∈ vwCl := List.mem_of_getElem? hc
      obtain ⟨n, hn⟩ := jk_inst r hm
      obtain ⟨cC, iS, hk⟩ := u_known (ws := lw_tbl) (C := r.1) (T := r.2.1) (N := r.2.2) (n := n) hts (fun w hw => (List.mem_filter.mp ((ckC r hm).1 w hw)).1) (hts _ hn)
      exact ⟨(cC, iS), fun r' h => by cases h; exact hk⟩
  obtain ⟨q, hq⟩ := Classical.axiomOfChoice h0
  obtain ⟨cI, kI, pI, hI1, hI2, hI3⟩ := Cond.arrayClass_spec (hts (Cond.arrayClass .int) (sm_t1 (List.mem_of_getElem? (i := 83) rfl)))
  obtain ⟨cJ, kJ, pJ, hJ1, hJ2, hJ3⟩ := Cond.arrayClass_spec (hts (Cond.arrayClass .long) (sm_t1 (List.mem_of_getElem? (i := 160) rfl)))
  refine ⟨(fun c => (q c).1, fun c => (q c).2), fun k => if k = 0 then cI else cJ, fun c r hr => hq c r hr, ?_⟩
  intro k z hz
  rcases k with _ | _ | k
  · cases hz
    exact ⟨fun n z => ⟨fun k h => (by cases h), kI, hI2, pI, hI3⟩, hI1⟩
  · cases hz
    exact ⟨fun n z => ⟨fun k h => (by cases h), kJ, hJ2, pJ, hJ3⟩, hJ1⟩
  · cases hz
def jk_ix : List Nat := [64, 70, 72, 74, 76, 78, 80, 82]
abbrev jk_tm (i : Nat) : Term := .string "DraftHouse$Tape" (jk_ix.getD i 0)
abbrev jk_vl (i : Nat) : Term := .field (jk_tm i) "java/lang/String" "value" "[B"
theorem jk_f1 : ∀ i, i < 8 → Cond.exactly (jk_tm i) "java/lang/String" ∈ flatC (Jvm.Cond.and given_1 narrow_1) := by decide +kernel
theorem jk_f2 : ∀ i, i < 8 → Cond.eq (.field (jk_tm i) "java/lang/String" "coder" "B") (.int 0) ∈ flatC (Jvm.Cond.and given_1 narrow_1) := by decide +kernel
theorem jk_f3 : ∀ i, i < 8 → Cond.arrayOf (jk_vl i) .byte ∈ flatC (Jvm.Cond.and given_1 narrow_1) := by decide +kernel
theorem jk_f4 : ∀ i, i < 8 → Cond.eq (.length (jk_vl i)) (.int (Int32.ofNat (jk_len.getD i 0))) ∈ flatC (Jvm.Cond.and given_1 narrow_1) := by decide +kernel
theorem jk_f5 : ∀ i, i < 8 → ∀ j, j < jk_len.getD i 0 → Cond.eq (.elem (jk_vl i) (.int (Int32.ofNat j))) (.int ((jk_byt.getD i []).getD j 0)) ∈ flatC (Jvm.Cond.and given_1 narrow_1) := by decide +kernel
theorem jk_f6 : ∀ i, i < 8 → ∀ j, j < 8 → i ≠ j → (Cond.not (Cond.eq (jk_tm i) (jk_tm j)) ∈ flatC (Jvm.Cond.and given_1 narrow_1) ∨ Cond.not (Cond.eq (jk_tm j) (jk_tm i)) ∈ flatC (Jvm.Cond.and given_1 narrow_1)) := by decide +kernel
theorem jk_f7 : Cond.eq (.static "java/lang/String" "COMPACT_STRINGS" "Z") (.int 1) ∈ flatC (Jvm.Cond.and given_1 narrow_1) := by decide +kernel
theorem jk_f8 : Cond.isRef (.static "jdk/internal/util/Preconditions" "SIOOBE_FORMATTER" "Ljava/util/function/BiFunction;") ∈ flatC (Jvm.Cond.and given_1 narrow_1) := by decide +kernel
theorem jk_SS {len : List Nat} {byt : List (List Int32)} {aK aV adK adV : Nat → Nat} {A : Nat → Prop} {s : State} {H : Heap} (hK : ∀ i, i < 8 → aK i = adK i) (hV : ∀ i, i < 8 → aV i = adV i) (h : vk_S 8 len byt adK adV A s H) : vk_S 8 len byt aK aV A s H :=
  ⟨fun i hi => by rw [hK i hi, hV i hi]; exact h.1 i hi, fun i j hi hj e => h.2 i j hi hj (by rw [← hK i hi, ← hK j hj]; exact e)⟩
def jk_ad (b t : Nat) (adK adV : Nat → Nat) (q : Nat) : Nat := if q = 1000 then b else if q < 1101 then adK (q - 1001) else if q < 1300 then adV (q - 1101) else t
set_option maxHeartbeats 4000000 in
theorem jk_start {s : State} {b L : Nat} {xs : Nat → Int32} (hts : ∀ w ∈ lw_tbl, w.before #[Value.ref b] s = true) (hX : va_X b L xs s s.heap) (hbl : b < s.heap.size) (hgv : (Jvm.Cond.and given_1 narrow_1).before #[Value.ref b] s = true) : ∃ (ad : Nat → Nat) (f0 : Value), ad 1000 = b ∧ (f0 = .null ∨ ∃ t, f0 = .ref t) ∧ jk_X s.heap.size ad f0 L xs s s.heap ∧ ∀ q ∈ sm_sks, vk_R q.1 q.2.1 q.2.2.1 (sm_rho s.heap.size ad q.2.2.2) s := by
  have hg := flat_of_before _ hgv
  have hA : ∀ a : Nat, a < s.heap.size → ¬ s.heap.size ≤ a := fun a h => Nat.not_le.mpr h
  obtain ⟨adK, adV, hS, hev⟩ := vk_Sof (args := #[Value.ref b]) (s := s) (N := 8) (tm := jk_tm) (len := jk_len) (byt := jk_byt) (A := fun q => s.heap.size ≤ q) (fun i hi => Nat.lt_of_lt_of_le (jk_lens i hi).1 (by decide)) (fun i hi => hg _ (jk_f1 i hi)) (fun i hi => hg _ (jk_f2 i hi)) (fun i hi => hg _ (jk_f3 i hi)) (fun i hi => hg _ (jk_f4 i hi)) (fun i hi j hj => hg _ (jk_f5 i hi j hj)) (fun i j hi hj hn => (jk_f6 i hi j hj hn).imp (hg _) (hg _)) hA
  have hZ1 : va_Z "java/lang/String" "COMPACT_STRINGS" "Z" (.int 1) (fun q => s.heap.size ≤ q) s s.heap := va_Zof (hts _ (sm_t3 (List.mem_of_getElem? (i := 143) rfl))) (hts _ (sm_t1 (List.mem_of_getElem? (i := 15) rfl))) (va_eqi (hg _ jk_f7)) hA
  have hZ2 : va_Zq "jdk/internal/util/Preconditions" "SIOOBE_FORMATTER" "Ljava/util/function/BiFunction;" (fun q => s.heap.size ≤ q) s s.heap := va_Zqof (hts _ (sm_t3 (List.mem_of_getElem? (i := 159) rfl))) (hts _ (sm_t1 (List.mem_of_getElem? (i := 17) rfl))) (hg _ jk_f8) hA
  have key : ∀ (t : Nat) (f0 : Value), (f0 = .null ∨ ∃ t, f0 = .ref t) → va_Z "jdk/internal/util/Preconditions" "SIOOBE_FORMATTER" "Ljava/util/function/BiFunction;" (sm_cv s.heap.size (jk_ad b t adK adV) f0) (fun q => s.heap.size ≤ q) s s.heap → ∃ (ad : Nat → Nat) (f0 : Value), ad 1000 = b ∧ (f0 = .null ∨ ∃ t, f0 = .ref t) ∧ jk_X s.heap.size ad f0 L xs s s.heap ∧ ∀ q ∈ sm_sks, vk_R q.1 q.2.1 q.2.2.1 (sm_rho s.heap.size ad q.2.2.2) s := by
    intro t f0 hf hz
    have hK : ∀ i, i < 8 → jk_ad b t adK adV (1001 + i) = adK i := fun i hi => by
      unfold jk_ad
      rw [if_neg (by omega), if_pos (by omega), Nat.add_sub_cancel_left]
    have hV : ∀ i, i < 8 → jk_ad b t adK adV (1101 + i) = adV i := fun i hi => by
      unfold jk_ad
      rw [if_neg (by omega), if_neg (by omega), if_pos (by omega), Nat.add_sub_cancel_left]
    have had : ∀ i, i < 8 → sm_rho s.heap.size (jk_ad b t adK adV) (1001 + i) = adK i := fun i hi => (if_neg (by omega)).trans (hK i hi)
    refine ⟨jk_ad b t adK adV, f0, rfl, hf, ⟨hX, Nat.not_le.mpr hbl, jk_SS hK hV hS, hZ1, hz⟩, ?_⟩
    generalize jk_ad b t adK adV = ad at had
    exact List.forall_mem_cons.mpr ⟨vk_R.of (hts _ (sm_t3 (List.mem_of_getElem? (i := 129) rfl))) (by rw [show sm_rho s.heap.size ad 1001 = adK 0 from had 0 (by decide)]; exact hev 0 (by decide)), List.forall_mem_cons.mpr ⟨vk_R.of (hts _ (sm_t3 (List.mem_of_getElem? (i := 182) rfl))) (by rw [show sm_rho s.heap.size ad 1002 = adK 1 from had 1 (by decide)]; exact hev 1 (by decide)), List.forall_mem_cons.mpr ⟨vk_R.of (hts _ (sm_t3 (List.mem_of_getElem? (i := 183) rfl))) (by rw [show sm_rho s.heap.size ad 1003 = adK 2 from had 2 (by decide)]; exact hev 2 (by decide)), List.forall_mem_cons.mpr ⟨vk_R.of (hts _ (sm_t3 (List.mem_of_getElem? (i := 184) rfl))) (by rw [show sm_rho s.heap.size ad 1004 = adK 3 from had 3 (by decide)]; exact hev 3 (by decide)), List.forall_mem_cons.mpr ⟨vk_R.of (hts _ (sm_t3 (List.mem_of_getElem? (i := 185) rfl))) (by rw [show sm_rho s.heap.size ad 1005 = adK 4 from had 4 (by decide)]; exact hev 4 (by decide)), List.forall_mem_cons.mpr ⟨vk_R.of (hts _ (sm_t3 (List.mem_of_getElem? (i := 186) rfl))) (by rw [show sm_rho s.heap.size ad 1006 = adK 5 from had 5 (by decide)]; exact hev 5 (by decide)), List.forall_mem_cons.mpr ⟨vk_R.of (hts _ (sm_t3 (List.mem_of_getElem? (i := 187) rfl))) (by rw [show sm_rho s.heap.size ad 1007 = adK 6 from had 6 (by decide)]; exact hev 6 (by decide)), List.forall_mem_cons.mpr ⟨vk_R.of (hts _ (sm_t3 (List.mem_of_getElem? (i := 188) rfl))) (by rw [show sm_rho s.heap.size ad 1008 = adK 7 from had 7 (by decide)]; exact hev 7 (by decide)), fun _ h => absurd h List.not_mem_nil⟩⟩⟩⟩⟩⟩⟩⟩
  rcases hZ2 with hz | ⟨t, hz⟩
  · exact key 0 .null (Or.inl rfl) hz
  · exact key t (.ref 1300) (Or.inr ⟨_, rfl⟩) hz

/-! arrays, new cells -/
def sm_okX (B : Nat) (ad : Nat → Nat) (s : State) (sc : Option (Nat × (Nat → Int32))) : Prop := ∀ n g, sc = some (n, g) → va_X (sm_rho B ad sm_SC) n g s s.heap ∧ sm_rho B ad sm_SC < s.heap.size ∧ ¬ B ≤ sm_rho B ad sm_SC
set_option maxHeartbeats 1000000 in
theorem sg_iaload {p : Program} {l : Launch} {e : Env} {R : Room} {s : State} {m : MethodId} {args : Array Value} {below : List Frame} {meth : Method} {c : Code} {Q : State → Prop} {D : va_G} {cl : List vw_C} {τ : Nat → ClassId} {B : Nat} {ad : Nat → Nat} {TB NB : List Cond} {SK : sm_SKt} {XT : State → Heap → Prop} {mi : sm_MI} {M' : sm_M} {m0 s0 : Nat} {cal : Nat → List Value → sm_M → sm_R} {sc : Option (Nat × (Nat → Int32))} {k : Nat → sm_L → List Value → sm_M → sm_R} {r : Option Value} {pc : Nat} {L : sm_L} {st : List Value} {M : sm_M} (hsc : sm_okX B ad s sc) (C0 : sm_C p s m args meth c D cl τ B ad TB NB SK XT m0 mi) (ih : ∀ pc L st M, k pc L st M = some (M', r) → sm_G p l e R s m args below meth c Q D cl τ B ad mi.2.2.1 m0 s0 pc L st M) (hd : decode mi.2.1 pc = .ok (.iaload, 1)) (h : sm_ex cal sc mi k pc L st M (.iaload) = some (M', r)) : sm_G p l e R s m args below meth c Q D cl τ B ad mi.2.2.1 m0 s0 pc L st M := by
  have hx := C0.1
  have hb := C0.2.1
  have hK := C0.2.2.2.2.2.2.1
  simp only [sm_ex] at h
  split at h
  · rename_i i a r0
    split at h
    · rename_i hb1
      have ha := Nat.eq_of_beq_eq_true hb1
      subst ha
      split at h
      · rename_i n g
        obtain ⟨hX, hbl, hbA⟩ := hsc _ _ rfl
        replace h := sm_ix_some h
        obtain ⟨hi, h⟩ := h
        intro H locs ls cells slots hP hm hS hLl hL h1 h2
        refine va_sld hx hb hX hbl hbA hS hi hd ?_
        exact ih _ _ _ _ h H locs ls cells slots hP hm hS hLl hL h1 h2
      · cases h
    · replace h := sm_ia_some h
      obtain ⟨n, g, hg, h⟩ := h
      replace h := sm_ix_some h
      obtain ⟨hi, h⟩ := h
      intro H locs ls cells slots hP hm hS hLl hL h1 h2
      refine va_iald hx hb hK hP a 0 (sm_w_at hg) rfl hi hd ?_
      exact ih _ _ _ _ h H locs ls cells slots hP hm hS hLl hL h1 h2
  · cases h
set_option maxHeartbeats 1000000 in
theorem sg_laload {p : Program} {l : Launch} {e : Env} {R : Room} {s : State} {m : MethodId} {args : Array Value} {below : List Frame} {meth : Method} {c : Code} {Q : State → Prop} {D : va_G} {cl : List vw_C} {τ : Nat → ClassId} {B : Nat} {ad : Nat → Nat} {TB NB : List Cond} {SK : sm_SKt} {XT : State → Heap → Prop} {mi : sm_MI} {M' : sm_M} {m0 s0 : Nat} {cal : Nat → List Value → sm_M → sm_R} {sc : Option (Nat × (Nat → Int32))} {k : Nat → sm_L → List Value → sm_M → sm_R} {r : Option Value} {pc : Nat} {L : sm_L} {st : List Value} {M : sm_M}  (C0 : sm_C p s m args meth c D cl τ B ad TB NB SK XT m0 mi) (ih : ∀ pc L st M, k pc L st M = some (M', r) → sm_G p l e R s m args below meth c Q D cl τ B ad mi.2.2.1 m0 s0 pc L st M) (hd : decode mi.2.1 pc = .ok (.laload, 1)) (h : sm_ex cal sc mi k pc L st M (.laload) = some (M', r)) : sm_G p l e R s m args below meth c Q D cl τ B ad mi.2.2.1 m0 s0 pc L st M := by
  have hx := C0.1
  have hb := C0.2.1
  have hK := C0.2.2.2.2.2.2.1
  simp only [sm_ex] at h
  split at h
  · rename_i i a r0
    replace h := sm_la_some h
    obtain ⟨n, g, hg, h⟩ := h
    replace h := sm_ix_some h
    obtain ⟨hi, h⟩ := h
    intro H locs ls cells slots hP hm hS hLl hL h1 h2
    refine va_lald hx hb hK hP a 1 (sm_w_at hg) rfl hi hd ?_
    exact ih _ _ _ _ h H locs ls cells slots hP hm hS hLl hL h1 h2
  · cases h
set_option maxHeartbeats 1000000 in
theorem sg_iastore {p : Program} {l : Launch} {e : Env} {R : Room} {s : State} {m : MethodId} {args : Array Value} {below : List Frame} {meth : Method} {c : Code} {Q : State → Prop} {D : va_G} {cl : List vw_C} {τ : Nat → ClassId} {B : Nat} {ad : Nat → Nat} {TB NB : List Cond} {SK : sm_SKt} {XT : State → Heap → Prop} {mi : sm_MI} {M' : sm_M} {m0 s0 : Nat} {cal : Nat → List Value → sm_M → sm_R} {sc : Option (Nat × (Nat → Int32))} {k : Nat → sm_L → List Value → sm_M → sm_R} {r : Option Value} {pc : Nat} {L : sm_L} {st : List Value} {M : sm_M}  (C0 : sm_C p s m args meth c D cl τ B ad TB NB SK XT m0 mi) (ih : ∀ pc L st M, k pc L st M = some (M', r) → sm_G p l e R s m args below meth c Q D cl τ B ad mi.2.2.1 m0 s0 pc L st M) (hd : decode mi.2.1 pc = .ok (.iastore, 1)) (h : sm_ex cal sc mi k pc L st M (.iastore) = some (M', r)) : sm_G p l e R s m args below meth c Q D cl τ B ad mi.2.2.1 m0 s0 pc L st M := by
  have hx := C0.1
  have hb := C0.2.1
  have hK := C0.2.2.2.2.2.2.1
  simp only [sm_ex] at h
  split at h
  · rename_i x i a r0
    replace h := sm_ia_some h
    obtain ⟨n, g, hg, h⟩ := h
    replace h := sm_ix_some h
    obtain ⟨hi, h⟩ := h
    intro H locs ls cells slots hP hm hS hLl hL h1 h2
    refine va_iast hx hb hK hP (sm_D hm) hS a 0 (sm_w_at hg) rfl hi hd (fun H1 locs1 hP1 _ hS1 => ?_)
    refine ih _ _ _ _ h H1 locs1 ls cells slots ?_ (by rw [sm_set_len]; exact hm) hS1 hLl hL (by rw [sm_set_len]; exact h1) (h2.trans (sm_set_sl hg (by rfl)).symm)
    rw [← sm_w_put]
    exact hP1
  · cases h
set_option maxHeartbeats 1000000 in
theorem sg_lastore {p : Program} {l : Launch} {e : Env} {R : Room} {s : State} {m : MethodId} {args : Array Value} {below : List Frame} {meth : Method} {c : Code} {Q : State → Prop} {D : va_G} {cl : List vw_C} {τ : Nat → ClassId} {B : Nat} {ad : Nat → Nat} {TB NB : List Cond} {SK : sm_SKt} {XT : State → Heap → Prop} {mi : sm_MI} {M' : sm_M} {m0 s0 : Nat} {cal : Nat → List Value → sm_M → sm_R} {sc : Option (Nat × (Nat → Int32))} {k : Nat → sm_L → List Value → sm_M → sm_R} {r : Option Value} {pc : Nat} {L : sm_L} {st : List Value} {M : sm_M}  (C0 : sm_C p s m args meth c D cl τ B ad TB NB SK XT m0 mi) (ih : ∀ pc L st M, k pc L st M = some (M', r) → sm_G p l e R s m args below meth c Q D cl τ B ad mi.2.2.1 m0 s0 pc L st M) (hd : decode mi.2.1 pc = .ok (.lastore, 1)) (h : sm_ex cal sc mi k pc L st M (.lastore) = some (M', r)) : sm_G p l e R s m args below meth c Q D cl τ B ad mi.2.2.1 m0 s0 pc L st M := by
  have hx := C0.1
  have hb := C0.2.1
  have hK := C0.2.2.2.2.2.2.1
  simp only [sm_ex] at h
  split at h
  · rename_i x i a r0
    replace h := sm_la_some h
    obtain ⟨n, g, hg, h⟩ := h
    replace h := sm_ix_some h
    obtain ⟨hi, h⟩ := h
    intro H locs ls cells slots hP hm hS hLl hL h1 h2
    refine va_last hx hb hK hP (sm_D hm) hS a 1 (sm_w_at hg) rfl hi hd (fun H1 locs1 hP1 _ hS1 => ?_)
    refine ih _ _ _ _ h H1 locs1 ls cells slots ?_ (by rw [sm_set_len]; exact hm) hS1 hLl hL (by rw [sm_set_len]; exact h1) (h2.trans (sm_set_sl hg (by rfl)).symm)
    rw [← sm_w_put]
    exact hP1
  · cases h
set_option maxHeartbeats 1000000 in
theorem sg_arraylength {p : Program} {l : Launch} {e : Env} {R : Room} {s : State} {m : MethodId} {args : Array Value} {below : List Frame} {meth : Method} {c : Code} {Q : State → Prop} {D : va_G} {cl : List vw_C} {τ : Nat → ClassId} {B : Nat} {ad : Nat → Nat} {TB NB : List Cond} {SK : sm_SKt} {XT : State → Heap → Prop} {mi : sm_MI} {M' : sm_M} {m0 s0 : Nat} {cal : Nat → List Value → sm_M → sm_R} {sc : Option (Nat × (Nat → Int32))} {k : Nat → sm_L → List Value → sm_M → sm_R} {r : Option Value} {pc : Nat} {L : sm_L} {st : List Value} {M : sm_M} (hsc : sm_okX B ad s sc) (C0 : sm_C p s m args meth c D cl τ B ad TB NB SK XT m0 mi) (ih : ∀ pc L st M, k pc L st M = some (M', r) → sm_G p l e R s m args below meth c Q D cl τ B ad mi.2.2.1 m0 s0 pc L st M) (hd : decode mi.2.1 pc = .ok (.arraylength, 1)) (h : sm_ex cal sc mi k pc L st M (.arraylength) = some (M', r)) : sm_G p l e R s m args below meth c Q D cl τ B ad mi.2.2.1 m0 s0 pc L st M := by
  have hx := C0.1
  have hb := C0.2.1
  have hK := C0.2.2.2.2.2.2.1
  replace h := sm_r1_some h
  obtain ⟨a, r0, rfl, h⟩ := h
  split at h
  · rename_i hb1
    have ha := Nat.eq_of_beq_eq_true hb1
    subst ha
    split at h
    · rename_i n g
      obtain ⟨hX, hbl, hbA⟩ := hsc _ _ rfl
      intro H locs ls cells slots hP hm hS hLl hL h1 h2
      refine va_slen hx hb hX hbl hbA hS hd ?_
      exact ih _ _ _ _ h H locs ls cells slots hP hm hS hLl hL h1 h2
    · cases h
  · replace h := sm_len_some h
    obtain ⟨n, hg, h⟩ := h
    intro H locs ls cells slots hP hm hS hLl hL h1 h2
    rcases hg with ⟨g, hg⟩ | ⟨g, hg⟩
    · refine va_alen hx hb hK hP a 0 (sm_w_at hg) (ty := .int) rfl rfl hd ?_
      exact ih _ _ _ _ h H locs ls cells slots hP hm hS hLl hL h1 h2
    · refine va_alen hx hb hK hP a 1 (sm_w_at hg) (ty := .long) rfl rfl hd ?_
      exact ih _ _ _ _ h H locs ls cells slots hP hm hS hLl hL h1 h2
/-- a new cell behind the others -/
theorem sm_push {D : va_G} {cl : List vw_C} {τ : Nat → ClassId} {B : Nat} {ad : Nat → Nat} {M : sm_M} {H H1 : Heap} {ev : va_E} (hP : va_P D cl (sm_w τ B ad 0 M) H) (hlt : M.length < 1000) (hz : H.size = B + M.length) (o1 : ∀ q, q < H.size → H1[q]? = H[q]?) (he : va_at D cl (B + M.length, sm_ce τ B ad ev) H1) : va_P D cl (sm_w τ B ad 0 (M ++ [ev])) H1 := by
  rw [sm_w_app, Nat.zero_add, sm_rho_lt hlt]
  refine (hP.kept (fun k x hx => o1 x.1 ((hP k x hx).lt))).app (fun k x hx => ?_)
  have hz : k < 1 := (List.getElem?_eq_some_iff.mp hx).1
  rw [show k = 0 by omega] at hx
  cases hx
  exact he
theorem sm_push_S {A : Nat → Prop} {H0 H H1 : Heap} {locs : List Loc} (hS : va_S A H0 H locs) (z1 : H1.size = H.size + 1) (o1 : ∀ q, q < H.size → H1[q]? = H[q]?) : va_S A H0 H1 locs := ⟨Nat.le_trans hS.1 (by omega), fun x h1 h2 => (o1 x (Nat.lt_of_lt_of_le h1 hS.1)).trans (hS.2.1 x h1 h2), hS.2.2⟩
set_option maxHeartbeats 1000000 in
theorem sg_newarray {p : Program} {l : Launch} {e : Env} {R : Room} {s : State} {m : MethodId} {args : Array Value} {below : List Frame} {meth : Method} {c : Code} {Q : State → Prop} {D : va_G} {cl : List vw_C} {τ : Nat → ClassId} {B : Nat} {ad : Nat → Nat} {TB NB : List Cond} {SK : sm_SKt} {XT : State → Heap → Prop} {mi : sm_MI} {M' : sm_M} {m0 s0 : Nat} {cal : Nat → List Value → sm_M → sm_R} {sc : Option (Nat × (Nat → Int32))} {k : Nat → sm_L → List Value → sm_M → sm_R} {r : Option Value} {pc : Nat} {L : sm_L} {st : List Value} {M : sm_M} {t : ArrayType} (hAI : Cond.arrayClass .int ∈ TB) (hAL : Cond.arrayClass .long ∈ TB) (hk : ∀ pc L st M, k pc L st M = some (M', r) → M.length ≤ M'.length ∧ sm_sl M ≤ sm_sl M') (hRc : M'.length ≤ R.cells + m0) (hRs : sm_sl M' ≤ R.slots + s0) (C0 : sm_C p s m args meth c D cl τ B ad TB NB SK XT m0 mi) (ih : ∀ pc L st M, k pc L st M = some (M', r) → sm_G p l e R s m args below meth c Q D cl τ B ad mi.2.2.1 m0 s0 pc L st M) (hd : decode mi.2.1 pc = .ok (.newarray t, 2)) (h : sm_ex cal sc mi k pc L st M (.newarray t) = some (M', r)) : sm_G p l e R s m args below meth c Q D cl τ B ad mi.2.2.1 m0 s0 pc L st M := by
  have hx := C0.1
  have hb := C0.2.1
  have hts := C0.2.2.2.2.1
  have hK := C0.2.2.2.2.2.2.1
  have h0 := C0.2.2.2.2.2.2.2.2.2.1
  replace h := sm_i1_some h
  obtain ⟨x, r0, rfl, h⟩ := h
  split at h
  · cases h
  · rename_i hneg
    split at h
    · rename_i hbb
      simp only [Bool.and_eq_true] at hbb
      have hbig : x.toNatClampNeg ≤ 100000 := by simpa using hbb.1
      have hlt : M.length < 1000 := by simpa using hbb.2
      have hmono : ∀ e : va_E, sm_sz e = x.toNatClampNeg → ∀ pc L st, k pc L st (M ++ [e]) = some (M', r) → M.length + 1 ≤ M'.length ∧ sm_sl M + x.toNatClampNeg ≤ sm_sl M' := by
        intro e he pc L st h
        have h3 := hk _ _ _ _ h
        rw [sm_sl_app, List.length_append, he] at h3
        exact h3
      split at h
      · intro H locs ls cells slots hP hm hS hLl hL h1 h2
        obtain ⟨g1, g2⟩ := hmono (.inl (0, x.toNatClampNeg, .inl (fun _ => 0))) rfl _ _ _ h
        refine sm_size_le (fun hle => ?_)
        have hz := sm_size hP hm hS h0 h1 hle
        refine va_newaK (atype := .int) hx hb (hts _ hAI) rfl hd rfl hneg rfl (by show _ * 4 ≤ _; omega) (by omega) (by omega) hz (fun H1 cA e1 z1 o1 hAr hNm => ?_)
        have hcA : cA = τ 0 := Option.some.inj (hNm.symm.trans (hK.2 0 _ rfl).2)
        subst hcA
        have hP1 := sm_push (ev := .inl (0, x.toNatClampNeg, .inl (fun _ => 0))) hP hlt hz (fun q hq => o1 q (by omega)) e1
        have hS1 := sm_push_S hS (by omega) (fun q hq => o1 q (by omega))
        have hW := ih _ _ _ _ h H1 locs ls (cells + 1) (slots + x.toNatClampNeg) hP1 (by simp; omega) hS1 hLl hL (by simp; omega) (by rw [sm_sl_app]; show _ = _ + x.toNatClampNeg; omega)
        rw [show (Value.ref M.length :: r0).map (sm_cv B ad) = .ref (B + M.length) :: r0.map (sm_cv B ad) from by rw [← sm_rho_lt (ad := ad) hlt]; rfl] at hW
        exact hW
      · intro H locs ls cells slots hP hm hS hLl hL h1 h2
        obtain ⟨g1, g2⟩ := hmono (.inl (1, x.toNatClampNeg, .inr (.inl (fun _ => 0)))) rfl _ _ _ h
        refine sm_size_le (fun hle => ?_)
        have hz := sm_size hP hm hS h0 h1 hle
        refine va_newaK (atype := .long) hx hb (hts _ hAL) rfl hd rfl hneg rfl (by show _ * 8 ≤ _; omega) (by omega) (by omega) hz (fun H1 cA e1 z1 o1 hAr hNm => ?_)
        have hcA : cA = τ 1 := Option.some.inj (hNm.symm.trans (hK.2 1 _ rfl).2)
        subst hcA
        have hP1 := sm_push (ev := .inl (1, x.toNatClampNeg, .inr (.inl (fun _ => 0)))) hP hlt hz (fun q hq => o1 q (by omega)) e1
        have hS1 := sm_push_S hS (by omega) (fun q hq => o1 q (by omega))
        have hW := ih _ _ _ _ h H1 locs ls (cells + 1) (slots + x.toNatClampNeg) hP1 (by simp; omega) hS1 hLl hL (by simp; omega) (by rw [sm_sl_app]; show _ = _ + x.toNatClampNeg; omega)
        rw [show (Value.ref M.length :: r0).map (sm_cv B ad) = .ref (B + M.length) :: r0.map (sm_cv B ad) from by rw [← sm_rho_lt (ad := ad) hlt]; rfl] at hW
        exact hW
      · cases h
    · cases h
set_option maxHeartbeats 1000000 in
theorem sg_new {p : Program} {l : Launch} {e : Env} {R : Room} {s : State} {m : MethodId} {args : Array Value} {below : List Frame} {meth : Method} {c : Code} {Q : State → Prop} {D : va_G} {cl : List vw_C} {τ : Nat → ClassId} {B : Nat} {ad : Nat → Nat} {TB NB : List Cond} {SK : sm_SKt} {XT : State → Heap → Prop} {mi : sm_MI} {M' : sm_M} {m0 s0 : Nat} {cal : Nat → List Value → sm_M → sm_R} {sc : Option (Nat × (Nat → Int32))} {k : Nat → sm_L → List Value → sm_M → sm_R} {r : Option Value} {pc : Nat} {L : sm_L} {st : List Value} {M : sm_M} {x : Nat} (hN : sm_okN cl TB mi) (hk : ∀ pc L st M, k pc L st M = some (M', r) → M.length ≤ M'.length ∧ sm_sl M ≤ sm_sl M') (hRc : M'.length ≤ R.cells + m0) (hRs : sm_sl M' ≤ R.slots + s0) (C0 : sm_C p s m args meth c D cl τ B ad TB NB SK XT m0 mi) (ih : ∀ pc L st M, k pc L st M = some (M', r) → sm_G p l e R s m args below meth c Q D cl τ B ad mi.2.2.1 m0 s0 pc L st M) (hd : decode mi.2.1 pc = .ok (.new x, 3)) (h : sm_ex cal sc mi k pc L st M (.new x) = some (M', r)) : sm_G p l e R s m args below meth c Q D cl τ B ad mi.2.2.1 m0 s0 pc L st M := by
  have hx := C0.1
  have hb := C0.2.1
  have hown := C0.2.2.2.1
  have hts := C0.2.2.2.2.1
  have hK := C0.2.2.2.2.2.2.1
  have h0 := C0.2.2.2.2.2.2.2.2.2.1
  simp only [sm_ex] at h
  split at h
  · rename_i ci fs hf
    split at h
    · rename_i hbb
      have hlt : M.length < 1000 := by simpa using hbb
      obtain ⟨C, T, N, ty0, hc, hin, hty, hcl, hins, hini, hlen, hmap, hdf⟩ := hN _ _ _ hf
      have h3 := hk _ _ _ _ h
      rw [sm_sl_app, List.length_append] at h3
      have g1 : M.length + 1 ≤ M'.length := h3.1
      have g2 : sm_sl M + N ≤ sm_sl M' := by have := h3.2; rw [show sm_sz (.inr (ci, fs)) = N from hlen] at this; exact this
      intro H locs ls cells slots hP hm hS hLl hL h1 h2
      refine sm_size_le (fun hle => ?_)
      have hz := sm_size hP hm hS h0 h1 hle
      have hKn := hK.1 ci _ hc
      refine W.newcK hx hb hown (hts _ hcl) (hts _ hins) (hts _ hini) rfl hd (by omega) (by omega) hKn.2.1 hz fun H1 kC hkC e1 z1 o1 => ?_
      have hP1 := sm_push (ev := .inr (ci, fs)) hP hlt hz (fun q hq => o1 q (by omega)) ⟨_, hc, by
        rw [hmap]
        exact (u_born ty0 hts hin hKn hkC e1 hty).to hdf⟩
      have hS1 := sm_push_S hS (by omega) (fun q hq => o1 q (by omega))
      have hW := ih _ _ _ _ h H1 locs ls (cells + 1) (slots + N) hP1 (by simp; omega) hS1 hLl hL (by simp; omega) (by rw [sm_sl_app, show sm_sz (.inr (ci, fs)) = N from hlen]; omega)
      rw [show (Value.ref M.length :: st).map (sm_cv B ad) = .ref (B + M.length) :: st.map (sm_cv B ad) from by rw [← sm_rho_lt (ad := ad) hlt]; rfl] at hW
      exact hW
    · cases h
  · cases h

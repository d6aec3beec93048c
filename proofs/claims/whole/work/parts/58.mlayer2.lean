/-! the reference: isTop, number, layers, layer -/
theorem lFo_num {T : Nat → Nat → Bool} {P : Nat → Bool} {t : Nat} : ∀ {k : Nat}, (lFo T P k).2.1 t ≤ k := by
  intro k
  induction k with
  | zero => exact Nat.le_refl _
  | succ k ih =>
    rw [lFo]
    unfold lNx
    cases hb : lBest T (lFo T P k).1 with
    | none => show (lFo T P k).2.1 t ≤ _; omega
    | some q =>
      show (if scc T q t then (lFo T P k).2.2 else (lFo T P k).2.1 t) ≤ _
      have := lFo_le (T := T) (P := P) (k := k)
      split <;> omega
def lyG (P : Nat → Bool) (q : lSt) (t : Nat) : Int32 := if P t && !q.1 t then nI (q.2.1 t) else -1
/-- each below itself -/
def rfT (T : Nat → Nat → Bool) (P : Nat → Bool) (s t : Nat) : Bool := T s t || (decide (s = t) && P s)
theorem rf_top {T : Nat → Nat → Bool} {P : Nat → Bool} {s t : Nat} (hs : P s = true) : (rfT T P t s = true ∧ rfT T P s t = false) ↔ (T t s = true ∧ T s t = false) := by
  unfold rfT
  by_cases h : s = t
  · subst h
    rw [hs, decide_eq_true rfl]
    cases T s s <;> simp
  · rw [decide_eq_false h, decide_eq_false (fun z => h z.symm)]
    simp
theorem rf_scc {T : Nat → Nat → Bool} {P : Nat → Bool} {s t : Nat} (hs : P s = true) : (rfT T P s t && rfT T P t s) = scc T s t := by
  unfold rfT scc
  by_cases h : s = t
  · subst h
    rw [hs, decide_eq_true rfl]
    simp
  · rw [decide_eq_false h, decide_eq_false (fun z => h z.symm)]
    cases T s t <;> simp
section
variable (sc : sm_S) (I : Nat → Int32) (A : Nat → Nat → Int32) (B : Nat → Nat → Int64) (f : Nat → va_E) (w h n : Nat) (V : Nat → Int32) (a b c d : Nat)
set_option maxHeartbeats 4000000 in
set_option maxRecDepth 20000 in
theorem mIsTop (T : Nat → Nat → Bool) (O : Nat → Bool) (s : Nat) (hs : inP a b c d s = true) (hb : b < 48) (hd : d < 48) (hab : a ≤ b) (hcd : c ≤ d) (hR : RwOk (inP a b c d) (rfT T (inP a b c d)) 96 (B 2) (B 3)) (hO : ∀ t, t < 96 → inP a b c d t = true → (0 ≤ A 20 t ↔ O t = false)) (hOP : ∀ t, O t = true → inP a b c d t = true) : zC 3 sc 217 [.ref 47, .int (nI s), .int (nI a), .int (nI b), .int (nI c), .int (nI d)] (mm f I A B) (zR (mm f I A B) (.int (if top T O s then 1 else 0))) := by
  have hs96 := inP_lt hd hs
  obtain ⟨s2, s3⟩ := hR s hs hs96
  have key : ∀ (k i : Nat), i + k = 96 → (∀ t, t < i → O t = true → T t s = true → T s t = true) → zW 2 sc miX11_isTop 3 [some (.ref 47), some (.int (nI s)), some (.int (nI a)), some (.int (nI b)), some (.int (nI c)), some (.int (nI d)), some (.int (nI i))] [] (mm f I A B) (zR (mm f I A B) (.int (if top T O s then 1 else 0))) := by
    intro k
    induction k with
    | zero =>
      intro i hi hq
      have e : i = 96 := by omega
      subst e
      refine zw_nx rfl (fun _ _ => rfl) ?_
      repeat (refine zw_go rfl rfl (fun _ _ => rfl) ?_)
      exact zw_ret rfl (fun _ _ => rfl) (⟨rfl, by rw [if_pos (top_iff.mpr hq)]; rfl⟩)
    | succ k ih =>
      intro i hi hq
      have go : (O i = true → T i s = true → T s i = true) → zW 2 sc miX11_isTop 3 [some (.ref 47), some (.int (nI s)), some (.int (nI a)), some (.int (nI b)), some (.int (nI c)), some (.int (nI d)), some (.int (nI i + 1))] [] (mm f I A B) (zR (mm f I A B) (.int (if top T O s then 1 else 0))) := fun h1 => by
        have hn := ih (i + 1) (by omega) (fun t ht h2 h3 => by
          by_cases h4 : t = i
          · subst h4; exact h1 h2 h3
          · exact hq t (by omega) h2 h3)
        rw [nI_succ] at hn
        exact hn
      refine zw_nx rfl (fun _ _ => rfl) ?_
      repeat (refine zw_go rfl rfl (fun _ _ => rfl) ?_)
      refine zw_br rfl (fun _ _ => rfl) (fun h9 => absurd h9 (nI_ge (a := i) (b := 96) (by omega) (by omega))) (fun _ => ?_)
      repeat (refine zw_go rfl rfl (fun _ _ => rfl) ?_)
      refine zw_call rfl (fun _ _ => rfl) (mIsStrand sc a b c d (mm f I A B) i (by omega) hb hd hab hcd) (by decide) ?_
      rintro M1 r1 ⟨rfl, rfl⟩
      cases hin : inP a b c d i
      · have hn := go (fun h2 => by rw [hOP i h2] at hin; cases hin)
        repeat (refine zw_go rfl rfl (fun _ _ => rfl) ?_)
        exact zw_kp hn
      · obtain ⟨i2, i3⟩ := hR i hin (by omega)
        repeat (refine zw_go rfl rfl (fun _ _ => rfl) ?_)
        refine zw_ix rfl (fun _ _ => rfl) (show vp_in (nI (i)) _ from vp_in_nI (by omega) (by omega)) ?_
        rw [show (nI (i)).toNatClampNeg = i from nI_clamp (by omega)]
        repeat (refine zw_go rfl rfl (fun _ _ => rfl) ?_)
        refine zw_br rfl (fun _ _ => rfl) (fun (hc : 0 ≤ A 20 i) => ?_) (fun (hc : ¬ (0 ≤ A 20 i)) => ?_)
        · have hn := go (fun h2 => by rw [(hO i (by omega) hin).mp hc] at h2; cases h2)
          repeat (refine zw_go rfl rfl (fun _ _ => rfl) ?_)
          exact zw_kp hn
        · have hop : O i = true := by
            cases h2 : O i
            · exact absurd ((hO i (by omega) hin).mpr h2) hc
            · rfl
          repeat (refine zw_go rfl rfl (fun _ _ => rfl) ?_)
          refine zw_call rfl (fun _ _ => rfl) (mIsAbove sc I A B f (rfT T (inP a b c d)) i s (by omega) hs96 i2 i3) (by decide) ?_
          rintro M1 r1 ⟨rfl, rfl⟩
          cases h5 : rfT T (inP a b c d) i s
          · have hn := go (fun _ h2 => by
              unfold rfT at h5
              rw [h2] at h5; cases h5)
            repeat (refine zw_go rfl rfl (fun _ _ => rfl) ?_)
            exact zw_kp hn
          · repeat (refine zw_go rfl rfl (fun _ _ => rfl) ?_)
            refine zw_call rfl (fun _ _ => rfl) (mIsAbove sc I A B f (rfT T (inP a b c d)) s i hs96 (by omega) s2 s3) (by decide) ?_
            rintro M1 r1 ⟨rfl, rfl⟩
            cases h6 : rfT T (inP a b c d) s i
            · have h7 := (rf_top hs).mp ⟨h5, h6⟩
              repeat (refine zw_go rfl rfl (fun _ _ => rfl) ?_)
              exact zw_ret rfl (fun _ _ => rfl) (⟨rfl, by rw [if_neg (fun z => by rw [top_iff.mp z i (by omega) hop h7.1] at h7; cases h7.2)]; rfl⟩)
            · have hn := go (fun _ h2 => by
                cases h7 : T s i
                · have := ((rf_top hs).mpr ⟨h2, h7⟩).2
                  rw [h6] at this; cases this
                · rfl)
              repeat (refine zw_go rfl rfl (fun _ _ => rfl) ?_)
              exact zw_kp hn
  refine zc_of hkX11_isTop rfl ?_
  repeat (refine zw_go rfl rfl (fun _ _ => rfl) ?_)
  exact zw_kp (key 96 0 (by omega) (fun t ht => by omega))
/-- what number leaves -/
def LyM (f : Nat → va_E) (I : Nat → Int32) (A : Nat → Nat → Int32) (B : Nat → Nat → Int64) (V : Nat → Int32) (a b c d : Nat) (M : sm_M) : Prop := ∃ I' A' B' T, M = mm f I' A' B' ∧ Cl V a b c d T ∧ I' 20 = nI (lFo T (inP a b c d) 96).2.2 ∧ (∀ t, t < 96 → A' 20 t = if inP a b c d t then nI ((lFo T (inP a b c d) 96).2.1 t) else -1) ∧ MK I A B I' A' B'
set_option maxHeartbeats 4000000 in
set_option maxRecDepth 20000 in
theorem mNumber_l (T : Nat → Nat → Bool) (hT : Cl V a b c d T) (hb : b < 48) (hd : d < 48) (hab : a ≤ b) (hcd : c ≤ d) (hR : RwOk (inP a b c d) (rfT T (inP a b c d)) 96 (B 2) (B 3)) (Post : sm_M → Option Value → Prop) (hend : ∀ I' g, I' 20 = nI (lFo T (inP a b c d) 96).2.2 → (∀ t, t < 96 → g t = if inP a b c d t then nI ((lFo T (inP a b c d) 96).2.1 t) else -1) → (∀ z, z ≠ 20 → I' z = I z) → Post (mm f I' (va_up A 20 g) B) none) : ∀ (m k : Nat) (I' : Nat → Int32) (g : Nat → Int32), cnt (lFo T (inP a b c d) k).1 96 ≤ m → k + cnt (lFo T (inP a b c d) k).1 96 ≤ 96 → I' 20 = nI (lFo T (inP a b c d) k).2.2 → (∀ t, t < 96 → g t = lyG (inP a b c d) (lFo T (inP a b c d) k) t) → (∀ z, z ≠ 20 → I' z = I z) → zW 4 sc miX11_number 45 [some (.ref 47), some (.int (nI a)), some (.int (nI b)), some (.int (nI c)), some (.int (nI d)), some (.int 1), none, none] [] (mm f I' (va_up A 20 g) B) Post := by
  intro m
  induction m using Nat.strongRecOn with
  | _ m ihm =>
    intro k I' g hm hk h20 hg hI
    have hO : ∀ t, t < 96 → inP a b c d t = true → (0 ≤ g t ↔ (lFo T (inP a b c d) k).1 t = false) := fun t ht hin => by
      rw [hg t ht]
      unfold lyG
      rw [hin]
      cases h1 : (lFo T (inP a b c d) k).1 t
      · rw [if_pos (by decide)]
        have := lFo_num (T := T) (P := inP a b c d) (t := t) (k := k)
        exact ⟨fun _ => rfl, fun _ => nI_pos' (by omega)⟩
      · rw [if_neg (by decide)]
        exact ⟨fun z => absurd z (by decide), fun z => by cases z⟩
    have hOP : ∀ t, (lFo T (inP a b c d) k).1 t = true → inP a b c d t = true := fun t ht => lFo_sub ht
    -- none on top: the end
    have none_end : ∀ z7 : Int32, lBest T (lFo T (inP a b c d) k).1 = none → zW 4 sc miX11_number 115 [some (.ref 47), some (.int (nI a)), some (.int (nI b)), some (.int (nI c)), some (.int (nI d)), none, some (.int (-1)), some (.int z7)] [] (mm f I' (va_up A 20 g) B) Post := by
      intro z7 hbest
      have h96 : lFo T (inP a b c d) 96 = lFo T (inP a b c d) k := by
        have := lFo_stop hbest (96 - k)
        rw [show k + (96 - k) = 96 by omega] at this
        exact this
      have hcl := lFo_empty (P := inP a b c d) (cl_trans hT)
      rw [h96] at hcl
      refine zw_nx rfl (fun _ _ => rfl) ?_
      first | refine zw_br rfl (fun _ _ => rfl) (fun _ => ?_) (fun h9 => absurd ((by decide : (-1 : Int32) < 0)) h9) | refine zw_nx rfl (fun _ _ => rfl) ?_
      repeat (refine zw_go rfl rfl (fun _ _ => rfl) ?_)
      refine zw_nx rfl (fun _ _ => rfl) ?_
      repeat (refine zw_go rfl rfl (fun _ _ => rfl) ?_)
      refine zw_nx rfl (fun _ _ => rfl) ?_
      repeat (refine zw_go rfl rfl (fun _ _ => rfl) ?_)
      refine zw_ret rfl (fun _ _ => rfl) ?_
      refine hend I' g (by rw [h96]; exact h20) (fun t ht => ?_) hI
      rw [h96, hg t ht]
      unfold lyG
      rw [hcl t ht]
      simp
    -- the numbers of a layer
    have give : ∀ s, lBest T (lFo T (inP a b c d) k).1 = some s → ∀ (j i : Nat), i + j = 96 → zW 4 sc miX11_number 130 [some (.ref 47), some (.int (nI a)), some (.int (nI b)), some (.int (nI c)), some (.int (nI d)), some (.int 1), some (.int (nI s)), some (.int (nI i))] [] (mm f I' (va_up A 20 (nuG T (inP a b c d) s i (I' 20) g)) B) Post := by
      intro s hbest j
      obtain ⟨b1, b2', b3⟩ := best_in hbest
      have hin := hOP s b2'
      obtain ⟨s2, s3⟩ := hR s hin b1
      induction j with
      | zero =>
        intro i hi
        have e : i = 96 := by omega
        subst e
        have hless := lGo_less (T := T) (q := lFo T (inP a b c d) k) b1 b2'
        have hnx : lFo T (inP a b c d) (k + 1) = lGo T (lFo T (inP a b c d) k) s := by
          rw [lFo]; unfold lNx; rw [hbest]
        have hn := ihm (cnt (lFo T (inP a b c d) (k + 1)).1 96) (by rw [hnx]; omega) (k + 1) (upd I' 20 (I' 20 + 1)) (nuG T (inP a b c d) s 96 (I' 20) g) (Nat.le_refl _) (by rw [hnx]; omega) (by
          rw [hnx]
          show I' 20 + 1 = nI ((lFo T (inP a b c d) k).2.2 + 1)
          rw [h20, nI_succ]) (fun t ht => by
          rw [hnx]
          show (if t < 96 ∧ inP a b c d t = true ∧ scc T s t = true then I' 20 else g t) = if inP a b c d t && !((lFo T (inP a b c d) k).1 t && !scc T s t) then nI (if scc T s t then (lFo T (inP a b c d) k).2.2 else (lFo T (inP a b c d) k).2.1 t) else -1
          rw [hg t ht, h20]
          unfold lyG
          cases h1 : inP a b c d t
          · simp
          · cases h2 : scc T s t
            · simp
            · simp [ht]) (fun z hz => by unfold upd; rw [if_neg hz]; exact hI z hz)
        refine zw_nx rfl (fun _ _ => rfl) ?_
        repeat (refine zw_go rfl rfl (fun _ _ => rfl) ?_)
        exact zw_kp hn
      | succ j ih =>
        intro i hi
        have hn := ih (i + 1) (by omega)
        rw [nI_succ] at hn
        refine zw_nx rfl (fun _ _ => rfl) ?_
        repeat (refine zw_go rfl rfl (fun _ _ => rfl) ?_)
        refine zw_br rfl (fun _ _ => rfl) (fun h9 => absurd h9 (nI_ge (a := i) (b := 96) (by omega) (by omega))) (fun _ => ?_)
        repeat (refine zw_go rfl rfl (fun _ _ => rfl) ?_)
        refine zw_call rfl (fun _ _ => rfl) (mIsStrand sc a b c d (mm f I' (va_up A 20 (nuG T (inP a b c d) s i (I' 20) g)) B) i (by omega) hb hd hab hcd) (by decide) ?_
        rintro M1 r1 ⟨rfl, rfl⟩
        cases hi2 : inP a b c d i
        · rw [← nu_skip (n := i) (k := i + 1) (by omega) (fun t h1 h2 => by rw [show t = i by omega]; exact hi2)] at hn
          repeat (refine zw_go rfl rfl (fun _ _ => rfl) ?_)
          exact zw_kp hn
        · obtain ⟨i2, i3⟩ := hR i hi2 (by omega)
          repeat (refine zw_go rfl rfl (fun _ _ => rfl) ?_)
          refine zw_call rfl (fun _ _ => rfl) (mIsAbove sc I' (va_up A 20 (nuG T (inP a b c d) s i (I' 20) g)) B f (rfT T (inP a b c d)) s i b1 (by omega) s2 s3) (by decide) ?_
          rintro M1 r1 ⟨rfl, rfl⟩
          cases h5 : rfT T (inP a b c d) s i
          · rw [← nu_no (by rw [← rf_scc (P := inP a b c d) hin, h5]; rfl)] at hn
            repeat (refine zw_go rfl rfl (fun _ _ => rfl) ?_)
            exact zw_kp hn
          · repeat (refine zw_go rfl rfl (fun _ _ => rfl) ?_)
            refine zw_call rfl (fun _ _ => rfl) (mIsAbove sc I' (va_up A 20 (nuG T (inP a b c d) s i (I' 20) g)) B f (rfT T (inP a b c d)) i s (by omega) b1 i2 i3) (by decide) ?_
            rintro M1 r1 ⟨rfl, rfl⟩
            cases h6 : rfT T (inP a b c d) i s
            · rw [← nu_no (by rw [← rf_scc (P := inP a b c d) hin, h5, h6]; rfl)] at hn
              repeat (refine zw_go rfl rfl (fun _ _ => rfl) ?_)
              exact zw_kp hn
            · rw [← nu_yes hi2 (by rw [← rf_scc (P := inP a b c d) hin, h5, h6]; rfl)] at hn
              repeat (refine zw_go rfl rfl (fun _ _ => rfl) ?_)
              refine zw_ix rfl (fun _ _ => rfl) (show vp_in (nI (i)) _ from vp_in_nI (by omega) (by omega)) ?_
              rw [show (nI (i)).toNatClampNeg = i from nI_clamp (by omega)]
              repeat (refine zw_go rfl rfl (fun _ _ => rfl) ?_)
              exact zw_kp hn
    have some_end : ∀ (s : Nat) (z7 : Int32), lBest T (lFo T (inP a b c d) k).1 = some s → zW 4 sc miX11_number 115 [some (.ref 47), some (.int (nI a)), some (.int (nI b)), some (.int (nI c)), some (.int (nI d)), none, some (.int (nI s)), some (.int z7)] [] (mm f I' (va_up A 20 g) B) Post := by
      intro s z7 hbest
      have hn := give s hbest 96 0 (by omega)
      rw [nu_0] at hn
      refine zw_nx rfl (fun _ _ => rfl) ?_
      first | refine zw_br rfl (fun _ _ => rfl) (fun h9 => absurd h9 (nI_neg (show s < 2 ^ 31 by have := (best_in hbest).1; omega))) (fun _ => ?_) | refine zw_nx rfl (fun _ _ => rfl) ?_
      repeat (refine zw_go rfl rfl (fun _ _ => rfl) ?_)
      exact zw_kp hn
    -- the lowest on top
    have find : ∀ (j i : Nat), i + j = 96 → lBest T (lFo T (inP a b c d) k).1 = fO (fun s => (lFo T (inP a b c d) k).1 s && top T (lFo T (inP a b c d) k).1 s) (96 - i) i → zW 4 sc miX11_number 56 [some (.ref 47), some (.int (nI a)), some (.int (nI b)), some (.int (nI c)), some (.int (nI d)), none, some (.int (-1)), some (.int (nI i))] [] (mm f I' (va_up A 20 g) B) Post := by
      intro j
      induction j with
      | zero =>
        intro i hi hq
        have e : i = 96 := by omega
        subst e
        have hn := none_end (nI 96) (by rw [hq]; rfl)
        refine zw_nx rfl (fun _ _ => rfl) ?_
        refine zw_nx rfl (fun _ _ => rfl) ?_
        first | refine zw_br rfl (fun _ _ => rfl) (fun _ => ?_) (fun h9 => absurd ((Int32.le_refl _)) h9) | refine zw_nx rfl (fun _ _ => rfl) ?_
        exact hn
      | succ j ih =>
        intro i hi hq
        rw [fO_s (by omega)] at hq
        have go : ((lFo T (inP a b c d) k).1 i && top T (lFo T (inP a b c d) k).1 i) = false → zW 4 sc miX11_number 56 [some (.ref 47), some (.int (nI a)), some (.int (nI b)), some (.int (nI c)), some (.int (nI d)), none, some (.int (-1)), some (.int (nI i + 1))] [] (mm f I' (va_up A 20 g) B) Post := fun h1 => by
          have hn := ih (i + 1) (by omega) (by rw [hq, h1]; rfl)
          rw [nI_succ] at hn
          exact hn
        refine zw_nx rfl (fun _ _ => rfl) ?_
        refine zw_nx rfl (fun _ _ => rfl) ?_
        first | refine zw_br rfl (fun _ _ => rfl) (fun h9 => absurd h9 (nI_ge (a := i) (b := 96) (by omega) (by omega))) (fun _ => ?_) | refine zw_nx rfl (fun _ _ => rfl) ?_
        refine zw_nx rfl (fun _ _ => rfl) ?_
        first | refine zw_br rfl (fun _ _ => rfl) (fun h9 => absurd h9 ((by decide : ¬ (0 : Int32) ≤ -1))) (fun _ => ?_) | refine zw_nx rfl (fun _ _ => rfl) ?_
        repeat (refine zw_go rfl rfl (fun _ _ => rfl) ?_)
        refine zw_call rfl (fun _ _ => rfl) (mIsStrand sc a b c d (mm f I' (va_up A 20 g) B) i (by omega) hb hd hab hcd) (by decide) ?_
        rintro M1 r1 ⟨rfl, rfl⟩
        cases hin : inP a b c d i
        · have hn := go (by
            cases h2 : (lFo T (inP a b c d) k).1 i
            · rfl
            · rw [hOP i h2] at hin; cases hin)
          repeat (refine zw_go rfl rfl (fun _ _ => rfl) ?_)
          exact zw_kp hn
        · repeat (refine zw_go rfl rfl (fun _ _ => rfl) ?_)
          refine zw_ix rfl (fun _ _ => rfl) (show vp_in (nI (i)) _ from vp_in_nI (by omega) (by omega)) ?_
          rw [show (nI (i)).toNatClampNeg = i from nI_clamp (by omega)]
          repeat (refine zw_go rfl rfl (fun _ _ => rfl) ?_)
          refine zw_br rfl (fun _ _ => rfl) (fun (hc : 0 ≤ g i) => ?_) (fun (hc : ¬ (0 ≤ g i)) => ?_)
          · have hn := go (by rw [(hO i (by omega) hin).mp hc]; rfl)
            repeat (refine zw_go rfl rfl (fun _ _ => rfl) ?_)
            exact zw_kp hn
          · have hop : (lFo T (inP a b c d) k).1 i = true := by
              cases h2 : (lFo T (inP a b c d) k).1 i
              · exact absurd ((hO i (by omega) hin).mpr h2) hc
              · rfl
            repeat (refine zw_go rfl rfl (fun _ _ => rfl) ?_)
            refine zw_call rfl (fun _ _ => rfl) (mIsTop sc I' (va_up A 20 g) B f a b c d T (lFo T (inP a b c d) k).1 i hin hb hd hab hcd hR hO hOP) (by decide) ?_
            rintro M1 r1 ⟨rfl, rfl⟩
            cases ht : top T (lFo T (inP a b c d) k).1 i
            · have hn := go (by rw [hop, ht]; rfl)
              repeat (refine zw_go rfl rfl (fun _ _ => rfl) ?_)
              exact zw_kp hn
            · have hn := some_end i (nI i + 1) (by rw [hq, hop, ht]; rfl)
              repeat (refine zw_go rfl rfl (fun _ _ => rfl) ?_)
              refine zw_nx rfl (fun _ _ => rfl) ?_
              refine zw_nx rfl (fun _ _ => rfl) ?_
              by_cases h95 : i + 1 < 96
              · first | refine zw_br rfl (fun _ _ => rfl) (fun h9 => absurd h9 (show ¬ nI 96 ≤ nI i + 1 by rw [← nI_succ]; exact nI_ge (by omega) (by omega))) (fun _ => ?_) | refine zw_nx rfl (fun _ _ => rfl) ?_
                refine zw_nx rfl (fun _ _ => rfl) ?_
                first | refine zw_br rfl (fun _ _ => rfl) (fun _ => ?_) (fun h9 => absurd (nI_pos' (show i < 2 ^ 31 by omega)) h9) | refine zw_nx rfl (fun _ _ => rfl) ?_
                exact hn
              · first | refine zw_br rfl (fun _ _ => rfl) (fun _ => ?_) (fun h9 => absurd (show nI 96 ≤ nI i + 1 by rw [← nI_succ]; exact nI_le (by omega) (by omega)) h9) | refine zw_nx rfl (fun _ _ => rfl) ?_
                exact hn
    have st := find 96 0 (by omega) rfl
    refine zw_nx rfl (fun _ _ => rfl) ?_
    repeat (refine zw_go rfl rfl (fun _ _ => rfl) ?_)
    exact zw_kp st
set_option maxHeartbeats 4000000 in
set_option maxRecDepth 20000 in
theorem mNumber (hM : MH I A w h n V) (hab : a ≤ b) (hbw : b < w) (hcd : c ≤ d) (hdh : d < h) : zC 5 sc 216 [.ref 47, .int (nI a), .int (nI b), .int (nI c), .int (nI d)] (mm f I A B) (fun M r => r = none ∧ LyM f I A B V a b c d M) := by
  have hMM := hM
  obtain ⟨h0, h1, hw1, hw, hh1, hh, h4, hn, hv, hV⟩ := hM
  obtain ⟨T, hT⟩ := cl_ex V a b c d
  refine zc_of hkX11_number rfl ?_
  repeat (refine zw_go rfl rfl (fun _ _ => rfl) ?_)
  refine zw_call rfl (fun _ _ => rfl) (mD sc I A B f w h n V hMM) (by decide) ?_
  rintro M1 r1 ⟨rfl, A', B', rfl, hD⟩
  repeat (refine zw_go rfl rfl (fun _ _ => rfl) ?_)
  refine zw_call rfl (fun _ _ => rfl) (mReach sc I A' B' f w h V a b c d hab hbw hw hcd hdh hh hD.2.2.2.2.1 hD.2.2.2.2.2.1) (by decide) ?_
  rintro M1 r1 ⟨rfl, g2, g3, R, rfl, hR, hRt⟩
  have hRT : R = rfT T (inP a b c d) := by
    funext s t
    rw [Bool.eq_iff_iff, hRt, tg0_iff hT]
    rfl
  rw [hRT] at hR
  have fill : ∀ (k i : Nat), i + k = 96 → zW 4 sc miX11_number 21 [some (.ref 47), some (.int (nI a)), some (.int (nI b)), some (.int (nI c)), some (.int (nI d)), some (.int (nI i)), none, none] [] (mm f (upd I 20 0) (va_up A' 20 (wr (fun _ => -1) (A' 20) i)) (bR2 B' g2 g3)) (fun M r => r = none ∧ LyM f I A B V a b c d M) := by
    intro k
    induction k with
    | zero =>
      intro i hi
      have e : i = 96 := by omega
      subst e
      have hl := mNumber_l sc (upd I 20 0) A' (bR2 B' g2 g3) f V a b c d T hT (by omega) (by omega) hab hcd hR (fun M r => r = none ∧ LyM f I A B V a b c d M) (fun I' g e1 e2 e3 => ⟨rfl, I', va_up A' 20 g, bR2 B' g2 g3, T, rfl, hT, e1, e2, fun z hz => by
        rw [e3 z (by omega)]; unfold upd; rw [if_neg (by omega)], fun z hz => by
        unfold va_up; rw [if_neg (by omega)]; exact hD.2.2.2.2.2.2.1 z (by omega) (by omega) (by omega) (by omega), hD.2.2.2.2.2.2.1 8 (by decide) (by decide) (by decide) (by decide), hD.2.2.2.2.2.2.2 4 (by decide)⟩) 96 0 (upd I 20 0) (wr (fun _ => -1) (A' 20) 96) cnt_le (by have := cnt_le (p := (lFo T (inP a b c d) 0).1) (n := 96); omega) rfl (fun t ht => by
        rw [wr_in ht]
        show _ = if inP a b c d t && !inP a b c d t then _ else _
        cases inP a b c d t <;> rfl) (fun z hz => rfl)
      refine zw_nx rfl (fun _ _ => rfl) ?_
      repeat (refine zw_go rfl rfl (fun _ _ => rfl) ?_)
      exact zw_kp hl
    | succ k ih =>
      intro i hi
      have hn := ih (i + 1) (by omega)
      rw [nI_succ, ← wr_s] at hn
      refine zw_nx rfl (fun _ _ => rfl) ?_
      repeat (refine zw_go rfl rfl (fun _ _ => rfl) ?_)
      refine zw_br rfl (fun _ _ => rfl) (fun h9 => absurd h9 (nI_ge (a := i) (b := 96) (by omega) (by omega))) (fun _ => ?_)
      repeat (refine zw_go rfl rfl (fun _ _ => rfl) ?_)
      refine zw_ix rfl (fun _ _ => rfl) (show vp_in (nI (i)) _ from vp_in_nI (by omega) (by omega)) ?_
      rw [show (nI (i)).toNatClampNeg = i from nI_clamp (by omega)]
      repeat (refine zw_go rfl rfl (fun _ _ => rfl) ?_)
      exact zw_kp hn
  have st := fill 96 0 (by omega)
  rw [wr_0, va_up_id] at st
  repeat (refine zw_go rfl rfl (fun _ _ => rfl) ?_)
  exact zw_kp st
set_option maxHeartbeats 4000000 in
set_option maxRecDepth 20000 in
theorem mIsPart (x y u v : Int32) (h0 : I 0 = nI w) (h1 : I 1 = nI h) (hw1 : 1 ≤ w) (hw : w ≤ 48) (hh1 : 1 ≤ h) (hh : h ≤ 48) : zC 2 sc 211 [.ref 47, .int x, .int y, .int u, .int v] (mm f I A B) (fun M r => M = mm f I A B ∧ ((r = some (.int 0) ∧ ¬ gPart w h x y u v) ∨ (r = some (.int 1) ∧ gPart w h x y u v))) := by
  have no : ¬ gPart w h x y u v → zW 1 sc miX11_isPart 61 [some (.ref 47), some (.int x), some (.int y), some (.int u), some (.int v)] [] (mm f I A B) (fun M r => M = mm f I A B ∧ ((r = some (.int 0) ∧ ¬ gPart w h x y u v) ∨ (r = some (.int 1) ∧ gPart w h x y u v))) := fun hn => by
    repeat (refine zw_go rfl rfl (fun _ _ => rfl) ?_)
    exact zw_ret rfl (fun _ _ => rfl) (⟨rfl, Or.inl ⟨rfl, hn⟩⟩)
  have ew : ∀ z : Int32, z ≤ I 0 - 1 ↔ z < nI w := fun z => by rw [h0, le_pred hw1 (by omega)]
  have eh : ∀ z : Int32, z ≤ I 1 - 1 ↔ z < nI h := fun z => by rw [h1, le_pred hh1 (by omega)]
  refine zc_of hkX11_isPart rfl ?_
  repeat (refine zw_go rfl rfl (fun _ _ => rfl) ?_)
  refine zw_call rfl (fun _ _ => rfl) (mIsIn sc (mm f I A B) x 0 (I 0 - 1)) (by decide) ?_
  rintro M1 r1 ⟨rfl, rfl⟩
  refine zw_br rfl (fun _ _ => rfl) (fun (c1 : bI (0 ≤ x ∧ x ≤ I 0 - 1) = 0) => ?_) (fun (c1 : ¬ (bI (0 ≤ x ∧ x ≤ I 0 - 1) = 0)) => ?_)
  · exact no (fun g => bI_0.mp c1 ⟨g.1.1, (ew x).mpr g.1.2⟩)
  · repeat (refine zw_go rfl rfl (fun _ _ => rfl) ?_)
    refine zw_call rfl (fun _ _ => rfl) (mIsIn sc (mm f I A B) y x (I 0 - 1)) (by decide) ?_
    rintro M1 r1 ⟨rfl, rfl⟩
    refine zw_br rfl (fun _ _ => rfl) (fun (c2 : bI (x ≤ y ∧ y ≤ I 0 - 1) = 0) => ?_) (fun (c2 : ¬ (bI (x ≤ y ∧ y ≤ I 0 - 1) = 0)) => ?_)
    · exact no (fun g => bI_0.mp c2 ⟨g.2.2.1, (ew y).mpr g.2.1.2⟩)
    · repeat (refine zw_go rfl rfl (fun _ _ => rfl) ?_)
      refine zw_call rfl (fun _ _ => rfl) (mIsIn sc (mm f I A B) u 0 (I 1 - 1)) (by decide) ?_
      rintro M1 r1 ⟨rfl, rfl⟩
      refine zw_br rfl (fun _ _ => rfl) (fun (c3 : bI (0 ≤ u ∧ u ≤ I 1 - 1) = 0) => ?_) (fun (c3 : ¬ (bI (0 ≤ u ∧ u ≤ I 1 - 1) = 0)) => ?_)
      · exact no (fun g => bI_0.mp c3 ⟨g.2.2.2.1.1, (eh u).mpr g.2.2.2.1.2⟩)
      · repeat (refine zw_go rfl rfl (fun _ _ => rfl) ?_)
        refine zw_call rfl (fun _ _ => rfl) (mIsIn sc (mm f I A B) v u (I 1 - 1)) (by decide) ?_
        rintro M1 r1 ⟨rfl, rfl⟩
        refine zw_br rfl (fun _ _ => rfl) (fun (c4 : bI (u ≤ v ∧ v ≤ I 1 - 1) = 0) => ?_) (fun (c4 : ¬ (bI (u ≤ v ∧ v ≤ I 1 - 1) = 0)) => ?_)
        · exact no (fun g => bI_0.mp c4 ⟨g.2.2.2.2.2, (eh v).mpr g.2.2.2.2.1.2⟩)
        · have g1 := bI_of c1
          have g2 := bI_of c2
          have g3 := bI_of c3
          have g4 := bI_of c4
          repeat (refine zw_go rfl rfl (fun _ _ => rfl) ?_)
          exact zw_ret rfl (fun _ _ => rfl) (⟨rfl, Or.inr ⟨rfl, ⟨g1.1, (ew x).mp g1.2⟩, ⟨Int32.le_trans g1.1 g2.1, (ew y).mp g2.2⟩, g2.1, ⟨g3.1, (eh u).mp g3.2⟩, ⟨Int32.le_trans g3.1 g4.1, (eh v).mp g4.2⟩, g4.1⟩⟩)
set_option maxHeartbeats 4000000 in
set_option maxRecDepth 20000 in
theorem mLayers (x y u v : Int32) (hM : MH I A w h n V) : zC 6 sc 218 [.ref 47, .int x, .int y, .int u, .int v] (mm f I A B) (fun M r => ∃ q, r = some (.int q) ∧ LayAns V w h x y u v q ∧ MR f I A B M) := by
  have hMM := hM
  obtain ⟨h0, h1, hw1, hw, hh1, hh, h4, hn, hv, hV⟩ := hM
  refine zc_of hkX11_layers rfl ?_
  repeat (refine zw_go rfl rfl (fun _ _ => rfl) ?_)
  refine zw_call rfl (fun _ _ => rfl) (mIsPart sc I A B f w h x y u v h0 h1 hw1 hw hh1 hh) (by decide) ?_
  rintro M1 r1 ⟨rfl, ⟨rfl, hg⟩ | ⟨rfl, hg⟩⟩
  · repeat (refine zw_go rfl rfl (fun _ _ => rfl) ?_)
    exact zw_ret rfl (fun _ _ => rfl) (⟨-1, rfl, Or.inl ⟨hg, rfl⟩, I, A, B, rfl, mk_rfl⟩)
  · obtain ⟨i, j, k, l, g1, g2, g3, g4, rfl, rfl, rfl, rfl⟩ := gPart_of hw hh hg
    repeat (refine zw_go rfl rfl (fun _ _ => rfl) ?_)
    refine zw_call rfl (fun _ _ => rfl) (mNumber sc I A B f w h n V i j k l hMM g1 g2 g3 g4) (by decide) ?_
    rintro M1 r1 ⟨rfl, I', A', B', T, rfl, t1, t2, t3, hK⟩
    repeat (refine zw_go rfl rfl (fun _ _ => rfl) ?_)
    exact zw_ret rfl (fun _ _ => rfl) (⟨_, rfl, Or.inr ⟨i, j, k, l, T, g1, g2, g3, g4, rfl, rfl, rfl, rfl, t1, t2⟩, I', A', B', rfl, hK⟩)
set_option maxHeartbeats 4000000 in
set_option maxRecDepth 20000 in
theorem mLayer (x y u v z : Int32) (hM : MH I A w h n V) : zC 6 sc 219 [.ref 47, .int x, .int y, .int u, .int v, .int z] (mm f I A B) (fun M r => ∃ q, r = some (.int q) ∧ LayrAns V w h x y u v z q ∧ MR f I A B M) := by
  have hMM := hM
  obtain ⟨h0, h1, hw1, hw, hh1, hh, h4, hn, hv, hV⟩ := hM
  refine zc_of hkX11_layer rfl ?_
  repeat (refine zw_go rfl rfl (fun _ _ => rfl) ?_)
  refine zw_call rfl (fun _ _ => rfl) (mIsPart sc I A B f w h x y u v h0 h1 hw1 hw hh1 hh) (by decide) ?_
  rintro M1 r1 ⟨rfl, ⟨rfl, hg⟩ | ⟨rfl, hg⟩⟩
  · repeat (refine zw_go rfl rfl (fun _ _ => rfl) ?_)
    exact zw_ret rfl (fun _ _ => rfl) (⟨-1, rfl, Or.inl ⟨fun g => hg g.1, rfl⟩, I, A, B, rfl, mk_rfl⟩)
  · obtain ⟨i, j, k, l, g1, g2, g3, g4, rfl, rfl, rfl, rfl⟩ := gPart_of hw hh hg
    have ez : z ≤ I 0 + I 1 - 1 ↔ z < nI (w + h) := by rw [h0, h1, nI_add, le_pred (by omega) (by omega)]
    repeat (refine zw_go rfl rfl (fun _ _ => rfl) ?_)
    refine zw_call rfl (fun _ _ => rfl) (mIsIn sc (mm f I A B) z 0 (I 0 + I 1 - 1)) (by decide) ?_
    rintro M1 r1 ⟨rfl, rfl⟩
    refine zw_br rfl (fun _ _ => rfl) (fun (c1 : bI (0 ≤ z ∧ z ≤ I 0 + I 1 - 1) = 0) => ?_) (fun (c1 : ¬ (bI (0 ≤ z ∧ z ≤ I 0 + I 1 - 1) = 0)) => ?_)
    · repeat (refine zw_go rfl rfl (fun _ _ => rfl) ?_)
      exact zw_ret rfl (fun _ _ => rfl) (⟨-1, rfl, Or.inl ⟨fun g => bI_0.mp c1 ⟨g.2.1, ez.mpr g.2.2⟩, rfl⟩, I, A, B, rfl, mk_rfl⟩)
    · have g5 := bI_of c1
      obtain ⟨s, hs, rfl⟩ := inR_of (x := z) (n := w + h) ⟨g5.1, ez.mp g5.2⟩ (by omega)
      repeat (refine zw_go rfl rfl (fun _ _ => rfl) ?_)
      refine zw_call rfl (fun _ _ => rfl) (mNumber sc I A B f w h n V i j k l hMM g1 g2 g3 g4) (by decide) ?_
      rintro M1 r1 ⟨rfl, I', A', B', T, rfl, t1, t2, t3, hK⟩
      have e0 : I' 0 = nI w := by rw [hK.1 0 (by decide)]; exact h0
      repeat (refine zw_go rfl rfl (fun _ _ => rfl) ?_)
      rw [e0]
      by_cases hsw : s < w
      · first | refine zw_br rfl (fun _ _ => rfl) (fun h9 => absurd h9 (nI_ge (a := s) (b := w) hsw (by omega))) (fun _ => ?_) | refine zw_nx rfl (fun _ _ => rfl) ?_
        repeat (refine zw_go rfl rfl (fun _ _ => rfl) ?_)
        refine zw_ix rfl (fun _ _ => rfl) (show vp_in (nI (s)) _ from vp_in_nI (by omega) (by omega)) ?_
        rw [show (nI (s)).toNatClampNeg = s from nI_clamp (by omega)]
        repeat (refine zw_go rfl rfl (fun _ _ => rfl) ?_)
        refine zw_ret rfl (fun _ _ => rfl) ?_
        exact ⟨_, rfl, Or.inr ⟨i, j, k, l, T, s, g1, g2, g3, g4, rfl, rfl, rfl, rfl, t1, hs, rfl, by rw [show sN w s = s from if_pos hsw, t3 s (by omega)]⟩, I', A', B', rfl, hK⟩
      · first | refine zw_br rfl (fun _ _ => rfl) (fun _ => ?_) (fun h9 => absurd (nI_le (a := w) (b := s) (by omega) (by omega)) h9) | refine zw_nx rfl (fun _ _ => rfl) ?_
        repeat (refine zw_go rfl rfl (fun _ _ => rfl) ?_)
        rw [e0, show (Int8.ofInt 48).toInt32 + nI s - nI w = nI (48 + (s - w)) from by
          rw [show (Int8.ofInt 48).toInt32 + nI s = nI (48 + s) from nI_add 48 s, nI_sub (by omega), show 48 + s - w = 48 + (s - w) by omega]]
        refine zw_ix rfl (fun _ _ => rfl) (show vp_in (nI ((48 + (s - w)))) _ from vp_in_nI (by omega) (by omega)) ?_
        rw [show (nI ((48 + (s - w)))).toNatClampNeg = (48 + (s - w)) from nI_clamp (by omega)]
        repeat (refine zw_go rfl rfl (fun _ _ => rfl) ?_)
        refine zw_ret rfl (fun _ _ => rfl) ?_
        exact ⟨_, rfl, Or.inr ⟨i, j, k, l, T, s, g1, g2, g3, g4, rfl, rfl, rfl, rfl, t1, hs, rfl, by rw [show sN w s = 48 + (s - w) from if_neg hsw, t3 (48 + (s - w)) (by omega)]⟩, I', A', B', rfl, hK⟩
end

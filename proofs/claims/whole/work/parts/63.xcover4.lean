/-! the class: needsMore, choose -/
/-- n TIES at most give all of y -/
def Cvr (gm : Nat → Nat → Bool) (n : Nat) (y : Int64) : Prop := ∃ X : List Nat, X.length ≤ n ∧ (∀ t, t ∈ X → t < 31) ∧ ∀ g, lb y g = true → ∃ t, t ∈ X ∧ gm t g = true
theorem cvr_step {gm : Nat → Nat → Bool} {n z : Nat} {y q : Int64} (hz : lb y z = true) (hq : ∀ g, lb q g = true → g < 55 ∧ shB gm 0 z g = false ∧ lb y g = true) (h : Cvr gm (n + 1) y) : Cvr gm n q := by
  obtain ⟨X, h1, h2, h3⟩ := h
  obtain ⟨t, h4, h5⟩ := h3 z hz
  refine ⟨X.erase t, ?_, fun u hu => h2 u (List.mem_of_mem_erase hu), fun g hg => ?_⟩
  · rw [List.length_erase_of_mem h4]; omega
  · obtain ⟨g1, g2, g3⟩ := hq g hg
    obtain ⟨u, h6, h7⟩ := h3 g g3
    refine ⟨u, (List.mem_erase_of_ne (fun e => ?_)).mpr h6, h7⟩
    subst e
    have : shB gm 0 z g = true := anyB_iff.mpr ⟨u, h2 u h6, by rw [h5, h7]; simp⟩
    rw [g2] at this; cases this
def gvB (gm : Nat → Nat → Bool) (c : Nat → Nat) (n g : Nat) : Bool := anyB (fun j => gm (c j) g) n
theorem gv_cong {gm : Nat → Nat → Bool} {c d : Nat → Nat} {n g : Nat} (h : ∀ j, j < n → c j = d j) : gvB gm c n g = gvB gm d n g := by
  unfold gvB
  rw [Bool.eq_iff_iff, anyB_iff, anyB_iff]
  constructor
  · rintro ⟨j, h1, h2⟩; exact ⟨j, h1, by rw [← h j h1]; exact h2⟩
  · rintro ⟨j, h1, h2⟩; exact ⟨j, h1, by rw [h j h1]; exact h2⟩
/-- what is known of gifts -/
def GmOk (gm : Nat → Nat → Bool) (k G : Nat) : Prop := k ≤ 31 ∧ G ≤ 55 ∧ (∀ t g, G ≤ g → gm t g = false) ∧ ∀ t g, k ≤ t → gm t g = false
theorem gv_hi {gm : Nat → Nat → Bool} {k G : Nat} (h : GmOk gm k G) {c : Nat → Nat} {n g : Nat} (hg : G ≤ g) : gvB gm c n g = false := by
  cases h1 : gvB gm c n g
  · rfl
  · obtain ⟨j, _, h2⟩ := anyB_iff.mp h1
    rw [h.2.2.1 _ g hg] at h2; cases h2
theorem all_iff {p : Nat → Bool} {G : Nat} (hG : G ≤ 55) (hp : ∀ g, G ≤ g → p g = false) : lg_cmp (mk p 55) (bitL G - 1) = 0 ↔ ∀ g, g < G → p g = true := by
  rw [lg_cmp_0, bits_low G (by omega)]
  constructor
  · intro h g hg
    have h1 := congrArg (fun x => lb x g) h
    simp only [lb_mk (show 55 ≤ 64 by omega), lb_mk (show G ≤ 64 by omega)] at h1
    rw [decide_eq_true (show g < 55 by omega), decide_eq_true hg] at h1
    simpa using h1
  · intro h
    refine lb_ext (fun i hi => ?_)
    rw [lb_mk (by omega), lb_mk (by omega)]
    by_cases h1 : i < G
    · rw [h i h1, decide_eq_true (show i < 55 by omega), decide_eq_true h1]
    · rw [hp i (by omega), decide_eq_false h1, Bool.and_false]; rfl
/-- a choice goes on from the first ones -/
def Ext (k n dp fr : Nat) (c d : Nat → Nat) : Prop := Vs k n d ∧ (∀ j, j < dp → d j = c j) ∧ ∀ j, dp ≤ j → j < n → fr ≤ d j
section
variable (sc : sm_S) (I : Nat → Int32) (J : Nat → Int64) (A : Nat → Nat → Int32) (B : Nat → Nat → Int64) (tl : sm_M) (f : Nat → va_E) (w h n : Nat) (V : Nat → Int32)
set_option maxHeartbeats 4000000 in
set_option maxRecDepth 20000 in
theorem xNeedsMore (gm : Nat → Nat → Bool) (x : Int64) (q : Nat) (hq : q < 100) (hx : ∀ g, lb x g = true → g < 55) (hB : ∀ g, g < 55 → B 12 g = mk (shB gm 0 g) 55) : zC 3 sc 19 [.ref 33, .long x, .int (nI q)] (xm I J A B tl) (fun M r => M = xm I J A B tl ∧ (r = some (.int 0) ∨ (r = some (.int 1) ∧ ¬ Cvr gm q x))) := by
  have fin : ∀ (y : Int64) (i : Nat), (¬ y = 0 → ¬ Cvr gm q x) → zW 2 sc miX1_needsMore 55 [some (.ref 33), none, none, some (.int (nI q)), some (.long y), none, some (.int (nI i)), none] [] (xm I J A B tl) (fun M r => M = xm I J A B tl ∧ (r = some (.int 0) ∨ (r = some (.int 1) ∧ ¬ Cvr gm q x))) := by
    intro y i hy
    refine zw_nx rfl (fun _ _ => rfl) ?_
    refine zw_nx rfl (fun _ _ => rfl) ?_
    refine zw_nx rfl (fun _ _ => rfl) ?_
    refine zw_br rfl (fun _ _ => rfl) (fun (hc : lg_cmp y 0 = 0) => ?_) (fun (hc : ¬ (lg_cmp y 0 = 0)) => ?_)
    · repeat (refine zw_go rfl rfl (fun _ _ => rfl) ?_)
      exact zw_ret rfl (fun _ _ => rfl) (⟨rfl, Or.inl rfl⟩)
    · repeat (refine zw_go rfl rfl (fun _ _ => rfl) ?_)
      exact zw_ret rfl (fun _ _ => rfl) (⟨rfl, Or.inr ⟨rfl, hy (fun z => hc (lg_cmp_0.mpr z))⟩⟩)
  have key : ∀ (k i : Nat) (y : Int64), i + k = q → (∀ g, lb y g = true → g < 55) → (Cvr gm q x → Cvr gm k y) → zW 2 sc miX1_needsMore 6 [some (.ref 33), none, none, some (.int (nI q)), some (.long y), none, some (.int (nI i)), none] [] (xm I J A B tl) (fun M r => M = xm I J A B tl ∧ (r = some (.int 0) ∨ (r = some (.int 1) ∧ ¬ Cvr gm q x))) := by
    intro k
    induction k with
    | zero =>
      intro i y hi hy hC
      have e : i = q := by omega
      subst e
      have hn := fin y i (fun h1 h2 => by
        obtain ⟨X, x1, x2, x3⟩ := hC h2
        obtain ⟨z, z1, z2, z3⟩ := lb_ne0 h1
        obtain ⟨t, t1, _⟩ := x3 z z2
        cases X with
        | nil => cases t1
        | cons _ _ => rw [List.length_cons] at x1; omega)
      refine zw_nx rfl (fun _ _ => rfl) ?_
      refine zw_nx rfl (fun _ _ => rfl) ?_
      first | refine zw_br rfl (fun _ _ => rfl) (fun _ => ?_) (fun h9 => absurd (Int32.le_refl _) h9) | refine zw_nx rfl (fun _ _ => rfl) ?_
      exact hn
    | succ k ih =>
      intro i y hi hy hC
      refine zw_nx rfl (fun _ _ => rfl) ?_
      refine zw_nx rfl (fun _ _ => rfl) ?_
      first | refine zw_br rfl (fun _ _ => rfl) (fun h9 => absurd h9 (nI_ge (a := i) (b := q) (by omega) (by omega))) (fun _ => ?_) | refine zw_nx rfl (fun _ _ => rfl) ?_
      refine zw_nx rfl (fun _ _ => rfl) ?_
      refine zw_nx rfl (fun _ _ => rfl) ?_
      refine zw_nx rfl (fun _ _ => rfl) ?_
      refine zw_br rfl (fun _ _ => rfl) (fun (hc : lg_cmp y 0 = 0) => ?_) (fun (hc : ¬ (lg_cmp y 0 = 0)) => ?_)
      · exact fin y i (fun h1 => absurd (lg_cmp_0.mp hc) h1)
      · obtain ⟨z, z1, z2, z3⟩ := lb_ne0 (fun e => hc (lg_cmp_0.mpr e))
        have hz := hy z z2
        have bits : ∀ g, lb (y &&& (B 12 z ^^^ (-1))) g = true → g < 55 ∧ shB gm 0 z g = false ∧ lb y g = true := fun g hg => by
          rw [lb_and, Bool.and_eq_true] at hg
          have h1 := hy g hg.1
          have h2 := hg.2
          rw [lb_xor, lb_m1 (by omega), hB z hz, lb_mk_in (by omega) h1] at h2
          exact ⟨h1, by simpa using h2, hg.1⟩
        have hn := ih (i + 1) (y &&& (B 12 z ^^^ (-1))) (by omega) (fun g hg => (bits g hg).1) (fun h1 => cvr_step z2 bits (hC h1))
        rw [nI_succ] at hn
        repeat (refine zw_go rfl rfl (fun _ _ => rfl) ?_)
        refine zw_call rfl (fun _ _ => rfl) (cNtzL sc (xm I J A B tl) y z1 z2 z3) (by decide) ?_
        rintro M1 r1 ⟨rfl, rfl⟩
        repeat (refine zw_go rfl rfl (fun _ _ => rfl) ?_)
        refine zw_br rfl (fun _ _ => rfl) (fun h9 => absurd h9 (nI_ge (a := z) (b := 55) (by omega) (by omega))) (fun _ => ?_)
        repeat (refine zw_go rfl rfl (fun _ _ => rfl) ?_)
        refine zw_ix rfl (fun _ _ => rfl) (show vp_in (nI (z)) _ from vp_in_nI (by omega) (by omega)) ?_
        rw [show (nI (z)).toNatClampNeg = z from nI_clamp (by omega)]
        repeat (refine zw_go rfl rfl (fun _ _ => rfl) ?_)
        exact zw_kp hn
  refine zc_of hkX1_needsMore rfl ?_
  repeat (refine zw_go rfl rfl (fun _ _ => rfl) ?_)
  exact zw_kp (key q 0 x (by omega) hx (fun h1 => h1))
set_option maxHeartbeats 4000000 in
set_option maxRecDepth 20000 in
theorem xChoose (gm : Nat → Nat → Bool) (K : Nat → Int32) (k G : Nat) (hg : GmOk gm k G) (hB : GfOk gm B) (h36 : I 36 = nI k) (h37 : I 37 = nI G) (h38 : I 38 = nI n) (hn5 : n ≤ 5) : ∀ (r dp fr : Nat) (c : Nat → Nat) (A : Nat → Nat → Int32), dp + r = n → fr ≤ k → Vs k dp c → (∀ j, j < dp → c j < fr) → (∀ t, t < k → A 16 t = K t) → zC (r + 4) sc 20 [.ref 33, .int (nI fr), .int (nI dp), .long (mk (gvB gm c dp) 55)] (xm I J A B tl) (fun M x => ∃ g, M = xm I J (va_up A 18 g) B tl ∧ (∀ j, j < dp → g j = A 18 j) ∧ ((x = some (.int 0) ∧ ∀ d, Ext k n dp fr c d → ¬ ∀ g, g < G → gvB gm d n g = true) ∨ (x = some (.int 1) ∧ ∃ d, Ext k n dp fr c d ∧ (∀ g, g < G → gvB gm d n g = true) ∧ (∀ j, dp ≤ j → j < n → g j = K (d j)) ∧ ∀ e, Ext k n dp fr c e → (∀ g, g < G → gvB gm e n g = true) → ¬ Lx n e d))) := by
  have hgg := hg
  obtain ⟨hk, hG, hgG, hgk⟩ := hg
  intro r
  induction r with
  | zero =>
    intro dp fr c A hdp hfr hV hc hK
    have e : dp = n := by omega
    subst e
    refine zc_of hkX1_choose rfl ?_
    repeat (refine zw_go rfl rfl (fun _ _ => rfl) ?_)
    rw [h37]
    refine zw_call rfl (fun _ _ => rfl) (cFirstBitsN sc (xm I J A B tl) (n := G) (by omega)) (by decide) ?_
    rintro M1 r1 ⟨rfl, rfl⟩
    repeat (refine zw_go rfl rfl (fun _ _ => rfl) ?_)
    rw [h38]
    first | refine zw_br rfl (fun _ _ => rfl) (fun _ => ?_) (fun h9 => absurd (Int32.le_refl _) h9) | refine zw_nx rfl (fun _ _ => rfl) ?_
    refine zw_nx rfl (fun _ _ => rfl) ?_
    refine zw_nx rfl (fun _ _ => rfl) ?_
    refine zw_nx rfl (fun _ _ => rfl) ?_
    refine zw_br rfl (fun _ _ => rfl) (fun (hc2 : lg_cmp (mk (gvB gm c dp) 55) (bitL G - 1) = 0) => ?_) (fun (hc2 : ¬ (lg_cmp (mk (gvB gm c dp) 55) (bitL G - 1) = 0)) => ?_)
    · repeat (refine zw_go rfl rfl (fun _ _ => rfl) ?_)
      refine zw_ret rfl (fun _ _ => rfl) ?_
      refine ⟨A 18, by rw [va_up_id], fun _ _ => rfl, Or.inr ⟨rfl, c, ⟨hV, fun _ _ => rfl, fun j h1 h2 => by omega⟩, (all_iff hG (fun g hg => gv_hi hgg hg)).mp hc2, fun j h1 h2 => by omega, fun e he _ ⟨j, j1, j2, j3⟩ => ?_⟩⟩
      rw [he.2.1 j j1] at j3
      omega
    · repeat (refine zw_go rfl rfl (fun _ _ => rfl) ?_)
      refine zw_ret rfl (fun _ _ => rfl) ?_
      refine ⟨A 18, by rw [va_up_id], fun _ _ => rfl, Or.inl ⟨rfl, fun d hd hP => hc2 ((all_iff hG (fun g hg => gv_hi hgg hg)).mpr (fun g hg => ?_))⟩⟩
      rw [gv_cong (fun j hj => (hd.2.1 j hj).symm)]
      exact hP g hg
  | succ r ih =>
    intro dp fr c A hdp hfr hV hc hK
    have loop : ∀ (z i : Nat) (g : Nat → Int32), i + z = k → fr ≤ i → (∀ j, j < dp → g j = A 18 j) → (∀ d, Ext k n dp fr c d → (∀ g, g < G → gvB gm d n g = true) → i ≤ d dp) → zW (r + 4) sc miX1_choose 61 [some (.ref 33), none, some (.int (nI dp)), some (.long (mk (gvB gm c dp) 55)), none, some (.long (bitL G - 1)), none, some (.int (nI i))] [] (xm I J (va_up A 18 g) B tl) (fun M x => ∃ g, M = xm I J (va_up A 18 g) B tl ∧ (∀ j, j < dp → g j = A 18 j) ∧ ((x = some (.int 0) ∧ ∀ d, Ext k n dp fr c d → ¬ ∀ g, g < G → gvB gm d n g = true) ∨ (x = some (.int 1) ∧ ∃ d, Ext k n dp fr c d ∧ (∀ g, g < G → gvB gm d n g = true) ∧ (∀ j, dp ≤ j → j < n → g j = K (d j)) ∧ ∀ e, Ext k n dp fr c e → (∀ g, g < G → gvB gm e n g = true) → ¬ Lx n e d))) := by
      intro z
      induction z with
      | zero =>
        intro i g hi hfi hgA hlow
        have e : i = k := by omega
        subst e
        refine zw_nx rfl (fun _ _ => rfl) ?_
        repeat (refine zw_go rfl rfl (fun _ _ => rfl) ?_)
        first | refine zw_br rfl (fun _ _ => rfl) (fun _ => ?_) (fun h9 => absurd (show I 36 ≤ nI i by rw [h36]; exact Int32.le_refl _) h9) | refine zw_nx rfl (fun _ _ => rfl) ?_
        repeat (refine zw_go rfl rfl (fun _ _ => rfl) ?_)
        refine zw_ret rfl (fun _ _ => rfl) ?_
        refine ⟨g, rfl, hgA, Or.inl ⟨rfl, fun d hd hP => ?_⟩⟩
        have h1 := hlow d hd hP
        have h2 := hd.1.1 dp (by omega)
        omega
      | succ z ihz =>
        intro i g hi hfi hgA hlow
        have hlat : mk (gvB gm c dp) 55 ||| B 11 i = mk (fun g => gvB gm c dp g || laB gm i g) 55 := by rw [hB.2.1 i (by omega), mk_or (by omega)]
        have hhi : ∀ g, G ≤ g → (gvB gm c dp g || laB gm i g) = false := fun g hg => by
          rw [gv_hi hgg hg, Bool.false_or]
          cases h1 : laB gm i g
          · rfl
          · obtain ⟨t, _, h2⟩ := anyB_iff.mp h1
            rw [hgG t g hg, Bool.and_false] at h2; cases h2
        refine zw_nx rfl (fun _ _ => rfl) ?_
        repeat (refine zw_go rfl rfl (fun _ _ => rfl) ?_)
        first | refine zw_br rfl (fun _ _ => rfl) (fun h9 => absurd h9 (show ¬ I 36 ≤ nI i by rw [h36]; exact nI_ge (by omega) (by omega))) (fun _ => ?_) | refine zw_nx rfl (fun _ _ => rfl) ?_
        repeat (refine zw_go rfl rfl (fun _ _ => rfl) ?_)
        refine zw_br rfl (fun _ _ => rfl) (fun h9 => absurd h9 (nI_ge (a := i) (b := 31) (by omega) (by omega))) (fun _ => ?_)
        repeat (refine zw_go rfl rfl (fun _ _ => rfl) ?_)
        refine zw_ix rfl (fun _ _ => rfl) (show vp_in (nI (i)) _ from vp_in_nI (by omega) (by omega)) ?_
        rw [show (nI (i)).toNatClampNeg = i from nI_clamp (by omega)]
        repeat (refine zw_go rfl rfl (fun _ _ => rfl) ?_)
        refine zw_br rfl (fun _ _ => rfl) (fun (hc2 : lg_cmp (mk (gvB gm c dp) 55 ||| B 11 i) (bitL G - 1) = 0) => ?_) (fun (hc2 : ¬ (lg_cmp (mk (gvB gm c dp) 55 ||| B 11 i) (bitL G - 1) = 0)) => ?_)
        · repeat (refine zw_go rfl rfl (fun _ _ => rfl) ?_)
          refine zw_ix rfl (fun _ _ => rfl) (show vp_in (nI (i)) _ from vp_in_nI (by omega) (by omega)) ?_
          rw [show (nI (i)).toNatClampNeg = i from nI_clamp (by omega)]
          repeat (refine zw_go rfl rfl (fun _ _ => rfl) ?_)
          rw [show va_up A 18 g 16 i = K i from hK i (by omega)]
          refine zw_ix rfl (fun _ _ => rfl) (show vp_in (nI (dp)) _ from vp_in_nI (by omega) (by omega)) ?_
          rw [show (nI (dp)).toNatClampNeg = dp from nI_clamp (by omega)]
          repeat (refine zw_go rfl rfl (fun _ _ => rfl) ?_)
          refine zw_ix rfl (fun _ _ => rfl) (show vp_in (nI (i)) _ from vp_in_nI (by omega) (by omega)) ?_
          rw [show (nI (i)).toNatClampNeg = i from nI_clamp (by omega)]
          repeat (refine zw_go rfl rfl (fun _ _ => rfl) ?_)
          rw [show nI i + Int32.ofInt 1 = nI (i + 1) from nI_1 i, show nI dp + Int32.ofInt 1 = nI (dp + 1) from nI_1 dp]
          have hgiv : mk (gvB gm c dp) 55 ||| B 10 i = mk (gvB gm (fun j => if j = dp then i else c j) (dp + 1)) 55 := by
            rw [hB.1 i (by omega), mk_or (by omega)]
            refine mk_cong (fun g _ => ?_)
            show _ = (anyB (fun j => gm (if j = dp then i else c j) g) dp || gm (if dp = dp then i else c dp) g)
            rw [if_pos rfl, show anyB (fun j => gm (if j = dp then i else c j) g) dp = gvB gm c dp g from gv_cong (c := fun j => if j = dp then i else c j) (fun j hj => by show (if j = dp then i else c j) = c j; rw [if_neg (by omega)])]
          rw [hgiv]
          have hcall := ih (dp + 1) (i + 1) (fun j => if j = dp then i else c j) (va_up A 18 (upd g dp (K i))) (by omega) (by omega) ⟨fun j hj => by
            show (if j = dp then i else c j) < k
            split
            · omega
            · exact hV.1 j (by omega), fun a b hab hb => by
            show (if a = dp then i else c a) < (if b = dp then i else c b)
            rw [if_neg (by omega)]
            split
            · have := hc a (by omega); omega
            · exact hV.2 a b hab (by omega)⟩ (fun j hj => by
            show (if j = dp then i else c j) < i + 1
            split
            · omega
            · have := hc j (by omega); omega) hK
          refine zw_call rfl (fun _ _ => rfl) hcall (by omega) ?_
          rintro M1 r1 ⟨g', rfl, hg', hres⟩
          rw [va_up_up]
          have hgA' : ∀ j, j < dp → g' j = A 18 j := fun j hj => by
            rw [hg' j (by omega)]
            show upd g dp (K i) j = _
            unfold upd
            rw [if_neg (by omega)]; exact hgA j hj
          have hext : ∀ d, Ext k n dp fr c d → d dp = i → Ext k n (dp + 1) (i + 1) (fun j => if j = dp then i else c j) d := fun d hd hdi => ⟨hd.1, fun j hj => by
            show d j = if j = dp then i else c j
            split
            · rename_i h1; rw [h1]; exact hdi
            · exact hd.2.1 j (by omega), fun j h1 h2 => by
            have := hd.1.2 dp j (by omega) h2
            omega⟩
          rcases hres with ⟨rfl, hno⟩ | ⟨rfl, d, hd, hP, hgd, hmin⟩
          · have hn := ihz (i + 1) g' (by omega) (by omega) hgA' (fun d hd hP => by
              have h1 := hlow d hd hP
              rcases Nat.eq_or_lt_of_le h1 with h2 | h2
              · exact absurd hP (hno d (hext d hd h2.symm))
              · exact h2)
            rw [nI_succ] at hn
            repeat (refine zw_go rfl rfl (fun _ _ => rfl) ?_)
            exact zw_kp hn
          · have hdi : d dp = i := by
              have := hd.2.1 dp (by omega)
              rw [this]
              show (if dp = dp then i else c dp) = i
              rw [if_pos rfl]
            repeat (refine zw_go rfl rfl (fun _ _ => rfl) ?_)
            refine zw_ret rfl (fun _ _ => rfl) ?_
            refine ⟨g', rfl, hgA', Or.inr ⟨rfl, d, ⟨hd.1, fun j hj => ?_, fun j h1 h2 => ?_⟩, hP, fun j h1 h2 => ?_, fun e he hPe hlx => ?_⟩⟩
            · rw [hd.2.1 j (by omega)]
              show (if j = dp then i else c j) = c j
              rw [if_neg (by omega)]
            · by_cases h3 : j = dp
              · rw [h3, hdi]; exact hfi
              · have := hd.2.2 j (by omega) h2; omega
            · by_cases h3 : j = dp
              · rw [h3, hg' dp (by omega), hdi]
                show upd g dp (K i) dp = K i
                unfold upd; rw [if_pos rfl]
              · exact hgd j (by omega) h2
            · obtain ⟨j, j1, j2, j3⟩ := hlx
              have hei := hlow e he hPe
              have hdc : ∀ j, j < dp → d j = c j := fun j hj => by
                rw [hd.2.1 j (by omega)]
                show (if j = dp then i else c j) = c j
                rw [if_neg (by omega)]
              rcases Nat.lt_trichotomy j dp with h3 | h3 | h3
              · rw [he.2.1 j h3, hdc j h3] at j3; omega
              · subst h3; omega
              · have h4 := j2 dp h3
                exact hmin e (hext e he (h4.trans hdi)) hPe ⟨j, j1, j2, j3⟩
        · repeat (refine zw_go rfl rfl (fun _ _ => rfl) ?_)
          refine zw_ret rfl (fun _ _ => rfl) ?_
          refine ⟨g, rfl, hgA, Or.inl ⟨rfl, fun d hd hP => hc2 ?_⟩⟩
          rw [hlat]
          refine (all_iff hG hhi).mpr (fun g hg => ?_)
          obtain ⟨j, j1, j2⟩ := anyB_iff.mp (hP g hg)
          rw [Bool.or_eq_true]
          by_cases h3 : j < dp
          · exact Or.inl (anyB_iff.mpr ⟨j, h3, by rw [← hd.2.1 j h3]; exact j2⟩)
          · refine Or.inr (anyB_iff.mpr ⟨d j, by have := hd.1.1 j j1; omega, ?_⟩)
            have h4 := hlow d hd hP
            have h5 : d dp ≤ d j := by
              by_cases h6 : j = dp
              · rw [h6]; exact Nat.le_refl _
              · exact Nat.le_of_lt (hd.1.2 dp j (by omega) j1)
            rw [decide_eq_true (by omega), j2]; rfl
    refine zc_of hkX1_choose rfl ?_
    repeat (refine zw_go rfl rfl (fun _ _ => rfl) ?_)
    rw [h37]
    refine zw_call rfl (fun _ _ => rfl) (cFirstBitsN sc (xm I J A B tl) (n := G) (by omega)) (by omega) ?_
    rintro M1 r1 ⟨rfl, rfl⟩
    repeat (refine zw_go rfl rfl (fun _ _ => rfl) ?_)
    rw [h38]
    first | refine zw_br rfl (fun _ _ => rfl) (fun h9 => absurd h9 (nI_ge (a := dp) (b := n) (by omega) (by omega))) (fun _ => ?_) | refine zw_nx rfl (fun _ _ => rfl) ?_
    repeat (refine zw_go rfl rfl (fun _ _ => rfl) ?_)
    first | refine zw_br rfl (fun _ _ => rfl) (fun _ => ?_) (fun h9 => absurd (nI_lt (a := dp) (b := 5) (by omega) (by omega)) h9) | refine zw_nx rfl (fun _ _ => rfl) ?_
    repeat (refine zw_go rfl rfl (fun _ _ => rfl) ?_)
    rw [h38, nI_sub (show dp ≤ n by omega)]
    have hbits : ∀ g, lb ((bitL G - 1) &&& (mk (gvB gm c dp) 55 ^^^ (-1))) g = true → g < G ∧ gvB gm c dp g = false := fun g hg => by
      rw [lb_and, lb_low_n (by omega), Bool.and_eq_true, decide_eq_true_eq] at hg
      obtain ⟨h1, h2⟩ := hg
      rw [lb_xor, lb_m1 (by omega), lb_mk_in (by omega) (by omega)] at h2
      exact ⟨h1, by simpa using h2⟩
    refine zw_call rfl (fun _ _ => rfl) (xNeedsMore sc I J A B tl gm ((bitL G - 1) &&& (mk (gvB gm c dp) 55 ^^^ (-1))) (n - dp) (by omega) (fun g hg => by have := (hbits g hg).1; omega) hB.2.2) (by omega) ?_
    rintro M1 r1 ⟨rfl, rfl | ⟨rfl, hno⟩⟩
    · have hn := loop (k - fr) fr (A 18) (by omega) (Nat.le_refl _) (fun _ _ => rfl) (fun d hd _ => hd.2.2 dp (Nat.le_refl _) (by omega))
      rw [va_up_id] at hn
      repeat (refine zw_go rfl rfl (fun _ _ => rfl) ?_)
      exact zw_kp hn
    · repeat (refine zw_go rfl rfl (fun _ _ => rfl) ?_)
      refine zw_ret rfl (fun _ _ => rfl) ?_
      refine ⟨A 18, by rw [va_up_id], fun _ _ => rfl, Or.inl ⟨rfl, fun d hd hP => hno ?_⟩⟩
      refine ⟨(List.range (n - dp)).map (fun i => d (dp + i)), ?_, fun t ht => ?_, fun g hg => ?_⟩
      · rw [List.length_map, List.length_range]; omega
      · rw [List.mem_map] at ht
        obtain ⟨i, h1, rfl⟩ := ht
        rw [List.mem_range] at h1
        have := hd.1.1 (dp + i) (by omega)
        omega
      · obtain ⟨h1, h2⟩ := hbits g hg
        obtain ⟨j, j1, j2⟩ := anyB_iff.mp (hP g h1)
        refine ⟨d j, ?_, j2⟩
        rw [List.mem_map]
        refine ⟨j - dp, ?_, ?_⟩
        · rw [List.mem_range]
          by_cases h3 : j < dp
          · have : gvB gm c dp g = true := anyB_iff.mpr ⟨j, h3, by rw [← hd.2.1 j h3]; exact j2⟩
            rw [h2] at this; cases this
          · omega
        · by_cases h3 : j < dp
          · have : gvB gm c dp g = true := anyB_iff.mpr ⟨j, h3, by rw [← hd.2.1 j h3]; exact j2⟩
            rw [h2] at this; cases this
          · rw [show dp + (j - dp) = j by omega]
end

/-! the reference: covers, chooses, cover -/
theorem vs_up {k n : Nat} {d : Nat → Nat} (h : Vs k n d) {j : Nat} : ∀ {t : Nat}, j + t < n → d j + t ≤ d (j + t) := by
  intro t
  induction t with
  | zero => intro _; exact Nat.le_refl _
  | succ t ih =>
    intro ht
    have h1 := ih (by omega)
    have h2 := h.2 (j + t) (j + (t + 1)) (by omega) ht
    omega
theorem vs_le {k n : Nat} {d : Nat → Nat} (h : Vs k n d) {j : Nat} (hj : j < n) : d j + (n - j) ≤ k := by
  have h1 := vs_up h (j := j) (t := n - 1 - j) (by omega)
  have h2 := h.1 (j + (n - 1 - j)) (by omega)
  omega
theorem vs_ge {k n : Nat} {d : Nat → Nat} (h : Vs k n d) {j : Nat} (hj : j < n) : j ≤ d j := by
  have h1 := vs_up h (j := 0) (t := j) (by omega)
  rw [Nat.zero_add] at h1
  omega
theorem lx_tri {n : Nat} {c d : Nat → Nat} : (∀ j, j < n → d j = c j) ∨ Lx n d c ∨ Lx n c d := by
  have key : ∀ m, m ≤ n → (∀ j, j < m → d j = c j) ∨ Lx n d c ∨ Lx n c d := by
    intro m
    induction m with
    | zero => intro _; exact Or.inl (fun j hj => by omega)
    | succ m ih =>
      intro hm
      rcases ih (by omega) with h | h
      · rcases Nat.lt_trichotomy (d m) (c m) with h1 | h1 | h1
        · exact Or.inr (Or.inl ⟨m, by omega, h, h1⟩)
        · refine Or.inl (fun j hj => ?_)
          by_cases h2 : j = m
          · subst h2; exact h1
          · exact h j (by omega)
        · exact Or.inr (Or.inr ⟨m, by omega, fun i hi => (h i hi).symm, h1⟩)
      · exact Or.inr h
  exact key n (Nat.le_refl _)
/-- the next choice -/
def nxC (c : Nat → Nat) (i j : Nat) : Nat := if j < i then c j else c i + 1 + (j - i)
theorem nx_vs {k n i : Nat} {c : Nat → Nat} (h : Vs k n c) (hi : i < n) (hc : c i + (n - i) < k) : Vs k n (nxC c i) := by
  refine ⟨fun j hj => ?_, fun a b hab hb => ?_⟩
  · unfold nxC
    split
    · exact h.1 j hj
    · omega
  · unfold nxC
    by_cases h1 : b < i
    · rw [if_pos (by omega), if_pos h1]; exact h.2 a b hab hb
    · rw [if_neg h1]
      by_cases h2 : a < i
      · rw [if_pos h2]; have := h.2 a i h2 hi; omega
      · rw [if_neg h2]; omega
/-- nothing lies between -/
theorem nx_low {k n i : Nat} {c d : Nat → Nat} (hd : Vs k n d) (hi : i < n) (hmax : ∀ j, i < j → j < n → c j + (n - j) = k) (hl : Lx n d (nxC c i)) : (∀ j, j < n → d j = c j) ∨ Lx n d c := by
  obtain ⟨j, j1, j2, j3⟩ := hl
  have lo : ∀ m, m < i → nxC c i m = c m := fun m hm => by unfold nxC; rw [if_pos hm]
  have hi2 : ∀ m, i ≤ m → nxC c i m = c i + 1 + (m - i) := fun m hm => by unfold nxC; rw [if_neg (by omega)]
  rcases Nat.lt_trichotomy j i with h1 | h1 | h1
  · rw [lo j h1] at j3
    exact Or.inr ⟨j, j1, fun m hm => by rw [j2 m hm, lo m (by omega)], j3⟩
  · subst h1
    rw [hi2 j (Nat.le_refl _)] at j3
    have hag : ∀ m, m < j → d m = c m := fun m hm => by rw [j2 m hm, lo m hm]
    by_cases h2 : d j < c j
    · exact Or.inr ⟨j, j1, hag, h2⟩
    · rcases lx_tri (n := n) (c := c) (d := d) with h3 | h3 | ⟨q, q1, q2, q3⟩
      · exact Or.inl h3
      · exact Or.inr h3
      · exfalso
        rcases Nat.lt_trichotomy q j with h4 | h4 | h4
        · rw [hag q h4] at q3; omega
        · subst h4; omega
        · have := hmax q h4 q1
          have := vs_le hd q1
          omega
  · exfalso
    have h2 := j2 (j - 1) (by omega)
    rw [hi2 (j - 1) (by omega)] at h2
    rw [hi2 j (by omega)] at j3
    have := hd.2 (j - 1) j (by omega) j1
    omega
def vlC (c : Nat → Nat) : Nat → Nat
  | 0 => 0
  | n + 1 => vlC c n * 32 + c n
theorem vl_cong {c d : Nat → Nat} : ∀ {n : Nat}, (∀ j, j < n → c j = d j) → vlC c n = vlC d n := by
  intro n
  induction n with
  | zero => intro _; rfl
  | succ n ih => intro h; rw [vlC, vlC, ih (fun j hj => h j (by omega)), h n (by omega)]
theorem vl_lt {c : Nat → Nat} : ∀ {n : Nat}, (∀ j, j < n → c j < 32) → vlC c n < 32 ^ n := by
  intro n
  induction n with
  | zero => intro _; exact Nat.one_pos
  | succ n ih =>
    intro h
    have h1 := ih (fun j hj => h j (by omega))
    have h2 := h n (by omega)
    rw [vlC, Nat.pow_succ]
    omega
theorem vl_nx {k n i : Nat} {c : Nat → Nat} (h : Vs k n c) (hk : k ≤ 31) (hi : i < n) : vlC c n < vlC (nxC c i) n := by
  have key : ∀ t, i + 1 + t ≤ n → vlC c (i + 1 + t) + 1 ≤ vlC (nxC c i) (i + 1 + t) := by
    intro t
    induction t with
    | zero =>
      intro _
      show vlC c i * 32 + c i + 1 ≤ vlC (nxC c i) i * 32 + nxC c i i
      rw [vl_cong (c := nxC c i) (d := c) (n := i) (fun j hj => by unfold nxC; rw [if_pos hj])]
      unfold nxC
      rw [if_neg (by omega)]
      omega
    | succ t ih =>
      intro ht
      have h1 := ih (by omega)
      have h2 := h.1 (i + 1 + t) (by omega)
      show vlC c (i + 1 + t) * 32 + c (i + 1 + t) + 1 ≤ vlC (nxC c i) (i + 1 + t) * 32 + nxC c i (i + 1 + t)
      omega
  have := key (n - (i + 1)) (by omega)
  rw [show i + 1 + (n - (i + 1)) = n by omega] at this
  omega
section
variable (sc : sm_S) (I : Nat → Int32) (A : Nat → Nat → Int32) (B : Nat → Nat → Int64) (f : Nat → va_E) (w h n : Nat) (V : Nat → Int32)
set_option maxHeartbeats 4000000 in
set_option maxRecDepth 20000 in
theorem mCovers (L K : Nat → Int32) (m k q : Nat) (c : Nat → Nat) (hLO : LOk L m) (hk : k ≤ 31) (hE : Enm K k (tieS L m (2 ^ m))) (hq : q ≤ 6) (h21 : I 21 = nI m) (hL : ∀ i, i < m → A 22 i = L i) (hK : ∀ t, t < k → A 23 t = K t) (hc : ∀ j, j < q → A 24 j = nI (c j)) (hck : ∀ j, j < q → c j < k) : zC 1 sc 233 [.ref 47, .int (nI q)] (mm f I A B) (fun M r => M = mm f I A B ∧ ((r = some (.int 0) ∧ ¬ Cov L m K q c) ∨ (r = some (.int 1) ∧ Cov L m K q c))) := by
  have h16 : ∀ t, t < k → ∀ s, 16 ≤ s → s < 32 → ib (K t) s = false := fun t ht s h1 h2 => by
    obtain ⟨z, hz⟩ := tie_bit hE ht
    cases h3 : ib (K t) s
    · rfl
    · rw [hz, ib_anF h2] at h3; omega
  have hm5 := hLO.1
  have eqv : ∀ i, i < m → (orI (fun j => decide (K (c j) &&& (L i ^^^ (-1)) = 0)) (fun j => K (c j)) q = L i ↔ ∀ s, s < 16 → ib (L i) s = true → ∃ j, j < q ∧ ib (K (c j)) s = true ∧ ∀ t, t < 16 → ib (K (c j)) t = true → ib (L i) t = true) := fun i hi => by
    constructor
    · intro h1 s hs hb
      rw [← h1, ib_orI] at hb
      obtain ⟨j, j1, j2, j3⟩ := hb
      exact ⟨j, j1, j3, (sub_iff (h16 _ (hck j j1))).mp (of_decide_eq_true j2)⟩
    · intro h1
      refine ib_ext (fun s hs => ?_)
      rw [Bool.eq_iff_iff, ib_orI]
      constructor
      · rintro ⟨j, j1, j2, j3⟩
        rcases Nat.lt_or_ge s 16 with h2 | h2
        · exact (sub_iff (h16 _ (hck j j1))).mp (of_decide_eq_true j2) s h2 j3
        · rw [h16 _ (hck j j1) s h2 hs] at j3; cases j3
      · intro hb
        rcases Nat.lt_or_ge s 16 with h2 | h2
        · obtain ⟨j, j1, j2, j3⟩ := h1 s h2 hb
          exact ⟨j, j1, decide_eq_true ((sub_iff (h16 _ (hck j j1))).mpr j3), j2⟩
        · rw [hLO.2.2.1 i hi s h2 hs] at hb; cases hb
  have outer : ∀ (y i : Nat), i + y = m → (∀ z, z < i → orI (fun j => decide (K (c j) &&& (L z ^^^ (-1)) = 0)) (fun j => K (c j)) q = L z) → zW 0 sc miX11_covers 2 [some (.ref 47), some (.int (nI q)), some (.int (nI i)), none, none] [] (mm f I A B) (fun M r => M = mm f I A B ∧ ((r = some (.int 0) ∧ ¬ Cov L m K q c) ∨ (r = some (.int 1) ∧ Cov L m K q c))) := by
    intro y
    induction y with
    | zero =>
      intro i hi hz
      have e : i = m := by omega
      subst e
      refine zw_nx rfl (fun _ _ => rfl) ?_
      repeat (refine zw_go rfl rfl (fun _ _ => rfl) ?_)
      first | refine zw_br rfl (fun _ _ => rfl) (fun _ => ?_) (fun h9 => absurd (show I 21 ≤ nI i by rw [h21]; exact Int32.le_refl _) h9) | refine zw_nx rfl (fun _ _ => rfl) ?_
      repeat (refine zw_go rfl rfl (fun _ _ => rfl) ?_)
      exact zw_ret rfl (fun _ _ => rfl) (⟨rfl, Or.inr ⟨rfl, fun z hz2 => (eqv z hz2).mp (hz z hz2)⟩⟩)
    | succ y ih =>
      intro i hi hz
      have inner : ∀ (u j : Nat), j + u = q → zW 0 sc miX11_covers 15 [some (.ref 47), some (.int (nI q)), some (.int (nI i)), some (.int (orI (fun j => decide (K (c j) &&& (L i ^^^ (-1)) = 0)) (fun j => K (c j)) j)), some (.int (nI j))] [] (mm f I A B) (fun M r => M = mm f I A B ∧ ((r = some (.int 0) ∧ ¬ Cov L m K q c) ∨ (r = some (.int 1) ∧ Cov L m K q c))) := by
        intro u
        induction u with
        | zero =>
          intro j hj
          have e : j = q := by omega
          subst e
          refine zw_nx rfl (fun _ _ => rfl) ?_
          repeat (refine zw_go rfl rfl (fun _ _ => rfl) ?_)
          first | refine zw_br rfl (fun _ _ => rfl) (fun _ => ?_) (fun h9 => absurd (Int32.le_refl _) h9) | refine zw_nx rfl (fun _ _ => rfl) ?_
          repeat (refine zw_go rfl rfl (fun _ _ => rfl) ?_)
          refine zw_ix rfl (fun _ _ => rfl) (show vp_in (nI (i)) _ from vp_in_nI (by omega) (by omega)) ?_
          rw [show (nI (i)).toNatClampNeg = i from nI_clamp (by omega)]
          repeat (refine zw_go rfl rfl (fun _ _ => rfl) ?_)
          rw [hL i (by omega)]
          refine zw_br rfl (fun _ _ => rfl) (fun (hd : orI (fun z => decide (K (c z) &&& (L i ^^^ (-1)) = 0)) (fun z => K (c z)) j = L i) => ?_) (fun (hd : ¬ (orI (fun z => decide (K (c z) &&& (L i ^^^ (-1)) = 0)) (fun z => K (c z)) j = L i)) => ?_)
          · have hn := ih (i + 1) (by omega) (fun z h1 => by
              by_cases h2 : z = i
              · subst h2; exact hd
              · exact hz z (by omega))
            rw [nI_succ] at hn
            repeat (refine zw_go rfl rfl (fun _ _ => rfl) ?_)
            exact zw_kp hn
          · repeat (refine zw_go rfl rfl (fun _ _ => rfl) ?_)
            exact zw_ret rfl (fun _ _ => rfl) (⟨rfl, Or.inl ⟨rfl, fun hC => hd ((eqv i (by omega)).mpr (hC i (by omega)))⟩⟩)
        | succ u ihu =>
          intro j hj
          have hn := ihu (j + 1) (by omega)
          rw [nI_succ, orI] at hn
          have hj5 := hck j (by omega)
          refine zw_nx rfl (fun _ _ => rfl) ?_
          repeat (refine zw_go rfl rfl (fun _ _ => rfl) ?_)
          first | refine zw_br rfl (fun _ _ => rfl) (fun h9 => absurd h9 (nI_ge (a := j) (b := q) (by omega) (by omega))) (fun _ => ?_) | refine zw_nx rfl (fun _ _ => rfl) ?_
          repeat (refine zw_go rfl rfl (fun _ _ => rfl) ?_)
          refine zw_ix rfl (fun _ _ => rfl) (show vp_in (nI (j)) _ from vp_in_nI (by omega) (by omega)) ?_
          rw [show (nI (j)).toNatClampNeg = j from nI_clamp (by omega)]
          repeat (refine zw_go rfl rfl (fun _ _ => rfl) ?_)
          rw [hc j (by omega)]
          refine zw_ix rfl (fun _ _ => rfl) (show vp_in (nI ((c j))) _ from vp_in_nI (by omega) (by omega)) ?_
          rw [show (nI ((c j))).toNatClampNeg = (c j) from nI_clamp (by omega)]
          repeat (refine zw_go rfl rfl (fun _ _ => rfl) ?_)
          rw [hK (c j) hj5]
          refine zw_ix rfl (fun _ _ => rfl) (show vp_in (nI (i)) _ from vp_in_nI (by omega) (by omega)) ?_
          rw [show (nI (i)).toNatClampNeg = i from nI_clamp (by omega)]
          repeat (refine zw_go rfl rfl (fun _ _ => rfl) ?_)
          rw [hL i (by omega)]
          refine zw_br rfl (fun _ _ => rfl) (fun (hd : K (c j) &&& (L i ^^^ (-1)) = 0) => ?_) (fun (hd : ¬ (K (c j) &&& (L i ^^^ (-1)) = 0)) => ?_)
          · rw [if_pos (decide_eq_true hd)] at hn
            repeat (refine zw_go rfl rfl (fun _ _ => rfl) ?_)
            refine zw_ix rfl (fun _ _ => rfl) (show vp_in (nI (j)) _ from vp_in_nI (by omega) (by omega)) ?_
            rw [show (nI (j)).toNatClampNeg = j from nI_clamp (by omega)]
            repeat (refine zw_go rfl rfl (fun _ _ => rfl) ?_)
            rw [hc j (by omega)]
            refine zw_ix rfl (fun _ _ => rfl) (show vp_in (nI ((c j))) _ from vp_in_nI (by omega) (by omega)) ?_
            rw [show (nI ((c j))).toNatClampNeg = (c j) from nI_clamp (by omega)]
            repeat (refine zw_go rfl rfl (fun _ _ => rfl) ?_)
            rw [hK (c j) hj5]
            exact zw_kp hn
          · rw [if_neg (by rw [decide_eq_false hd]; decide)] at hn
            repeat (refine zw_go rfl rfl (fun _ _ => rfl) ?_)
            exact zw_kp hn
      have hi2 := inner q 0 (by omega)
      refine zw_nx rfl (fun _ _ => rfl) ?_
      repeat (refine zw_go rfl rfl (fun _ _ => rfl) ?_)
      first | refine zw_br rfl (fun _ _ => rfl) (fun h9 => absurd h9 (show ¬ I 21 ≤ nI i by rw [h21]; exact nI_ge (by omega) (by omega))) (fun _ => ?_) | refine zw_nx rfl (fun _ _ => rfl) ?_
      repeat (refine zw_go rfl rfl (fun _ _ => rfl) ?_)
      exact zw_kp hi2
  refine zc_of hkX11_covers rfl ?_
  repeat (refine zw_go rfl rfl (fun _ _ => rfl) ?_)
  exact zw_kp (outer m 0 (by omega) (fun z hz => by omega))
set_option maxHeartbeats 4000000 in
set_option maxRecDepth 20000 in
theorem mChooses (L K : Nat → Int32) (m k q : Nat) (hLO : LOk L m) (hk : k ≤ 31) (hE : Enm K k (tieS L m (2 ^ m))) (hq : q ≤ 5) (h21 : I 21 = nI m) (h22 : I 22 = nI k) (hL : ∀ i, i < m → A 22 i = L i) (hK : ∀ t, t < k → A 23 t = K t) : zC 2 sc 234 [.ref 47, .int (nI q)] (mm f I A B) (fun M r => ∃ g, M = mm f I (va_up A 24 g) B ∧ ((r = some (.int 0) ∧ ∀ d, Vs k q d → ¬ Cov L m K q d) ∨ (r = some (.int 1) ∧ ∃ c, Fst (Cov L m K q) k q c ∧ ∀ j, j < q → g j = nI (c j)))) := by
  refine zc_of hkX11_chooses rfl ?_
  by_cases hqk : k < q
  · repeat (refine zw_go rfl rfl (fun _ _ => rfl) ?_)
    rw [h22]
    first | refine zw_br rfl (fun _ _ => rfl) (fun h9 => absurd h9 (nI_ge (a := k) (b := q) hqk (by omega))) (fun _ => ?_) | refine zw_nx rfl (fun _ _ => rfl) ?_
    repeat (refine zw_go rfl rfl (fun _ _ => rfl) ?_)
    refine zw_ret rfl (fun _ _ => rfl) ?_
    refine ⟨A 24, by rw [va_up_id], Or.inl ⟨rfl, fun d hd _ => ?_⟩⟩
    have := vs_le hd (j := 0) (by omega)
    omega
  · have loop : ∀ (z : Nat) (c : Nat → Nat) (g : Nat → Int32), 32 ^ q - vlC c q ≤ z → Vs k q c → (∀ j, j < q → g j = nI (c j)) → (∀ d, Vs k q d → Lx q d c → ¬ Cov L m K q d) → zW 1 sc miX11_chooses 32 [some (.ref 47), some (.int (nI q)), some (.int 1), none, none] [] (mm f I (va_up A 24 g) B) (fun M r => ∃ g, M = mm f I (va_up A 24 g) B ∧ ((r = some (.int 0) ∧ ∀ d, Vs k q d → ¬ Cov L m K q d) ∨ (r = some (.int 1) ∧ ∃ c, Fst (Cov L m K q) k q c ∧ ∀ j, j < q → g j = nI (c j)))) := by
      intro z
      induction z with
      | zero =>
        intro c g hz hV
        have := vl_lt (c := c) (n := q) (fun j hj => by have := hV.1 j hj; omega)
        omega
      | succ z ih =>
        intro c g hz hV hg hlow
        refine zw_nx rfl (fun _ _ => rfl) ?_
        repeat (refine zw_go rfl rfl (fun _ _ => rfl) ?_)
        refine zw_call rfl (fun _ _ => rfl) (mCovers sc I (va_up A 24 g) B f L K m k q c hLO hk hE (by omega) h21 hL hK hg hV.1) (by decide) ?_
        rintro M1 r1 ⟨rfl, ⟨rfl, hno⟩ | ⟨rfl, hyes⟩⟩
        · have back : ∀ p, p ≤ q → (∀ j, p ≤ j → j < q → c j + (q - j) = k) → zW 1 sc miX11_chooses 50 [some (.ref 47), some (.int (nI q)), none, some (.int (kI p)), none] [] (mm f I (va_up A 24 g) B) (fun M r => ∃ g, M = mm f I (va_up A 24 g) B ∧ ((r = some (.int 0) ∧ ∀ d, Vs k q d → ¬ Cov L m K q d) ∨ (r = some (.int 1) ∧ ∃ c, Fst (Cov L m K q) k q c ∧ ∀ j, j < q → g j = nI (c j)))) := by
            intro p
            induction p with
            | zero =>
              intro _ hmax
              refine zw_nx rfl (fun _ _ => rfl) ?_
              first | refine zw_br rfl (fun _ _ => rfl) (fun _ => ?_) (fun h9 => absurd ((by decide : kI 0 < 0)) h9) | refine zw_nx rfl (fun _ _ => rfl) ?_
              refine zw_nx rfl (fun _ _ => rfl) ?_
              first | refine zw_br rfl (fun _ _ => rfl) (fun _ => ?_) (fun h9 => absurd ((by decide : kI 0 < 0)) h9) | refine zw_nx rfl (fun _ _ => rfl) ?_
              repeat (refine zw_go rfl rfl (fun _ _ => rfl) ?_)
              refine zw_nx rfl (fun _ _ => rfl) ?_
              repeat (refine zw_go rfl rfl (fun _ _ => rfl) ?_)
              refine zw_ret rfl (fun _ _ => rfl) ?_
              refine ⟨g, rfl, Or.inl ⟨rfl, fun d hd hC => ?_⟩⟩
              rcases lx_tri (n := q) (c := c) (d := d) with h3 | h3 | ⟨j, q1, q2, q3⟩
              · refine hno (fun i hi s hs hb => ?_)
                obtain ⟨j, j1, j2, j3⟩ := hC i hi s hs hb
                rw [h3 j j1] at j2 j3
                exact ⟨j, j1, j2, j3⟩
              · exact hlow d hd h3 hC
              · have := hmax j (Nat.zero_le _) q1
                have := vs_le hd q1
                omega
            | succ i ihp =>
              intro hi hmax
              have ci := hV.1 i (by omega)
              have cle := vs_le hV (j := i) (by omega)
              rw [show kI (i + 1) = nI i from nI_pred i]
              refine zw_nx rfl (fun _ _ => rfl) ?_
              first | refine zw_br rfl (fun _ _ => rfl) (fun h9 => absurd h9 (nI_neg (show i < 2 ^ 31 by omega))) (fun _ => ?_) | refine zw_nx rfl (fun _ _ => rfl) ?_
              repeat (refine zw_go rfl rfl (fun _ _ => rfl) ?_)
              refine zw_ix rfl (fun _ _ => rfl) (show vp_in (nI (i)) _ from vp_in_nI (by omega) (by omega)) ?_
              rw [show (nI (i)).toNatClampNeg = i from nI_clamp (by omega)]
              repeat (refine zw_go rfl rfl (fun _ _ => rfl) ?_)
              rw [show va_up A 24 g 24 i = nI (c i) from hg i (by omega), h22, nI_sub (show q ≤ k by omega), show nI (k - q) + nI i = nI (k - q + i) from nI_add (k - q) i]
              refine zw_br rfl (fun _ _ => rfl) (fun (hc : nI (c i) = nI (k - q + i)) => ?_) (fun (hc : ¬ (nI (c i) = nI (k - q + i))) => ?_)
              · rw [nI_eq (by omega) (by omega)] at hc
                have hn := ihp (by omega) (fun j h1 h2 => by
                  by_cases h3 : j = i
                  · subst h3; omega
                  · exact hmax j (by omega) h2)
                repeat (refine zw_go rfl rfl (fun _ _ => rfl) ?_)
                rw [nI_dk]
                exact zw_kp hn
              · rw [nI_eq (by omega) (by omega)] at hc
                have hlt : c i + (q - i) < k := by omega
                have hV2 := nx_vs hV (show i < q by omega) hlt
                have fill : ∀ (y j : Nat) (g2 : Nat → Int32), j + y = q → i < j → (∀ u, u < j → g2 u = nI (nxC c i u)) → zW 1 sc miX11_chooses 106 [some (.ref 47), some (.int (nI q)), some (.int 1), none, some (.int (nI j))] [] (mm f I (va_up A 24 g2) B) (fun M r => ∃ g, M = mm f I (va_up A 24 g) B ∧ ((r = some (.int 0) ∧ ∀ d, Vs k q d → ¬ Cov L m K q d) ∨ (r = some (.int 1) ∧ ∃ c, Fst (Cov L m K q) k q c ∧ ∀ j, j < q → g j = nI (c j)))) := by
                  intro y
                  induction y with
                  | zero =>
                    intro j g2 hj hij hg2
                    have e : j = q := by omega
                    subst e
                    have hvl := vl_nx hV hk (show i < j by omega)
                    have hvt := vl_lt (c := nxC c i) (n := j) (fun u hu => by have := hV2.1 u hu; omega)
                    have hn := ih (nxC c i) g2 (by omega) hV2 hg2 (fun d hd hl hC => by
                      rcases nx_low hd (show i < j by omega) (fun u h1 h2 => hmax u (by omega) h2) hl with h3 | h3
                      · refine hno (fun i hi s hs hb => ?_)
                        obtain ⟨u, j1, j2, j3⟩ := hC i hi s hs hb
                        rw [h3 u j1] at j2 j3
                        exact ⟨u, j1, j2, j3⟩
                      · exact hlow d hd h3 hC)
                    refine zw_nx rfl (fun _ _ => rfl) ?_
                    repeat (refine zw_go rfl rfl (fun _ _ => rfl) ?_)
                    first | refine zw_br rfl (fun _ _ => rfl) (fun _ => ?_) (fun h9 => absurd (Int32.le_refl _) h9) | refine zw_nx rfl (fun _ _ => rfl) ?_
                    repeat (refine zw_go rfl rfl (fun _ _ => rfl) ?_)
                    exact zw_kp hn
                  | succ y ihy =>
                    intro j g2 hj hij hg2
                    obtain ⟨j, rfl⟩ : ∃ u, j = u + 1 := ⟨j - 1, by omega⟩
                    have hn := ihy (j + 1 + 1) (upd g2 (j + 1) (nI (nxC c i j) + 1)) (by omega) (by omega) (fun u hu => by
                      unfold upd
                      by_cases h3 : u = j + 1
                      · rw [if_pos h3, h3, ← nI_succ]
                        unfold nxC
                        rw [if_neg (by omega), if_neg (by omega), show c i + 1 + (j - i) + 1 = c i + 1 + (j + 1 - i) by omega]
                      · rw [if_neg h3]; exact hg2 u (by omega))
                    rw [nI_succ (j + 1), ← hg2 j (by omega)] at hn
                    refine zw_nx rfl (fun _ _ => rfl) ?_
                    repeat (refine zw_go rfl rfl (fun _ _ => rfl) ?_)
                    first | refine zw_br rfl (fun _ _ => rfl) (fun h9 => absurd h9 (nI_ge (a := j + 1) (b := q) (by omega) (by omega))) (fun _ => ?_) | refine zw_nx rfl (fun _ _ => rfl) ?_
                    repeat (refine zw_go rfl rfl (fun _ _ => rfl) ?_)
                    rw [show nI (j + 1) - Int32.ofInt 1 = nI j from nI_pred j]
                    refine zw_ix rfl (fun _ _ => rfl) (show vp_in (nI (j)) _ from vp_in_nI (by omega) (by omega)) ?_
                    rw [show (nI (j)).toNatClampNeg = j from nI_clamp (by omega)]
                    repeat (refine zw_go rfl rfl (fun _ _ => rfl) ?_)
                    refine zw_ix rfl (fun _ _ => rfl) (show vp_in (nI ((j + 1))) _ from vp_in_nI (by omega) (by omega)) ?_
                    rw [show (nI ((j + 1))).toNatClampNeg = (j + 1) from nI_clamp (by omega)]
                    repeat (refine zw_go rfl rfl (fun _ _ => rfl) ?_)
                    exact zw_kp hn
                have hf := fill (q - (i + 1)) (i + 1) (upd g i (nI (c i) + 1)) (by omega) (by omega) (fun u hu => by
                  unfold upd nxC
                  by_cases h3 : u = i
                  · rw [if_pos h3, h3, if_neg (by omega), ← nI_succ, Nat.sub_self]
                  · rw [if_neg h3, if_pos (by omega)]; exact hg u (by omega))
                rw [nI_succ i, ← hg i (by omega)] at hf
                refine zw_nx rfl (fun _ _ => rfl) ?_
                first | refine zw_br rfl (fun _ _ => rfl) (fun h9 => absurd h9 (nI_neg (show i < 2 ^ 31 by omega))) (fun _ => ?_) | refine zw_nx rfl (fun _ _ => rfl) ?_
                repeat (refine zw_go rfl rfl (fun _ _ => rfl) ?_)
                refine zw_ix rfl (fun _ _ => rfl) (show vp_in (nI (i)) _ from vp_in_nI (by omega) (by omega)) ?_
                rw [show (nI (i)).toNatClampNeg = i from nI_clamp (by omega)]
                repeat (refine zw_go rfl rfl (fun _ _ => rfl) ?_)
                refine zw_ix rfl (fun _ _ => rfl) (show vp_in (nI (i)) _ from vp_in_nI (by omega) (by omega)) ?_
                rw [show (nI (i)).toNatClampNeg = i from nI_clamp (by omega)]
                repeat (refine zw_go rfl rfl (fun _ _ => rfl) ?_)
                exact zw_kp hf
          have hb := back q (Nat.le_refl _) (fun j h1 h2 => by omega)
          repeat (refine zw_go rfl rfl (fun _ _ => rfl) ?_)
          exact zw_kp hb
        · repeat (refine zw_go rfl rfl (fun _ _ => rfl) ?_)
          refine zw_ret rfl (fun _ _ => rfl) ?_
          exact ⟨g, rfl, Or.inr ⟨rfl, c, ⟨hV, hyes, fun d hd hC hl => hlow d hd hl hC⟩, hg⟩⟩
    have init : ∀ (y i : Nat), i + y = q → zW 1 sc miX11_chooses 12 [some (.ref 47), some (.int (nI q)), some (.int (nI i)), none, none] [] (mm f I (va_up A 24 (wr (fun j => nI j) (A 24) i)) B) (fun M r => ∃ g, M = mm f I (va_up A 24 g) B ∧ ((r = some (.int 0) ∧ ∀ d, Vs k q d → ¬ Cov L m K q d) ∨ (r = some (.int 1) ∧ ∃ c, Fst (Cov L m K q) k q c ∧ ∀ j, j < q → g j = nI (c j)))) := by
      intro y
      induction y with
      | zero =>
        intro i hi
        have e : i = q := by omega
        subst e
        have hn := loop (32 ^ i) (fun j => j) (wr (fun j => nI j) (A 24) i) (Nat.sub_le _ _) ⟨fun j hj => by show j < k; omega, fun a b hab _ => hab⟩ (fun j hj => wr_in hj) (fun d hd ⟨j, j1, _, j3⟩ => by
          have h5 := vs_ge hd j1
          have h6 : d j < j := j3
          omega)
        refine zw_nx rfl (fun _ _ => rfl) ?_
        repeat (refine zw_go rfl rfl (fun _ _ => rfl) ?_)
        first | refine zw_br rfl (fun _ _ => rfl) (fun _ => ?_) (fun h9 => absurd (Int32.le_refl _) h9) | refine zw_nx rfl (fun _ _ => rfl) ?_
        repeat (refine zw_go rfl rfl (fun _ _ => rfl) ?_)
        exact zw_kp hn
      | succ y ih =>
        intro i hi
        have hn := ih (i + 1) (by omega)
        rw [nI_succ, ← wr_s] at hn
        refine zw_nx rfl (fun _ _ => rfl) ?_
        repeat (refine zw_go rfl rfl (fun _ _ => rfl) ?_)
        first | refine zw_br rfl (fun _ _ => rfl) (fun h9 => absurd h9 (nI_ge (a := i) (b := q) (by omega) (by omega))) (fun _ => ?_) | refine zw_nx rfl (fun _ _ => rfl) ?_
        repeat (refine zw_go rfl rfl (fun _ _ => rfl) ?_)
        refine zw_ix rfl (fun _ _ => rfl) (show vp_in (nI (i)) _ from vp_in_nI (by omega) (by omega)) ?_
        rw [show (nI (i)).toNatClampNeg = i from nI_clamp (by omega)]
        repeat (refine zw_go rfl rfl (fun _ _ => rfl) ?_)
        exact zw_kp hn
    have st := init q 0 (by omega)
    rw [wr_0, va_up_id] at st
    repeat (refine zw_go rfl rfl (fun _ _ => rfl) ?_)
    rw [h22]
    first | refine zw_br rfl (fun _ _ => rfl) (fun _ => ?_) (fun h9 => absurd (nI_le (a := q) (b := k) (by omega) (by omega)) h9) | refine zw_nx rfl (fun _ _ => rfl) ?_
    repeat (refine zw_go rfl rfl (fun _ _ => rfl) ?_)
    exact zw_kp st
set_option maxHeartbeats 4000000 in
set_option maxRecDepth 20000 in
theorem mCover (x : Int32) (hM : MH I A w h n V) : zC 6 sc 235 [.ref 47, .int x] (mm f I A B) (fun M r => ∃ q, r = some (.int q) ∧ CovAns V w h x q ∧ MR f I A B M) := by
  have hMM := hM
  obtain ⟨h0, h1, hw1, hw, hh1, hh, h4, hn, hv, hV⟩ := hM
  refine zc_of hkX11_cover rfl ?_
  repeat (refine zw_go rfl rfl (fun _ _ => rfl) ?_)
  refine zw_call rfl (fun _ _ => rfl) (mGather sc I A B f w h n V hMM) (by decide) ?_
  rintro M1 r1 ⟨rfl, y, g, A', B', rfl, hy6, hK0, ⟨hy, hl⟩ | ⟨hl, rfl, hg⟩⟩
  · repeat (refine zw_go rfl rfl (fun _ _ => rfl) ?_)
    first | refine zw_br rfl (fun _ _ => rfl) (fun h9 => absurd h9 (nI_ge (a := 5) (b := y) hy (by omega))) (fun _ => ?_) | refine zw_nx rfl (fun _ _ => rfl) ?_
    repeat (refine zw_go rfl rfl (fun _ _ => rfl) ?_)
    exact zw_ret rfl (fun _ _ => rfl) (⟨_, rfl, Or.inl ⟨hl, rfl⟩, _, _, _, rfl, ⟨fun z hz => by unfold upd; rw [if_neg (by omega)], fun a ha => by unfold va_up; rw [if_neg (by omega)]; exact hK0.2.1 a ha, hK0.2.2.1, hK0.2.2.2⟩⟩)
  · have hok := gat_ok hV hl
    repeat (refine zw_go rfl rfl (fun _ _ => rfl) ?_)
    first | refine zw_br rfl (fun _ _ => rfl) (fun _ => ?_) (fun h9 => absurd (nI_le (a := (gat (uL V w) h).length) (b := 5) hl (by omega)) h9) | refine zw_nx rfl (fun _ _ => rfl) ?_
    repeat (refine zw_go rfl rfl (fun _ _ => rfl) ?_)
    refine zw_call rfl (fun _ _ => rfl) (mFindCommons sc (upd I 21 (nI (gat (uL V w) h).length)) (va_up A' 22 g) B' f (li (gat (uL V w) h)) (gat (uL V w) h).length hl rfl hg) (by decide) ?_
    rintro M1 r1 ⟨rfl, K, k, rfl, hk, hE⟩
    obtain ⟨n0, n1, n2⟩ := cov_ex hok hE
    have key : ∀ (z q : Nat) (g2 : Nat → Int32), q + z = (gat (uL V w) h).length + 1 → (∀ y, y < q → ¬ ∃ d, Vs k y d ∧ Cov (li (gat (uL V w) h)) (gat (uL V w) h).length K y d) → zW 5 sc miX11_cover 20 [some (.ref 47), some (.int x), some (.int (nI q))] [] (mm f (upd (upd I 21 (nI (gat (uL V w) h).length)) 22 (nI k)) (va_up (va_up (va_up A' 22 g) 23 K) 24 g2) B') (fun M r => ∃ q, r = some (.int q) ∧ CovAns V w h x q ∧ MR f I A B M) := by
      intro z
      induction z with
      | zero =>
        intro q g2 hq hno
        exact absurd n2 (hno n0 (by omega))
      | succ z ih =>
        intro q g2 hq hno
        refine zw_nx rfl (fun _ _ => rfl) ?_
        repeat (refine zw_go rfl rfl (fun _ _ => rfl) ?_)
        refine zw_call rfl (fun _ _ => rfl) (mChooses sc (upd (upd I 21 (nI (gat (uL V w) h).length)) 22 (nI k)) (va_up (va_up (va_up A' 22 g) 23 K) 24 g2) B' f (li (gat (uL V w) h)) K (gat (uL V w) h).length k q hok hk hE (by omega) rfl rfl hg (fun _ _ => rfl)) (by decide) ?_
        rintro M1 r1 ⟨g3, rfl, ⟨rfl, hn⟩ | ⟨rfl, c, hF, hc⟩⟩
        · rw [va_up_up]
          have hne := ih (q + 1) g3 (by omega) (fun y hy ⟨d, d1, d2⟩ => by
            by_cases h5 : y = q
            · subst h5; exact hn d d1 d2
            · exact hno y (by omega) ⟨d, d1, d2⟩)
          rw [nI_succ] at hne
          repeat (refine zw_go rfl rfl (fun _ _ => rfl) ?_)
          exact zw_kp hne
        · rw [va_up_up]
          have hcv : CvL (li (gat (uL V w) h)) (gat (uL V w) h).length K k q c := ⟨hE, hno, hF⟩
          have hmr : MR f I A B (mm f (upd (upd I 21 (nI (gat (uL V w) h).length)) 22 (nI k)) (va_up (va_up (va_up A' 22 g) 23 K) 24 g3) B') := ⟨_, _, _, rfl, ⟨fun z hz => by unfold upd; rw [if_neg (by omega), if_neg (by omega)], fun a ha => by unfold va_up; rw [if_neg (by omega), if_neg (by omega), if_neg (by omega)]; exact hK0.2.1 a ha, hK0.2.2.1, hK0.2.2.2⟩⟩
          have hne : nI q - 1 = kI q := rfl
          repeat (refine zw_go rfl rfl (fun _ _ => rfl) ?_)
          refine zw_br rfl (fun _ _ => rfl) (fun (hx : x = -1) => ?_) (fun (hx : ¬ (x = -1)) => ?_)
          · repeat (refine zw_go rfl rfl (fun _ _ => rfl) ?_)
            exact zw_ret rfl (fun _ _ => rfl) (⟨_, rfl, Or.inr ⟨hl, K, k, q, c, hcv, by rw [if_pos hx]⟩, hmr⟩)
          · repeat (refine zw_go rfl rfl (fun _ _ => rfl) ?_)
            refine zw_call rfl (fun _ _ => rfl) (mIsIn sc _ x 0 (nI q - 1)) (by decide) ?_
            rintro M1 r1 ⟨rfl, rfl⟩
            have eqv : (0 ≤ x ∧ x ≤ nI q - 1) ↔ (0 ≤ x ∧ x < nI q) := by
              rcases Nat.eq_zero_or_pos q with h5 | h5
              · subst h5
                constructor
                · rintro ⟨a1, a2⟩; exact absurd (Int32.le_trans a1 a2) (by decide)
                · rintro ⟨a1, a2⟩; exact absurd (Int32.lt_of_le_of_lt a1 a2) (by decide)
              · rw [le_pred h5 (by omega)]
            refine zw_br rfl (fun _ _ => rfl) (fun (hd : bI (0 ≤ x ∧ x ≤ nI q - 1) = 0) => ?_) (fun (hd : ¬ (bI (0 ≤ x ∧ x ≤ nI q - 1) = 0)) => ?_)
            · repeat (refine zw_go rfl rfl (fun _ _ => rfl) ?_)
              exact zw_ret rfl (fun _ _ => rfl) (⟨_, rfl, Or.inr ⟨hl, K, k, q, c, hcv, by rw [if_neg hx, if_neg (fun z => bI_0.mp hd (eqv.mpr z))]; rfl⟩, hmr⟩)
            · have hin := eqv.mp (bI_of hd)
              obtain ⟨j, hj, rfl⟩ := inR_of hin (by omega)
              have hcj := hF.1.1 j hj
              repeat (refine zw_go rfl rfl (fun _ _ => rfl) ?_)
              refine zw_ix rfl (fun _ _ => rfl) (show vp_in (nI (j)) _ from vp_in_nI (by omega) (by omega)) ?_
              rw [show (nI (j)).toNatClampNeg = j from nI_clamp (by omega)]
              repeat (refine zw_go rfl rfl (fun _ _ => rfl) ?_)
              rw [show va_up (va_up (va_up A' 22 g) 23 K) 24 g3 24 j = nI (c j) from hc j hj]
              refine zw_ix rfl (fun _ _ => rfl) (show vp_in (nI ((c j))) _ from vp_in_nI (by omega) (by omega)) ?_
              rw [show (nI ((c j))).toNatClampNeg = (c j) from nI_clamp (by omega)]
              repeat (refine zw_go rfl rfl (fun _ _ => rfl) ?_)
              refine zw_ret rfl (fun _ _ => rfl) ?_
              exact ⟨_, rfl, Or.inr ⟨hl, K, k, q, c, hcv, by rw [if_neg hx, if_pos hin, nI_clamp (by omega)]; rfl⟩, hmr⟩
    have st := key ((gat (uL V w) h).length + 1) 0 (A' 24) (by omega) (fun y hy => by omega)
    rw [show va_up (va_up (va_up A' 22 g) 23 K) 24 (A' 24) = va_up (va_up A' 22 g) 23 K from va_up_id (va_up (va_up A' 22 g) 23 K) 24] at st
    repeat (refine zw_go rfl rfl (fun _ _ => rfl) ?_)
    exact zw_kp st
end

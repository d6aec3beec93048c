/-! THE PURE LEVEL: memories of the class and of the reference; a frame's run, a call, eventually in fuel -/
def xm (I : Nat → Int32) (J : Nat → Int64) (A : Nat → Nat → Int32) (B : Nat → Nat → Int64) (tl : sm_M) : sm_M :=
  .inr (10, [.int (I 0), .int (I 1), .ref 1, .ref 7, .ref 14, .ref 16, .ref 23, .ref 25, .ref 27, .ref 33, .ref 41, .ref 44]) ::
  .inr (3, [.ref 2, .ref 3, .ref 4, .ref 5, .ref 6, .int (I 2), .int (I 3), .int (I 4), .int (I 5), .int (I 6)]) ::
  .inl (0, 2000, .inl (A 0)) ::
  .inl (0, 2000, .inl (A 1)) ::
  .inl (0, 2000, .inl (A 2)) ::
  .inl (0, 208, .inl (A 3)) ::
  .inl (0, 208, .inl (A 4)) ::
  .inr (0, [.ref 1, .int (I 7), .int (I 8), .long (J 0), .ref 8, .ref 9, .ref 10, .ref 11, .ref 12, .ref 13, .int (I 9), .int (I 10)]) ::
  .inl (0, 48, .inl (A 5)) ::
  .inl (1, 48, .inr (.inl (B 0))) ::
  .inl (1, 48, .inr (.inl (B 1))) ::
  .inl (1, 16, .inr (.inl (B 2))) ::
  .inl (1, 16, .inr (.inl (B 3))) ::
  .inl (1, 16, .inr (.inl (B 4))) ::
  .inr (9, [.ref 15, .int (I 11), .int (I 12), .int (I 13), .int (I 14), .int (I 15)]) ::
  .inl (0, 300, .inl (A 6)) ::
  .inr (6, [.ref 14, .ref 1, .int (I 16), .int (I 17), .ref 17, .ref 18, .ref 19, .ref 20, .ref 21, .ref 22, .int (I 18), .int (I 19), .int (I 20), .int (I 21), .int (I 22), .int (I 23), .int (I 24), .int (I 25), .int (I 26), .int (I 27)]) ::
  .inl (0, 1800, .inl (A 7)) ::
  .inl (0, 9, .inl (A 8)) ::
  .inl (0, 9, .inl (A 9)) ::
  .inl (0, 9, .inl (A 10)) ::
  .inl (0, 1600, .inl (A 11)) ::
  .inl (0, 8, .inl (A 12)) ::
  .inr (7, [.ref 7, .ref 24]) ::
  .inl (0, 49, .inl (A 13)) ::
  .inr (5, [.ref 7, .ref 1, .ref 26, .int (I 28)]) ::
  .inl (1, 192, .inr (.inl (B 5))) ::
  .inr (2, [.ref 7, .ref 28, .ref 29, .ref 30, .ref 31, .ref 32, .int (I 29), .int (I 30), .int (I 31), .int (I 32), .int (I 33), .long (J 1), .long (J 2), .int (I 34)]) ::
  .inl (1, 96, .inr (.inl (B 6))) ::
  .inl (1, 96, .inr (.inl (B 7))) ::
  .inl (1, 96, .inr (.inl (B 8))) ::
  .inl (1, 96, .inr (.inl (B 9))) ::
  .inl (0, 96, .inl (A 14)) ::
  .inr (1, [.ref 7, .ref 34, .int (I 35), .ref 35, .int (I 36), .ref 36, .ref 37, .ref 38, .int (I 37), .ref 39, .ref 40, .int (I 38), .int (I 39)]) ::
  .inl (0, 5, .inl (A 15)) ::
  .inl (0, 31, .inl (A 16)) ::
  .inl (1, 31, .inr (.inl (B 10))) ::
  .inl (1, 32, .inr (.inl (B 11))) ::
  .inl (1, 55, .inr (.inl (B 12))) ::
  .inl (0, 16, .inl (A 17)) ::
  .inl (0, 5, .inl (A 18)) ::
  .inr (8, [.ref 7, .ref 42, .ref 43, .int (I 40)]) ::
  .inl (1, 48, .inr (.inl (B 13))) ::
  .inl (1, 48, .inr (.inl (B 14))) ::
  .inr (4, [.ref 7, .ref 1, .ref 41, .ref 45, .long (J 3), .long (J 4), .long (J 5), .long (J 6), .int (I 41), .int (I 42), .int (I 43), .int (I 44), .ref 46, .int (I 45), .int (I 46)]) ::
  .inl (1, 16, .inr (.inl (B 15))) ::
  .inl (0, 48, .inl (A 19)) :: tl
def pf (f : Nat → va_E) (tl : sm_M) : sm_M := f 0 :: f 1 :: f 2 :: f 3 :: f 4 :: f 5 :: f 6 :: f 7 :: f 8 :: f 9 :: f 10 :: f 11 :: f 12 :: f 13 :: f 14 :: f 15 :: f 16 :: f 17 :: f 18 :: f 19 :: f 20 :: f 21 :: f 22 :: f 23 :: f 24 :: f 25 :: f 26 :: f 27 :: f 28 :: f 29 :: f 30 :: f 31 :: f 32 :: f 33 :: f 34 :: f 35 :: f 36 :: f 37 :: f 38 :: f 39 :: f 40 :: f 41 :: f 42 :: f 43 :: f 44 :: f 45 :: f 46 :: tl
def mm (f : Nat → va_E) (I : Nat → Int32) (A : Nat → Nat → Int32) (B : Nat → Nat → Int64) : sm_M := pf f [
  .inr (11, [.int (I 0), .int (I 1), .int (I 2), .int (I 3), .int (I 4), .ref 48, .ref 49, .ref 50, .ref 51, .ref 52, .ref 53, .ref 54, .ref 55, .ref 56, .ref 57, .ref 58, .int (I 5), .int (I 6), .int (I 7), .int (I 8), .int (I 9), .int (I 10), .int (I 11), .int (I 12), .int (I 13), .ref 59, .ref 60, .ref 61, .int (I 14), .ref 62, .ref 63, .ref 64, .ref 65, .int (I 15), .int (I 16), .int (I 17), .int (I 18), .ref 66, .ref 67, .ref 68, .ref 69, .int (I 19), .ref 70, .ref 71, .ref 72, .int (I 20), .ref 73, .ref 74, .int (I 21), .ref 75, .int (I 22), .ref 76, .ref 77, .int (I 23), .int (I 24), .int (I 25)]),
  .inl (0, 2000, .inl (A 0)),
  .inl (0, 2000, .inl (A 1)),
  .inl (0, 2000, .inl (A 2)),
  .inl (0, 2000, .inl (A 3)),
  .inl (0, 48, .inl (A 4)),
  .inl (0, 16, .inl (A 5)),
  .inl (0, 48, .inl (A 6)),
  .inl (0, 48, .inl (A 7)),
  .inl (1, 48, .inr (.inl (B 0))),
  .inl (1, 48, .inr (.inl (B 1))),
  .inl (0, 300, .inl (A 8)),
  .inl (0, 8, .inl (A 9)),
  .inl (0, 8, .inl (A 10)),
  .inl (0, 1600, .inl (A 11)),
  .inl (0, 4000, .inl (A 12)),
  .inl (0, 9, .inl (A 13)),
  .inl (0, 9, .inl (A 14)),
  .inl (0, 10, .inl (A 15)),
  .inl (0, 5000, .inl (A 16)),
  .inl (0, 5000, .inl (A 17)),
  .inl (0, 5000, .inl (A 18)),
  .inl (0, 2400, .inl (A 19)),
  .inl (1, 96, .inr (.inl (B 2))),
  .inl (1, 96, .inr (.inl (B 3))),
  .inl (0, 96, .inl (A 20)),
  .inl (0, 2304, .inl (A 21)),
  .inl (0, 7, .inl (A 22)),
  .inl (0, 64, .inl (A 23)),
  .inl (0, 6, .inl (A 24)),
  .inl (1, 48, .inr (.inl (B 4)))]
/-- the String constants -/
def sm_wd : Nat → List Int32
  | 1001 => [98, 108, 111, 99, 107]
  | 1002 => [116, 104, 114, 101, 97, 100]
  | 1003 => [116, 114, 101, 97, 100]
  | 1004 => [116, 105, 101]
  | 1005 => [116, 111]
  | 1006 => [109, 105, 114, 114, 111, 114]
  | 1007 => [98, 97, 99, 107]
  | 1008 => [112, 108, 117, 115]
  | _ => []
/-- String.length, String.charAt of the constants -/
def sm_bi : Nat → List Value → sm_M → sm_R
  | 900, [.ref w], M => (match Nat.ble 1001 w && Nat.ble w 1008 with
    | true => some (M, some (.int (Int32.ofNat (sm_wd w).length)))
    | false => none)
  | 901, [.ref w, .int i], M => (match Nat.ble 1001 w && Nat.ble w 1008 with
    | true => if i < 0 ∨ (sm_wd w).length ≤ i.toNatClampNeg then none else some (M, some (.int ((sm_wd w).getD i.toNatClampNeg 0)))
    | false => none)
  | _, _, _ => none
abbrev sm_S : Type := Option (Nat × (Nat → Int32))
/-- from here the frame runs to its end, with Post; D: calls that may nest -/
def zW (D : Nat) (sc : sm_S) (mi : sm_MI) (pc : Nat) (L : sm_L) (st : List Value) (M : sm_M) (Post : sm_M → Option Value → Prop) : Prop := ∃ M' r, Post M' r ∧ ∃ n0, ∀ N d n, n0 ≤ N → D ≤ d → n0 ≤ n → sm_run (sm_sim sm_pg sm_bi sc d N) sc mi n pc L st M = some (M', r)
/-- a call comes to its end, with Post -/
def zC (D : Nat) (sc : sm_S) (y : Nat) (as : List Value) (M : sm_M) (Post : sm_M → Option Value → Prop) : Prop := ∃ M' r, Post M' r ∧ ∃ n0, ∀ N d, n0 ≤ N → D ≤ d → sm_sim sm_pg sm_bi sc d N y as M = some (M', r)
theorem zw_nx {D : Nat} {sc : sm_S} {mi : sm_MI} {pc : Nat} {L : sm_L} {st : List Value} {M : sm_M} {Post : sm_M → Option Value → Prop} {i : Instr} {pc' : Nat} {L' : sm_L} {st' : List Value} {M1 : sm_M} (hi : sm_fd mi.2.2.2.2.1 pc = some i) (h : ∀ cal k, sm_ex cal sc mi k pc (sm_kp mi.2.2.2.2.2.1 pc L) st M i = k pc' L' st' M1) (hn : zW D sc mi pc' L' st' M1 Post) : zW D sc mi pc L st M Post := by
  obtain ⟨M', r, hp, n0, hn⟩ := hn
  refine ⟨M', r, hp, n0 + 1, fun N d n h1 h2 h3 => ?_⟩
  obtain ⟨n, rfl⟩ : ∃ q, n = q + 1 := ⟨n - 1, by omega⟩
  simp only [sm_run, hi, h]
  exact hn N d n (by omega) h2 (by omega)
theorem zw_br {D : Nat} {sc : sm_S} {mi : sm_MI} {pc : Nat} {L : sm_L} {st : List Value} {M : sm_M} {Post : sm_M → Option Value → Prop} {i : Instr} {c : Prop} {dc : Decidable c} {pc1 pc2 : Nat} {L1 L2 : sm_L} {st1 st2 : List Value} {M1 M2 : sm_M} (hi : sm_fd mi.2.2.2.2.1 pc = some i) (h : ∀ cal k, sm_ex cal sc mi k pc (sm_kp mi.2.2.2.2.2.1 pc L) st M i = if c then k pc1 L1 st1 M1 else k pc2 L2 st2 M2) (h1 : c → zW D sc mi pc1 L1 st1 M1 Post) (h2 : ¬ c → zW D sc mi pc2 L2 st2 M2 Post) : zW D sc mi pc L st M Post := by
  by_cases hc : c
  · exact zw_nx hi (fun cal k => by rw [h, if_pos hc]) (h1 hc)
  · exact zw_nx hi (fun cal k => by rw [h, if_neg hc]) (h2 hc)
theorem zw_ix {D : Nat} {sc : sm_S} {mi : sm_MI} {pc : Nat} {L : sm_L} {st : List Value} {M : sm_M} {Post : sm_M → Option Value → Prop} {i : Instr} {x : Int32} {n pc' : Nat} {L' : sm_L} {st' : List Value} {M1 : sm_M} (hi : sm_fd mi.2.2.2.2.1 pc = some i) (h : ∀ cal k, sm_ex cal sc mi k pc (sm_kp mi.2.2.2.2.2.1 pc L) st M i = if x < 0 ∨ n ≤ x.toNatClampNeg then none else k pc' L' st' M1) (hin : vp_in x n) (hn : zW D sc mi pc' L' st' M1 Post) : zW D sc mi pc L st M Post :=
  zw_nx hi (fun cal k => by rw [h, if_neg hin]) hn
theorem zw_call {D D' : Nat} {sc : sm_S} {mi : sm_MI} {pc : Nat} {L : sm_L} {st : List Value} {M : sm_M} {Post Qp : sm_M → Option Value → Prop} {i : Instr} {pc' : Nat} {L' : sm_L} {r0 as : List Value} {y : Nat} (hi : sm_fd mi.2.2.2.2.1 pc = some i) (h : ∀ cal k, sm_ex cal sc mi k pc (sm_kp mi.2.2.2.2.2.1 pc L) st M i = sm_inv k pc' L' r0 (cal y as M)) (hc : zC D' sc y as M Qp) (hD : D' ≤ D) (hn : ∀ M1 v, Qp M1 v → zW D sc mi (pc' + 3) L' (v.toList ++ r0) M1 Post) : zW D sc mi pc L st M Post := by
  obtain ⟨M1, v, hq, n1, hc⟩ := hc
  obtain ⟨M', r, hp, n0, hn⟩ := hn M1 v hq
  refine ⟨M', r, hp, n0 + n1 + 1, fun N d n h1 h2 h3 => ?_⟩
  obtain ⟨n, rfl⟩ : ∃ q, n = q + 1 := ⟨n - 1, by omega⟩
  simp only [sm_run, hi, h, hc N d (by omega) (by omega), sm_inv]
  exact hn N d n (by omega) h2 (by omega)
theorem zw_ret {D : Nat} {sc : sm_S} {mi : sm_MI} {pc : Nat} {L : sm_L} {st : List Value} {M M' : sm_M} {r : Option Value} {Post : sm_M → Option Value → Prop} {i : Instr} (hi : sm_fd mi.2.2.2.2.1 pc = some i) (h : ∀ cal k, sm_ex cal sc mi k pc (sm_kp mi.2.2.2.2.2.1 pc L) st M i = some (M', r)) (hp : Post M' r) : zW D sc mi pc L st M Post := by
  refine ⟨M', r, hp, 1, fun N d n h1 h2 h3 => ?_⟩
  obtain ⟨n, rfl⟩ : ∃ q, n = q + 1 := ⟨n - 1, by omega⟩
  simp only [sm_run, hi, h]
/-- a boolean answer -/
theorem zw_bret {D : Nat} {sc : sm_S} {mi : sm_MI} {pc : Nat} {L : sm_L} {x : Int32} {M : sm_M} {Post : sm_M → Option Value → Prop} (hi : sm_fd mi.2.2.2.2.1 pc = some .ireturn) (hr : mi.2.2.2.1 = some .boolean) (hx : x = 0 ∨ x = 1) (hp : Post M (some (.int x))) : zW D sc mi pc L [.int x] M Post := by
  refine zw_ret (M' := M) (r := some (.int x)) hi (fun cal k => ?_) hp
  show (match sm_zr mi.2.2.2.1 x with | true => sm_ret (some (.int x)) M [] | false => none) = _
  rw [hr]
  rcases hx with rfl | rfl <;> rfl
theorem sm_msk_msk : ∀ (L : sm_L) (bs : List Bool), sm_msk bs (sm_msk bs L) = sm_msk bs L := by
  intro L
  induction L with
  | nil => intro bs; cases bs <;> rfl
  | cons o t ih =>
    intro bs
    cases bs with
    | nil => rfl
    | cons b bs => cases b <;> simp [sm_msk, ih]
theorem sm_kp_kp (ks : List (Nat × List Bool)) (pc : Nat) (L : sm_L) : sm_kp ks pc (sm_kp ks pc L) = sm_kp ks pc L := by
  unfold sm_kp
  cases sm_fd ks pc with
  | none => rfl
  | some bs => exact sm_msk_msk L bs
/-- at a loop's head: only what lives -/
theorem zw_kp {D : Nat} {sc : sm_S} {mi : sm_MI} {pc : Nat} {L : sm_L} {st : List Value} {M : sm_M} {Post : sm_M → Option Value → Prop} (h : zW D sc mi pc (sm_kp mi.2.2.2.2.2.1 pc L) st M Post) : zW D sc mi pc L st M Post := by
  obtain ⟨M', r, hp, n0, h⟩ := h
  refine ⟨M', r, hp, n0, fun N d n h1 h2 h3 => ?_⟩
  have h4 := h N d n h1 h2 h3
  cases n with
  | zero => cases h4
  | succ n =>
    simp only [sm_run, sm_kp_kp] at h4 ⊢
    exact h4
theorem zc_of {D : Nat} {sc : sm_S} {y : Nat} {mi : sm_MI} {as : List Value} {M : sm_M} {Post : sm_M → Option Value → Prop} (hm : sm_fd sm_pg y = some mi) (hb : Nat.ble (sm_ent as).length mi.2.2.1 = true) (h : zW D sc mi 0 (sm_pad mi.2.2.1 (sm_ent as)) [] M Post) : zC (D + 1) sc y as M Post := by
  obtain ⟨M', r, hp, n0, h⟩ := h
  refine ⟨M', r, hp, n0, fun N d h1 h2 => ?_⟩
  obtain ⟨d, rfl⟩ : ∃ q, d = q + 1 := ⟨d - 1, by omega⟩
  simp only [sm_sim, hm, hb]
  exact h N d N (by omega) (by omega) (by omega)
theorem zc_post {D : Nat} {sc : sm_S} {y : Nat} {as : List Value} {M : sm_M} {P Q : sm_M → Option Value → Prop} (h : zC D sc y as M P) (hpq : ∀ M r, P M r → Q M r) : zC D sc y as M Q := by
  obtain ⟨M', r, hp, h⟩ := h
  exact ⟨M', r, hpq _ _ hp, h⟩
theorem zc_up {D D' : Nat} {sc : sm_S} {y : Nat} {as : List Value} {M : sm_M} {P : sm_M → Option Value → Prop} (h : zC D sc y as M P) (hd : D ≤ D') : zC D' sc y as M P := by
  obtain ⟨M', r, hp, n0, h⟩ := h
  exact ⟨M', r, hp, n0, fun N d h1 h2 => h N d h1 (by omega)⟩
theorem zw_post {D : Nat} {sc : sm_S} {mi : sm_MI} {pc : Nat} {L : sm_L} {st : List Value} {M : sm_M} {P Q : sm_M → Option Value → Prop} (h : zW D sc mi pc L st M P) (hpq : ∀ M r, P M r → Q M r) : zW D sc mi pc L st M Q := by
  obtain ⟨M', r, hp, h⟩ := h
  exact ⟨M', r, hpq _ _ hp, h⟩

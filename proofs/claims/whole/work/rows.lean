section
/-! THE SIMULATOR: a small interpreter of bytecode over a memory of cells by number (no machine, no heap): what its answers mean for the machine is said in the next parts -/
abbrev sm_M : Type := List va_E
abbrev sm_L : Type := List (Option Value)
abbrev sm_R : Type := Option (sm_M × Option Value)
/-- of a class: its field links (pool number, class, field, kind), its method links (pool number, kind, method, parameters, class of the receiver), its constants, what it makes -/
abbrev sm_LK : Type := List (Nat × Nat × Nat × Nat) × List (Nat × Nat × Nat × Nat × Nat) × List (Nat × Value) × List (Nat × Nat × List Value)
/-- of a method: name, bytes, locals, answer, instructions, which locals live at a loop's head, its class's links -/
abbrev sm_MI : Type := MethodName × ByteArray × Nat × Option FieldType × List (Nat × Instr) × List (Nat × List Bool) × sm_LK
def sm_fd {α : Type} : List (Nat × α) → Nat → Option α
  | [], _ => none
  | (q, a) :: t, k => match Nat.beq q k with
    | true => some a
    | false => sm_fd t k
def sm_msk : List Bool → sm_L → sm_L
  | b :: bs, v :: L => (match b with | true => v | false => none) :: sm_msk bs L
  | [], L => L
  | _ :: _, [] => []
def sm_kp (ks : List (Nat × List Bool)) (pc : Nat) (L : sm_L) : sm_L := match sm_fd ks pc with
  | none => L
  | some bs => sm_msk bs L
def sm_lg : sm_L → Nat → Option Value
  | [], _ => none
  | v :: _, 0 => v
  | _ :: t, i + 1 => sm_lg t i
def sm_is2 : Option Value → Bool
  | some (.long _) => true
  | some (.double _) => true
  | _ => false
def sm_cl (o : Option Value) : Option Value := match sm_is2 o with
  | true => none
  | false => o
def sm_s1 : sm_L → Nat → Value → sm_L
  | [], _, _ => []
  | _ :: t, 0, v => some v :: t
  | o :: t, i + 1, v => (match i with | 0 => sm_cl o | _ + 1 => o) :: sm_s1 t i v
def sm_s2 : sm_L → Nat → Value → sm_L
  | [], _, _ => []
  | _ :: t, 0, v => some v :: (match t with | [] => [] | _ :: t' => none :: t')
  | o :: t, i + 1, v => (match i with | 0 => sm_cl o | _ + 1 => o) :: sm_s2 t i v
def sm_get : sm_M → Nat → Option va_E
  | [], _ => none
  | e :: _, 0 => some e
  | _ :: t, i + 1 => sm_get t i
def sm_set : sm_M → Nat → va_E → sm_M
  | [], _, _ => []
  | _ :: t, 0, e => e :: t
  | c :: t, i + 1, e => c :: sm_set t i e
def sm_vg : List Value → Nat → Option Value
  | [], _ => none
  | v :: _, 0 => some v
  | _ :: t, i + 1 => sm_vg t i
def sm_vs : List Value → Nat → Value → List Value
  | [], _, _ => []
  | _ :: t, 0, v => v :: t
  | w :: t, i + 1, v => w :: sm_vs t i v
def sm_pt : Nat → Value → Bool
  | 0, .int _ => true
  | 1, .int x => x == 0 || x == 1
  | 2, .long _ => true
  | 3, .ref _ => true
  | _, _ => false
def sm_pop : Nat → List Value → List Value → Option (List Value × List Value)
  | 0, acc, st => some (acc, st)
  | n + 1, acc, v :: st => sm_pop n (v :: acc) st
  | _ + 1, _, [] => none
def sm_low (st : List Value) : Bool := Nat.ble ((st.map fun v => v.category).sum) 8
def sm_i1 (st : List Value) (f : Int32 → List Value → sm_R) : sm_R := match st with
  | .int x :: r => f x r
  | _ => none
def sm_i2 (st : List Value) (f : Int32 → Int32 → List Value → sm_R) : sm_R := match st with
  | .int y :: .int x :: r => f x y r
  | _ => none
def sm_l1 (st : List Value) (f : Int64 → List Value → sm_R) : sm_R := match st with
  | .long x :: r => f x r
  | _ => none
def sm_l2 (st : List Value) (f : Int64 → Int64 → List Value → sm_R) : sm_R := match st with
  | .long y :: .long x :: r => f x y r
  | _ => none
def sm_li (st : List Value) (f : Int64 → Int32 → List Value → sm_R) : sm_R := match st with
  | .int y :: .long x :: r => f x y r
  | _ => none
def sm_r1 (st : List Value) (f : Nat → List Value → sm_R) : sm_R := match st with
  | .ref x :: r => f x r
  | _ => none
def sm_tg (pc : Nat) (off : Int) (f : Nat → sm_R) : sm_R := match (pc : Int) + off with
  | .ofNat t => f t
  | .negSucc _ => none
def sm_li1 (L : sm_L) (i : Nat) (f : Int32 → sm_R) : sm_R := match sm_lg L i with
  | some (.int x) => f x
  | _ => none
def sm_ll1 (L : sm_L) (i : Nat) (f : Int64 → sm_R) : sm_R := match sm_lg L i with
  | some (.long x) => f x
  | _ => none
def sm_lr1 (L : sm_L) (i : Nat) (f : Nat → sm_R) : sm_R := match sm_lg L i with
  | some (.ref x) => f x
  | _ => none
/-- an index: in its row, or nothing -/
def sm_ix (i : Int32) (n : Nat) (f : Nat → sm_R) : sm_R := if i < 0 ∨ n ≤ i.toNatClampNeg then none else f i.toNatClampNeg
def sm_obj (M : sm_M) (o : Nat) (f : Nat → List Value → sm_R) : sm_R := match sm_get M o with
  | some (.inr (ci, fs)) => f ci fs
  | _ => none
def sm_ia (M : sm_M) (o : Nat) (f : Nat → (Nat → Int32) → sm_R) : sm_R := match sm_get M o with
  | some (.inl (0, n, .inl g)) => f n g
  | _ => none
def sm_la (M : sm_M) (o : Nat) (f : Nat → (Nat → Int64) → sm_R) : sm_R := match sm_get M o with
  | some (.inl (1, n, .inr (.inl g))) => f n g
  | _ => none
def sm_len (M : sm_M) (o : Nat) (f : Nat → sm_R) : sm_R := match sm_get M o with
  | some (.inl (0, n, .inl _)) => f n
  | some (.inl (1, n, .inr (.inl _))) => f n
  | _ => none
/-- the script's own number -/
def sm_SC : Nat := 1000
def sm_st1 (L : sm_L) (i : Nat) (v : Value) (f : sm_L → sm_R) : sm_R := match Nat.blt i L.length with
  | true => f (sm_s1 L i v)
  | false => none
def sm_st2 (L : sm_L) (i : Nat) (v : Value) (f : sm_L → sm_R) : sm_R := match Nat.blt (i + 1) L.length with
  | true => f (sm_s2 L i v)
  | false => none
def sm_ret (v : Option Value) (M : sm_M) (st : List Value) : sm_R := match st with
  | [] => some (M, v)
  | _ :: _ => none
def sm_zr (rt : Option FieldType) (x : Int32) : Bool := match rt with
  | some .int => true
  | some .boolean => x == 0 || x == 1
  | _ => false
def sm_inv (f : Nat → sm_L → List Value → sm_M → sm_R) (pc : Nat) (L : sm_L) (r : List Value) (a : sm_R) : sm_R := match a with
  | some (M, v) => f (pc + 3) L (v.toList ++ r) M
  | none => none
/-- one instruction; k: what comes behind it -/
def sm_ex (cal : Nat → List Value → sm_M → sm_R) (sc : Option (Nat × (Nat → Int32))) (mi : sm_MI) (k : Nat → sm_L → List Value → sm_M → sm_R) (pc : Nat) (L : sm_L) (st : List Value) (M : sm_M) (i : Instr) : sm_R :=
  match i with
  | .iconst n => k (pc + 1) L (.int (Int32.ofInt n) :: st) M
  | .bipush n => k (pc + 2) L (.int (Int8.ofInt n).toInt32 :: st) M
  | .sipush n => k (pc + 3) L (.int (Int16.ofInt n).toInt32 :: st) M
  | .lconst n => k (pc + 1) L (.long (Int64.ofNat (n : Nat)) :: st) M
  | .ldc x => (match sm_fd mi.2.2.2.2.2.2.2.2.1 x with | some (.int v) => k (pc + 2) L (.int v :: st) M | some (.ref v) => k (pc + 2) L (.ref v :: st) M | _ => none)
  | .ldc_w x => (match sm_fd mi.2.2.2.2.2.2.2.2.1 x with | some (.int v) => k (pc + 3) L (.int v :: st) M | _ => none)
  | .ldc2_w x => (match sm_fd mi.2.2.2.2.2.2.2.2.1 x with | some (.long v) => k (pc + 3) L (.long v :: st) M | _ => none)
  | .iload_n j => sm_li1 L j.val (fun x => k (pc + 1) L (.int x :: st) M)
  | .iload j => sm_li1 L j (fun x => k (pc + 2) L (.int x :: st) M)
  | .lload_n j => sm_ll1 L j.val (fun x => k (pc + 1) L (.long x :: st) M)
  | .lload j => sm_ll1 L j (fun x => k (pc + 2) L (.long x :: st) M)
  | .aload_n j => sm_lr1 L j.val (fun x => k (pc + 1) L (.ref x :: st) M)
  | .aload j => sm_lr1 L j (fun x => k (pc + 2) L (.ref x :: st) M)
  | .istore_n j => sm_i1 st (fun x r => sm_st1 L j.val (.int x) (fun L' => k (pc + 1) L' r M))
  | .istore j => sm_i1 st (fun x r => sm_st1 L j (.int x) (fun L' => k (pc + 2) L' r M))
  | .lstore_n j => sm_l1 st (fun x r => sm_st2 L j.val (.long x) (fun L' => k (pc + 1) L' r M))
  | .lstore j => sm_l1 st (fun x r => sm_st2 L j (.long x) (fun L' => k (pc + 2) L' r M))
  | .astore_n j => sm_r1 st (fun x r => sm_st1 L j.val (.ref x) (fun L' => k (pc + 1) L' r M))
  | .astore j => sm_r1 st (fun x r => sm_st1 L j (.ref x) (fun L' => k (pc + 2) L' r M))
  | .iinc j n => sm_li1 L j (fun x => sm_st1 L j (.int (x + Int32.ofInt n)) (fun L' => k (pc + 3) L' st M))
  | .iadd => sm_i2 st (fun x y r => k (pc + 1) L (.int (x + y) :: r) M)
  | .isub => sm_i2 st (fun x y r => k (pc + 1) L (.int (x - y) :: r) M)
  | .imul => sm_i2 st (fun x y r => k (pc + 1) L (.int (x * y) :: r) M)
  | .iand => sm_i2 st (fun x y r => k (pc + 1) L (.int (x &&& y) :: r) M)
  | .ior => sm_i2 st (fun x y r => k (pc + 1) L (.int (x ||| y) :: r) M)
  | .ixor => sm_i2 st (fun x y r => k (pc + 1) L (.int (x ^^^ y) :: r) M)
  | .idiv => sm_i2 st (fun x y r => if y = 0 then none else k (pc + 1) L (.int (x / y) :: r) M)
  | .irem => sm_i2 st (fun x y r => if y = 0 then none else k (pc + 1) L (.int (x - x / y * y) :: r) M)
  | .ishl => sm_i2 st (fun x y r => k (pc + 1) L (.int (x <<< (y &&& 31)) :: r) M)
  | .ishr => sm_i2 st (fun x y r => k (pc + 1) L (.int (x >>> (y &&& 31)) :: r) M)
  | .iushr => sm_i2 st (fun x y r => k (pc + 1) L (.int (x.toUInt32 >>> (y.toUInt32 &&& Int32.toUInt32 31)).toInt32 :: r) M)
  | .ineg => sm_i1 st (fun x r => k (pc + 1) L (.int (-x) :: r) M)
  | .ladd => sm_l2 st (fun x y r => k (pc + 1) L (.long (x + y) :: r) M)
  | .lsub => sm_l2 st (fun x y r => k (pc + 1) L (.long (x - y) :: r) M)
  | .land => sm_l2 st (fun x y r => k (pc + 1) L (.long (x &&& y) :: r) M)
  | .lor => sm_l2 st (fun x y r => k (pc + 1) L (.long (x ||| y) :: r) M)
  | .lxor => sm_l2 st (fun x y r => k (pc + 1) L (.long (x ^^^ y) :: r) M)
  | .lshl => sm_li st (fun x y r => k (pc + 1) L (.long (x <<< (y.toInt64 &&& 63)) :: r) M)
  | .lshr => sm_li st (fun x y r => k (pc + 1) L (.long (x >>> (y.toInt64 &&& 63)) :: r) M)
  | .lushr => sm_li st (fun x y r => k (pc + 1) L (.long (x.toUInt64 >>> (y.toInt64.toUInt64 &&& Int64.toUInt64 63)).toInt64 :: r) M)
  | .lcmp => sm_l2 st (fun x y r => k (pc + 1) L (.int (lg_cmp x y) :: r) M)
  | .i2l => sm_i1 st (fun x r => k (pc + 1) L (.long x.toInt64 :: r) M)
  | .l2i => sm_l1 st (fun x r => k (pc + 1) L (.int x.toInt32 :: r) M)
  | .dup => (match st with
    | .int x :: r => k (pc + 1) L (.int x :: .int x :: r) M
    | .ref x :: r => k (pc + 1) L (.ref x :: .ref x :: r) M
    | _ => none)
  | .dup2 => (match st with
    | .int x :: .ref y :: r => k (pc + 1) L (.int x :: .ref y :: .int x :: .ref y :: r) M
    | .long x :: r => k (pc + 1) L (.long x :: .long x :: r) M
    | _ => none)
  | .goto off => sm_tg pc off (fun t => k t L st M)
  | .ifCond c off => sm_tg pc off (fun t => sm_i1 st (fun x r => match c with
    | .eq => if x = 0 then k t L r M else k (pc + 3) L r M
    | .ne => if x = 0 then k (pc + 3) L r M else k t L r M
    | .lt => if x < 0 then k t L r M else k (pc + 3) L r M
    | .ge => if 0 ≤ x then k t L r M else k (pc + 3) L r M
    | .gt => if 0 < x then k t L r M else k (pc + 3) L r M
    | .le => if x ≤ 0 then k t L r M else k (pc + 3) L r M))
  | .if_icmp c off => sm_tg pc off (fun t => sm_i2 st (fun x y r => match c with
    | .eq => if x = y then k t L r M else k (pc + 3) L r M
    | .ne => if x = y then k (pc + 3) L r M else k t L r M
    | .lt => if x < y then k t L r M else k (pc + 3) L r M
    | .ge => if y ≤ x then k t L r M else k (pc + 3) L r M
    | .gt => if y < x then k t L r M else k (pc + 3) L r M
    | .le => if x ≤ y then k t L r M else k (pc + 3) L r M))
  | .tableswitch dflt lo hi offs => sm_i1 st (fun x r => if x.toInt < lo ∨ hi < x.toInt then sm_tg pc dflt (fun t => k t L r M) else (match offs[(x.toInt - lo).toNat]? with
    | some off => sm_tg pc off (fun t => k t L r M)
    | none => none))
  | .lookupswitch dflt ps => (match (ps.toList.zip (ps.toList.drop 1)).all (fun (a, next) => a.1 < next.1) with
    | true => sm_i1 st (fun x r => sm_tg pc (Op.lookupswitch.offset ps.toList dflt x.toInt) (fun t => k t L r M))
    | false => none)
  | .getfield x => (match sm_fd mi.2.2.2.2.2.2.1 x with
    | some (ci, j, _) => sm_r1 st (fun o r => sm_obj M o (fun cj fs => match Nat.beq cj ci with
      | true => (match sm_vg fs j with | some v => k (pc + 3) L (v :: r) M | none => none)
      | false => none))
    | none => none)
  | .putfield x => (match sm_fd mi.2.2.2.2.2.2.1 x with
    | some (ci, j, t) => (match st with
      | v :: .ref o :: r => sm_obj M o (fun cj fs => match Nat.beq cj ci && sm_pt t v && Nat.blt j fs.length with
        | true => k (pc + 3) L r (sm_set M o (.inr (cj, sm_vs fs j v)))
        | false => none)
      | _ => none)
    | none => none)
  | .iaload => (match st with
    | .int i :: .ref a :: r => (match Nat.beq a sm_SC with
      | true => (match sc with | some (n, g) => sm_ix i n (fun j => k (pc + 1) L (.int (g j) :: r) M) | none => none)
      | false => sm_ia M a (fun n g => sm_ix i n (fun j => k (pc + 1) L (.int (g j) :: r) M)))
    | _ => none)
  | .laload => (match st with
    | .int i :: .ref a :: r => sm_la M a (fun n g => sm_ix i n (fun j => k (pc + 1) L (.long (g j) :: r) M))
    | _ => none)
  | .iastore => (match st with
    | .int x :: .int i :: .ref a :: r => sm_ia M a (fun n g => sm_ix i n (fun j => k (pc + 1) L r (sm_set M a (.inl (0, n, .inl (upd g j x))))))
    | _ => none)
  | .lastore => (match st with
    | .long x :: .int i :: .ref a :: r => sm_la M a (fun n g => sm_ix i n (fun j => k (pc + 1) L r (sm_set M a (.inl (1, n, .inr (.inl (vp_updL g j x)))))))
    | _ => none)
  | .arraylength => sm_r1 st (fun a r => match Nat.beq a sm_SC with
    | true => (match sc with | some (n, _) => k (pc + 1) L (.int (Int32.ofNat n) :: r) M | none => none)
    | false => sm_len M a (fun n => k (pc + 1) L (.int (Int32.ofNat n) :: r) M))
  | .newarray t => sm_i1 st (fun x r => if x < 0 then none else (match Nat.ble x.toNatClampNeg 100000 && Nat.blt M.length 1000 with
    | true => (match t with
      | .int => k (pc + 2) L (.ref M.length :: r) (M ++ [.inl (0, x.toNatClampNeg, .inl (fun _ => 0))])
      | .long => k (pc + 2) L (.ref M.length :: r) (M ++ [.inl (1, x.toNatClampNeg, .inr (.inl (fun _ => 0)))])
      | _ => none)
    | false => none))
  | .new x => (match sm_fd mi.2.2.2.2.2.2.2.2.2 x with
    | some (ci, fs) => (match Nat.blt M.length 1000 with
      | true => k (pc + 3) L (.ref M.length :: st) (M ++ [.inr (ci, fs)])
      | false => none)
    | none => none)
  | .invokestatic x => (match sm_fd mi.2.2.2.2.2.2.2.1 x with
    | some (0, y, n, _) => (match sm_pop n [] st with
      | some (as, r) => (match sm_low r with | true => sm_inv k pc L r (cal y as M) | false => none)
      | none => none)
    | _ => none)
  | .invokevirtual x => (match sm_fd mi.2.2.2.2.2.2.2.1 x with
    | some (1, y, n, ci) => (match sm_pop n [] st with
      | some (as, .ref b :: r) => (match sm_low r with
        | true => sm_obj M b (fun cj _ => match Nat.beq cj ci with | true => sm_inv k pc L r (cal y (.ref b :: as) M) | false => none)
        | false => none)
      | _ => none)
    | _ => none)
  | .invokespecial x => (match sm_fd mi.2.2.2.2.2.2.2.1 x with
    | some (2, y, n, _) => (match sm_pop n [] st with
      | some (as, .ref b :: r) => (match sm_low r with | true => sm_inv k pc L r (cal y (.ref b :: as) M) | false => none)
      | _ => none)
    | some (3, _, _, _) => sm_r1 st (fun _ r => match sm_low r with | true => k (pc + 3) L r M | false => none)
    | _ => none)
  | .ireturn => sm_i1 st (fun x r => match sm_zr mi.2.2.2.1 x with | true => sm_ret (some (.int x)) M r | false => none)
  | .lreturn => sm_l1 st (fun x r => match mi.2.2.2.1 with | some .long => sm_ret (some (.long x)) M r | _ => none)
  | .return_ => (match mi.2.2.2.1 with | none => sm_ret none M st | some _ => none)
  | _ => none
def sm_run (cal : Nat → List Value → sm_M → sm_R) (sc : Option (Nat × (Nat → Int32))) (mi : sm_MI) : Nat → Nat → sm_L → List Value → sm_M → sm_R
  | 0, _, _, _, _ => none
  | n + 1, pc, L, st, M => match sm_fd mi.2.2.2.2.1 pc with
    | none => none
    | some i => sm_ex cal sc mi (sm_run cal sc mi n) pc (sm_kp mi.2.2.2.2.2.1 pc L) st M i
def sm_ent : List Value → sm_L
  | [] => []
  | v :: t => match sm_is2 (some v) with
    | true => some v :: none :: sm_ent t
    | false => some v :: sm_ent t
def sm_pad : Nat → sm_L → sm_L
  | 0, _ => []
  | n + 1, [] => none :: sm_pad n []
  | n + 1, o :: t => o :: sm_pad n t
/-- calls down to depth d, N instructions in each -/
def sm_sim (pg : List (Nat × sm_MI)) (bi : Nat → List Value → sm_M → sm_R) : Nat → Nat → Nat → List Value → sm_M → sm_R
  | 0, _, _, _, _ => none
  | d + 1, N, y, as, M => match sm_fd pg y with
    | some mi => (match Nat.ble (sm_ent as).length mi.2.2.1 with
      | true => sm_run (sm_sim pg bi d N) none mi N 0 (sm_pad mi.2.2.1 (sm_ent as)) [] M
      | false => none)
    | none => bi y as M
end
section
/-! WHAT THE SIMULATOR'S NUMBERS MEAN: cells by their addresses (B + number, below 1000), locals, words -/
def sm_rho (B : Nat) (ad : Nat → Nat) (i : Nat) : Nat := if i < 1000 then B + i else ad i
def sm_cv (B : Nat) (ad : Nat → Nat) : Value → Value
  | .ref a => .ref (sm_rho B ad a)
  | v => v
def sm_ce (τ : Nat → ClassId) (B : Nat) (ad : Nat → Nat) : va_E → va_E
  | .inl (c, a) => .inl (τ c, a)
  | .inr (ci, fs) => .inr (ci, fs.map (sm_cv B ad))
def sm_w (τ : Nat → ClassId) (B : Nat) (ad : Nat → Nat) : Nat → sm_M → va_W
  | _, [] => []
  | j, e :: t => (sm_rho B ad j, sm_ce τ B ad e) :: sm_w τ B ad (j + 1) t
def sm_sz : va_E → Nat
  | .inl (_, n, _) => n
  | .inr (_, fs) => fs.length
def sm_sl : sm_M → Nat
  | [] => 0
  | e :: t => sm_sz e + sm_sl t
theorem sm_w_get (τ : Nat → ClassId) (B : Nat) (ad : Nat → Nat) : ∀ (M : sm_M) (j i : Nat), (sm_w τ B ad j M)[i]? = (sm_get M i).map (fun e => (sm_rho B ad (j + i), sm_ce τ B ad e)) := by
  intro M
  induction M with
  | nil => intro j i; rfl
  | cons e t ih =>
    intro j i
    cases i with
    | zero => rfl
    | succ i =>
      show (sm_w τ B ad (j + 1) t)[i]? = _
      rw [ih (j + 1) i, show j + 1 + i = j + (i + 1) by omega]
      rfl
theorem sm_w_set (τ : Nat → ClassId) (B : Nat) (ad : Nat → Nat) : ∀ (M : sm_M) (j i : Nat) (e : va_E), (sm_w τ B ad j M).set i (sm_rho B ad (j + i), sm_ce τ B ad e) = sm_w τ B ad j (sm_set M i e) := by
  intro M
  induction M with
  | nil => intro j i e; rfl
  | cons c t ih =>
    intro j i e
    cases i with
    | zero => rfl
    | succ i =>
      show _ :: (sm_w τ B ad (j + 1) t).set i _ = _ :: sm_w τ B ad (j + 1) (sm_set t i e)
      rw [← ih (j + 1) i e, show j + 1 + i = j + (i + 1) by omega]
theorem sm_w_app (τ : Nat → ClassId) (B : Nat) (ad : Nat → Nat) (e : va_E) : ∀ (M : sm_M) (j : Nat), sm_w τ B ad j (M ++ [e]) = sm_w τ B ad j M ++ [(sm_rho B ad (j + M.length), sm_ce τ B ad e)] := by
  intro M
  induction M with
  | nil => intro j; rfl
  | cons c t ih =>
    intro j
    show _ :: sm_w τ B ad (j + 1) (t ++ [e]) = _ :: (sm_w τ B ad (j + 1) t ++ _)
    rw [ih (j + 1), show j + 1 + t.length = j + (c :: t).length by simp; omega]
theorem sm_get_lt : ∀ {M : sm_M} {i : Nat} {e : va_E}, sm_get M i = some e → i < M.length := by
  intro M
  induction M with
  | nil => intro i e h; cases h
  | cons c t ih =>
    intro i e h
    cases i with
    | zero => simp
    | succ i => have := ih (i := i) h; simp; omega
theorem sm_set_len : ∀ (M : sm_M) (i : Nat) (e : va_E), (sm_set M i e).length = M.length := by
  intro M
  induction M with
  | nil => intro i e; rfl
  | cons c t ih =>
    intro i e
    cases i with
    | zero => rfl
    | succ i => simp [sm_set, ih]
theorem sm_set_sl : ∀ {M : sm_M} {i : Nat} {e e0 : va_E}, sm_get M i = some e0 → sm_sz e = sm_sz e0 → sm_sl (sm_set M i e) = sm_sl M := by
  intro M
  induction M with
  | nil => intro i e e0 h; cases h
  | cons c t ih =>
    intro i e e0 h hz
    cases i with
    | zero => cases h; simp [sm_set, sm_sl, hz]
    | succ i => simp [sm_set, sm_sl, ih (i := i) h hz]
theorem sm_sl_app (e : va_E) : ∀ (M : sm_M), sm_sl (M ++ [e]) = sm_sl M + sm_sz e := by
  intro M
  induction M with
  | nil => simp [sm_sl]
  | cons c t ih => simp [sm_sl, ih]; omega
theorem sm_rho_lt {B : Nat} {ad : Nat → Nat} {i : Nat} (h : i < 1000) : sm_rho B ad i = B + i := if_pos h
/-- the cells' addresses are apart, and from B on -/
theorem sm_D {τ : Nat → ClassId} {B : Nat} {ad : Nat → Nat} {M : sm_M} (h : M.length ≤ 1000) : va_D (fun q => B ≤ q) (sm_w τ B ad 0 M) := by
  have key : ∀ (i : Nat) (q : Nat × va_E), (sm_w τ B ad 0 M)[i]? = some q → q.1 = B + i := by
    intro i q hq
    rw [sm_w_get] at hq
    cases hg : sm_get M i with
    | none => rw [hg] at hq; cases hq
    | some e =>
      rw [hg] at hq
      have hlt := sm_get_lt hg
      have : q = (sm_rho B ad (0 + i), sm_ce τ B ad e) := (Option.some.inj hq).symm
      rw [this, Nat.zero_add, sm_rho_lt (by omega)]
  exact ⟨fun i j a b ha hb hab => by rw [key i a ha, key j b hb] at hab; omega, fun i q hq => by rw [key i q hq]; exact Nat.le_add_right _ _⟩
theorem sm_cv_cat (B : Nat) (ad : Nat → Nat) (v : Value) : (sm_cv B ad v).category = v.category := by cases v <;> rfl
/-- locals: what they hold, by their places -/
def sm_al (B : Nat) (ad : Nat → Nat) : Nat → sm_L → List (Nat × Value)
  | _, [] => []
  | j, none :: t => sm_al B ad (j + 1) t
  | j, some v :: t => (j, sm_cv B ad v) :: sm_al B ad (j + 1) t
theorem sm_al_in {B : Nat} {ad : Nat → Nat} : ∀ {L : sm_L} {i j : Nat} {v : Value}, sm_lg L i = some v → (j + i, sm_cv B ad v) ∈ sm_al B ad j L := by
  intro L
  induction L with
  | nil => intro i j v h; cases h
  | cons o t ih =>
    intro i j v h
    cases i with
    | zero =>
      have h : o = some v := h
      subst h
      exact List.mem_cons_self
    | succ i =>
      have h : sm_lg t i = some v := h
      have := ih (j := j + 1) h
      rw [show j + 1 + i = j + (i + 1) by omega] at this
      cases o with
      | none => exact this
      | some w => exact List.mem_cons_of_mem _ this
theorem sm_al_ge {B : Nat} {ad : Nat → Nat} : ∀ {L : sm_L} {j : Nat} {q : Nat × Value}, q ∈ sm_al B ad j L → j ≤ q.1 := by
  intro L
  induction L with
  | nil => intro j q h; cases h
  | cons o t ih =>
    intro j q h
    cases o with
    | none => exact Nat.le_of_succ_le (ih (j := j + 1) h)
    | some w =>
      rcases List.mem_cons.mp h with rfl | h
      · exact Nat.le_refl _
      · exact Nat.le_of_succ_le (ih (j := j + 1) h)
theorem sm_al_msk {B : Nat} {ad : Nat → Nat} : ∀ {L : sm_L} {bs : List Bool} {j : Nat} {q : Nat × Value}, q ∈ sm_al B ad j (sm_msk bs L) → q ∈ sm_al B ad j L := by
  intro L
  induction L with
  | nil => intro bs j q h; cases bs <;> cases h
  | cons o t ih =>
    intro bs j q h
    cases bs with
    | nil => exact h
    | cons b bs =>
      cases b with
      | true =>
        cases o with
        | none => exact ih (bs := bs) (j := j + 1) h
        | some w =>
          rcases List.mem_cons.mp h with h | h
          · exact List.mem_cons.mpr (Or.inl h)
          · exact List.mem_cons_of_mem _ (ih (bs := bs) (j := j + 1) h)
      | false =>
        have h2 := ih (bs := bs) (j := j + 1) h
        cases o with
        | none => exact h2
        | some w => exact List.mem_cons_of_mem _ h2
theorem sm_msk_len : ∀ (L : sm_L) (bs : List Bool), (sm_msk bs L).length = L.length := by
  intro L
  induction L with
  | nil => intro bs; cases bs <;> rfl
  | cons o t ih =>
    intro bs
    cases bs with
    | nil => rfl
    | cons b bs => simp [sm_msk, ih]
theorem sm_s1_len : ∀ (L : sm_L) (i : Nat) (v : Value), (sm_s1 L i v).length = L.length := by
  intro L
  induction L with
  | nil => intro i v; rfl
  | cons o t ih =>
    intro i v
    cases i with
    | zero => rfl
    | succ i => simp [sm_s1, ih]
theorem sm_s2_len : ∀ (L : sm_L) (i : Nat) (v : Value), (sm_s2 L i v).length = L.length := by
  intro L
  induction L with
  | nil => intro i v; rfl
  | cons o t ih =>
    intro i v
    cases i with
    | zero => cases t <;> rfl
    | succ i => simp [sm_s2, ih]
theorem sm_al_cl {B : Nat} {ad : Nat → Nat} {o : Option Value} {t : sm_L} {j : Nat} {q : Nat × Value} (h : q ∈ sm_al B ad j (sm_cl o :: t)) : (q ∈ sm_al B ad j [o] ∧ ¬ q.2.category = 2) ∨ q ∈ sm_al B ad (j + 1) t := by
  cases o with
  | none => exact Or.inr h
  | some v =>
    cases v <;> first
      | exact Or.inr h
      | (rcases List.mem_cons.mp h with rfl | h
         · exact Or.inl ⟨List.mem_cons_self, by simp [sm_cv, Value.category]⟩
         · exact Or.inr h)
theorem sm_al_one {B : Nat} {ad : Nat → Nat} {o : Option Value} {t : sm_L} {j : Nat} {q : Nat × Value} (h : q ∈ sm_al B ad j [o]) : q ∈ sm_al B ad j (o :: t) ∧ q.1 = j := by
  cases o with
  | none => cases h
  | some v =>
    rcases List.mem_cons.mp h with rfl | h
    · exact ⟨List.mem_cons_self, rfl⟩
    · cases h
theorem sm_al_tl {B : Nat} {ad : Nat → Nat} {o : Option Value} {t : sm_L} {j : Nat} {q : Nat × Value} (h : q ∈ sm_al B ad (j + 1) t) : q ∈ sm_al B ad j (o :: t) := by
  cases o with
  | none => exact h
  | some v => exact List.mem_cons_of_mem _ h
theorem sm_al_hd {B : Nat} {ad : Nat → Nat} {o : Option Value} {t : sm_L} {j : Nat} {q : Nat × Value} (h : q ∈ sm_al B ad j (o :: t)) : (q ∈ sm_al B ad j [o]) ∨ q ∈ sm_al B ad (j + 1) t := by
  cases o with
  | none => exact Or.inr h
  | some v =>
    rcases List.mem_cons.mp h with rfl | h
    · exact Or.inl List.mem_cons_self
    · exact Or.inr h
theorem sm_al_s1 {B : Nat} {ad : Nat → Nat} : ∀ {L : sm_L} {i j : Nat} {v : Value} {q : Nat × Value}, q ∈ sm_al B ad j (sm_s1 L i v) → q = (j + i, sm_cv B ad v) ∨ (q ∈ sm_al B ad j L ∧ ¬ q.1 = j + i ∧ ¬ (q.1 + 1 = j + i ∧ q.2.category = 2)) := by
  intro L
  induction L with
  | nil => intro i j v q h; cases h
  | cons o t ih =>
    intro i j v q h
    cases i with
    | zero =>
      rcases List.mem_cons.mp (show q ∈ (j, sm_cv B ad v) :: sm_al B ad (j + 1) t from h) with h | h
      · exact Or.inl h
      · have g := sm_al_ge h
        exact Or.inr ⟨sm_al_tl h, by omega, by omega⟩
    | succ i =>
      cases i with
      | zero =>
        rcases sm_al_cl (show q ∈ sm_al B ad j (sm_cl o :: sm_s1 t 0 v) from h) with ⟨h, hc⟩ | h
        · obtain ⟨h1, h2⟩ := sm_al_one (t := t) h
          exact Or.inr ⟨h1, by omega, fun z => hc z.2⟩
        · rcases ih (i := 0) (j := j + 1) h with h | ⟨h, h2, h3⟩
          · exact Or.inl (by rw [h])
          · exact Or.inr ⟨sm_al_tl h, by omega, fun z => h3 ⟨by omega, z.2⟩⟩
      | succ i =>
        rcases sm_al_hd (show q ∈ sm_al B ad j (o :: sm_s1 t (i + 1) v) from h) with h | h
        · obtain ⟨h1, h2⟩ := sm_al_one (t := t) h
          exact Or.inr ⟨h1, by omega, by omega⟩
        · rcases ih (i := i + 1) (j := j + 1) h with h | ⟨h, h2, h3⟩
          · exact Or.inl (by rw [h, show j + 1 + (i + 1) = j + (i + 1 + 1) by omega])
          · exact Or.inr ⟨sm_al_tl h, by omega, fun z => h3 ⟨by omega, z.2⟩⟩
theorem sm_al_s2 {B : Nat} {ad : Nat → Nat} : ∀ {L : sm_L} {i j : Nat} {v : Value} {q : Nat × Value}, q ∈ sm_al B ad j (sm_s2 L i v) → q = (j + i, sm_cv B ad v) ∨ (q ∈ sm_al B ad j L ∧ ¬ q.1 = j + i ∧ ¬ q.1 = j + i + 1 ∧ ¬ (q.1 + 1 = j + i ∧ q.2.category = 2)) := by
  intro L
  induction L with
  | nil => intro i j v q h; cases h
  | cons o t ih =>
    intro i j v q h
    cases i with
    | zero =>
      cases t with
      | nil =>
        rcases List.mem_cons.mp (show q ∈ (j, sm_cv B ad v) :: sm_al B ad (j + 1) [] from h) with h | h
        · exact Or.inl h
        · cases h
      | cons o2 t =>
        rcases List.mem_cons.mp (show q ∈ (j, sm_cv B ad v) :: sm_al B ad (j + 1 + 1) t from h) with h | h
        · exact Or.inl h
        · have g := sm_al_ge h
          exact Or.inr ⟨sm_al_tl (sm_al_tl h), by omega, by omega, by omega⟩
    | succ i =>
      cases i with
      | zero =>
        rcases sm_al_cl (show q ∈ sm_al B ad j (sm_cl o :: sm_s2 t 0 v) from h) with ⟨h, hc⟩ | h
        · obtain ⟨h1, h2⟩ := sm_al_one (t := t) h
          exact Or.inr ⟨h1, by omega, by omega, fun z => hc z.2⟩
        · rcases ih (i := 0) (j := j + 1) h with h | ⟨h, h2, h3, h4⟩
          · exact Or.inl (by rw [h])
          · exact Or.inr ⟨sm_al_tl h, by omega, by omega, fun z => h4 ⟨by omega, z.2⟩⟩
      | succ i =>
        rcases sm_al_hd (show q ∈ sm_al B ad j (o :: sm_s2 t (i + 1) v) from h) with h | h
        · obtain ⟨h1, h2⟩ := sm_al_one (t := t) h
          exact Or.inr ⟨h1, by omega, by omega, by omega⟩
        · rcases ih (i := i + 1) (j := j + 1) h with h | ⟨h, h2, h3, h4⟩
          · exact Or.inl (by rw [h, show j + 1 + (i + 1) = j + (i + 1 + 1) by omega])
          · exact Or.inr ⟨sm_al_tl h, by omega, by omega, fun z => h4 ⟨by omega, z.2⟩⟩
theorem sm_has_le {ls : Array Slot} {nL : Nat} {l l' : List (Nat × Value)} (h : lv_has ls nL l) (hs : ∀ q ∈ l', q ∈ l) : lv_has ls nL l' := ⟨h.1, h.2.1, fun q hq => h.2.2 q (hs q hq)⟩
theorem sm_has_kp {ls : Array Slot} {nL : Nat} {B : Nat} {ad : Nat → Nat} {L : sm_L} {ks : List (Nat × List Bool)} {pc : Nat} (h : lv_has ls nL (sm_al B ad 0 L)) : lv_has ls nL (sm_al B ad 0 (sm_kp ks pc L)) := by
  unfold sm_kp
  cases sm_fd ks pc with
  | none => exact h
  | some bs => exact sm_has_le h (fun q hq => sm_al_msk hq)
theorem sm_kp_len (ks : List (Nat × List Bool)) (pc : Nat) (L : sm_L) : (sm_kp ks pc L).length = L.length := by
  unfold sm_kp
  cases sm_fd ks pc with
  | none => rfl
  | some bs => exact sm_msk_len L bs
theorem sm_has_s1 {ls : Array Slot} {nL : Nat} {B : Nat} {ad : Nat → Nat} {L : sm_L} {i : Nat} {v : Value} (h : lv_has ls nL ((i, sm_cv B ad v) :: (sm_al B ad 0 L).filter (fun q => !(q.1 == i) && !(q.1 + 1 == i && q.2.category == 2)))) : lv_has ls nL (sm_al B ad 0 (sm_s1 L i v)) := by
  refine sm_has_le h (fun q hq => ?_)
  rcases sm_al_s1 hq with h | ⟨h1, h2, h3⟩
  · rw [h, Nat.zero_add]; exact List.mem_cons_self
  · refine List.mem_cons_of_mem _ (List.mem_filter.mpr ⟨h1, ?_⟩)
    rw [Nat.zero_add] at h2 h3
    simp only [Bool.and_eq_true, Bool.not_eq_true', beq_eq_false_iff_ne, ne_eq, Bool.and_eq_false_iff]
    refine ⟨h2, ?_⟩
    by_cases z : q.1 + 1 = i
    · exact Or.inr (fun y => h3 ⟨z, y⟩)
    · exact Or.inl z
theorem sm_has_s2 {ls : Array Slot} {nL : Nat} {B : Nat} {ad : Nat → Nat} {L : sm_L} {i : Nat} {v : Value} (h : lv_has ls nL ((i, sm_cv B ad v) :: (sm_al B ad 0 L).filter (fun q => !(q.1 == i) && (!(q.1 == i + 1) && !(q.1 + 1 == i && q.2.category == 2))))) : lv_has ls nL (sm_al B ad 0 (sm_s2 L i v)) := by
  refine sm_has_le h (fun q hq => ?_)
  rcases sm_al_s2 hq with h | ⟨h1, h2, h3, h4⟩
  · rw [h, Nat.zero_add]; exact List.mem_cons_self
  · refine List.mem_cons_of_mem _ (List.mem_filter.mpr ⟨h1, ?_⟩)
    rw [Nat.zero_add] at h2 h3 h4
    simp only [Bool.and_eq_true, Bool.not_eq_true', beq_eq_false_iff_ne, ne_eq, Bool.and_eq_false_iff]
    refine ⟨h2, h3, ?_⟩
    by_cases z : q.1 + 1 = i
    · exact Or.inr (fun y => h4 ⟨z, y⟩)
    · exact Or.inl z
theorem sm_lg_lt : ∀ {L : sm_L} {i : Nat} {v : Value}, sm_lg L i = some v → i < L.length := by
  intro L
  induction L with
  | nil => intro i v h; cases h
  | cons o t ih =>
    intro i v h
    cases i with
    | zero => simp
    | succ i => have := ih (i := i) h; simp; omega
theorem sm_has_at {ls : Array Slot} {nL : Nat} {B : Nat} {ad : Nat → Nat} {L : sm_L} {i : Nat} {v : Value} (h : lv_has ls nL (sm_al B ad 0 L)) (hv : sm_lg L i = some v) : ls[i]? = some (.val (sm_cv B ad v)) := by
  have := h.2.2 _ (sm_al_in (B := B) (ad := ad) (j := 0) hv)
  rw [Nat.zero_add] at this
  exact this
end
section
/-! inversions of the simulator's small words, and: memory only grows -/
theorem sm_i1_some {st : List Value} {f : Int32 → List Value → sm_R} {z : sm_M × Option Value} (h : sm_i1 st f = some z) : ∃ x t, st = .int x :: t ∧ f x t = some z := by
  unfold sm_i1 at h
  split at h
  · exact ⟨_, _, rfl, h⟩
  · cases h
theorem sm_i2_some {st : List Value} {f : Int32 → Int32 → List Value → sm_R} {z : sm_M × Option Value} (h : sm_i2 st f = some z) : ∃ x y t, st = .int y :: .int x :: t ∧ f x y t = some z := by
  unfold sm_i2 at h
  split at h
  · exact ⟨_, _, _, rfl, h⟩
  · cases h
theorem sm_l1_some {st : List Value} {f : Int64 → List Value → sm_R} {z : sm_M × Option Value} (h : sm_l1 st f = some z) : ∃ x t, st = .long x :: t ∧ f x t = some z := by
  unfold sm_l1 at h
  split at h
  · exact ⟨_, _, rfl, h⟩
  · cases h
theorem sm_l2_some {st : List Value} {f : Int64 → Int64 → List Value → sm_R} {z : sm_M × Option Value} (h : sm_l2 st f = some z) : ∃ x y t, st = .long y :: .long x :: t ∧ f x y t = some z := by
  unfold sm_l2 at h
  split at h
  · exact ⟨_, _, _, rfl, h⟩
  · cases h
theorem sm_li_some {st : List Value} {f : Int64 → Int32 → List Value → sm_R} {z : sm_M × Option Value} (h : sm_li st f = some z) : ∃ x y t, st = .int y :: .long x :: t ∧ f x y t = some z := by
  unfold sm_li at h
  split at h
  · exact ⟨_, _, _, rfl, h⟩
  · cases h
theorem sm_r1_some {st : List Value} {f : Nat → List Value → sm_R} {z : sm_M × Option Value} (h : sm_r1 st f = some z) : ∃ x t, st = .ref x :: t ∧ f x t = some z := by
  unfold sm_r1 at h
  split at h
  · exact ⟨_, _, rfl, h⟩
  · cases h
theorem sm_tg_some {pc : Nat} {off : Int} {f : Nat → sm_R} {z : sm_M × Option Value} (h : sm_tg pc off f = some z) : ∃ t : Nat, (pc : Int) + off = (t : Int) ∧ f t = some z := by
  unfold sm_tg at h
  split at h
  · rename_i t ht; exact ⟨t, ht, h⟩
  · cases h
theorem sm_li1_some {L : sm_L} {i : Nat} {f : Int32 → sm_R} {z : sm_M × Option Value} (h : sm_li1 L i f = some z) : ∃ x, sm_lg L i = some (.int x) ∧ f x = some z := by
  unfold sm_li1 at h
  split at h
  · rename_i x hx; exact ⟨x, hx, h⟩
  · cases h
theorem sm_ll1_some {L : sm_L} {i : Nat} {f : Int64 → sm_R} {z : sm_M × Option Value} (h : sm_ll1 L i f = some z) : ∃ x, sm_lg L i = some (.long x) ∧ f x = some z := by
  unfold sm_ll1 at h
  split at h
  · rename_i x hx; exact ⟨x, hx, h⟩
  · cases h
theorem sm_lr1_some {L : sm_L} {i : Nat} {f : Nat → sm_R} {z : sm_M × Option Value} (h : sm_lr1 L i f = some z) : ∃ x, sm_lg L i = some (.ref x) ∧ f x = some z := by
  unfold sm_lr1 at h
  split at h
  · rename_i x hx; exact ⟨x, hx, h⟩
  · cases h
theorem sm_ix_some {i : Int32} {n : Nat} {f : Nat → sm_R} {z : sm_M × Option Value} (h : sm_ix i n f = some z) : vp_in i n ∧ f i.toNatClampNeg = some z := by
  unfold sm_ix at h
  split at h
  · cases h
  · rename_i hn; exact ⟨hn, h⟩
theorem sm_obj_some {M : sm_M} {o : Nat} {f : Nat → List Value → sm_R} {z : sm_M × Option Value} (h : sm_obj M o f = some z) : ∃ ci fs, sm_get M o = some (.inr (ci, fs)) ∧ f ci fs = some z := by
  unfold sm_obj at h
  split at h
  · rename_i ci fs hg; exact ⟨ci, fs, hg, h⟩
  · cases h
theorem sm_ia_some {M : sm_M} {o : Nat} {f : Nat → (Nat → Int32) → sm_R} {z : sm_M × Option Value} (h : sm_ia M o f = some z) : ∃ n g, sm_get M o = some (.inl (0, n, .inl g)) ∧ f n g = some z := by
  unfold sm_ia at h
  split at h
  · rename_i n g hg; exact ⟨n, g, hg, h⟩
  · cases h
theorem sm_la_some {M : sm_M} {o : Nat} {f : Nat → (Nat → Int64) → sm_R} {z : sm_M × Option Value} (h : sm_la M o f = some z) : ∃ n g, sm_get M o = some (.inl (1, n, .inr (.inl g))) ∧ f n g = some z := by
  unfold sm_la at h
  split at h
  · rename_i n g hg; exact ⟨n, g, hg, h⟩
  · cases h
theorem sm_len_some {M : sm_M} {o : Nat} {f : Nat → sm_R} {z : sm_M × Option Value} (h : sm_len M o f = some z) : ∃ n, ((∃ g, sm_get M o = some (.inl (0, n, .inl g))) ∨ ∃ g, sm_get M o = some (.inl (1, n, .inr (.inl g)))) ∧ f n = some z := by
  unfold sm_len at h
  split at h
  · rename_i n g hg; exact ⟨n, Or.inl ⟨g, hg⟩, h⟩
  · rename_i n g hg; exact ⟨n, Or.inr ⟨g, hg⟩, h⟩
  · cases h
theorem sm_st1_some {L : sm_L} {i : Nat} {v : Value} {f : sm_L → sm_R} {z : sm_M × Option Value} (h : sm_st1 L i v f = some z) : i < L.length ∧ f (sm_s1 L i v) = some z := by
  unfold sm_st1 at h
  split at h
  · rename_i hb; exact ⟨by simpa using hb, h⟩
  · cases h
theorem sm_st2_some {L : sm_L} {i : Nat} {v : Value} {f : sm_L → sm_R} {z : sm_M × Option Value} (h : sm_st2 L i v f = some z) : i + 1 < L.length ∧ f (sm_s2 L i v) = some z := by
  unfold sm_st2 at h
  split at h
  · rename_i hb; exact ⟨by simpa using hb, h⟩
  · cases h
theorem sm_ret_some {v : Option Value} {M : sm_M} {st : List Value} {z : sm_M × Option Value} (h : sm_ret v M st = some z) : st = [] ∧ z = (M, v) := by
  unfold sm_ret at h
  split at h
  · exact ⟨rfl, (Option.some.inj h).symm⟩
  · cases h
theorem sm_inv_some {f : Nat → sm_L → List Value → sm_M → sm_R} {pc : Nat} {L : sm_L} {r : List Value} {a : sm_R} {z : sm_M × Option Value} (h : sm_inv f pc L r a = some z) : ∃ M v, a = some (M, v) ∧ f (pc + 3) L (v.toList ++ r) M = some z := by
  unfold sm_inv at h
  split at h
  · exact ⟨_, _, rfl, h⟩
  · cases h
theorem sm_vg_get : ∀ (fs : List Value) (k : Nat), sm_vg fs k = fs[k]? := by
  intro fs
  induction fs with
  | nil => intro k; rfl
  | cons v t ih =>
    intro k
    cases k with
    | zero => rfl
    | succ k => simp [sm_vg, ih]
theorem sm_vs_set : ∀ (fs : List Value) (k : Nat) (v : Value), sm_vs fs k v = fs.set k v := by
  intro fs
  induction fs with
  | nil => intro k v; rfl
  | cons w t ih =>
    intro k v
    cases k with
    | zero => rfl
    | succ k => simp [sm_vs, ih]
theorem sm_pop_some : ∀ {n : Nat} {acc st as r : List Value}, sm_pop n acc st = some (as, r) → ∃ ps : List Value, ps.length = n ∧ as = ps ++ acc ∧ st = ps.reverse ++ r := by
  intro n
  induction n with
  | zero => intro acc st as r h; cases h; exact ⟨[], rfl, rfl, rfl⟩
  | succ n ih =>
    intro acc st as r h
    cases st with
    | nil => cases h
    | cons v st =>
      obtain ⟨ps, h1, h2, h3⟩ := ih (show sm_pop n (v :: acc) st = some (as, r) from h)
      exact ⟨ps ++ [v], by simp [h1], by simp [h2], by simp [h3]⟩
theorem sm_pop_0 {n : Nat} {st as r : List Value} (h : sm_pop n [] st = some (as, r)) : as.length = n ∧ st = as.reverse ++ r := by
  obtain ⟨ps, h1, h2, h3⟩ := sm_pop_some h
  rw [List.append_nil] at h2
  subst h2
  exact ⟨h1, h3⟩
end
section
/-! memory only grows -/
set_option maxHeartbeats 4000000 in
theorem sm_ex_mono {cal : Nat → List Value → sm_M → sm_R} {sc : Option (Nat × (Nat → Int32))} {mi : sm_MI} {k : Nat → sm_L → List Value → sm_M → sm_R} {M' : sm_M} {r : Option Value} (hc : ∀ y as M M1 v, cal y as M = some (M1, v) → M.length ≤ M1.length ∧ sm_sl M ≤ sm_sl M1) (hk : ∀ pc L st M, k pc L st M = some (M', r) → M.length ≤ M'.length ∧ sm_sl M ≤ sm_sl M') {pc : Nat} {L : sm_L} {st : List Value} {M : sm_M} {i : Instr} (h : sm_ex cal sc mi k pc L st M i = some (M', r)) : M.length ≤ M'.length ∧ sm_sl M ≤ sm_sl M' := by
  have hk3 : ∀ (e e0 : va_E) (a pc : Nat) (L : sm_L) (st : List Value), sm_get M a = some e0 → sm_sz e = sm_sz e0 → k pc L st (sm_set M a e) = some (M', r) → M.length ≤ M'.length ∧ sm_sl M ≤ sm_sl M' := by
    intro e e0 a pc L st hg hz h
    have h2 := hk _ _ _ _ h
    rw [sm_set_len, sm_set_sl hg hz] at h2
    exact h2
  have hk4 : ∀ (e : va_E) (pc : Nat) (L : sm_L) (st : List Value), k pc L st (M ++ [e]) = some (M', r) → M.length ≤ M'.length ∧ sm_sl M ≤ sm_sl M' := by
    intro e pc L st h
    have h2 := hk _ _ _ _ h
    rw [sm_sl_app, List.length_append] at h2
    exact ⟨by have := h2.1; simp at this; omega, by omega⟩
  have hk5 : ∀ (y : Nat) (as r0 : List Value) (pc : Nat) (L : sm_L), sm_inv k pc L r0 (cal y as M) = some (M', r) → M.length ≤ M'.length ∧ sm_sl M ≤ sm_sl M' := by
    intro y as r0 pc L h
    obtain ⟨M1, v, h1, h⟩ := sm_inv_some h
    have h2 := hk _ _ _ _ h
    have h3 := hc _ _ _ _ _ h1
    exact ⟨Nat.le_trans h3.1 h2.1, Nat.le_trans h3.2 h2.2⟩
  cases i with
  | iconst n =>
    exact hk _ _ _ _ h
  | bipush n =>
    exact hk _ _ _ _ h
  | sipush n =>
    exact hk _ _ _ _ h
  | lconst n =>
    exact hk _ _ _ _ h
  | iload_n j =>
    replace h := sm_li1_some h
    obtain ⟨x, hx, h⟩ := h
    exact hk _ _ _ _ h
  | iload j =>
    replace h := sm_li1_some h
    obtain ⟨x, hx, h⟩ := h
    exact hk _ _ _ _ h
  | lload_n j =>
    replace h := sm_ll1_some h
    obtain ⟨x, hx, h⟩ := h
    exact hk _ _ _ _ h
  | lload j =>
    replace h := sm_ll1_some h
    obtain ⟨x, hx, h⟩ := h
    exact hk _ _ _ _ h
  | aload_n j =>
    replace h := sm_lr1_some h
    obtain ⟨x, hx, h⟩ := h
    exact hk _ _ _ _ h
  | aload j =>
    replace h := sm_lr1_some h
    obtain ⟨x, hx, h⟩ := h
    exact hk _ _ _ _ h
  | istore_n j =>
    replace h := sm_i1_some h
    obtain ⟨x, t, rfl, h⟩ := h
    replace h := sm_st1_some h
    obtain ⟨hj, h⟩ := h
    exact hk _ _ _ _ h
  | istore j =>
    replace h := sm_i1_some h
    obtain ⟨x, t, rfl, h⟩ := h
    replace h := sm_st1_some h
    obtain ⟨hj, h⟩ := h
    exact hk _ _ _ _ h
  | lstore_n j =>
    replace h := sm_l1_some h
    obtain ⟨x, t, rfl, h⟩ := h
    replace h := sm_st2_some h
    obtain ⟨hj, h⟩ := h
    exact hk _ _ _ _ h
  | lstore j =>
    replace h := sm_l1_some h
    obtain ⟨x, t, rfl, h⟩ := h
    replace h := sm_st2_some h
    obtain ⟨hj, h⟩ := h
    exact hk _ _ _ _ h
  | astore_n j =>
    replace h := sm_r1_some h
    obtain ⟨x, t, rfl, h⟩ := h
    replace h := sm_st1_some h
    obtain ⟨hj, h⟩ := h
    exact hk _ _ _ _ h
  | astore j =>
    replace h := sm_r1_some h
    obtain ⟨x, t, rfl, h⟩ := h
    replace h := sm_st1_some h
    obtain ⟨hj, h⟩ := h
    exact hk _ _ _ _ h
  | iinc j n =>
    replace h := sm_li1_some h
    obtain ⟨x, hx, h⟩ := h
    replace h := sm_st1_some h
    obtain ⟨hj, h⟩ := h
    exact hk _ _ _ _ h
  | iadd =>
    replace h := sm_i2_some h
    obtain ⟨x, y, t, rfl, h⟩ := h
    exact hk _ _ _ _ h
  | isub =>
    replace h := sm_i2_some h
    obtain ⟨x, y, t, rfl, h⟩ := h
    exact hk _ _ _ _ h
  | imul =>
    replace h := sm_i2_some h
    obtain ⟨x, y, t, rfl, h⟩ := h
    exact hk _ _ _ _ h
  | iand =>
    replace h := sm_i2_some h
    obtain ⟨x, y, t, rfl, h⟩ := h
    exact hk _ _ _ _ h
  | ior =>
    replace h := sm_i2_some h
    obtain ⟨x, y, t, rfl, h⟩ := h
    exact hk _ _ _ _ h
  | ixor =>
    replace h := sm_i2_some h
    obtain ⟨x, y, t, rfl, h⟩ := h
    exact hk _ _ _ _ h
  | ishl =>
    replace h := sm_i2_some h
    obtain ⟨x, y, t, rfl, h⟩ := h
    exact hk _ _ _ _ h
  | ishr =>
    replace h := sm_i2_some h
    obtain ⟨x, y, t, rfl, h⟩ := h
    exact hk _ _ _ _ h
  | iushr =>
    replace h := sm_i2_some h
    obtain ⟨x, y, t, rfl, h⟩ := h
    exact hk _ _ _ _ h
  | ladd =>
    replace h := sm_l2_some h
    obtain ⟨x, y, t, rfl, h⟩ := h
    exact hk _ _ _ _ h
  | lsub =>
    replace h := sm_l2_some h
    obtain ⟨x, y, t, rfl, h⟩ := h
    exact hk _ _ _ _ h
  | land =>
    replace h := sm_l2_some h
    obtain ⟨x, y, t, rfl, h⟩ := h
    exact hk _ _ _ _ h
  | lor =>
    replace h := sm_l2_some h
    obtain ⟨x, y, t, rfl, h⟩ := h
    exact hk _ _ _ _ h
  | lxor =>
    replace h := sm_l2_some h
    obtain ⟨x, y, t, rfl, h⟩ := h
    exact hk _ _ _ _ h
  | lcmp =>
    replace h := sm_l2_some h
    obtain ⟨x, y, t, rfl, h⟩ := h
    exact hk _ _ _ _ h
  | lshl =>
    replace h := sm_li_some h
    obtain ⟨x, y, t, rfl, h⟩ := h
    exact hk _ _ _ _ h
  | lshr =>
    replace h := sm_li_some h
    obtain ⟨x, y, t, rfl, h⟩ := h
    exact hk _ _ _ _ h
  | lushr =>
    replace h := sm_li_some h
    obtain ⟨x, y, t, rfl, h⟩ := h
    exact hk _ _ _ _ h
  | ineg =>
    replace h := sm_i1_some h
    obtain ⟨x, t, rfl, h⟩ := h
    exact hk _ _ _ _ h
  | i2l =>
    replace h := sm_i1_some h
    obtain ⟨x, t, rfl, h⟩ := h
    exact hk _ _ _ _ h
  | l2i =>
    replace h := sm_l1_some h
    obtain ⟨x, t, rfl, h⟩ := h
    exact hk _ _ _ _ h
  | goto off =>
    replace h := sm_tg_some h
    obtain ⟨t, ht, h⟩ := h
    exact hk _ _ _ _ h
  | ldc x =>
    simp only [sm_ex] at h
    split at h
    · exact hk _ _ _ _ h
    · exact hk _ _ _ _ h
    · cases h
  | ldc_w x =>
    simp only [sm_ex] at h
    split at h
    · exact hk _ _ _ _ h
    · cases h
  | ldc2_w x =>
    simp only [sm_ex] at h
    split at h
    · exact hk _ _ _ _ h
    · cases h
  | idiv =>
    replace h := sm_i2_some h
    obtain ⟨x, y, t, rfl, h⟩ := h
    split at h
    · cases h
    · exact hk _ _ _ _ h
  | irem =>
    replace h := sm_i2_some h
    obtain ⟨x, y, t, rfl, h⟩ := h
    split at h
    · cases h
    · exact hk _ _ _ _ h
  | dup =>
    simp only [sm_ex] at h
    split at h
    · exact hk _ _ _ _ h
    · exact hk _ _ _ _ h
    · cases h
  | dup2 =>
    simp only [sm_ex] at h
    split at h
    · exact hk _ _ _ _ h
    · exact hk _ _ _ _ h
    · cases h
  | ifCond c off =>
    replace h := sm_tg_some h
    obtain ⟨t, ht, h⟩ := h
    replace h := sm_i1_some h
    obtain ⟨x, r0, rfl, h⟩ := h
    cases c <;> (dsimp only at h; split at h <;> exact hk _ _ _ _ h)
  | if_icmp c off =>
    replace h := sm_tg_some h
    obtain ⟨t, ht, h⟩ := h
    replace h := sm_i2_some h
    obtain ⟨x, y, r0, rfl, h⟩ := h
    cases c <;> (dsimp only at h; split at h <;> exact hk _ _ _ _ h)
  | tableswitch dflt lo hi offs =>
    replace h := sm_i1_some h
    obtain ⟨x, r0, rfl, h⟩ := h
    split at h
    · replace h := sm_tg_some h
      obtain ⟨t, ht, h⟩ := h
      exact hk _ _ _ _ h
    · split at h
      · replace h := sm_tg_some h
        obtain ⟨t, ht, h⟩ := h
        exact hk _ _ _ _ h
      · cases h
  | lookupswitch dflt ps =>
    simp only [sm_ex] at h
    split at h
    · replace h := sm_i1_some h
      obtain ⟨x, r0, rfl, h⟩ := h
      replace h := sm_tg_some h
      obtain ⟨t, ht, h⟩ := h
      exact hk _ _ _ _ h
    · cases h
  | getfield x =>
    simp only [sm_ex] at h
    split at h
    · replace h := sm_r1_some h
      obtain ⟨o, r0, rfl, h⟩ := h
      replace h := sm_obj_some h
      obtain ⟨cj, fs, hg, h⟩ := h
      split at h
      · split at h
        · exact hk _ _ _ _ h
        · cases h
      · cases h
    · cases h
  | putfield x =>
    simp only [sm_ex] at h
    split at h
    · split at h
      · replace h := sm_obj_some h
        obtain ⟨cj, fs, hg, h⟩ := h
        split at h
        · exact hk3 _ _ _ _ _ _ hg (by simp [sm_sz, sm_vs_set]) h
        · cases h
      · cases h
    · cases h
  | iaload =>
    simp only [sm_ex] at h
    split at h
    · split at h
      · split at h
        · replace h := sm_ix_some h
          obtain ⟨hi, h⟩ := h
          exact hk _ _ _ _ h
        · cases h
      · replace h := sm_ia_some h
        obtain ⟨n, g, hg, h⟩ := h
        replace h := sm_ix_some h
        obtain ⟨hi, h⟩ := h
        exact hk _ _ _ _ h
    · cases h
  | laload =>
    simp only [sm_ex] at h
    split at h
    · replace h := sm_la_some h
      obtain ⟨n, g, hg, h⟩ := h
      replace h := sm_ix_some h
      obtain ⟨hi, h⟩ := h
      exact hk _ _ _ _ h
    · cases h
  | iastore =>
    simp only [sm_ex] at h
    split at h
    · replace h := sm_ia_some h
      obtain ⟨n, g, hg, h⟩ := h
      replace h := sm_ix_some h
      obtain ⟨hi, h⟩ := h
      refine hk3 _ _ _ _ _ _ hg ?_ h
      rfl
    · cases h
  | lastore =>
    simp only [sm_ex] at h
    split at h
    · replace h := sm_la_some h
      obtain ⟨n, g, hg, h⟩ := h
      replace h := sm_ix_some h
      obtain ⟨hi, h⟩ := h
      refine hk3 _ _ _ _ _ _ hg ?_ h
      rfl
    · cases h
  | arraylength =>
    replace h := sm_r1_some h
    obtain ⟨a, r0, rfl, h⟩ := h
    split at h
    · split at h
      · exact hk _ _ _ _ h
      · cases h
    · replace h := sm_len_some h
      obtain ⟨n, hg, h⟩ := h
      exact hk _ _ _ _ h
  | newarray t =>
    replace h := sm_i1_some h
    obtain ⟨x, r0, rfl, h⟩ := h
    split at h
    · cases h
    · split at h
      · split at h
        · exact hk4 _ _ _ _ h
        · exact hk4 _ _ _ _ h
        · cases h
      · cases h
  | new x =>
    simp only [sm_ex] at h
    split at h
    · split at h
      · exact hk4 _ _ _ _ h
      · cases h
    · cases h
  | invokestatic x =>
    simp only [sm_ex] at h
    split at h
    · split at h
      · split at h
        · exact hk5 _ _ _ _ _ h
        · cases h
      · cases h
    · cases h
  | invokevirtual x =>
    simp only [sm_ex] at h
    split at h
    · split at h
      · split at h
        · replace h := sm_obj_some h
          obtain ⟨cj, fs, hg, h⟩ := h
          split at h
          · exact hk5 _ _ _ _ _ h
          · cases h
        · cases h
      · cases h
    · cases h
  | invokespecial x =>
    simp only [sm_ex] at h
    split at h
    · split at h
      · split at h
        · exact hk5 _ _ _ _ _ h
        · cases h
      · cases h
    · replace h := sm_r1_some h
      obtain ⟨a, r0, rfl, h⟩ := h
      split at h
      · exact hk _ _ _ _ h
      · cases h
    · cases h
  | ireturn =>
    replace h := sm_i1_some h
    obtain ⟨x, r0, rfl, h⟩ := h
    split at h
    · replace h := sm_ret_some h
      obtain ⟨-, h⟩ := h
      cases h
      exact ⟨Nat.le_refl _, Nat.le_refl _⟩
    · cases h
  | lreturn =>
    replace h := sm_l1_some h
    obtain ⟨x, r0, rfl, h⟩ := h
    split at h
    · replace h := sm_ret_some h
      obtain ⟨-, h⟩ := h
      cases h
      exact ⟨Nat.le_refl _, Nat.le_refl _⟩
    · cases h
  | return_ =>
    simp only [sm_ex] at h
    split at h
    · replace h := sm_ret_some h
      obtain ⟨-, h⟩ := h
      cases h
      exact ⟨Nat.le_refl _, Nat.le_refl _⟩
    · cases h
  | _ => exact absurd (show (none : sm_R) = some (M', r) from h) (by simp)
theorem sm_run_mono {cal : Nat → List Value → sm_M → sm_R} {sc : Option (Nat × (Nat → Int32))} {mi : sm_MI} {M' : sm_M} {r : Option Value} (hc : ∀ y as M M1 v, cal y as M = some (M1, v) → M.length ≤ M1.length ∧ sm_sl M ≤ sm_sl M1) : ∀ (n pc : Nat) (L : sm_L) (st : List Value) (M : sm_M), sm_run cal sc mi n pc L st M = some (M', r) → M.length ≤ M'.length ∧ sm_sl M ≤ sm_sl M' := by
  intro n
  induction n with
  | zero => intro pc L st M h; cases h
  | succ n ih =>
    intro pc L st M h
    simp only [sm_run] at h
    split at h
    · cases h
    · exact sm_ex_mono hc ih h
end
section
/-! THE SIMULATOR IS SOUND, instruction by instruction -/
abbrev sm_tys (τ : Nat → ClassId) : List (ClassId × FieldType) := [(τ 0, .int), (τ 1, .long)]
abbrev sm_SKt : Type := List (String × Nat × String × Nat)
/-- what holds of the place where a method runs -/
def sm_C (p : Program) (s : State) (m : MethodId) (args : Array Value) (meth : Method) (c : Code) (D : va_G) (cl : List vw_C) (τ : Nat → ClassId) (B : Nat) (ad : Nat → Nat) (TB NB : List Cond) (SK : sm_SKt) (XT : State → Heap → Prop) (m0 : Nat) (mi : sm_MI) : Prop :=
  p.tables.exec = Jvm.exec ∧ c.code = mi.2.1 ∧ c.maxLocals = mi.2.2.1 ∧ s.vm.findClass mi.1.cls = some m.cls ∧ (∀ w ∈ TB, w.before args s = true) ∧ (∀ w ∈ NB, va_Nw w s) ∧ va_K D cl (sm_tys τ) s ∧ (∀ q ∈ SK, vk_R q.1 q.2.1 q.2.2.1 (sm_rho B ad q.2.2.2) s) ∧ XT s s.heap ∧ s.heap.size = B + m0 ∧ meth.name = mi.1.name
/-- the machine goes on well from here -/
def sm_G (p : Program) (l : Launch) (e : Env) (R : Room) (s : State) (m : MethodId) (args : Array Value) (below : List Frame) (meth : Method) (c : Code) (Q : State → Prop) (D : va_G) (cl : List vw_C) (τ : Nat → ClassId) (B : Nat) (ad : Nat → Nat) (nL m0 s0 : Nat) (pc : Nat) (L : sm_L) (st : List Value) (M : sm_M) : Prop :=
  ∀ (H : Heap) (locs : List Loc) (ls : Array Slot) (cells slots : Nat), va_P D cl (sm_w τ B ad 0 M) H → M.length ≤ 1000 → va_S (fun q => B ≤ q) s.heap H locs → L.length ≤ nL → lv_has ls nL (sm_al B ad 0 L) → cells + m0 = M.length → slots + s0 = sm_sl M → W p l e R s m args below meth c H locs cells slots Q (F0 m pc ls (st.map (sm_cv B ad)))
/-- an instruction's length; 0: a switch -/
def sm_ln : Instr → Nat
  | .bipush _ | .ldc _ | .iload _ | .lload _ | .aload _ | .istore _ | .lstore _ | .astore _ | .newarray _ => 2
  | .sipush _ | .ldc_w _ | .ldc2_w _ | .iinc _ _ | .goto _ | .ifCond _ _ | .if_icmp _ _ | .getfield _ | .putfield _ | .new _ | .invokestatic _ | .invokevirtual _ | .invokespecial _ => 3
  | .tableswitch _ _ _ _ | .lookupswitch _ _ => 0
  | _ => 1
theorem sm_dl {cc : ByteArray} {pc len : Nat} {i : Instr} (hd : decode cc pc = .ok (i, len)) (hl : len = sm_ln i ∨ sm_ln i = 0) (n : Nat) (hn : sm_ln i = n) (h0 : n ≠ 0) : decode cc pc = .ok (i, n) := by
  rcases hl with h | h
  · rw [hd, h, hn]
  · exact absurd (hn.symm.trans h) h0
theorem sm_w_at {τ : Nat → ClassId} {B : Nat} {ad : Nat → Nat} {M : sm_M} {o : Nat} {e : va_E} (h : sm_get M o = some e) : (sm_w τ B ad 0 M)[o]? = some (sm_rho B ad o, sm_ce τ B ad e) := by
  rw [sm_w_get, h, Nat.zero_add]
  rfl
theorem sm_w_put {τ : Nat → ClassId} {B : Nat} {ad : Nat → Nat} (M : sm_M) (o : Nat) (e : va_E) : (sm_w τ B ad 0 M).set o (sm_rho B ad o, sm_ce τ B ad e) = sm_w τ B ad 0 (sm_set M o e) := by
  have h := sm_w_set τ B ad M 0 o e
  rw [Nat.zero_add] at h
  exact h
/-- an answer's instruction -/
def sm_rk (rt : Option FieldType) (i : Instr) (r : Option Value) : Prop := (i = .ireturn ∧ ∃ x, r = some (.int x) ∧ sm_zr rt x = true) ∨ (i = .lreturn ∧ ∃ x, r = some (.long x) ∧ rt = some .long) ∨ (i = .return_ ∧ r = none ∧ rt = none)
def sm_kd (t : Nat) (ty : FieldType) : Prop := (t = 0 → ty = .int) ∧ (t = 1 → ty = .boolean) ∧ (t = 2 → ty = .long) ∧ (t = 3 → (∃ n, ty = .object n) ∨ ∃ u, ty = .array u)
theorem sm_pt_ok {t : Nat} {ty : FieldType} {v : Value} {B : Nat} {ad : Nat → Nat} (hk : sm_kd t ty) (h : sm_pt t v = true) : narrow ty (sm_cv B ad v) = sm_cv B ad v ∧ fits ty (sm_cv B ad v) = true := by
  obtain ⟨h0, h1, h2, h3⟩ := hk
  unfold sm_pt at h
  split at h
  · rw [h0 rfl]; exact ⟨rfl, rfl⟩
  · rename_i x
    rw [h1 rfl]
    simp only [Bool.or_eq_true, beq_iff_eq] at h
    rcases h with rfl | rfl
    · exact ⟨show narrow .boolean (.int 0) = .int 0 by decide, show fits .boolean (.int 0) = true by decide⟩
    · exact ⟨show narrow .boolean (.int 1) = .int 1 by decide, show fits .boolean (.int 1) = true by decide⟩
  · rw [h2 rfl]; exact ⟨rfl, rfl⟩
  · rcases h3 rfl with ⟨n, rfl⟩ | ⟨u, rfl⟩ <;> exact ⟨rfl, rfl⟩
  · cases h
/-- a method's links to fields are as the tables say -/
def sm_okF (cl : List vw_C) (TB NB : List Cond) (mi : sm_MI) : Prop := ∀ x ci j t, sm_fd mi.2.2.2.2.2.2.1 x = some (ci, j, t) → ∃ (C : String) (T : u_T) (N : Nat) (ty0 : Nat → FieldType), cl[ci]? = some (C, T, N) ∧ j < N ∧ (∀ w ∈ u_ws C T N, w ∈ TB) ∧ (∀ k, k < N → parseFieldDescriptor (T k).2.2.1 = some (ty0 k)) ∧ (∀ a, a < N → ∀ b, b < N → a ≠ b → (T a).2.1 ≠ (T b).2.1) ∧ (T j).1 = C ∧ sm_kd t (ty0 j) ∧
  ((Cond.fieldLink mi.1.cls x C (T j).2.1 (T j).2.2.1 ∈ TB ∧ (3 < t ∨ (T j).2.2.2 = false ∨ ((T j).2.2.2 = true ∧ mi.1.name = "<init>" ∧ (T j).1 = mi.1.cls))) ∨ (∃ host, Cond.fieldLinkNest mi.1.cls x C (T j).2.1 (T j).2.2.1 host ∈ NB ∧ (3 < t ∨ (T j).2.2.2 = false)))
theorem sm_pt_lt {t : Nat} {v : Value} (h : sm_pt t v = true) : ¬ 3 < t := by
  unfold sm_pt at h
  split at h <;> first | omega | cases h
def sm_okK (TB : List Cond) (SK : sm_SKt) (mi : sm_MI) : Prop := ∀ x v, sm_fd mi.2.2.2.2.2.2.2.2.1 x = some v → (∀ w, v = .int w → Cond.constant mi.1.cls x w ∈ TB) ∧ (∀ w, v = .long w → Cond.constantLong mi.1.cls x w ∈ TB) ∧ (∀ w, v = .ref w → ∃ tx, (mi.1.cls, x, tx, w) ∈ SK)
def sm_okN (cl : List vw_C) (TB : List Cond) (mi : sm_MI) : Prop := ∀ x ci fs, sm_fd mi.2.2.2.2.2.2.2.2.2 x = some (ci, fs) → ∃ (C : String) (T : u_T) (N : Nat) (ty0 : Nat → FieldType), cl[ci]? = some (C, T, N) ∧ (∀ w ∈ u_ws C T N, w ∈ TB) ∧ (∀ k, k < N → parseFieldDescriptor (T k).2.2.1 = some (ty0 k)) ∧ Cond.classLink mi.1.cls x C ∈ TB ∧ Cond.instantiable C N ∈ TB ∧ Cond.initialized C ∈ TB ∧ fs.length = N ∧ (∀ B ad, fs.map (sm_cv B ad) = fs) ∧ (∀ j, j < N → defaultValue (ty0 j) = vp_V fs j)
set_option maxHeartbeats 1000000 in
theorem sg_iconst {p : Program} {l : Launch} {e : Env} {R : Room} {s : State} {m : MethodId} {args : Array Value} {below : List Frame} {meth : Method} {c : Code} {Q : State → Prop} {D : va_G} {cl : List vw_C} {τ : Nat → ClassId} {B : Nat} {ad : Nat → Nat} {TB NB : List Cond} {SK : sm_SKt} {XT : State → Heap → Prop} {mi : sm_MI} {M' : sm_M} {m0 s0 : Nat} {cal : Nat → List Value → sm_M → sm_R} {sc : Option (Nat × (Nat → Int32))} {k : Nat → sm_L → List Value → sm_M → sm_R} {r : Option Value} {pc : Nat} {L : sm_L} {st : List Value} {M : sm_M} {n : Int} (C0 : sm_C p s m args meth c D cl τ B ad TB NB SK XT m0 mi) (ih : ∀ pc L st M, k pc L st M = some (M', r) → sm_G p l e R s m args below meth c Q D cl τ B ad mi.2.2.1 m0 s0 pc L st M) (hd : decode mi.2.1 pc = .ok (.iconst n, 1)) (h : sm_ex cal sc mi k pc L st M (.iconst n) = some (M', r)) : sm_G p l e R s m args below meth c Q D cl τ B ad mi.2.2.1 m0 s0 pc L st M := by
  have hx := C0.1
  have hb := C0.2.1
  intro H locs ls cells slots hP hm hS hLl hL h1 h2
  refine lv_iconst hx hb hd rfl ?_
  exact ih _ _ _ _ h H locs ls cells slots hP hm hS hLl hL h1 h2
set_option maxHeartbeats 1000000 in
theorem sg_bipush {p : Program} {l : Launch} {e : Env} {R : Room} {s : State} {m : MethodId} {args : Array Value} {below : List Frame} {meth : Method} {c : Code} {Q : State → Prop} {D : va_G} {cl : List vw_C} {τ : Nat → ClassId} {B : Nat} {ad : Nat → Nat} {TB NB : List Cond} {SK : sm_SKt} {XT : State → Heap → Prop} {mi : sm_MI} {M' : sm_M} {m0 s0 : Nat} {cal : Nat → List Value → sm_M → sm_R} {sc : Option (Nat × (Nat → Int32))} {k : Nat → sm_L → List Value → sm_M → sm_R} {r : Option Value} {pc : Nat} {L : sm_L} {st : List Value} {M : sm_M} {n : Int} (C0 : sm_C p s m args meth c D cl τ B ad TB NB SK XT m0 mi) (ih : ∀ pc L st M, k pc L st M = some (M', r) → sm_G p l e R s m args below meth c Q D cl τ B ad mi.2.2.1 m0 s0 pc L st M) (hd : decode mi.2.1 pc = .ok (.bipush n, 2)) (h : sm_ex cal sc mi k pc L st M (.bipush n) = some (M', r)) : sm_G p l e R s m args below meth c Q D cl τ B ad mi.2.2.1 m0 s0 pc L st M := by
  have hx := C0.1
  have hb := C0.2.1
  intro H locs ls cells slots hP hm hS hLl hL h1 h2
  refine lv_bipush hx hb hd rfl ?_
  exact ih _ _ _ _ h H locs ls cells slots hP hm hS hLl hL h1 h2
set_option maxHeartbeats 1000000 in
theorem sg_sipush {p : Program} {l : Launch} {e : Env} {R : Room} {s : State} {m : MethodId} {args : Array Value} {below : List Frame} {meth : Method} {c : Code} {Q : State → Prop} {D : va_G} {cl : List vw_C} {τ : Nat → ClassId} {B : Nat} {ad : Nat → Nat} {TB NB : List Cond} {SK : sm_SKt} {XT : State → Heap → Prop} {mi : sm_MI} {M' : sm_M} {m0 s0 : Nat} {cal : Nat → List Value → sm_M → sm_R} {sc : Option (Nat × (Nat → Int32))} {k : Nat → sm_L → List Value → sm_M → sm_R} {r : Option Value} {pc : Nat} {L : sm_L} {st : List Value} {M : sm_M} {n : Int} (C0 : sm_C p s m args meth c D cl τ B ad TB NB SK XT m0 mi) (ih : ∀ pc L st M, k pc L st M = some (M', r) → sm_G p l e R s m args below meth c Q D cl τ B ad mi.2.2.1 m0 s0 pc L st M) (hd : decode mi.2.1 pc = .ok (.sipush n, 3)) (h : sm_ex cal sc mi k pc L st M (.sipush n) = some (M', r)) : sm_G p l e R s m args below meth c Q D cl τ B ad mi.2.2.1 m0 s0 pc L st M := by
  have hx := C0.1
  have hb := C0.2.1
  intro H locs ls cells slots hP hm hS hLl hL h1 h2
  refine lv_sipush hx hb hd rfl ?_
  exact ih _ _ _ _ h H locs ls cells slots hP hm hS hLl hL h1 h2
set_option maxHeartbeats 1000000 in
theorem sg_lconst {p : Program} {l : Launch} {e : Env} {R : Room} {s : State} {m : MethodId} {args : Array Value} {below : List Frame} {meth : Method} {c : Code} {Q : State → Prop} {D : va_G} {cl : List vw_C} {τ : Nat → ClassId} {B : Nat} {ad : Nat → Nat} {TB NB : List Cond} {SK : sm_SKt} {XT : State → Heap → Prop} {mi : sm_MI} {M' : sm_M} {m0 s0 : Nat} {cal : Nat → List Value → sm_M → sm_R} {sc : Option (Nat × (Nat → Int32))} {k : Nat → sm_L → List Value → sm_M → sm_R} {r : Option Value} {pc : Nat} {L : sm_L} {st : List Value} {M : sm_M} {n : Fin 2} (C0 : sm_C p s m args meth c D cl τ B ad TB NB SK XT m0 mi) (ih : ∀ pc L st M, k pc L st M = some (M', r) → sm_G p l e R s m args below meth c Q D cl τ B ad mi.2.2.1 m0 s0 pc L st M) (hd : decode mi.2.1 pc = .ok (.lconst n, 1)) (h : sm_ex cal sc mi k pc L st M (.lconst n) = some (M', r)) : sm_G p l e R s m args below meth c Q D cl τ B ad mi.2.2.1 m0 s0 pc L st M := by
  have hx := C0.1
  have hb := C0.2.1
  intro H locs ls cells slots hP hm hS hLl hL h1 h2
  refine lv_lconst hx hb hd rfl ?_
  exact ih _ _ _ _ h H locs ls cells slots hP hm hS hLl hL h1 h2
set_option maxHeartbeats 1000000 in
theorem sg_iload_n {p : Program} {l : Launch} {e : Env} {R : Room} {s : State} {m : MethodId} {args : Array Value} {below : List Frame} {meth : Method} {c : Code} {Q : State → Prop} {D : va_G} {cl : List vw_C} {τ : Nat → ClassId} {B : Nat} {ad : Nat → Nat} {TB NB : List Cond} {SK : sm_SKt} {XT : State → Heap → Prop} {mi : sm_MI} {M' : sm_M} {m0 s0 : Nat} {cal : Nat → List Value → sm_M → sm_R} {sc : Option (Nat × (Nat → Int32))} {k : Nat → sm_L → List Value → sm_M → sm_R} {r : Option Value} {pc : Nat} {L : sm_L} {st : List Value} {M : sm_M} {j : Fin 4} (C0 : sm_C p s m args meth c D cl τ B ad TB NB SK XT m0 mi) (ih : ∀ pc L st M, k pc L st M = some (M', r) → sm_G p l e R s m args below meth c Q D cl τ B ad mi.2.2.1 m0 s0 pc L st M) (hd : decode mi.2.1 pc = .ok (.iload_n j, 1)) (h : sm_ex cal sc mi k pc L st M (.iload_n j) = some (M', r)) : sm_G p l e R s m args below meth c Q D cl τ B ad mi.2.2.1 m0 s0 pc L st M := by
  have hx := C0.1
  have hb := C0.2.1
  replace h := sm_li1_some h
  obtain ⟨x, hv, h⟩ := h
  intro H locs ls cells slots hP hm hS hLl hL h1 h2
  refine lv_iload_n hx hb hd rfl (sm_has_at hL hv) ?_
  exact ih _ _ _ _ h H locs ls cells slots hP hm hS hLl hL h1 h2
set_option maxHeartbeats 1000000 in
theorem sg_iload {p : Program} {l : Launch} {e : Env} {R : Room} {s : State} {m : MethodId} {args : Array Value} {below : List Frame} {meth : Method} {c : Code} {Q : State → Prop} {D : va_G} {cl : List vw_C} {τ : Nat → ClassId} {B : Nat} {ad : Nat → Nat} {TB NB : List Cond} {SK : sm_SKt} {XT : State → Heap → Prop} {mi : sm_MI} {M' : sm_M} {m0 s0 : Nat} {cal : Nat → List Value → sm_M → sm_R} {sc : Option (Nat × (Nat → Int32))} {k : Nat → sm_L → List Value → sm_M → sm_R} {r : Option Value} {pc : Nat} {L : sm_L} {st : List Value} {M : sm_M} {j : Nat} (C0 : sm_C p s m args meth c D cl τ B ad TB NB SK XT m0 mi) (ih : ∀ pc L st M, k pc L st M = some (M', r) → sm_G p l e R s m args below meth c Q D cl τ B ad mi.2.2.1 m0 s0 pc L st M) (hd : decode mi.2.1 pc = .ok (.iload j, 2)) (h : sm_ex cal sc mi k pc L st M (.iload j) = some (M', r)) : sm_G p l e R s m args below meth c Q D cl τ B ad mi.2.2.1 m0 s0 pc L st M := by
  have hx := C0.1
  have hb := C0.2.1
  replace h := sm_li1_some h
  obtain ⟨x, hv, h⟩ := h
  intro H locs ls cells slots hP hm hS hLl hL h1 h2
  refine lv_iload hx hb hd (sm_has_at hL hv) ?_
  exact ih _ _ _ _ h H locs ls cells slots hP hm hS hLl hL h1 h2
set_option maxHeartbeats 1000000 in
theorem sg_lload_n {p : Program} {l : Launch} {e : Env} {R : Room} {s : State} {m : MethodId} {args : Array Value} {below : List Frame} {meth : Method} {c : Code} {Q : State → Prop} {D : va_G} {cl : List vw_C} {τ : Nat → ClassId} {B : Nat} {ad : Nat → Nat} {TB NB : List Cond} {SK : sm_SKt} {XT : State → Heap → Prop} {mi : sm_MI} {M' : sm_M} {m0 s0 : Nat} {cal : Nat → List Value → sm_M → sm_R} {sc : Option (Nat × (Nat → Int32))} {k : Nat → sm_L → List Value → sm_M → sm_R} {r : Option Value} {pc : Nat} {L : sm_L} {st : List Value} {M : sm_M} {j : Fin 4} (C0 : sm_C p s m args meth c D cl τ B ad TB NB SK XT m0 mi) (ih : ∀ pc L st M, k pc L st M = some (M', r) → sm_G p l e R s m args below meth c Q D cl τ B ad mi.2.2.1 m0 s0 pc L st M) (hd : decode mi.2.1 pc = .ok (.lload_n j, 1)) (h : sm_ex cal sc mi k pc L st M (.lload_n j) = some (M', r)) : sm_G p l e R s m args below meth c Q D cl τ B ad mi.2.2.1 m0 s0 pc L st M := by
  have hx := C0.1
  have hb := C0.2.1
  replace h := sm_ll1_some h
  obtain ⟨x, hv, h⟩ := h
  intro H locs ls cells slots hP hm hS hLl hL h1 h2
  refine lv_lload_n hx hb hd rfl (sm_has_at hL hv) ?_
  exact ih _ _ _ _ h H locs ls cells slots hP hm hS hLl hL h1 h2
set_option maxHeartbeats 1000000 in
theorem sg_lload {p : Program} {l : Launch} {e : Env} {R : Room} {s : State} {m : MethodId} {args : Array Value} {below : List Frame} {meth : Method} {c : Code} {Q : State → Prop} {D : va_G} {cl : List vw_C} {τ : Nat → ClassId} {B : Nat} {ad : Nat → Nat} {TB NB : List Cond} {SK : sm_SKt} {XT : State → Heap → Prop} {mi : sm_MI} {M' : sm_M} {m0 s0 : Nat} {cal : Nat → List Value → sm_M → sm_R} {sc : Option (Nat × (Nat → Int32))} {k : Nat → sm_L → List Value → sm_M → sm_R} {r : Option Value} {pc : Nat} {L : sm_L} {st : List Value} {M : sm_M} {j : Nat} (C0 : sm_C p s m args meth c D cl τ B ad TB NB SK XT m0 mi) (ih : ∀ pc L st M, k pc L st M = some (M', r) → sm_G p l e R s m args below meth c Q D cl τ B ad mi.2.2.1 m0 s0 pc L st M) (hd : decode mi.2.1 pc = .ok (.lload j, 2)) (h : sm_ex cal sc mi k pc L st M (.lload j) = some (M', r)) : sm_G p l e R s m args below meth c Q D cl τ B ad mi.2.2.1 m0 s0 pc L st M := by
  have hx := C0.1
  have hb := C0.2.1
  replace h := sm_ll1_some h
  obtain ⟨x, hv, h⟩ := h
  intro H locs ls cells slots hP hm hS hLl hL h1 h2
  refine lv_lload hx hb hd (sm_has_at hL hv) ?_
  exact ih _ _ _ _ h H locs ls cells slots hP hm hS hLl hL h1 h2
set_option maxHeartbeats 1000000 in
theorem sg_aload_n {p : Program} {l : Launch} {e : Env} {R : Room} {s : State} {m : MethodId} {args : Array Value} {below : List Frame} {meth : Method} {c : Code} {Q : State → Prop} {D : va_G} {cl : List vw_C} {τ : Nat → ClassId} {B : Nat} {ad : Nat → Nat} {TB NB : List Cond} {SK : sm_SKt} {XT : State → Heap → Prop} {mi : sm_MI} {M' : sm_M} {m0 s0 : Nat} {cal : Nat → List Value → sm_M → sm_R} {sc : Option (Nat × (Nat → Int32))} {k : Nat → sm_L → List Value → sm_M → sm_R} {r : Option Value} {pc : Nat} {L : sm_L} {st : List Value} {M : sm_M} {j : Fin 4} (C0 : sm_C p s m args meth c D cl τ B ad TB NB SK XT m0 mi) (ih : ∀ pc L st M, k pc L st M = some (M', r) → sm_G p l e R s m args below meth c Q D cl τ B ad mi.2.2.1 m0 s0 pc L st M) (hd : decode mi.2.1 pc = .ok (.aload_n j, 1)) (h : sm_ex cal sc mi k pc L st M (.aload_n j) = some (M', r)) : sm_G p l e R s m args below meth c Q D cl τ B ad mi.2.2.1 m0 s0 pc L st M := by
  have hx := C0.1
  have hb := C0.2.1
  replace h := sm_lr1_some h
  obtain ⟨x, hv, h⟩ := h
  intro H locs ls cells slots hP hm hS hLl hL h1 h2
  refine lv_aload_n hx hb hd rfl (sm_has_at hL hv) ?_
  exact ih _ _ _ _ h H locs ls cells slots hP hm hS hLl hL h1 h2
set_option maxHeartbeats 1000000 in
theorem sg_aload {p : Program} {l : Launch} {e : Env} {R : Room} {s : State} {m : MethodId} {args : Array Value} {below : List Frame} {meth : Method} {c : Code} {Q : State → Prop} {D : va_G} {cl : List vw_C} {τ : Nat → ClassId} {B : Nat} {ad : Nat → Nat} {TB NB : List Cond} {SK : sm_SKt} {XT : State → Heap → Prop} {mi : sm_MI} {M' : sm_M} {m0 s0 : Nat} {cal : Nat → List Value → sm_M → sm_R} {sc : Option (Nat × (Nat → Int32))} {k : Nat → sm_L → List Value → sm_M → sm_R} {r : Option Value} {pc : Nat} {L : sm_L} {st : List Value} {M : sm_M} {j : Nat} (C0 : sm_C p s m args meth c D cl τ B ad TB NB SK XT m0 mi) (ih : ∀ pc L st M, k pc L st M = some (M', r) → sm_G p l e R s m args below meth c Q D cl τ B ad mi.2.2.1 m0 s0 pc L st M) (hd : decode mi.2.1 pc = .ok (.aload j, 2)) (h : sm_ex cal sc mi k pc L st M (.aload j) = some (M', r)) : sm_G p l e R s m args below meth c Q D cl τ B ad mi.2.2.1 m0 s0 pc L st M := by
  have hx := C0.1
  have hb := C0.2.1
  replace h := sm_lr1_some h
  obtain ⟨x, hv, h⟩ := h
  intro H locs ls cells slots hP hm hS hLl hL h1 h2
  refine lv_aload hx hb hd (sm_has_at hL hv) ?_
  exact ih _ _ _ _ h H locs ls cells slots hP hm hS hLl hL h1 h2
set_option maxHeartbeats 1000000 in
theorem sg_istore_n {p : Program} {l : Launch} {e : Env} {R : Room} {s : State} {m : MethodId} {args : Array Value} {below : List Frame} {meth : Method} {c : Code} {Q : State → Prop} {D : va_G} {cl : List vw_C} {τ : Nat → ClassId} {B : Nat} {ad : Nat → Nat} {TB NB : List Cond} {SK : sm_SKt} {XT : State → Heap → Prop} {mi : sm_MI} {M' : sm_M} {m0 s0 : Nat} {cal : Nat → List Value → sm_M → sm_R} {sc : Option (Nat × (Nat → Int32))} {k : Nat → sm_L → List Value → sm_M → sm_R} {r : Option Value} {pc : Nat} {L : sm_L} {st : List Value} {M : sm_M} {j : Fin 4} (C0 : sm_C p s m args meth c D cl τ B ad TB NB SK XT m0 mi) (ih : ∀ pc L st M, k pc L st M = some (M', r) → sm_G p l e R s m args below meth c Q D cl τ B ad mi.2.2.1 m0 s0 pc L st M) (hd : decode mi.2.1 pc = .ok (.istore_n j, 1)) (h : sm_ex cal sc mi k pc L st M (.istore_n j) = some (M', r)) : sm_G p l e R s m args below meth c Q D cl τ B ad mi.2.2.1 m0 s0 pc L st M := by
  have hx := C0.1
  have hb := C0.2.1
  replace h := sm_i1_some h
  obtain ⟨x, t, rfl, h⟩ := h
  replace h := sm_st1_some h
  obtain ⟨hj, h⟩ := h
  intro H locs ls cells slots hP hm hS hLl hL h1 h2
  refine lv_istore_n hx hb hd rfl hL (by omega) rfl (fun ls' hL' => ?_)
  exact ih _ _ _ _ h H locs ls' cells slots hP hm hS (by rw [sm_s1_len]; exact hLl) (sm_has_s1 (v := .int x) hL') h1 h2
set_option maxHeartbeats 1000000 in
theorem sg_istore {p : Program} {l : Launch} {e : Env} {R : Room} {s : State} {m : MethodId} {args : Array Value} {below : List Frame} {meth : Method} {c : Code} {Q : State → Prop} {D : va_G} {cl : List vw_C} {τ : Nat → ClassId} {B : Nat} {ad : Nat → Nat} {TB NB : List Cond} {SK : sm_SKt} {XT : State → Heap → Prop} {mi : sm_MI} {M' : sm_M} {m0 s0 : Nat} {cal : Nat → List Value → sm_M → sm_R} {sc : Option (Nat × (Nat → Int32))} {k : Nat → sm_L → List Value → sm_M → sm_R} {r : Option Value} {pc : Nat} {L : sm_L} {st : List Value} {M : sm_M} {j : Nat} (C0 : sm_C p s m args meth c D cl τ B ad TB NB SK XT m0 mi) (ih : ∀ pc L st M, k pc L st M = some (M', r) → sm_G p l e R s m args below meth c Q D cl τ B ad mi.2.2.1 m0 s0 pc L st M) (hd : decode mi.2.1 pc = .ok (.istore j, 2)) (h : sm_ex cal sc mi k pc L st M (.istore j) = some (M', r)) : sm_G p l e R s m args below meth c Q D cl τ B ad mi.2.2.1 m0 s0 pc L st M := by
  have hx := C0.1
  have hb := C0.2.1
  replace h := sm_i1_some h
  obtain ⟨x, t, rfl, h⟩ := h
  replace h := sm_st1_some h
  obtain ⟨hj, h⟩ := h
  intro H locs ls cells slots hP hm hS hLl hL h1 h2
  refine lv_istore hx hb hd hL (by omega) rfl (fun ls' hL' => ?_)
  exact ih _ _ _ _ h H locs ls' cells slots hP hm hS (by rw [sm_s1_len]; exact hLl) (sm_has_s1 (v := .int x) hL') h1 h2
set_option maxHeartbeats 1000000 in
theorem sg_astore_n {p : Program} {l : Launch} {e : Env} {R : Room} {s : State} {m : MethodId} {args : Array Value} {below : List Frame} {meth : Method} {c : Code} {Q : State → Prop} {D : va_G} {cl : List vw_C} {τ : Nat → ClassId} {B : Nat} {ad : Nat → Nat} {TB NB : List Cond} {SK : sm_SKt} {XT : State → Heap → Prop} {mi : sm_MI} {M' : sm_M} {m0 s0 : Nat} {cal : Nat → List Value → sm_M → sm_R} {sc : Option (Nat × (Nat → Int32))} {k : Nat → sm_L → List Value → sm_M → sm_R} {r : Option Value} {pc : Nat} {L : sm_L} {st : List Value} {M : sm_M} {j : Fin 4} (C0 : sm_C p s m args meth c D cl τ B ad TB NB SK XT m0 mi) (ih : ∀ pc L st M, k pc L st M = some (M', r) → sm_G p l e R s m args below meth c Q D cl τ B ad mi.2.2.1 m0 s0 pc L st M) (hd : decode mi.2.1 pc = .ok (.astore_n j, 1)) (h : sm_ex cal sc mi k pc L st M (.astore_n j) = some (M', r)) : sm_G p l e R s m args below meth c Q D cl τ B ad mi.2.2.1 m0 s0 pc L st M := by
  have hx := C0.1
  have hb := C0.2.1
  replace h := sm_r1_some h
  obtain ⟨x, t, rfl, h⟩ := h
  replace h := sm_st1_some h
  obtain ⟨hj, h⟩ := h
  intro H locs ls cells slots hP hm hS hLl hL h1 h2
  refine lv_astore_n hx hb hd rfl hL (by omega) rfl (fun ls' hL' => ?_)
  exact ih _ _ _ _ h H locs ls' cells slots hP hm hS (by rw [sm_s1_len]; exact hLl) (sm_has_s1 (v := .ref x) hL') h1 h2
set_option maxHeartbeats 1000000 in
theorem sg_astore {p : Program} {l : Launch} {e : Env} {R : Room} {s : State} {m : MethodId} {args : Array Value} {below : List Frame} {meth : Method} {c : Code} {Q : State → Prop} {D : va_G} {cl : List vw_C} {τ : Nat → ClassId} {B : Nat} {ad : Nat → Nat} {TB NB : List Cond} {SK : sm_SKt} {XT : State → Heap → Prop} {mi : sm_MI} {M' : sm_M} {m0 s0 : Nat} {cal : Nat → List Value → sm_M → sm_R} {sc : Option (Nat × (Nat → Int32))} {k : Nat → sm_L → List Value → sm_M → sm_R} {r : Option Value} {pc : Nat} {L : sm_L} {st : List Value} {M : sm_M} {j : Nat} (C0 : sm_C p s m args meth c D cl τ B ad TB NB SK XT m0 mi) (ih : ∀ pc L st M, k pc L st M = some (M', r) → sm_G p l e R s m args below meth c Q D cl τ B ad mi.2.2.1 m0 s0 pc L st M) (hd : decode mi.2.1 pc = .ok (.astore j, 2)) (h : sm_ex cal sc mi k pc L st M (.astore j) = some (M', r)) : sm_G p l e R s m args below meth c Q D cl τ B ad mi.2.2.1 m0 s0 pc L st M := by
  have hx := C0.1
  have hb := C0.2.1
  replace h := sm_r1_some h
  obtain ⟨x, t, rfl, h⟩ := h
  replace h := sm_st1_some h
  obtain ⟨hj, h⟩ := h
  intro H locs ls cells slots hP hm hS hLl hL h1 h2
  refine lv_astore hx hb hd hL (by omega) rfl (fun ls' hL' => ?_)
  exact ih _ _ _ _ h H locs ls' cells slots hP hm hS (by rw [sm_s1_len]; exact hLl) (sm_has_s1 (v := .ref x) hL') h1 h2
set_option maxHeartbeats 1000000 in
theorem sg_lstore_n {p : Program} {l : Launch} {e : Env} {R : Room} {s : State} {m : MethodId} {args : Array Value} {below : List Frame} {meth : Method} {c : Code} {Q : State → Prop} {D : va_G} {cl : List vw_C} {τ : Nat → ClassId} {B : Nat} {ad : Nat → Nat} {TB NB : List Cond} {SK : sm_SKt} {XT : State → Heap → Prop} {mi : sm_MI} {M' : sm_M} {m0 s0 : Nat} {cal : Nat → List Value → sm_M → sm_R} {sc : Option (Nat × (Nat → Int32))} {k : Nat → sm_L → List Value → sm_M → sm_R} {r : Option Value} {pc : Nat} {L : sm_L} {st : List Value} {M : sm_M} {j : Fin 4} (C0 : sm_C p s m args meth c D cl τ B ad TB NB SK XT m0 mi) (ih : ∀ pc L st M, k pc L st M = some (M', r) → sm_G p l e R s m args below meth c Q D cl τ B ad mi.2.2.1 m0 s0 pc L st M) (hd : decode mi.2.1 pc = .ok (.lstore_n j, 1)) (h : sm_ex cal sc mi k pc L st M (.lstore_n j) = some (M', r)) : sm_G p l e R s m args below meth c Q D cl τ B ad mi.2.2.1 m0 s0 pc L st M := by
  have hx := C0.1
  have hb := C0.2.1
  replace h := sm_l1_some h
  obtain ⟨x, t, rfl, h⟩ := h
  replace h := sm_st2_some h
  obtain ⟨hj, h⟩ := h
  intro H locs ls cells slots hP hm hS hLl hL h1 h2
  refine lv_lstore_n hx hb hd rfl hL (by omega) rfl (fun ls' hL' => ?_)
  exact ih _ _ _ _ h H locs ls' cells slots hP hm hS (by rw [sm_s2_len]; exact hLl) (sm_has_s2 (v := .long x) hL') h1 h2
set_option maxHeartbeats 1000000 in
theorem sg_lstore {p : Program} {l : Launch} {e : Env} {R : Room} {s : State} {m : MethodId} {args : Array Value} {below : List Frame} {meth : Method} {c : Code} {Q : State → Prop} {D : va_G} {cl : List vw_C} {τ : Nat → ClassId} {B : Nat} {ad : Nat → Nat} {TB NB : List Cond} {SK : sm_SKt} {XT : State → Heap → Prop} {mi : sm_MI} {M' : sm_M} {m0 s0 : Nat} {cal : Nat → List Value → sm_M → sm_R} {sc : Option (Nat × (Nat → Int32))} {k : Nat → sm_L → List Value → sm_M → sm_R} {r : Option Value} {pc : Nat} {L : sm_L} {st : List Value} {M : sm_M} {j : Nat} (C0 : sm_C p s m args meth c D cl τ B ad TB NB SK XT m0 mi) (ih : ∀ pc L st M, k pc L st M = some (M', r) → sm_G p l e R s m args below meth c Q D cl τ B ad mi.2.2.1 m0 s0 pc L st M) (hd : decode mi.2.1 pc = .ok (.lstore j, 2)) (h : sm_ex cal sc mi k pc L st M (.lstore j) = some (M', r)) : sm_G p l e R s m args below meth c Q D cl τ B ad mi.2.2.1 m0 s0 pc L st M := by
  have hx := C0.1
  have hb := C0.2.1
  replace h := sm_l1_some h
  obtain ⟨x, t, rfl, h⟩ := h
  replace h := sm_st2_some h
  obtain ⟨hj, h⟩ := h
  intro H locs ls cells slots hP hm hS hLl hL h1 h2
  refine lv_lstore hx hb hd hL (by omega) rfl (fun ls' hL' => ?_)
  exact ih _ _ _ _ h H locs ls' cells slots hP hm hS (by rw [sm_s2_len]; exact hLl) (sm_has_s2 (v := .long x) hL') h1 h2
set_option maxHeartbeats 1000000 in
theorem sg_iinc {p : Program} {l : Launch} {e : Env} {R : Room} {s : State} {m : MethodId} {args : Array Value} {below : List Frame} {meth : Method} {c : Code} {Q : State → Prop} {D : va_G} {cl : List vw_C} {τ : Nat → ClassId} {B : Nat} {ad : Nat → Nat} {TB NB : List Cond} {SK : sm_SKt} {XT : State → Heap → Prop} {mi : sm_MI} {M' : sm_M} {m0 s0 : Nat} {cal : Nat → List Value → sm_M → sm_R} {sc : Option (Nat × (Nat → Int32))} {k : Nat → sm_L → List Value → sm_M → sm_R} {r : Option Value} {pc : Nat} {L : sm_L} {st : List Value} {M : sm_M} {j : Nat} {n : Int} (C0 : sm_C p s m args meth c D cl τ B ad TB NB SK XT m0 mi) (ih : ∀ pc L st M, k pc L st M = some (M', r) → sm_G p l e R s m args below meth c Q D cl τ B ad mi.2.2.1 m0 s0 pc L st M) (hd : decode mi.2.1 pc = .ok (.iinc j n, 3)) (h : sm_ex cal sc mi k pc L st M (.iinc j n) = some (M', r)) : sm_G p l e R s m args below meth c Q D cl τ B ad mi.2.2.1 m0 s0 pc L st M := by
  have hx := C0.1
  have hb := C0.2.1
  replace h := sm_li1_some h
  obtain ⟨x, hv, h⟩ := h
  replace h := sm_st1_some h
  obtain ⟨hj, h⟩ := h
  intro H locs ls cells slots hP hm hS hLl hL h1 h2
  have hmem := sm_al_in (B := B) (ad := ad) (j := 0) hv
  rw [Nat.zero_add] at hmem
  obtain ⟨kk, hkk⟩ := List.getElem?_of_mem hmem
  refine lv_iinc hx hb hd hL hkk rfl (by omega) rfl (fun ls' hL' => ?_)
  exact ih _ _ _ _ h H locs ls' cells slots hP hm hS (by rw [sm_s1_len]; exact hLl) (sm_has_s1 (v := .int (x + Int32.ofInt n)) hL') h1 h2
set_option maxHeartbeats 1000000 in
theorem sg_iadd {p : Program} {l : Launch} {e : Env} {R : Room} {s : State} {m : MethodId} {args : Array Value} {below : List Frame} {meth : Method} {c : Code} {Q : State → Prop} {D : va_G} {cl : List vw_C} {τ : Nat → ClassId} {B : Nat} {ad : Nat → Nat} {TB NB : List Cond} {SK : sm_SKt} {XT : State → Heap → Prop} {mi : sm_MI} {M' : sm_M} {m0 s0 : Nat} {cal : Nat → List Value → sm_M → sm_R} {sc : Option (Nat × (Nat → Int32))} {k : Nat → sm_L → List Value → sm_M → sm_R} {r : Option Value} {pc : Nat} {L : sm_L} {st : List Value} {M : sm_M}  (C0 : sm_C p s m args meth c D cl τ B ad TB NB SK XT m0 mi) (ih : ∀ pc L st M, k pc L st M = some (M', r) → sm_G p l e R s m args below meth c Q D cl τ B ad mi.2.2.1 m0 s0 pc L st M) (hd : decode mi.2.1 pc = .ok (.iadd, 1)) (h : sm_ex cal sc mi k pc L st M (.iadd) = some (M', r)) : sm_G p l e R s m args below meth c Q D cl τ B ad mi.2.2.1 m0 s0 pc L st M := by
  have hx := C0.1
  have hb := C0.2.1
  replace h := sm_i2_some h
  obtain ⟨x, y, t, rfl, h⟩ := h
  intro H locs ls cells slots hP hm hS hLl hL h1 h2
  refine lv_iadd hx hb hd ?_
  exact ih _ _ _ _ h H locs ls cells slots hP hm hS hLl hL h1 h2
set_option maxHeartbeats 1000000 in
theorem sg_isub {p : Program} {l : Launch} {e : Env} {R : Room} {s : State} {m : MethodId} {args : Array Value} {below : List Frame} {meth : Method} {c : Code} {Q : State → Prop} {D : va_G} {cl : List vw_C} {τ : Nat → ClassId} {B : Nat} {ad : Nat → Nat} {TB NB : List Cond} {SK : sm_SKt} {XT : State → Heap → Prop} {mi : sm_MI} {M' : sm_M} {m0 s0 : Nat} {cal : Nat → List Value → sm_M → sm_R} {sc : Option (Nat × (Nat → Int32))} {k : Nat → sm_L → List Value → sm_M → sm_R} {r : Option Value} {pc : Nat} {L : sm_L} {st : List Value} {M : sm_M}  (C0 : sm_C p s m args meth c D cl τ B ad TB NB SK XT m0 mi) (ih : ∀ pc L st M, k pc L st M = some (M', r) → sm_G p l e R s m args below meth c Q D cl τ B ad mi.2.2.1 m0 s0 pc L st M) (hd : decode mi.2.1 pc = .ok (.isub, 1)) (h : sm_ex cal sc mi k pc L st M (.isub) = some (M', r)) : sm_G p l e R s m args below meth c Q D cl τ B ad mi.2.2.1 m0 s0 pc L st M := by
  have hx := C0.1
  have hb := C0.2.1
  replace h := sm_i2_some h
  obtain ⟨x, y, t, rfl, h⟩ := h
  intro H locs ls cells slots hP hm hS hLl hL h1 h2
  refine lv_isub hx hb hd ?_
  exact ih _ _ _ _ h H locs ls cells slots hP hm hS hLl hL h1 h2
set_option maxHeartbeats 1000000 in
theorem sg_imul {p : Program} {l : Launch} {e : Env} {R : Room} {s : State} {m : MethodId} {args : Array Value} {below : List Frame} {meth : Method} {c : Code} {Q : State → Prop} {D : va_G} {cl : List vw_C} {τ : Nat → ClassId} {B : Nat} {ad : Nat → Nat} {TB NB : List Cond} {SK : sm_SKt} {XT : State → Heap → Prop} {mi : sm_MI} {M' : sm_M} {m0 s0 : Nat} {cal : Nat → List Value → sm_M → sm_R} {sc : Option (Nat × (Nat → Int32))} {k : Nat → sm_L → List Value → sm_M → sm_R} {r : Option Value} {pc : Nat} {L : sm_L} {st : List Value} {M : sm_M}  (C0 : sm_C p s m args meth c D cl τ B ad TB NB SK XT m0 mi) (ih : ∀ pc L st M, k pc L st M = some (M', r) → sm_G p l e R s m args below meth c Q D cl τ B ad mi.2.2.1 m0 s0 pc L st M) (hd : decode mi.2.1 pc = .ok (.imul, 1)) (h : sm_ex cal sc mi k pc L st M (.imul) = some (M', r)) : sm_G p l e R s m args below meth c Q D cl τ B ad mi.2.2.1 m0 s0 pc L st M := by
  have hx := C0.1
  have hb := C0.2.1
  replace h := sm_i2_some h
  obtain ⟨x, y, t, rfl, h⟩ := h
  intro H locs ls cells slots hP hm hS hLl hL h1 h2
  refine lv_imul hx hb hd ?_
  exact ih _ _ _ _ h H locs ls cells slots hP hm hS hLl hL h1 h2
set_option maxHeartbeats 1000000 in
theorem sg_iand {p : Program} {l : Launch} {e : Env} {R : Room} {s : State} {m : MethodId} {args : Array Value} {below : List Frame} {meth : Method} {c : Code} {Q : State → Prop} {D : va_G} {cl : List vw_C} {τ : Nat → ClassId} {B : Nat} {ad : Nat → Nat} {TB NB : List Cond} {SK : sm_SKt} {XT : State → Heap → Prop} {mi : sm_MI} {M' : sm_M} {m0 s0 : Nat} {cal : Nat → List Value → sm_M → sm_R} {sc : Option (Nat × (Nat → Int32))} {k : Nat → sm_L → List Value → sm_M → sm_R} {r : Option Value} {pc : Nat} {L : sm_L} {st : List Value} {M : sm_M}  (C0 : sm_C p s m args meth c D cl τ B ad TB NB SK XT m0 mi) (ih : ∀ pc L st M, k pc L st M = some (M', r) → sm_G p l e R s m args below meth c Q D cl τ B ad mi.2.2.1 m0 s0 pc L st M) (hd : decode mi.2.1 pc = .ok (.iand, 1)) (h : sm_ex cal sc mi k pc L st M (.iand) = some (M', r)) : sm_G p l e R s m args below meth c Q D cl τ B ad mi.2.2.1 m0 s0 pc L st M := by
  have hx := C0.1
  have hb := C0.2.1
  replace h := sm_i2_some h
  obtain ⟨x, y, t, rfl, h⟩ := h
  intro H locs ls cells slots hP hm hS hLl hL h1 h2
  refine lv_iand hx hb hd ?_
  exact ih _ _ _ _ h H locs ls cells slots hP hm hS hLl hL h1 h2
set_option maxHeartbeats 1000000 in
theorem sg_ior {p : Program} {l : Launch} {e : Env} {R : Room} {s : State} {m : MethodId} {args : Array Value} {below : List Frame} {meth : Method} {c : Code} {Q : State → Prop} {D : va_G} {cl : List vw_C} {τ : Nat → ClassId} {B : Nat} {ad : Nat → Nat} {TB NB : List Cond} {SK : sm_SKt} {XT : State → Heap → Prop} {mi : sm_MI} {M' : sm_M} {m0 s0 : Nat} {cal : Nat → List Value → sm_M → sm_R} {sc : Option (Nat × (Nat → Int32))} {k : Nat → sm_L → List Value → sm_M → sm_R} {r : Option Value} {pc : Nat} {L : sm_L} {st : List Value} {M : sm_M}  (C0 : sm_C p s m args meth c D cl τ B ad TB NB SK XT m0 mi) (ih : ∀ pc L st M, k pc L st M = some (M', r) → sm_G p l e R s m args below meth c Q D cl τ B ad mi.2.2.1 m0 s0 pc L st M) (hd : decode mi.2.1 pc = .ok (.ior, 1)) (h : sm_ex cal sc mi k pc L st M (.ior) = some (M', r)) : sm_G p l e R s m args below meth c Q D cl τ B ad mi.2.2.1 m0 s0 pc L st M := by
  have hx := C0.1
  have hb := C0.2.1
  replace h := sm_i2_some h
  obtain ⟨x, y, t, rfl, h⟩ := h
  intro H locs ls cells slots hP hm hS hLl hL h1 h2
  refine lv_ior hx hb hd ?_
  exact ih _ _ _ _ h H locs ls cells slots hP hm hS hLl hL h1 h2
set_option maxHeartbeats 1000000 in
theorem sg_ixor {p : Program} {l : Launch} {e : Env} {R : Room} {s : State} {m : MethodId} {args : Array Value} {below : List Frame} {meth : Method} {c : Code} {Q : State → Prop} {D : va_G} {cl : List vw_C} {τ : Nat → ClassId} {B : Nat} {ad : Nat → Nat} {TB NB : List Cond} {SK : sm_SKt} {XT : State → Heap → Prop} {mi : sm_MI} {M' : sm_M} {m0 s0 : Nat} {cal : Nat → List Value → sm_M → sm_R} {sc : Option (Nat × (Nat → Int32))} {k : Nat → sm_L → List Value → sm_M → sm_R} {r : Option Value} {pc : Nat} {L : sm_L} {st : List Value} {M : sm_M}  (C0 : sm_C p s m args meth c D cl τ B ad TB NB SK XT m0 mi) (ih : ∀ pc L st M, k pc L st M = some (M', r) → sm_G p l e R s m args below meth c Q D cl τ B ad mi.2.2.1 m0 s0 pc L st M) (hd : decode mi.2.1 pc = .ok (.ixor, 1)) (h : sm_ex cal sc mi k pc L st M (.ixor) = some (M', r)) : sm_G p l e R s m args below meth c Q D cl τ B ad mi.2.2.1 m0 s0 pc L st M := by
  have hx := C0.1
  have hb := C0.2.1
  replace h := sm_i2_some h
  obtain ⟨x, y, t, rfl, h⟩ := h
  intro H locs ls cells slots hP hm hS hLl hL h1 h2
  refine lv_ixor hx hb hd ?_
  exact ih _ _ _ _ h H locs ls cells slots hP hm hS hLl hL h1 h2
set_option maxHeartbeats 1000000 in
theorem sg_ishl {p : Program} {l : Launch} {e : Env} {R : Room} {s : State} {m : MethodId} {args : Array Value} {below : List Frame} {meth : Method} {c : Code} {Q : State → Prop} {D : va_G} {cl : List vw_C} {τ : Nat → ClassId} {B : Nat} {ad : Nat → Nat} {TB NB : List Cond} {SK : sm_SKt} {XT : State → Heap → Prop} {mi : sm_MI} {M' : sm_M} {m0 s0 : Nat} {cal : Nat → List Value → sm_M → sm_R} {sc : Option (Nat × (Nat → Int32))} {k : Nat → sm_L → List Value → sm_M → sm_R} {r : Option Value} {pc : Nat} {L : sm_L} {st : List Value} {M : sm_M}  (C0 : sm_C p s m args meth c D cl τ B ad TB NB SK XT m0 mi) (ih : ∀ pc L st M, k pc L st M = some (M', r) → sm_G p l e R s m args below meth c Q D cl τ B ad mi.2.2.1 m0 s0 pc L st M) (hd : decode mi.2.1 pc = .ok (.ishl, 1)) (h : sm_ex cal sc mi k pc L st M (.ishl) = some (M', r)) : sm_G p l e R s m args below meth c Q D cl τ B ad mi.2.2.1 m0 s0 pc L st M := by
  have hx := C0.1
  have hb := C0.2.1
  replace h := sm_i2_some h
  obtain ⟨x, y, t, rfl, h⟩ := h
  intro H locs ls cells slots hP hm hS hLl hL h1 h2
  refine lv_ishl hx hb hd ?_
  exact ih _ _ _ _ h H locs ls cells slots hP hm hS hLl hL h1 h2
set_option maxHeartbeats 1000000 in
theorem sg_ishr {p : Program} {l : Launch} {e : Env} {R : Room} {s : State} {m : MethodId} {args : Array Value} {below : List Frame} {meth : Method} {c : Code} {Q : State → Prop} {D : va_G} {cl : List vw_C} {τ : Nat → ClassId} {B : Nat} {ad : Nat → Nat} {TB NB : List Cond} {SK : sm_SKt} {XT : State → Heap → Prop} {mi : sm_MI} {M' : sm_M} {m0 s0 : Nat} {cal : Nat → List Value → sm_M → sm_R} {sc : Option (Nat × (Nat → Int32))} {k : Nat → sm_L → List Value → sm_M → sm_R} {r : Option Value} {pc : Nat} {L : sm_L} {st : List Value} {M : sm_M}  (C0 : sm_C p s m args meth c D cl τ B ad TB NB SK XT m0 mi) (ih : ∀ pc L st M, k pc L st M = some (M', r) → sm_G p l e R s m args below meth c Q D cl τ B ad mi.2.2.1 m0 s0 pc L st M) (hd : decode mi.2.1 pc = .ok (.ishr, 1)) (h : sm_ex cal sc mi k pc L st M (.ishr) = some (M', r)) : sm_G p l e R s m args below meth c Q D cl τ B ad mi.2.2.1 m0 s0 pc L st M := by
  have hx := C0.1
  have hb := C0.2.1
  replace h := sm_i2_some h
  obtain ⟨x, y, t, rfl, h⟩ := h
  intro H locs ls cells slots hP hm hS hLl hL h1 h2
  refine lv_ishr hx hb hd ?_
  exact ih _ _ _ _ h H locs ls cells slots hP hm hS hLl hL h1 h2
set_option maxHeartbeats 1000000 in
theorem sg_iushr {p : Program} {l : Launch} {e : Env} {R : Room} {s : State} {m : MethodId} {args : Array Value} {below : List Frame} {meth : Method} {c : Code} {Q : State → Prop} {D : va_G} {cl : List vw_C} {τ : Nat → ClassId} {B : Nat} {ad : Nat → Nat} {TB NB : List Cond} {SK : sm_SKt} {XT : State → Heap → Prop} {mi : sm_MI} {M' : sm_M} {m0 s0 : Nat} {cal : Nat → List Value → sm_M → sm_R} {sc : Option (Nat × (Nat → Int32))} {k : Nat → sm_L → List Value → sm_M → sm_R} {r : Option Value} {pc : Nat} {L : sm_L} {st : List Value} {M : sm_M}  (C0 : sm_C p s m args meth c D cl τ B ad TB NB SK XT m0 mi) (ih : ∀ pc L st M, k pc L st M = some (M', r) → sm_G p l e R s m args below meth c Q D cl τ B ad mi.2.2.1 m0 s0 pc L st M) (hd : decode mi.2.1 pc = .ok (.iushr, 1)) (h : sm_ex cal sc mi k pc L st M (.iushr) = some (M', r)) : sm_G p l e R s m args below meth c Q D cl τ B ad mi.2.2.1 m0 s0 pc L st M := by
  have hx := C0.1
  have hb := C0.2.1
  replace h := sm_i2_some h
  obtain ⟨x, y, t, rfl, h⟩ := h
  intro H locs ls cells slots hP hm hS hLl hL h1 h2
  refine lv_iushr hx hb hd rfl ?_
  exact ih _ _ _ _ h H locs ls cells slots hP hm hS hLl hL h1 h2
set_option maxHeartbeats 1000000 in
theorem sg_idiv {p : Program} {l : Launch} {e : Env} {R : Room} {s : State} {m : MethodId} {args : Array Value} {below : List Frame} {meth : Method} {c : Code} {Q : State → Prop} {D : va_G} {cl : List vw_C} {τ : Nat → ClassId} {B : Nat} {ad : Nat → Nat} {TB NB : List Cond} {SK : sm_SKt} {XT : State → Heap → Prop} {mi : sm_MI} {M' : sm_M} {m0 s0 : Nat} {cal : Nat → List Value → sm_M → sm_R} {sc : Option (Nat × (Nat → Int32))} {k : Nat → sm_L → List Value → sm_M → sm_R} {r : Option Value} {pc : Nat} {L : sm_L} {st : List Value} {M : sm_M}  (C0 : sm_C p s m args meth c D cl τ B ad TB NB SK XT m0 mi) (ih : ∀ pc L st M, k pc L st M = some (M', r) → sm_G p l e R s m args below meth c Q D cl τ B ad mi.2.2.1 m0 s0 pc L st M) (hd : decode mi.2.1 pc = .ok (.idiv, 1)) (h : sm_ex cal sc mi k pc L st M (.idiv) = some (M', r)) : sm_G p l e R s m args below meth c Q D cl τ B ad mi.2.2.1 m0 s0 pc L st M := by
  have hx := C0.1
  have hb := C0.2.1
  replace h := sm_i2_some h
  obtain ⟨x, y, t, rfl, h⟩ := h
  split at h
  · cases h
  · rename_i hne
    intro H locs ls cells slots hP hm hS hLl hL h1 h2
    refine lv_idiv hx hb hd hne ?_
    exact ih _ _ _ _ h H locs ls cells slots hP hm hS hLl hL h1 h2
set_option maxHeartbeats 1000000 in
theorem sg_irem {p : Program} {l : Launch} {e : Env} {R : Room} {s : State} {m : MethodId} {args : Array Value} {below : List Frame} {meth : Method} {c : Code} {Q : State → Prop} {D : va_G} {cl : List vw_C} {τ : Nat → ClassId} {B : Nat} {ad : Nat → Nat} {TB NB : List Cond} {SK : sm_SKt} {XT : State → Heap → Prop} {mi : sm_MI} {M' : sm_M} {m0 s0 : Nat} {cal : Nat → List Value → sm_M → sm_R} {sc : Option (Nat × (Nat → Int32))} {k : Nat → sm_L → List Value → sm_M → sm_R} {r : Option Value} {pc : Nat} {L : sm_L} {st : List Value} {M : sm_M}  (C0 : sm_C p s m args meth c D cl τ B ad TB NB SK XT m0 mi) (ih : ∀ pc L st M, k pc L st M = some (M', r) → sm_G p l e R s m args below meth c Q D cl τ B ad mi.2.2.1 m0 s0 pc L st M) (hd : decode mi.2.1 pc = .ok (.irem, 1)) (h : sm_ex cal sc mi k pc L st M (.irem) = some (M', r)) : sm_G p l e R s m args below meth c Q D cl τ B ad mi.2.2.1 m0 s0 pc L st M := by
  have hx := C0.1
  have hb := C0.2.1
  replace h := sm_i2_some h
  obtain ⟨x, y, t, rfl, h⟩ := h
  split at h
  · cases h
  · rename_i hne
    intro H locs ls cells slots hP hm hS hLl hL h1 h2
    refine lv_irem hx hb hd hne ?_
    exact ih _ _ _ _ h H locs ls cells slots hP hm hS hLl hL h1 h2
set_option maxHeartbeats 1000000 in
theorem sg_ineg {p : Program} {l : Launch} {e : Env} {R : Room} {s : State} {m : MethodId} {args : Array Value} {below : List Frame} {meth : Method} {c : Code} {Q : State → Prop} {D : va_G} {cl : List vw_C} {τ : Nat → ClassId} {B : Nat} {ad : Nat → Nat} {TB NB : List Cond} {SK : sm_SKt} {XT : State → Heap → Prop} {mi : sm_MI} {M' : sm_M} {m0 s0 : Nat} {cal : Nat → List Value → sm_M → sm_R} {sc : Option (Nat × (Nat → Int32))} {k : Nat → sm_L → List Value → sm_M → sm_R} {r : Option Value} {pc : Nat} {L : sm_L} {st : List Value} {M : sm_M}  (C0 : sm_C p s m args meth c D cl τ B ad TB NB SK XT m0 mi) (ih : ∀ pc L st M, k pc L st M = some (M', r) → sm_G p l e R s m args below meth c Q D cl τ B ad mi.2.2.1 m0 s0 pc L st M) (hd : decode mi.2.1 pc = .ok (.ineg, 1)) (h : sm_ex cal sc mi k pc L st M (.ineg) = some (M', r)) : sm_G p l e R s m args below meth c Q D cl τ B ad mi.2.2.1 m0 s0 pc L st M := by
  have hx := C0.1
  have hb := C0.2.1
  replace h := sm_i1_some h
  obtain ⟨x, t, rfl, h⟩ := h
  intro H locs ls cells slots hP hm hS hLl hL h1 h2
  refine lv_ineg hx hb hd ?_
  exact ih _ _ _ _ h H locs ls cells slots hP hm hS hLl hL h1 h2
set_option maxHeartbeats 1000000 in
theorem sg_ladd {p : Program} {l : Launch} {e : Env} {R : Room} {s : State} {m : MethodId} {args : Array Value} {below : List Frame} {meth : Method} {c : Code} {Q : State → Prop} {D : va_G} {cl : List vw_C} {τ : Nat → ClassId} {B : Nat} {ad : Nat → Nat} {TB NB : List Cond} {SK : sm_SKt} {XT : State → Heap → Prop} {mi : sm_MI} {M' : sm_M} {m0 s0 : Nat} {cal : Nat → List Value → sm_M → sm_R} {sc : Option (Nat × (Nat → Int32))} {k : Nat → sm_L → List Value → sm_M → sm_R} {r : Option Value} {pc : Nat} {L : sm_L} {st : List Value} {M : sm_M}  (C0 : sm_C p s m args meth c D cl τ B ad TB NB SK XT m0 mi) (ih : ∀ pc L st M, k pc L st M = some (M', r) → sm_G p l e R s m args below meth c Q D cl τ B ad mi.2.2.1 m0 s0 pc L st M) (hd : decode mi.2.1 pc = .ok (.ladd, 1)) (h : sm_ex cal sc mi k pc L st M (.ladd) = some (M', r)) : sm_G p l e R s m args below meth c Q D cl τ B ad mi.2.2.1 m0 s0 pc L st M := by
  have hx := C0.1
  have hb := C0.2.1
  replace h := sm_l2_some h
  obtain ⟨x, y, t, rfl, h⟩ := h
  intro H locs ls cells slots hP hm hS hLl hL h1 h2
  refine lv_ladd hx hb hd ?_
  exact ih _ _ _ _ h H locs ls cells slots hP hm hS hLl hL h1 h2
set_option maxHeartbeats 1000000 in
theorem sg_lsub {p : Program} {l : Launch} {e : Env} {R : Room} {s : State} {m : MethodId} {args : Array Value} {below : List Frame} {meth : Method} {c : Code} {Q : State → Prop} {D : va_G} {cl : List vw_C} {τ : Nat → ClassId} {B : Nat} {ad : Nat → Nat} {TB NB : List Cond} {SK : sm_SKt} {XT : State → Heap → Prop} {mi : sm_MI} {M' : sm_M} {m0 s0 : Nat} {cal : Nat → List Value → sm_M → sm_R} {sc : Option (Nat × (Nat → Int32))} {k : Nat → sm_L → List Value → sm_M → sm_R} {r : Option Value} {pc : Nat} {L : sm_L} {st : List Value} {M : sm_M}  (C0 : sm_C p s m args meth c D cl τ B ad TB NB SK XT m0 mi) (ih : ∀ pc L st M, k pc L st M = some (M', r) → sm_G p l e R s m args below meth c Q D cl τ B ad mi.2.2.1 m0 s0 pc L st M) (hd : decode mi.2.1 pc = .ok (.lsub, 1)) (h : sm_ex cal sc mi k pc L st M (.lsub) = some (M', r)) : sm_G p l e R s m args below meth c Q D cl τ B ad mi.2.2.1 m0 s0 pc L st M := by
  have hx := C0.1
  have hb := C0.2.1
  replace h := sm_l2_some h
  obtain ⟨x, y, t, rfl, h⟩ := h
  intro H locs ls cells slots hP hm hS hLl hL h1 h2
  refine lv_lsub hx hb hd ?_
  exact ih _ _ _ _ h H locs ls cells slots hP hm hS hLl hL h1 h2
set_option maxHeartbeats 1000000 in
theorem sg_land {p : Program} {l : Launch} {e : Env} {R : Room} {s : State} {m : MethodId} {args : Array Value} {below : List Frame} {meth : Method} {c : Code} {Q : State → Prop} {D : va_G} {cl : List vw_C} {τ : Nat → ClassId} {B : Nat} {ad : Nat → Nat} {TB NB : List Cond} {SK : sm_SKt} {XT : State → Heap → Prop} {mi : sm_MI} {M' : sm_M} {m0 s0 : Nat} {cal : Nat → List Value → sm_M → sm_R} {sc : Option (Nat × (Nat → Int32))} {k : Nat → sm_L → List Value → sm_M → sm_R} {r : Option Value} {pc : Nat} {L : sm_L} {st : List Value} {M : sm_M}  (C0 : sm_C p s m args meth c D cl τ B ad TB NB SK XT m0 mi) (ih : ∀ pc L st M, k pc L st M = some (M', r) → sm_G p l e R s m args below meth c Q D cl τ B ad mi.2.2.1 m0 s0 pc L st M) (hd : decode mi.2.1 pc = .ok (.land, 1)) (h : sm_ex cal sc mi k pc L st M (.land) = some (M', r)) : sm_G p l e R s m args below meth c Q D cl τ B ad mi.2.2.1 m0 s0 pc L st M := by
  have hx := C0.1
  have hb := C0.2.1
  replace h := sm_l2_some h
  obtain ⟨x, y, t, rfl, h⟩ := h
  intro H locs ls cells slots hP hm hS hLl hL h1 h2
  refine lv_land hx hb hd ?_
  exact ih _ _ _ _ h H locs ls cells slots hP hm hS hLl hL h1 h2
set_option maxHeartbeats 1000000 in
theorem sg_lor {p : Program} {l : Launch} {e : Env} {R : Room} {s : State} {m : MethodId} {args : Array Value} {below : List Frame} {meth : Method} {c : Code} {Q : State → Prop} {D : va_G} {cl : List vw_C} {τ : Nat → ClassId} {B : Nat} {ad : Nat → Nat} {TB NB : List Cond} {SK : sm_SKt} {XT : State → Heap → Prop} {mi : sm_MI} {M' : sm_M} {m0 s0 : Nat} {cal : Nat → List Value → sm_M → sm_R} {sc : Option (Nat × (Nat → Int32))} {k : Nat → sm_L → List Value → sm_M → sm_R} {r : Option Value} {pc : Nat} {L : sm_L} {st : List Value} {M : sm_M}  (C0 : sm_C p s m args meth c D cl τ B ad TB NB SK XT m0 mi) (ih : ∀ pc L st M, k pc L st M = some (M', r) → sm_G p l e R s m args below meth c Q D cl τ B ad mi.2.2.1 m0 s0 pc L st M) (hd : decode mi.2.1 pc = .ok (.lor, 1)) (h : sm_ex cal sc mi k pc L st M (.lor) = some (M', r)) : sm_G p l e R s m args below meth c Q D cl τ B ad mi.2.2.1 m0 s0 pc L st M := by
  have hx := C0.1
  have hb := C0.2.1
  replace h := sm_l2_some h
  obtain ⟨x, y, t, rfl, h⟩ := h
  intro H locs ls cells slots hP hm hS hLl hL h1 h2
  refine lv_lor hx hb hd ?_
  exact ih _ _ _ _ h H locs ls cells slots hP hm hS hLl hL h1 h2
set_option maxHeartbeats 1000000 in
theorem sg_lxor {p : Program} {l : Launch} {e : Env} {R : Room} {s : State} {m : MethodId} {args : Array Value} {below : List Frame} {meth : Method} {c : Code} {Q : State → Prop} {D : va_G} {cl : List vw_C} {τ : Nat → ClassId} {B : Nat} {ad : Nat → Nat} {TB NB : List Cond} {SK : sm_SKt} {XT : State → Heap → Prop} {mi : sm_MI} {M' : sm_M} {m0 s0 : Nat} {cal : Nat → List Value → sm_M → sm_R} {sc : Option (Nat × (Nat → Int32))} {k : Nat → sm_L → List Value → sm_M → sm_R} {r : Option Value} {pc : Nat} {L : sm_L} {st : List Value} {M : sm_M}  (C0 : sm_C p s m args meth c D cl τ B ad TB NB SK XT m0 mi) (ih : ∀ pc L st M, k pc L st M = some (M', r) → sm_G p l e R s m args below meth c Q D cl τ B ad mi.2.2.1 m0 s0 pc L st M) (hd : decode mi.2.1 pc = .ok (.lxor, 1)) (h : sm_ex cal sc mi k pc L st M (.lxor) = some (M', r)) : sm_G p l e R s m args below meth c Q D cl τ B ad mi.2.2.1 m0 s0 pc L st M := by
  have hx := C0.1
  have hb := C0.2.1
  replace h := sm_l2_some h
  obtain ⟨x, y, t, rfl, h⟩ := h
  intro H locs ls cells slots hP hm hS hLl hL h1 h2
  refine lv_lxor hx hb hd ?_
  exact ih _ _ _ _ h H locs ls cells slots hP hm hS hLl hL h1 h2
set_option maxHeartbeats 1000000 in
theorem sg_lshl {p : Program} {l : Launch} {e : Env} {R : Room} {s : State} {m : MethodId} {args : Array Value} {below : List Frame} {meth : Method} {c : Code} {Q : State → Prop} {D : va_G} {cl : List vw_C} {τ : Nat → ClassId} {B : Nat} {ad : Nat → Nat} {TB NB : List Cond} {SK : sm_SKt} {XT : State → Heap → Prop} {mi : sm_MI} {M' : sm_M} {m0 s0 : Nat} {cal : Nat → List Value → sm_M → sm_R} {sc : Option (Nat × (Nat → Int32))} {k : Nat → sm_L → List Value → sm_M → sm_R} {r : Option Value} {pc : Nat} {L : sm_L} {st : List Value} {M : sm_M}  (C0 : sm_C p s m args meth c D cl τ B ad TB NB SK XT m0 mi) (ih : ∀ pc L st M, k pc L st M = some (M', r) → sm_G p l e R s m args below meth c Q D cl τ B ad mi.2.2.1 m0 s0 pc L st M) (hd : decode mi.2.1 pc = .ok (.lshl, 1)) (h : sm_ex cal sc mi k pc L st M (.lshl) = some (M', r)) : sm_G p l e R s m args below meth c Q D cl τ B ad mi.2.2.1 m0 s0 pc L st M := by
  have hx := C0.1
  have hb := C0.2.1
  replace h := sm_li_some h
  obtain ⟨x, y, t, rfl, h⟩ := h
  intro H locs ls cells slots hP hm hS hLl hL h1 h2
  refine lv_lshl hx hb hd rfl ?_
  exact ih _ _ _ _ h H locs ls cells slots hP hm hS hLl hL h1 h2
set_option maxHeartbeats 1000000 in
theorem sg_lshr {p : Program} {l : Launch} {e : Env} {R : Room} {s : State} {m : MethodId} {args : Array Value} {below : List Frame} {meth : Method} {c : Code} {Q : State → Prop} {D : va_G} {cl : List vw_C} {τ : Nat → ClassId} {B : Nat} {ad : Nat → Nat} {TB NB : List Cond} {SK : sm_SKt} {XT : State → Heap → Prop} {mi : sm_MI} {M' : sm_M} {m0 s0 : Nat} {cal : Nat → List Value → sm_M → sm_R} {sc : Option (Nat × (Nat → Int32))} {k : Nat → sm_L → List Value → sm_M → sm_R} {r : Option Value} {pc : Nat} {L : sm_L} {st : List Value} {M : sm_M}  (C0 : sm_C p s m args meth c D cl τ B ad TB NB SK XT m0 mi) (ih : ∀ pc L st M, k pc L st M = some (M', r) → sm_G p l e R s m args below meth c Q D cl τ B ad mi.2.2.1 m0 s0 pc L st M) (hd : decode mi.2.1 pc = .ok (.lshr, 1)) (h : sm_ex cal sc mi k pc L st M (.lshr) = some (M', r)) : sm_G p l e R s m args below meth c Q D cl τ B ad mi.2.2.1 m0 s0 pc L st M := by
  have hx := C0.1
  have hb := C0.2.1
  replace h := sm_li_some h
  obtain ⟨x, y, t, rfl, h⟩ := h
  intro H locs ls cells slots hP hm hS hLl hL h1 h2
  refine lv_lshr hx hb hd rfl ?_
  exact ih _ _ _ _ h H locs ls cells slots hP hm hS hLl hL h1 h2
set_option maxHeartbeats 1000000 in
theorem sg_lushr {p : Program} {l : Launch} {e : Env} {R : Room} {s : State} {m : MethodId} {args : Array Value} {below : List Frame} {meth : Method} {c : Code} {Q : State → Prop} {D : va_G} {cl : List vw_C} {τ : Nat → ClassId} {B : Nat} {ad : Nat → Nat} {TB NB : List Cond} {SK : sm_SKt} {XT : State → Heap → Prop} {mi : sm_MI} {M' : sm_M} {m0 s0 : Nat} {cal : Nat → List Value → sm_M → sm_R} {sc : Option (Nat × (Nat → Int32))} {k : Nat → sm_L → List Value → sm_M → sm_R} {r : Option Value} {pc : Nat} {L : sm_L} {st : List Value} {M : sm_M}  (C0 : sm_C p s m args meth c D cl τ B ad TB NB SK XT m0 mi) (ih : ∀ pc L st M, k pc L st M = some (M', r) → sm_G p l e R s m args below meth c Q D cl τ B ad mi.2.2.1 m0 s0 pc L st M) (hd : decode mi.2.1 pc = .ok (.lushr, 1)) (h : sm_ex cal sc mi k pc L st M (.lushr) = some (M', r)) : sm_G p l e R s m args below meth c Q D cl τ B ad mi.2.2.1 m0 s0 pc L st M := by
  have hx := C0.1
  have hb := C0.2.1
  replace h := sm_li_some h
  obtain ⟨x, y, t, rfl, h⟩ := h
  intro H locs ls cells slots hP hm hS hLl hL h1 h2
  refine lv_lushr hx hb hd rfl ?_
  exact ih _ _ _ _ h H locs ls cells slots hP hm hS hLl hL h1 h2
set_option maxHeartbeats 1000000 in
theorem sg_lcmp {p : Program} {l : Launch} {e : Env} {R : Room} {s : State} {m : MethodId} {args : Array Value} {below : List Frame} {meth : Method} {c : Code} {Q : State → Prop} {D : va_G} {cl : List vw_C} {τ : Nat → ClassId} {B : Nat} {ad : Nat → Nat} {TB NB : List Cond} {SK : sm_SKt} {XT : State → Heap → Prop} {mi : sm_MI} {M' : sm_M} {m0 s0 : Nat} {cal : Nat → List Value → sm_M → sm_R} {sc : Option (Nat × (Nat → Int32))} {k : Nat → sm_L → List Value → sm_M → sm_R} {r : Option Value} {pc : Nat} {L : sm_L} {st : List Value} {M : sm_M}  (C0 : sm_C p s m args meth c D cl τ B ad TB NB SK XT m0 mi) (ih : ∀ pc L st M, k pc L st M = some (M', r) → sm_G p l e R s m args below meth c Q D cl τ B ad mi.2.2.1 m0 s0 pc L st M) (hd : decode mi.2.1 pc = .ok (.lcmp, 1)) (h : sm_ex cal sc mi k pc L st M (.lcmp) = some (M', r)) : sm_G p l e R s m args below meth c Q D cl τ B ad mi.2.2.1 m0 s0 pc L st M := by
  have hx := C0.1
  have hb := C0.2.1
  replace h := sm_l2_some h
  obtain ⟨x, y, t, rfl, h⟩ := h
  intro H locs ls cells slots hP hm hS hLl hL h1 h2
  refine W.lcmp hx hb hd ?_
  exact ih _ _ _ _ h H locs ls cells slots hP hm hS hLl hL h1 h2
set_option maxHeartbeats 1000000 in
theorem sg_i2l {p : Program} {l : Launch} {e : Env} {R : Room} {s : State} {m : MethodId} {args : Array Value} {below : List Frame} {meth : Method} {c : Code} {Q : State → Prop} {D : va_G} {cl : List vw_C} {τ : Nat → ClassId} {B : Nat} {ad : Nat → Nat} {TB NB : List Cond} {SK : sm_SKt} {XT : State → Heap → Prop} {mi : sm_MI} {M' : sm_M} {m0 s0 : Nat} {cal : Nat → List Value → sm_M → sm_R} {sc : Option (Nat × (Nat → Int32))} {k : Nat → sm_L → List Value → sm_M → sm_R} {r : Option Value} {pc : Nat} {L : sm_L} {st : List Value} {M : sm_M}  (C0 : sm_C p s m args meth c D cl τ B ad TB NB SK XT m0 mi) (ih : ∀ pc L st M, k pc L st M = some (M', r) → sm_G p l e R s m args below meth c Q D cl τ B ad mi.2.2.1 m0 s0 pc L st M) (hd : decode mi.2.1 pc = .ok (.i2l, 1)) (h : sm_ex cal sc mi k pc L st M (.i2l) = some (M', r)) : sm_G p l e R s m args below meth c Q D cl τ B ad mi.2.2.1 m0 s0 pc L st M := by
  have hx := C0.1
  have hb := C0.2.1
  replace h := sm_i1_some h
  obtain ⟨x, t, rfl, h⟩ := h
  intro H locs ls cells slots hP hm hS hLl hL h1 h2
  refine lv_i2l hx hb hd rfl ?_
  exact ih _ _ _ _ h H locs ls cells slots hP hm hS hLl hL h1 h2
set_option maxHeartbeats 1000000 in
theorem sg_l2i {p : Program} {l : Launch} {e : Env} {R : Room} {s : State} {m : MethodId} {args : Array Value} {below : List Frame} {meth : Method} {c : Code} {Q : State → Prop} {D : va_G} {cl : List vw_C} {τ : Nat → ClassId} {B : Nat} {ad : Nat → Nat} {TB NB : List Cond} {SK : sm_SKt} {XT : State → Heap → Prop} {mi : sm_MI} {M' : sm_M} {m0 s0 : Nat} {cal : Nat → List Value → sm_M → sm_R} {sc : Option (Nat × (Nat → Int32))} {k : Nat → sm_L → List Value → sm_M → sm_R} {r : Option Value} {pc : Nat} {L : sm_L} {st : List Value} {M : sm_M}  (C0 : sm_C p s m args meth c D cl τ B ad TB NB SK XT m0 mi) (ih : ∀ pc L st M, k pc L st M = some (M', r) → sm_G p l e R s m args below meth c Q D cl τ B ad mi.2.2.1 m0 s0 pc L st M) (hd : decode mi.2.1 pc = .ok (.l2i, 1)) (h : sm_ex cal sc mi k pc L st M (.l2i) = some (M', r)) : sm_G p l e R s m args below meth c Q D cl τ B ad mi.2.2.1 m0 s0 pc L st M := by
  have hx := C0.1
  have hb := C0.2.1
  replace h := sm_l1_some h
  obtain ⟨x, t, rfl, h⟩ := h
  intro H locs ls cells slots hP hm hS hLl hL h1 h2
  refine lv_l2i hx hb hd rfl ?_
  exact ih _ _ _ _ h H locs ls cells slots hP hm hS hLl hL h1 h2
set_option maxHeartbeats 1000000 in
theorem sg_goto {p : Program} {l : Launch} {e : Env} {R : Room} {s : State} {m : MethodId} {args : Array Value} {below : List Frame} {meth : Method} {c : Code} {Q : State → Prop} {D : va_G} {cl : List vw_C} {τ : Nat → ClassId} {B : Nat} {ad : Nat → Nat} {TB NB : List Cond} {SK : sm_SKt} {XT : State → Heap → Prop} {mi : sm_MI} {M' : sm_M} {m0 s0 : Nat} {cal : Nat → List Value → sm_M → sm_R} {sc : Option (Nat × (Nat → Int32))} {k : Nat → sm_L → List Value → sm_M → sm_R} {r : Option Value} {pc : Nat} {L : sm_L} {st : List Value} {M : sm_M} {off : Int} (C0 : sm_C p s m args meth c D cl τ B ad TB NB SK XT m0 mi) (ih : ∀ pc L st M, k pc L st M = some (M', r) → sm_G p l e R s m args below meth c Q D cl τ B ad mi.2.2.1 m0 s0 pc L st M) (hd : decode mi.2.1 pc = .ok (.goto off, 3)) (h : sm_ex cal sc mi k pc L st M (.goto off) = some (M', r)) : sm_G p l e R s m args below meth c Q D cl τ B ad mi.2.2.1 m0 s0 pc L st M := by
  have hx := C0.1
  have hb := C0.2.1
  replace h := sm_tg_some h
  obtain ⟨t, ht, h⟩ := h
  intro H locs ls cells slots hP hm hS hLl hL h1 h2
  refine lv_goto hx hb hd ht ?_
  exact ih _ _ _ _ h H locs ls cells slots hP hm hS hLl hL h1 h2
set_option maxHeartbeats 1000000 in
theorem sg_dup {p : Program} {l : Launch} {e : Env} {R : Room} {s : State} {m : MethodId} {args : Array Value} {below : List Frame} {meth : Method} {c : Code} {Q : State → Prop} {D : va_G} {cl : List vw_C} {τ : Nat → ClassId} {B : Nat} {ad : Nat → Nat} {TB NB : List Cond} {SK : sm_SKt} {XT : State → Heap → Prop} {mi : sm_MI} {M' : sm_M} {m0 s0 : Nat} {cal : Nat → List Value → sm_M → sm_R} {sc : Option (Nat × (Nat → Int32))} {k : Nat → sm_L → List Value → sm_M → sm_R} {r : Option Value} {pc : Nat} {L : sm_L} {st : List Value} {M : sm_M}  (C0 : sm_C p s m args meth c D cl τ B ad TB NB SK XT m0 mi) (ih : ∀ pc L st M, k pc L st M = some (M', r) → sm_G p l e R s m args below meth c Q D cl τ B ad mi.2.2.1 m0 s0 pc L st M) (hd : decode mi.2.1 pc = .ok (.dup, 1)) (h : sm_ex cal sc mi k pc L st M (.dup) = some (M', r)) : sm_G p l e R s m args below meth c Q D cl τ B ad mi.2.2.1 m0 s0 pc L st M := by
  have hx := C0.1
  have hb := C0.2.1
  simp only [sm_ex] at h
  split at h
  · intro H locs ls cells slots hP hm hS hLl hL h1 h2
    refine lv_dup hx hb hd rfl ?_
    exact ih _ _ _ _ h H locs ls cells slots hP hm hS hLl hL h1 h2
  · intro H locs ls cells slots hP hm hS hLl hL h1 h2
    refine lv_dup hx hb hd rfl ?_
    exact ih _ _ _ _ h H locs ls cells slots hP hm hS hLl hL h1 h2
  · cases h
set_option maxHeartbeats 1000000 in
theorem sg_dup2 {p : Program} {l : Launch} {e : Env} {R : Room} {s : State} {m : MethodId} {args : Array Value} {below : List Frame} {meth : Method} {c : Code} {Q : State → Prop} {D : va_G} {cl : List vw_C} {τ : Nat → ClassId} {B : Nat} {ad : Nat → Nat} {TB NB : List Cond} {SK : sm_SKt} {XT : State → Heap → Prop} {mi : sm_MI} {M' : sm_M} {m0 s0 : Nat} {cal : Nat → List Value → sm_M → sm_R} {sc : Option (Nat × (Nat → Int32))} {k : Nat → sm_L → List Value → sm_M → sm_R} {r : Option Value} {pc : Nat} {L : sm_L} {st : List Value} {M : sm_M}  (C0 : sm_C p s m args meth c D cl τ B ad TB NB SK XT m0 mi) (ih : ∀ pc L st M, k pc L st M = some (M', r) → sm_G p l e R s m args below meth c Q D cl τ B ad mi.2.2.1 m0 s0 pc L st M) (hd : decode mi.2.1 pc = .ok (.dup2, 1)) (h : sm_ex cal sc mi k pc L st M (.dup2) = some (M', r)) : sm_G p l e R s m args below meth c Q D cl τ B ad mi.2.2.1 m0 s0 pc L st M := by
  have hx := C0.1
  have hb := C0.2.1
  simp only [sm_ex] at h
  split at h
  · intro H locs ls cells slots hP hm hS hLl hL h1 h2
    refine lv_dup2_11 hx hb hd rfl rfl ?_
    exact ih _ _ _ _ h H locs ls cells slots hP hm hS hLl hL h1 h2
  · intro H locs ls cells slots hP hm hS hLl hL h1 h2
    refine lv_dup2_2 hx hb hd rfl ?_
    exact ih _ _ _ _ h H locs ls cells slots hP hm hS hLl hL h1 h2
  · cases h
set_option maxHeartbeats 1000000 in
theorem sg_ifCond {p : Program} {l : Launch} {e : Env} {R : Room} {s : State} {m : MethodId} {args : Array Value} {below : List Frame} {meth : Method} {c : Code} {Q : State → Prop} {D : va_G} {cl : List vw_C} {τ : Nat → ClassId} {B : Nat} {ad : Nat → Nat} {TB NB : List Cond} {SK : sm_SKt} {XT : State → Heap → Prop} {mi : sm_MI} {M' : sm_M} {m0 s0 : Nat} {cal : Nat → List Value → sm_M → sm_R} {sc : Option (Nat × (Nat → Int32))} {k : Nat → sm_L → List Value → sm_M → sm_R} {r : Option Value} {pc : Nat} {L : sm_L} {st : List Value} {M : sm_M} {cd : ClassFile.Cond} {off : Int} (C0 : sm_C p s m args meth c D cl τ B ad TB NB SK XT m0 mi) (ih : ∀ pc L st M, k pc L st M = some (M', r) → sm_G p l e R s m args below meth c Q D cl τ B ad mi.2.2.1 m0 s0 pc L st M) (hd : decode mi.2.1 pc = .ok (.ifCond cd off, 3)) (h : sm_ex cal sc mi k pc L st M (.ifCond cd off) = some (M', r)) : sm_G p l e R s m args below meth c Q D cl τ B ad mi.2.2.1 m0 s0 pc L st M := by
  have hx := C0.1
  have hb := C0.2.1
  replace h := sm_tg_some h
  obtain ⟨t, ht, h⟩ := h
  replace h := sm_i1_some h
  obtain ⟨x, r0, rfl, h⟩ := h
  intro H locs ls cells slots hP hm hS hLl hL h1 h2
  cases cd
  · refine lv_if_eq hx hb hd ht (fun hc => ?_) (fun hc => ?_)
    · have h := (if_pos hc).symm.trans h
      exact ih _ _ _ _ h H locs ls cells slots hP hm hS hLl hL h1 h2
    · have h := (if_neg hc).symm.trans h
      exact ih _ _ _ _ h H locs ls cells slots hP hm hS hLl hL h1 h2
  · refine lv_if_ne hx hb hd ht (fun hc => ?_) (fun hc => ?_)
    · have h := (if_neg hc).symm.trans h
      exact ih _ _ _ _ h H locs ls cells slots hP hm hS hLl hL h1 h2
    · have h := (if_pos hc).symm.trans h
      exact ih _ _ _ _ h H locs ls cells slots hP hm hS hLl hL h1 h2
  · refine lv_if_lt hx hb hd ht (fun hc => ?_) (fun hc => ?_)
    · have h := (if_pos hc).symm.trans h
      exact ih _ _ _ _ h H locs ls cells slots hP hm hS hLl hL h1 h2
    · have h := (if_neg hc).symm.trans h
      exact ih _ _ _ _ h H locs ls cells slots hP hm hS hLl hL h1 h2
  · refine lv_if_ge hx hb hd ht (fun hc => ?_) (fun hc => ?_)
    · have h := (if_pos hc).symm.trans h
      exact ih _ _ _ _ h H locs ls cells slots hP hm hS hLl hL h1 h2
    · have h := (if_neg hc).symm.trans h
      exact ih _ _ _ _ h H locs ls cells slots hP hm hS hLl hL h1 h2
  · refine lv_if_gt hx hb hd ht (fun hc => ?_) (fun hc => ?_)
    · have h := (if_pos hc).symm.trans h
      exact ih _ _ _ _ h H locs ls cells slots hP hm hS hLl hL h1 h2
    · have h := (if_neg hc).symm.trans h
      exact ih _ _ _ _ h H locs ls cells slots hP hm hS hLl hL h1 h2
  · refine lv_if_le hx hb hd ht (fun hc => ?_) (fun hc => ?_)
    · have h := (if_pos hc).symm.trans h
      exact ih _ _ _ _ h H locs ls cells slots hP hm hS hLl hL h1 h2
    · have h := (if_neg hc).symm.trans h
      exact ih _ _ _ _ h H locs ls cells slots hP hm hS hLl hL h1 h2
set_option maxHeartbeats 1000000 in
theorem sg_if_icmp {p : Program} {l : Launch} {e : Env} {R : Room} {s : State} {m : MethodId} {args : Array Value} {below : List Frame} {meth : Method} {c : Code} {Q : State → Prop} {D : va_G} {cl : List vw_C} {τ : Nat → ClassId} {B : Nat} {ad : Nat → Nat} {TB NB : List Cond} {SK : sm_SKt} {XT : State → Heap → Prop} {mi : sm_MI} {M' : sm_M} {m0 s0 : Nat} {cal : Nat → List Value → sm_M → sm_R} {sc : Option (Nat × (Nat → Int32))} {k : Nat → sm_L → List Value → sm_M → sm_R} {r : Option Value} {pc : Nat} {L : sm_L} {st : List Value} {M : sm_M} {cd : ClassFile.Cond} {off : Int} (C0 : sm_C p s m args meth c D cl τ B ad TB NB SK XT m0 mi) (ih : ∀ pc L st M, k pc L st M = some (M', r) → sm_G p l e R s m args below meth c Q D cl τ B ad mi.2.2.1 m0 s0 pc L st M) (hd : decode mi.2.1 pc = .ok (.if_icmp cd off, 3)) (h : sm_ex cal sc mi k pc L st M (.if_icmp cd off) = some (M', r)) : sm_G p l e R s m args below meth c Q D cl τ B ad mi.2.2.1 m0 s0 pc L st M := by
  have hx := C0.1
  have hb := C0.2.1
  replace h := sm_tg_some h
  obtain ⟨t, ht, h⟩ := h
  replace h := sm_i2_some h
  obtain ⟨x, y, r0, rfl, h⟩ := h
  intro H locs ls cells slots hP hm hS hLl hL h1 h2
  cases cd
  · refine lv_icmp_eq hx hb hd ht (fun hc => ?_) (fun hc => ?_)
    · have h := (if_pos hc).symm.trans h
      exact ih _ _ _ _ h H locs ls cells slots hP hm hS hLl hL h1 h2
    · have h := (if_neg hc).symm.trans h
      exact ih _ _ _ _ h H locs ls cells slots hP hm hS hLl hL h1 h2
  · refine lv_icmp_ne hx hb hd ht (fun hc => ?_) (fun hc => ?_)
    · have h := (if_neg hc).symm.trans h
      exact ih _ _ _ _ h H locs ls cells slots hP hm hS hLl hL h1 h2
    · have h := (if_pos hc).symm.trans h
      exact ih _ _ _ _ h H locs ls cells slots hP hm hS hLl hL h1 h2
  · refine lv_icmp_lt hx hb hd ht (fun hc => ?_) (fun hc => ?_)
    · have h := (if_pos hc).symm.trans h
      exact ih _ _ _ _ h H locs ls cells slots hP hm hS hLl hL h1 h2
    · have h := (if_neg hc).symm.trans h
      exact ih _ _ _ _ h H locs ls cells slots hP hm hS hLl hL h1 h2
  · refine lv_icmp_ge hx hb hd ht (fun hc => ?_) (fun hc => ?_)
    · have h := (if_pos hc).symm.trans h
      exact ih _ _ _ _ h H locs ls cells slots hP hm hS hLl hL h1 h2
    · have h := (if_neg hc).symm.trans h
      exact ih _ _ _ _ h H locs ls cells slots hP hm hS hLl hL h1 h2
  · refine lv_icmp_gt hx hb hd ht (fun hc => ?_) (fun hc => ?_)
    · have h := (if_pos hc).symm.trans h
      exact ih _ _ _ _ h H locs ls cells slots hP hm hS hLl hL h1 h2
    · have h := (if_neg hc).symm.trans h
      exact ih _ _ _ _ h H locs ls cells slots hP hm hS hLl hL h1 h2
  · refine lv_icmp_le hx hb hd ht (fun hc => ?_) (fun hc => ?_)
    · have h := (if_pos hc).symm.trans h
      exact ih _ _ _ _ h H locs ls cells slots hP hm hS hLl hL h1 h2
    · have h := (if_neg hc).symm.trans h
      exact ih _ _ _ _ h H locs ls cells slots hP hm hS hLl hL h1 h2
set_option maxHeartbeats 1000000 in
theorem sg_tableswitch {p : Program} {l : Launch} {e : Env} {R : Room} {s : State} {m : MethodId} {args : Array Value} {below : List Frame} {meth : Method} {c : Code} {Q : State → Prop} {D : va_G} {cl : List vw_C} {τ : Nat → ClassId} {B : Nat} {ad : Nat → Nat} {TB NB : List Cond} {SK : sm_SKt} {XT : State → Heap → Prop} {mi : sm_MI} {M' : sm_M} {m0 s0 : Nat} {cal : Nat → List Value → sm_M → sm_R} {sc : Option (Nat × (Nat → Int32))} {k : Nat → sm_L → List Value → sm_M → sm_R} {r : Option Value} {pc : Nat} {L : sm_L} {st : List Value} {M : sm_M} {dflt lo hi : Int} {offs : Array Int} {len : Nat} (hd : decode mi.2.1 pc = .ok (.tableswitch dflt lo hi offs, len)) (C0 : sm_C p s m args meth c D cl τ B ad TB NB SK XT m0 mi) (ih : ∀ pc L st M, k pc L st M = some (M', r) → sm_G p l e R s m args below meth c Q D cl τ B ad mi.2.2.1 m0 s0 pc L st M) (h : sm_ex cal sc mi k pc L st M (.tableswitch dflt lo hi offs) = some (M', r)) : sm_G p l e R s m args below meth c Q D cl τ B ad mi.2.2.1 m0 s0 pc L st M := by
  have hx := C0.1
  have hb := C0.2.1
  replace h := sm_i1_some h
  obtain ⟨x, r0, rfl, h⟩ := h
  split at h
  · rename_i hc
    replace h := sm_tg_some h
    obtain ⟨t, ht, h⟩ := h
    intro H locs ls cells slots hP hm hS hLl hL h1 h2
    refine lv_tableOut hx hb hd hc ht ?_
    exact ih _ _ _ _ h H locs ls cells slots hP hm hS hLl hL h1 h2
  · rename_i hc
    split at h
    · rename_i off ho
      replace h := sm_tg_some h
      obtain ⟨t, ht, h⟩ := h
      intro H locs ls cells slots hP hm hS hLl hL h1 h2
      refine lv_tableIn hx hb hd (fun z => hc (Or.inl z)) (fun z => hc (Or.inr z)) ho ht ?_
      exact ih _ _ _ _ h H locs ls cells slots hP hm hS hLl hL h1 h2
    · cases h
set_option maxHeartbeats 1000000 in
theorem sg_lookupswitch {p : Program} {l : Launch} {e : Env} {R : Room} {s : State} {m : MethodId} {args : Array Value} {below : List Frame} {meth : Method} {c : Code} {Q : State → Prop} {D : va_G} {cl : List vw_C} {τ : Nat → ClassId} {B : Nat} {ad : Nat → Nat} {TB NB : List Cond} {SK : sm_SKt} {XT : State → Heap → Prop} {mi : sm_MI} {M' : sm_M} {m0 s0 : Nat} {cal : Nat → List Value → sm_M → sm_R} {sc : Option (Nat × (Nat → Int32))} {k : Nat → sm_L → List Value → sm_M → sm_R} {r : Option Value} {pc : Nat} {L : sm_L} {st : List Value} {M : sm_M} {dflt : Int} {ps : Array (Int × Int)} {len : Nat} (hd : decode mi.2.1 pc = .ok (.lookupswitch dflt ps, len)) (C0 : sm_C p s m args meth c D cl τ B ad TB NB SK XT m0 mi) (ih : ∀ pc L st M, k pc L st M = some (M', r) → sm_G p l e R s m args below meth c Q D cl τ B ad mi.2.2.1 m0 s0 pc L st M) (h : sm_ex cal sc mi k pc L st M (.lookupswitch dflt ps) = some (M', r)) : sm_G p l e R s m args below meth c Q D cl τ B ad mi.2.2.1 m0 s0 pc L st M := by
  have hx := C0.1
  have hb := C0.2.1
  simp only [sm_ex] at h
  split at h
  · rename_i hp
    replace h := sm_i1_some h
    obtain ⟨x, r0, rfl, h⟩ := h
    replace h := sm_tg_some h
    obtain ⟨t, ht, h⟩ := h
    intro H locs ls cells slots hP hm hS hLl hL h1 h2
    refine lv_lookup hx hb hd hp rfl ht ?_
    exact ih _ _ _ _ h H locs ls cells slots hP hm hS hLl hL h1 h2
  · cases h
set_option maxHeartbeats 1000000 in
theorem sg_ldc {p : Program} {l : Launch} {e : Env} {R : Room} {s : State} {m : MethodId} {args : Array Value} {below : List Frame} {meth : Method} {c : Code} {Q : State → Prop} {D : va_G} {cl : List vw_C} {τ : Nat → ClassId} {B : Nat} {ad : Nat → Nat} {TB NB : List Cond} {SK : sm_SKt} {XT : State → Heap → Prop} {mi : sm_MI} {M' : sm_M} {m0 s0 : Nat} {cal : Nat → List Value → sm_M → sm_R} {sc : Option (Nat × (Nat → Int32))} {k : Nat → sm_L → List Value → sm_M → sm_R} {r : Option Value} {pc : Nat} {L : sm_L} {st : List Value} {M : sm_M} {x : Nat} (hK : sm_okK TB SK mi) (C0 : sm_C p s m args meth c D cl τ B ad TB NB SK XT m0 mi) (ih : ∀ pc L st M, k pc L st M = some (M', r) → sm_G p l e R s m args below meth c Q D cl τ B ad mi.2.2.1 m0 s0 pc L st M) (hd : decode mi.2.1 pc = .ok (.ldc x, 2)) (h : sm_ex cal sc mi k pc L st M (.ldc x) = some (M', r)) : sm_G p l e R s m args below meth c Q D cl τ B ad mi.2.2.1 m0 s0 pc L st M := by
  have hx := C0.1
  have hb := C0.2.1
  have hown := C0.2.2.2.1
  have hts := C0.2.2.2.2.1
  simp only [sm_ex] at h
  split at h
  · rename_i hv
    intro H locs ls cells slots hP hm hS hLl hL h1 h2
    refine lv_ldc hx hb hown (hts _ ((hK _ _ hv).1 _ rfl)) hd ?_
    exact ih _ _ _ _ h H locs ls cells slots hP hm hS hLl hL h1 h2
  · rename_i hv
    obtain ⟨tx, hin⟩ := (hK _ _ hv).2.2 _ rfl
    intro H locs ls cells slots hP hm hS hLl hL h1 h2
    refine va_ldcS hx hb hown (C0.2.2.2.2.2.2.2.1 _ hin) hd ?_
    exact ih _ _ _ _ h H locs ls cells slots hP hm hS hLl hL h1 h2
  · cases h
set_option maxHeartbeats 1000000 in
theorem sg_ldc_w {p : Program} {l : Launch} {e : Env} {R : Room} {s : State} {m : MethodId} {args : Array Value} {below : List Frame} {meth : Method} {c : Code} {Q : State → Prop} {D : va_G} {cl : List vw_C} {τ : Nat → ClassId} {B : Nat} {ad : Nat → Nat} {TB NB : List Cond} {SK : sm_SKt} {XT : State → Heap → Prop} {mi : sm_MI} {M' : sm_M} {m0 s0 : Nat} {cal : Nat → List Value → sm_M → sm_R} {sc : Option (Nat × (Nat → Int32))} {k : Nat → sm_L → List Value → sm_M → sm_R} {r : Option Value} {pc : Nat} {L : sm_L} {st : List Value} {M : sm_M} {x : Nat} (hK : sm_okK TB SK mi) (C0 : sm_C p s m args meth c D cl τ B ad TB NB SK XT m0 mi) (ih : ∀ pc L st M, k pc L st M = some (M', r) → sm_G p l e R s m args below meth c Q D cl τ B ad mi.2.2.1 m0 s0 pc L st M) (hd : decode mi.2.1 pc = .ok (.ldc_w x, 3)) (h : sm_ex cal sc mi k pc L st M (.ldc_w x) = some (M', r)) : sm_G p l e R s m args below meth c Q D cl τ B ad mi.2.2.1 m0 s0 pc L st M := by
  have hx := C0.1
  have hb := C0.2.1
  have hown := C0.2.2.2.1
  have hts := C0.2.2.2.2.1
  simp only [sm_ex] at h
  split at h
  · rename_i hv
    intro H locs ls cells slots hP hm hS hLl hL h1 h2
    refine lv_ldcw hx hb hown (hts _ ((hK _ _ hv).1 _ rfl)) hd ?_
    exact ih _ _ _ _ h H locs ls cells slots hP hm hS hLl hL h1 h2
  · cases h
set_option maxHeartbeats 1000000 in
theorem sg_ldc2_w {p : Program} {l : Launch} {e : Env} {R : Room} {s : State} {m : MethodId} {args : Array Value} {below : List Frame} {meth : Method} {c : Code} {Q : State → Prop} {D : va_G} {cl : List vw_C} {τ : Nat → ClassId} {B : Nat} {ad : Nat → Nat} {TB NB : List Cond} {SK : sm_SKt} {XT : State → Heap → Prop} {mi : sm_MI} {M' : sm_M} {m0 s0 : Nat} {cal : Nat → List Value → sm_M → sm_R} {sc : Option (Nat × (Nat → Int32))} {k : Nat → sm_L → List Value → sm_M → sm_R} {r : Option Value} {pc : Nat} {L : sm_L} {st : List Value} {M : sm_M} {x : Nat} (hK : sm_okK TB SK mi) (C0 : sm_C p s m args meth c D cl τ B ad TB NB SK XT m0 mi) (ih : ∀ pc L st M, k pc L st M = some (M', r) → sm_G p l e R s m args below meth c Q D cl τ B ad mi.2.2.1 m0 s0 pc L st M) (hd : decode mi.2.1 pc = .ok (.ldc2_w x, 3)) (h : sm_ex cal sc mi k pc L st M (.ldc2_w x) = some (M', r)) : sm_G p l e R s m args below meth c Q D cl τ B ad mi.2.2.1 m0 s0 pc L st M := by
  have hx := C0.1
  have hb := C0.2.1
  have hown := C0.2.2.2.1
  have hts := C0.2.2.2.2.1
  simp only [sm_ex] at h
  split at h
  · rename_i hv
    intro H locs ls cells slots hP hm hS hLl hL h1 h2
    refine lv_ldc2 hx hb hown (hts _ ((hK _ _ hv).2.1 _ rfl)) hd ?_
    exact ih _ _ _ _ h H locs ls cells slots hP hm hS hLl hL h1 h2
  · cases h
set_option maxHeartbeats 1000000 in
theorem sg_getfield {p : Program} {l : Launch} {e : Env} {R : Room} {s : State} {m : MethodId} {args : Array Value} {below : List Frame} {meth : Method} {c : Code} {Q : State → Prop} {D : va_G} {cl : List vw_C} {τ : Nat → ClassId} {B : Nat} {ad : Nat → Nat} {TB NB : List Cond} {SK : sm_SKt} {XT : State → Heap → Prop} {mi : sm_MI} {M' : sm_M} {m0 s0 : Nat} {cal : Nat → List Value → sm_M → sm_R} {sc : Option (Nat × (Nat → Int32))} {k : Nat → sm_L → List Value → sm_M → sm_R} {r : Option Value} {pc : Nat} {L : sm_L} {st : List Value} {M : sm_M} {x : Nat} (hF : sm_okF cl TB NB mi) (hNB : ∀ w ∈ NB, w.onTables = true) (C0 : sm_C p s m args meth c D cl τ B ad TB NB SK XT m0 mi) (ih : ∀ pc L st M, k pc L st M = some (M', r) → sm_G p l e R s m args below meth c Q D cl τ B ad mi.2.2.1 m0 s0 pc L st M) (hd : decode mi.2.1 pc = .ok (.getfield x, 3)) (h : sm_ex cal sc mi k pc L st M (.getfield x) = some (M', r)) : sm_G p l e R s m args below meth c Q D cl τ B ad mi.2.2.1 m0 s0 pc L st M := by
  have hx := C0.1
  have hb := C0.2.1
  have hown := C0.2.2.2.1
  have hts := C0.2.2.2.2.1
  have hnb := C0.2.2.2.2.2.1
  have hK := C0.2.2.2.2.2.2.1
  simp only [sm_ex] at h
  split at h
  · rename_i ci j t hf
    replace h := sm_r1_some h
    obtain ⟨a, r0, rfl, h⟩ := h
    replace h := sm_obj_some h
    obtain ⟨cj, fs, hg, h⟩ := h
    split at h
    · rename_i hbq
      have hcj := Nat.eq_of_beq_eq_true hbq
      subst hcj
      split at h
      · rename_i v hv
        rw [sm_vg_get] at hv
        obtain ⟨C, T, N, ty0, hc, hj, hin, -, -, hTC, -, hlk⟩ := hF _ _ _ _ hf
        have hv2 : (fs.map (sm_cv B ad))[j]? = some (sm_cv B ad v) := by rw [List.getElem?_map, hv]; rfl
        intro H locs ls cells slots hP hm hS hLl hL h1 h2
        rcases hlk with ⟨hlk, -⟩ | ⟨host, hlk, -⟩
        · refine va_get (D := D) (cl := cl) (ci := cj) (ref := C) hx hb hts hin hown hK hP a (sm_w_at hg) hc j hj (hts _ hlk) (fun y hy => by rw [← hTC]; exact hy) hv2 hd ?_
          exact ih _ _ _ _ h H locs ls cells slots hP hm hS hLl hL h1 h2
        · refine va_getN (D := D) (cl := cl) (ci := cj) (ref := C) (host := host) hx hb hts hin hown hK hP a (sm_w_at hg) hc j hj (va_Nw.use (hNB _ hlk) (hnb _ hlk)) (fun y hy => by rw [← hTC]; exact hy) hv2 hd ?_
          exact ih _ _ _ _ h H locs ls cells slots hP hm hS hLl hL h1 h2
      · cases h
    · cases h
  · cases h
set_option maxHeartbeats 1000000 in
theorem sg_putfield {p : Program} {l : Launch} {e : Env} {R : Room} {s : State} {m : MethodId} {args : Array Value} {below : List Frame} {meth : Method} {c : Code} {Q : State → Prop} {D : va_G} {cl : List vw_C} {τ : Nat → ClassId} {B : Nat} {ad : Nat → Nat} {TB NB : List Cond} {SK : sm_SKt} {XT : State → Heap → Prop} {mi : sm_MI} {M' : sm_M} {m0 s0 : Nat} {cal : Nat → List Value → sm_M → sm_R} {sc : Option (Nat × (Nat → Int32))} {k : Nat → sm_L → List Value → sm_M → sm_R} {r : Option Value} {pc : Nat} {L : sm_L} {st : List Value} {M : sm_M} {x : Nat} (hF : sm_okF cl TB NB mi) (hNB : ∀ w ∈ NB, w.onTables = true) (C0 : sm_C p s m args meth c D cl τ B ad TB NB SK XT m0 mi) (ih : ∀ pc L st M, k pc L st M = some (M', r) → sm_G p l e R s m args below meth c Q D cl τ B ad mi.2.2.1 m0 s0 pc L st M) (hd : decode mi.2.1 pc = .ok (.putfield x, 3)) (h : sm_ex cal sc mi k pc L st M (.putfield x) = some (M', r)) : sm_G p l e R s m args below meth c Q D cl τ B ad mi.2.2.1 m0 s0 pc L st M := by
  have hx := C0.1
  have hb := C0.2.1
  have hown := C0.2.2.2.1
  have hts := C0.2.2.2.2.1
  have hnb := C0.2.2.2.2.2.1
  have hK := C0.2.2.2.2.2.2.1
  simp only [sm_ex] at h
  split at h
  · rename_i ci j t hf
    split at h
    · rename_i v a r0
      replace h := sm_obj_some h
      obtain ⟨cj, fs, hg, h⟩ := h
      split at h
      · rename_i hbq
        simp only [Bool.and_eq_true] at hbq
        obtain ⟨⟨hb1, hpt⟩, hlt⟩ := hbq
        have hcj := Nat.eq_of_beq_eq_true hb1
        subst hcj
        have hlt : j < fs.length := by simpa using hlt
        obtain ⟨C, T, N, ty0, hc, hj, hin, hty, hnm, hTC, hkd, hlk⟩ := hF _ _ _ _ hf
        obtain ⟨hnar, hfit⟩ := sm_pt_ok (B := B) (ad := ad) hkd hpt
        have hnt := sm_pt_lt hpt
        intro H locs ls cells slots hP hm hS hLl hL h1 h2
        have hlen : j < (fs.map (sm_cv B ad)).length := by rw [List.length_map]; exact hlt
        have eW : (sm_w τ B ad 0 M).set a (sm_rho B ad a, .inr (cj, (fs.map (sm_cv B ad)).set j (sm_cv B ad v))) = sm_w τ B ad 0 (sm_set M a (.inr (cj, sm_vs fs j v))) := by
          rw [← sm_w_put, sm_vs_set]
          show _ = List.set _ a (_, Sum.inr (cj, List.map (sm_cv B ad) (fs.set j v)))
          rw [List.map_set]
        have fin : ∀ (H1 : Heap) (locs1 : List Loc), va_P D cl ((sm_w τ B ad 0 M).set a (sm_rho B ad a, .inr (cj, (fs.map (sm_cv B ad)).set j (sm_cv B ad v)))) H1 → va_S (fun q => B ≤ q) s.heap H1 locs1 → W p l e R s m args below meth c H1 locs1 cells slots Q (F0 m (pc + 3) ls (r0.map (sm_cv B ad))) := by
          intro H1 locs1 hP1 hS1
          rw [eW] at hP1
          exact ih _ _ _ _ h H1 locs1 ls cells slots hP1 (by rw [sm_set_len]; exact hm) hS1 hLl hL (by rw [sm_set_len]; exact h1) (by rw [sm_set_sl hg (by simp [sm_sz, sm_vs_set])]; exact h2)
        rcases hlk with ⟨hlk, hfn | hfn | ⟨hfn, hni, hdc⟩⟩ | ⟨host, hlk, hfn | hfn⟩
        · exact absurd hfn hnt
        · exact va_put (D := D) (cl := cl) (ci := cj) (ref := C) hx hb hts hin ty0 hty hnm hown hK hP (sm_D hm) hS a (sm_w_at hg) hc j hj (hts _ hlk) (fun y hy => by rw [← hTC]; exact hy) hfn (hty j hj) hnar hfit hlen hd (fun H1 locs1 hP1 _ hS1 => fin H1 locs1 hP1 hS1)
        · exact va_putF (D := D) (cl := cl) (ci := cj) (ref := C) hx hb hts hin ty0 hty hnm hown hK hP (sm_D hm) hS a (sm_w_at hg) hc j hj (hts _ hlk) (fun y hy => by rw [← hTC]; exact hy) hfn (C0.2.2.2.2.2.2.2.2.2.2.trans hni) hdc (hty j hj) hnar hfit hlen hd (fun H1 locs1 hP1 _ hS1 => fin H1 locs1 hP1 hS1)
        · exact absurd hfn hnt
        · exact va_putN (D := D) (cl := cl) (ci := cj) (ref := C) (host := host) hx hb hts hin ty0 hty hnm hown hK hP (sm_D hm) hS a (sm_w_at hg) hc j hj (va_Nw.use (hNB _ hlk) (hnb _ hlk)) (fun y hy => by rw [← hTC]; exact hy) hfn (hty j hj) hnar hfit hlen hd (fun H1 locs1 hP1 _ hS1 => fin H1 locs1 hP1 hS1)
      · cases h
    · cases h
  · cases h
/-! sizes -/
theorem sm_size_le {p : Program} {l : Launch} {e : Env} {R : Room} {s : State} {m : MethodId} {args : Array Value} {below : List Frame} {meth : Method} {c : Code} {H : Heap} {locs : List Loc} {cells slots : Nat} {Q : State → Prop} {g : JFrame} (kk : H.size ≤ s.heap.size + cells → W p l e R s m args below meth c H locs cells slots Q g) : W p l e R s m args below meth c H locs cells slots Q g := fun T hT X => kk (by rw [← hT]; exact X.heapSize) T hT X
theorem sm_size {D : va_G} {cl : List vw_C} {τ : Nat → ClassId} {B m0 : Nat} {ad : Nat → Nat} {M : sm_M} {H H0 : Heap} {cells : Nat} {locs : List Loc} (hP : va_P D cl (sm_w τ B ad 0 M) H) (hm : M.length ≤ 1000) (hS : va_S (fun q => B ≤ q) H0 H locs) (h0 : H0.size = B + m0) (h1 : cells + m0 = M.length) (hle : H.size ≤ H0.size + cells) : H.size = B + M.length := by
  have h2 := hS.1
  by_cases hM : M.length = 0
  · omega
  · have hg : ∃ e, sm_get M (M.length - 1) = some e := by
      have : ∀ (M : sm_M) (i : Nat), i < M.length → ∃ e, sm_get M i = some e := by
        intro M
        induction M with
        | nil => intro i h; cases h
        | cons c t ih =>
          intro i h
          cases i with
          | zero => exact ⟨c, rfl⟩
          | succ i => exact ih i (by simp at h; omega)
      exact this M _ (by omega)
    obtain ⟨e, he⟩ := hg
    have h3 := (hP _ _ (sm_w_at he)).lt
    rw [show (sm_rho B ad (M.length - 1), sm_ce τ B ad e).1 = B + (M.length - 1) from sm_rho_lt (by omega)] at h3
    omega
end
section
/-! arrays, new cells -/
def sm_okX (B : Nat) (ad : Nat → Nat) (s : State) (sc : Option (Nat × (Nat → Int32))) : Prop := ∀ n g, sc = some (n, g) → va_X (sm_rho B ad sm_SC) n g s s.heap ∧ sm_rho B ad sm_SC < s.heap.size ∧ ¬ B ≤ sm_rho B ad sm_SC
set_option maxHeartbeats 1000000 in
theorem sg_iaload {p : Program} {l : Launch} {e : Env} {R : Room} {s : State} {m : MethodId} {args : Array Value} {below : List Frame} {meth : Method} {c : Code} {Q : State → Prop} {D : va_G} {cl : List vw_C} {τ : Nat → ClassId} {B : Nat} {ad : Nat → Nat} {TB NB : List Cond} {SK : sm_SKt} {XT : State → Heap → Prop} {mi : sm_MI} {M' : sm_M} {m0 s0 : Nat} {cal : Nat → List Value → sm_M → sm_R} {sc : Option (Nat × (Nat → Int32))} {k : Nat → sm_L → List Value → sm_M → sm_R} {r : Option Value} {pc : Nat} {L : sm_L} {st : List Value} {M : sm_M} (hsc : sm_okX B ad s sc) (C0 : sm_C p s m args meth c D cl τ B ad TB NB SK XT m0 mi) (ih : ∀ pc L st M, k pc L st M = some (M', r) → sm_G p l e R s m args below meth c Q D cl τ B ad mi.2.2.1 m0 s0 pc L st M) (hd : decode mi.2.1 pc = .ok (.iaload, 1)) (h : sm_ex cal sc mi k pc L st M (.iaload) = some (M', r)) : sm_G p l e R s m args below meth c Q D cl τ B ad mi.2.2.1 m0 s0 pc L st M := by
  have hx := C0.1
  have hb := C0.2.1
  have hK := C0.2.2.2.2.2.2.1
  simp only [sm_ex] at h
  split at h
  · rename_i i a r0
    split at h
    · rename_i hb1
      have ha := Nat.eq_of_beq_eq_true hb1
      subst ha
      split at h
      · rename_i n g
        obtain ⟨hX, hbl, hbA⟩ := hsc _ _ rfl
        replace h := sm_ix_some h
        obtain ⟨hi, h⟩ := h
        intro H locs ls cells slots hP hm hS hLl hL h1 h2
        refine va_sld hx hb hX hbl hbA hS hi hd ?_
        exact ih _ _ _ _ h H locs ls cells slots hP hm hS hLl hL h1 h2
      · cases h
    · replace h := sm_ia_some h
      obtain ⟨n, g, hg, h⟩ := h
      replace h := sm_ix_some h
      obtain ⟨hi, h⟩ := h
      intro H locs ls cells slots hP hm hS hLl hL h1 h2
      refine va_iald hx hb hK hP a 0 (sm_w_at hg) rfl hi hd ?_
      exact ih _ _ _ _ h H locs ls cells slots hP hm hS hLl hL h1 h2
  · cases h
set_option maxHeartbeats 1000000 in
theorem sg_laload {p : Program} {l : Launch} {e : Env} {R : Room} {s : State} {m : MethodId} {args : Array Value} {below : List Frame} {meth : Method} {c : Code} {Q : State → Prop} {D : va_G} {cl : List vw_C} {τ : Nat → ClassId} {B : Nat} {ad : Nat → Nat} {TB NB : List Cond} {SK : sm_SKt} {XT : State → Heap → Prop} {mi : sm_MI} {M' : sm_M} {m0 s0 : Nat} {cal : Nat → List Value → sm_M → sm_R} {sc : Option (Nat × (Nat → Int32))} {k : Nat → sm_L → List Value → sm_M → sm_R} {r : Option Value} {pc : Nat} {L : sm_L} {st : List Value} {M : sm_M}  (C0 : sm_C p s m args meth c D cl τ B ad TB NB SK XT m0 mi) (ih : ∀ pc L st M, k pc L st M = some (M', r) → sm_G p l e R s m args below meth c Q D cl τ B ad mi.2.2.1 m0 s0 pc L st M) (hd : decode mi.2.1 pc = .ok (.laload, 1)) (h : sm_ex cal sc mi k pc L st M (.laload) = some (M', r)) : sm_G p l e R s m args below meth c Q D cl τ B ad mi.2.2.1 m0 s0 pc L st M := by
  have hx := C0.1
  have hb := C0.2.1
  have hK := C0.2.2.2.2.2.2.1
  simp only [sm_ex] at h
  split at h
  · rename_i i a r0
    replace h := sm_la_some h
    obtain ⟨n, g, hg, h⟩ := h
    replace h := sm_ix_some h
    obtain ⟨hi, h⟩ := h
    intro H locs ls cells slots hP hm hS hLl hL h1 h2
    refine va_lald hx hb hK hP a 1 (sm_w_at hg) rfl hi hd ?_
    exact ih _ _ _ _ h H locs ls cells slots hP hm hS hLl hL h1 h2
  · cases h
set_option maxHeartbeats 1000000 in
theorem sg_iastore {p : Program} {l : Launch} {e : Env} {R : Room} {s : State} {m : MethodId} {args : Array Value} {below : List Frame} {meth : Method} {c : Code} {Q : State → Prop} {D : va_G} {cl : List vw_C} {τ : Nat → ClassId} {B : Nat} {ad : Nat → Nat} {TB NB : List Cond} {SK : sm_SKt} {XT : State → Heap → Prop} {mi : sm_MI} {M' : sm_M} {m0 s0 : Nat} {cal : Nat → List Value → sm_M → sm_R} {sc : Option (Nat × (Nat → Int32))} {k : Nat → sm_L → List Value → sm_M → sm_R} {r : Option Value} {pc : Nat} {L : sm_L} {st : List Value} {M : sm_M}  (C0 : sm_C p s m args meth c D cl τ B ad TB NB SK XT m0 mi) (ih : ∀ pc L st M, k pc L st M = some (M', r) → sm_G p l e R s m args below meth c Q D cl τ B ad mi.2.2.1 m0 s0 pc L st M) (hd : decode mi.2.1 pc = .ok (.iastore, 1)) (h : sm_ex cal sc mi k pc L st M (.iastore) = some (M', r)) : sm_G p l e R s m args below meth c Q D cl τ B ad mi.2.2.1 m0 s0 pc L st M := by
  have hx := C0.1
  have hb := C0.2.1
  have hK := C0.2.2.2.2.2.2.1
  simp only [sm_ex] at h
  split at h
  · rename_i x i a r0
    replace h := sm_ia_some h
    obtain ⟨n, g, hg, h⟩ := h
    replace h := sm_ix_some h
    obtain ⟨hi, h⟩ := h
    intro H locs ls cells slots hP hm hS hLl hL h1 h2
    refine va_iast hx hb hK hP (sm_D hm) hS a 0 (sm_w_at hg) rfl hi hd (fun H1 locs1 hP1 _ hS1 => ?_)
    refine ih _ _ _ _ h H1 locs1 ls cells slots ?_ (by rw [sm_set_len]; exact hm) hS1 hLl hL (by rw [sm_set_len]; exact h1) (h2.trans (sm_set_sl hg (by rfl)).symm)
    rw [← sm_w_put]
    exact hP1
  · cases h
set_option maxHeartbeats 1000000 in
theorem sg_lastore {p : Program} {l : Launch} {e : Env} {R : Room} {s : State} {m : MethodId} {args : Array Value} {below : List Frame} {meth : Method} {c : Code} {Q : State → Prop} {D : va_G} {cl : List vw_C} {τ : Nat → ClassId} {B : Nat} {ad : Nat → Nat} {TB NB : List Cond} {SK : sm_SKt} {XT : State → Heap → Prop} {mi : sm_MI} {M' : sm_M} {m0 s0 : Nat} {cal : Nat → List Value → sm_M → sm_R} {sc : Option (Nat × (Nat → Int32))} {k : Nat → sm_L → List Value → sm_M → sm_R} {r : Option Value} {pc : Nat} {L : sm_L} {st : List Value} {M : sm_M}  (C0 : sm_C p s m args meth c D cl τ B ad TB NB SK XT m0 mi) (ih : ∀ pc L st M, k pc L st M = some (M', r) → sm_G p l e R s m args below meth c Q D cl τ B ad mi.2.2.1 m0 s0 pc L st M) (hd : decode mi.2.1 pc = .ok (.lastore, 1)) (h : sm_ex cal sc mi k pc L st M (.lastore) = some (M', r)) : sm_G p l e R s m args below meth c Q D cl τ B ad mi.2.2.1 m0 s0 pc L st M := by
  have hx := C0.1
  have hb := C0.2.1
  have hK := C0.2.2.2.2.2.2.1
  simp only [sm_ex] at h
  split at h
  · rename_i x i a r0
    replace h := sm_la_some h
    obtain ⟨n, g, hg, h⟩ := h
    replace h := sm_ix_some h
    obtain ⟨hi, h⟩ := h
    intro H locs ls cells slots hP hm hS hLl hL h1 h2
    refine va_last hx hb hK hP (sm_D hm) hS a 1 (sm_w_at hg) rfl hi hd (fun H1 locs1 hP1 _ hS1 => ?_)
    refine ih _ _ _ _ h H1 locs1 ls cells slots ?_ (by rw [sm_set_len]; exact hm) hS1 hLl hL (by rw [sm_set_len]; exact h1) (h2.trans (sm_set_sl hg (by rfl)).symm)
    rw [← sm_w_put]
    exact hP1
  · cases h
set_option maxHeartbeats 1000000 in
theorem sg_arraylength {p : Program} {l : Launch} {e : Env} {R : Room} {s : State} {m : MethodId} {args : Array Value} {below : List Frame} {meth : Method} {c : Code} {Q : State → Prop} {D : va_G} {cl : List vw_C} {τ : Nat → ClassId} {B : Nat} {ad : Nat → Nat} {TB NB : List Cond} {SK : sm_SKt} {XT : State → Heap → Prop} {mi : sm_MI} {M' : sm_M} {m0 s0 : Nat} {cal : Nat → List Value → sm_M → sm_R} {sc : Option (Nat × (Nat → Int32))} {k : Nat → sm_L → List Value → sm_M → sm_R} {r : Option Value} {pc : Nat} {L : sm_L} {st : List Value} {M : sm_M} (hsc : sm_okX B ad s sc) (C0 : sm_C p s m args meth c D cl τ B ad TB NB SK XT m0 mi) (ih : ∀ pc L st M, k pc L st M = some (M', r) → sm_G p l e R s m args below meth c Q D cl τ B ad mi.2.2.1 m0 s0 pc L st M) (hd : decode mi.2.1 pc = .ok (.arraylength, 1)) (h : sm_ex cal sc mi k pc L st M (.arraylength) = some (M', r)) : sm_G p l e R s m args below meth c Q D cl τ B ad mi.2.2.1 m0 s0 pc L st M := by
  have hx := C0.1
  have hb := C0.2.1
  have hK := C0.2.2.2.2.2.2.1
  replace h := sm_r1_some h
  obtain ⟨a, r0, rfl, h⟩ := h
  split at h
  · rename_i hb1
    have ha := Nat.eq_of_beq_eq_true hb1
    subst ha
    split at h
    · rename_i n g
      obtain ⟨hX, hbl, hbA⟩ := hsc _ _ rfl
      intro H locs ls cells slots hP hm hS hLl hL h1 h2
      refine va_slen hx hb hX hbl hbA hS hd ?_
      exact ih _ _ _ _ h H locs ls cells slots hP hm hS hLl hL h1 h2
    · cases h
  · replace h := sm_len_some h
    obtain ⟨n, hg, h⟩ := h
    intro H locs ls cells slots hP hm hS hLl hL h1 h2
    rcases hg with ⟨g, hg⟩ | ⟨g, hg⟩
    · refine va_alen hx hb hK hP a 0 (sm_w_at hg) (ty := .int) rfl rfl hd ?_
      exact ih _ _ _ _ h H locs ls cells slots hP hm hS hLl hL h1 h2
    · refine va_alen hx hb hK hP a 1 (sm_w_at hg) (ty := .long) rfl rfl hd ?_
      exact ih _ _ _ _ h H locs ls cells slots hP hm hS hLl hL h1 h2
/-- a new cell behind the others -/
theorem sm_push {D : va_G} {cl : List vw_C} {τ : Nat → ClassId} {B : Nat} {ad : Nat → Nat} {M : sm_M} {H H1 : Heap} {ev : va_E} (hP : va_P D cl (sm_w τ B ad 0 M) H) (hlt : M.length < 1000) (hz : H.size = B + M.length) (o1 : ∀ q, q < H.size → H1[q]? = H[q]?) (he : va_at D cl (B + M.length, sm_ce τ B ad ev) H1) : va_P D cl (sm_w τ B ad 0 (M ++ [ev])) H1 := by
  rw [sm_w_app, Nat.zero_add, sm_rho_lt hlt]
  refine (hP.kept (fun k x hx => o1 x.1 ((hP k x hx).lt))).app (fun k x hx => ?_)
  have hz : k < 1 := (List.getElem?_eq_some_iff.mp hx).1
  rw [show k = 0 by omega] at hx
  cases hx
  exact he
theorem sm_push_S {A : Nat → Prop} {H0 H H1 : Heap} {locs : List Loc} (hS : va_S A H0 H locs) (z1 : H1.size = H.size + 1) (o1 : ∀ q, q < H.size → H1[q]? = H[q]?) : va_S A H0 H1 locs := ⟨Nat.le_trans hS.1 (by omega), fun x h1 h2 => (o1 x (Nat.lt_of_lt_of_le h1 hS.1)).trans (hS.2.1 x h1 h2), hS.2.2⟩
set_option maxHeartbeats 1000000 in
theorem sg_newarray {p : Program} {l : Launch} {e : Env} {R : Room} {s : State} {m : MethodId} {args : Array Value} {below : List Frame} {meth : Method} {c : Code} {Q : State → Prop} {D : va_G} {cl : List vw_C} {τ : Nat → ClassId} {B : Nat} {ad : Nat → Nat} {TB NB : List Cond} {SK : sm_SKt} {XT : State → Heap → Prop} {mi : sm_MI} {M' : sm_M} {m0 s0 : Nat} {cal : Nat → List Value → sm_M → sm_R} {sc : Option (Nat × (Nat → Int32))} {k : Nat → sm_L → List Value → sm_M → sm_R} {r : Option Value} {pc : Nat} {L : sm_L} {st : List Value} {M : sm_M} {t : ArrayType} (hAI : Cond.arrayClass .int ∈ TB) (hAL : Cond.arrayClass .long ∈ TB) (hk : ∀ pc L st M, k pc L st M = some (M', r) → M.length ≤ M'.length ∧ sm_sl M ≤ sm_sl M') (hRc : M'.length ≤ R.cells + m0) (hRs : sm_sl M' ≤ R.slots + s0) (C0 : sm_C p s m args meth c D cl τ B ad TB NB SK XT m0 mi) (ih : ∀ pc L st M, k pc L st M = some (M', r) → sm_G p l e R s m args below meth c Q D cl τ B ad mi.2.2.1 m0 s0 pc L st M) (hd : decode mi.2.1 pc = .ok (.newarray t, 2)) (h : sm_ex cal sc mi k pc L st M (.newarray t) = some (M', r)) : sm_G p l e R s m args below meth c Q D cl τ B ad mi.2.2.1 m0 s0 pc L st M := by
  have hx := C0.1
  have hb := C0.2.1
  have hts := C0.2.2.2.2.1
  have hK := C0.2.2.2.2.2.2.1
  have h0 := C0.2.2.2.2.2.2.2.2.2.1
  replace h := sm_i1_some h
  obtain ⟨x, r0, rfl, h⟩ := h
  split at h
  · cases h
  · rename_i hneg
    split at h
    · rename_i hbb
      simp only [Bool.and_eq_true] at hbb
      have hbig : x.toNatClampNeg ≤ 100000 := by simpa using hbb.1
      have hlt : M.length < 1000 := by simpa using hbb.2
      have hmono : ∀ e : va_E, sm_sz e = x.toNatClampNeg → ∀ pc L st, k pc L st (M ++ [e]) = some (M', r) → M.length + 1 ≤ M'.length ∧ sm_sl M + x.toNatClampNeg ≤ sm_sl M' := by
        intro e he pc L st h
        have h3 := hk _ _ _ _ h
        rw [sm_sl_app, List.length_append, he] at h3
        exact h3
      split at h
      · intro H locs ls cells slots hP hm hS hLl hL h1 h2
        obtain ⟨g1, g2⟩ := hmono (.inl (0, x.toNatClampNeg, .inl (fun _ => 0))) rfl _ _ _ h
        refine sm_size_le (fun hle => ?_)
        have hz := sm_size hP hm hS h0 h1 hle
        refine va_newaK (atype := .int) hx hb (hts _ hAI) rfl hd rfl hneg rfl (by show _ * 4 ≤ _; omega) (by omega) (by omega) hz (fun H1 cA e1 z1 o1 hAr hNm => ?_)
        have hcA : cA = τ 0 := Option.some.inj (hNm.symm.trans (hK.2 0 _ rfl).2)
        subst hcA
        have hP1 := sm_push (ev := .inl (0, x.toNatClampNeg, .inl (fun _ => 0))) hP hlt hz (fun q hq => o1 q (by omega)) e1
        have hS1 := sm_push_S hS (by omega) (fun q hq => o1 q (by omega))
        have hW := ih _ _ _ _ h H1 locs ls (cells + 1) (slots + x.toNatClampNeg) hP1 (by simp; omega) hS1 hLl hL (by simp; omega) (by rw [sm_sl_app]; show _ = _ + x.toNatClampNeg; omega)
        rw [show (Value.ref M.length :: r0).map (sm_cv B ad) = .ref (B + M.length) :: r0.map (sm_cv B ad) from by rw [← sm_rho_lt (ad := ad) hlt]; rfl] at hW
        exact hW
      · intro H locs ls cells slots hP hm hS hLl hL h1 h2
        obtain ⟨g1, g2⟩ := hmono (.inl (1, x.toNatClampNeg, .inr (.inl (fun _ => 0)))) rfl _ _ _ h
        refine sm_size_le (fun hle => ?_)
        have hz := sm_size hP hm hS h0 h1 hle
        refine va_newaK (atype := .long) hx hb (hts _ hAL) rfl hd rfl hneg rfl (by show _ * 8 ≤ _; omega) (by omega) (by omega) hz (fun H1 cA e1 z1 o1 hAr hNm => ?_)
        have hcA : cA = τ 1 := Option.some.inj (hNm.symm.trans (hK.2 1 _ rfl).2)
        subst hcA
        have hP1 := sm_push (ev := .inl (1, x.toNatClampNeg, .inr (.inl (fun _ => 0)))) hP hlt hz (fun q hq => o1 q (by omega)) e1
        have hS1 := sm_push_S hS (by omega) (fun q hq => o1 q (by omega))
        have hW := ih _ _ _ _ h H1 locs ls (cells + 1) (slots + x.toNatClampNeg) hP1 (by simp; omega) hS1 hLl hL (by simp; omega) (by rw [sm_sl_app]; show _ = _ + x.toNatClampNeg; omega)
        rw [show (Value.ref M.length :: r0).map (sm_cv B ad) = .ref (B + M.length) :: r0.map (sm_cv B ad) from by rw [← sm_rho_lt (ad := ad) hlt]; rfl] at hW
        exact hW
      · cases h
    · cases h
set_option maxHeartbeats 1000000 in
theorem sg_new {p : Program} {l : Launch} {e : Env} {R : Room} {s : State} {m : MethodId} {args : Array Value} {below : List Frame} {meth : Method} {c : Code} {Q : State → Prop} {D : va_G} {cl : List vw_C} {τ : Nat → ClassId} {B : Nat} {ad : Nat → Nat} {TB NB : List Cond} {SK : sm_SKt} {XT : State → Heap → Prop} {mi : sm_MI} {M' : sm_M} {m0 s0 : Nat} {cal : Nat → List Value → sm_M → sm_R} {sc : Option (Nat × (Nat → Int32))} {k : Nat → sm_L → List Value → sm_M → sm_R} {r : Option Value} {pc : Nat} {L : sm_L} {st : List Value} {M : sm_M} {x : Nat} (hN : sm_okN cl TB mi) (hk : ∀ pc L st M, k pc L st M = some (M', r) → M.length ≤ M'.length ∧ sm_sl M ≤ sm_sl M') (hRc : M'.length ≤ R.cells + m0) (hRs : sm_sl M' ≤ R.slots + s0) (C0 : sm_C p s m args meth c D cl τ B ad TB NB SK XT m0 mi) (ih : ∀ pc L st M, k pc L st M = some (M', r) → sm_G p l e R s m args below meth c Q D cl τ B ad mi.2.2.1 m0 s0 pc L st M) (hd : decode mi.2.1 pc = .ok (.new x, 3)) (h : sm_ex cal sc mi k pc L st M (.new x) = some (M', r)) : sm_G p l e R s m args below meth c Q D cl τ B ad mi.2.2.1 m0 s0 pc L st M := by
  have hx := C0.1
  have hb := C0.2.1
  have hown := C0.2.2.2.1
  have hts := C0.2.2.2.2.1
  have hK := C0.2.2.2.2.2.2.1
  have h0 := C0.2.2.2.2.2.2.2.2.2.1
  simp only [sm_ex] at h
  split at h
  · rename_i ci fs hf
    split at h
    · rename_i hbb
      have hlt : M.length < 1000 := by simpa using hbb
      obtain ⟨C, T, N, ty0, hc, hin, hty, hcl, hins, hini, hlen, hmap, hdf⟩ := hN _ _ _ hf
      have h3 := hk _ _ _ _ h
      rw [sm_sl_app, List.length_append] at h3
      have g1 : M.length + 1 ≤ M'.length := h3.1
      have g2 : sm_sl M + N ≤ sm_sl M' := by have := h3.2; rw [show sm_sz (.inr (ci, fs)) = N from hlen] at this; exact this
      intro H locs ls cells slots hP hm hS hLl hL h1 h2
      refine sm_size_le (fun hle => ?_)
      have hz := sm_size hP hm hS h0 h1 hle
      have hKn := hK.1 ci _ hc
      refine W.newcK hx hb hown (hts _ hcl) (hts _ hins) (hts _ hini) rfl hd (by omega) (by omega) hKn.2.1 hz fun H1 kC hkC e1 z1 o1 => ?_
      have hP1 := sm_push (ev := .inr (ci, fs)) hP hlt hz (fun q hq => o1 q (by omega)) ⟨_, hc, by
        rw [hmap]
        exact (u_born ty0 hts hin hKn hkC e1 hty).to hdf⟩
      have hS1 := sm_push_S hS (by omega) (fun q hq => o1 q (by omega))
      have hW := ih _ _ _ _ h H1 locs ls (cells + 1) (slots + N) hP1 (by simp; omega) hS1 hLl hL (by simp; omega) (by rw [sm_sl_app, show sm_sz (.inr (ci, fs)) = N from hlen]; omega)
      rw [show (Value.ref M.length :: st).map (sm_cv B ad) = .ref (B + M.length) :: st.map (sm_cv B ad) from by rw [← sm_rho_lt (ad := ad) hlt]; rfl] at hW
      exact hW
    · cases h
  · cases h
end
section
/-! CALLS: a callee's contract, in the simulator's words -/
def sm_Pre (D : va_G) (cl : List vw_C) (τ : Nat → ClassId) (B : Nat) (ad : Nat → Nat) (NB : List Cond) (SK : sm_SKt) (XT : State → Heap → Prop) (as : List Value) (M : sm_M) : Array Value → State → Prop := va_Pc (as.map (sm_cv B ad)) (fun U => va_P D cl (sm_w τ B ad 0 M) U.heap ∧ M.length ≤ 1000 ∧ U.heap.size = B + M.length ∧ va_K D cl (sm_tys τ) U ∧ (∀ w ∈ NB, va_Nw w U) ∧ (∀ q ∈ SK, vk_R q.1 q.2.1 q.2.2.1 (sm_rho B ad q.2.2.2) U) ∧ XT U U.heap)
def sm_Post (D : va_G) (cl : List vw_C) (τ : Nat → ClassId) (B : Nat) (ad : Nat → Nat) (M' : sm_M) (r : Option Value) : Array Value → State → Outcome → State → Prop := fun _ st o t => o = .returned (r.map (sm_cv B ad)) ∧ va_P D cl (sm_w τ B ad 0 M') t.heap ∧ M'.length ≤ 1000 ∧ va_F (fun q => B ≤ q) st t
abbrev sm_rm (d : Nat) (M M' : sm_M) : Room := { frames := d, cells := M'.length - M.length, slots := sm_sl M' - sm_sl M, locals := d * 80 }
abbrev sm_HD : Type := List (Nat × MethodName × ByteArray × Nat × Option FieldType)
/-- what calls answer is what the machine's calls answer, in a room of depth d -/
def sm_cok (l : Launch) (D : va_G) (cl : List vw_C) (τ : Nat → ClassId) (B : Nat) (ad : Nat → Nat) (TB NB : List Cond) (SK : sm_SKt) (XT : State → Heap → Prop) (hds : sm_HD) (d : Nat) (cal : Nat → List Value → sm_M → sm_R) : Prop := ∀ y as M M1 v, cal y as M = some (M1, v) → M.length ≤ M1.length ∧ sm_sl M ≤ sm_sl M1 ∧ ∀ yN bytes mL rt, sm_fd hds y = some (yN, bytes, mL, rt) → Met l yN (.code yN bytes mL rt :: TB) (sm_rm d M M1) (sm_Pre D cl τ B ad NB SK XT as M) (sm_Post D cl τ B ad M1 v) (M1.length - M.length) (sm_sl M1 - sm_sl M) (fun q => B ≤ q)
/-- the words that ride along -/
def sm_okE (TB NB : List Cond) (XT : State → Heap → Prop) (B : Nat) : Prop := (∀ w ∈ TB, goodWord w = true) ∧ (∀ w ∈ NB, w.onTables = true ∧ ∀ s U : State, s.WarmedH U.vm → va_Nw w s → va_Nw w U) ∧ (∀ (u U : State) (H : Heap), u.vm.Alike U.vm → XT u H → XT U H) ∧ (∀ (U : State) (H H1 : Heap), (∀ a : Nat, a < H.size → ¬ B ≤ a → H1[a]? = H[a]?) → XT U H → XT U H1)
theorem sm_blind {D : va_G} {cl : List vw_C} {τ : Nat → ClassId} {B : Nat} {ad : Nat → Nat} {TB NB : List Cond} {SK : sm_SKt} {XT : State → Heap → Prop} {as : List Value} {M : sm_M} (hE : sm_okE TB NB XT B) : FrameBlind (sm_Pre D cl τ B ad NB SK XT as M) := by
  intro a U g mk q
  obtain ⟨q0, qP, qm, qz, qK, qN, qS, qX⟩ := q
  exact ⟨q0, qP, qm, qz, va_K.moved (u := U) (U := U.calling g mk a) (Vm.Alike.refl U.vm) qK, fun w hw => va_Nw.same (u := U) (hE.2.1 w hw).1 rfl (qN w hw), fun z hz => vk_R.same (u := U) rfl (qS z hz), hE.2.2.1 U (U.calling g mk a) U.heap (Vm.Alike.refl U.vm) qX⟩
theorem sm_preU {p : Program} {s : State} {m : MethodId} {args : Array Value} {meth : Method} {c : Code} {D : va_G} {cl : List vw_C} {τ : Nat → ClassId} {B : Nat} {ad : Nat → Nat} {TB NB : List Cond} {SK : sm_SKt} {XT : State → Heap → Prop} {m0 : Nat} {mi : sm_MI} {M : sm_M} {H : Heap} {locs : List Loc} (C0 : sm_C p s m args meth c D cl τ B ad TB NB SK XT m0 mi) (hE : sm_okE TB NB XT B) (hP : va_P D cl (sm_w τ B ad 0 M) H) (hm : M.length ≤ 1000) (hz : H.size = B + M.length) (hS : va_S (fun q => B ≤ q) s.heap H locs) (as : List Value) : ∀ U : State, U.heap = H → s.WarmedH U.vm → sm_Pre D cl τ B ad NB SK XT as M (as.map (sm_cv B ad)).toArray U := by
  intro U hU hW
  obtain ⟨-, -, -, -, -, hnb, hK, hsk, hX, -⟩ := C0
  exact ⟨rfl, by rw [hU]; exact hP, hm, by rw [hU]; exact hz, va_K.moved hW.alike hK, fun w hw => (hE.2.1 w hw).2 s U hW (hnb w hw), fun q hq => vk_R.warm hW (hsk q hq), by rw [hU]; exact hE.2.2.1 s U H hW.alike (hE.2.2.2 s s.heap H hS.2.1 hX)⟩
theorem sm_after {p : Program} {l : Launch} {e : Env} {R : Room} {s : State} {m : MethodId} {args : Array Value} {below : List Frame} {meth : Method} {c : Code} {H : Heap} {locs : List Loc} {cells slots mc ms pc : Nat} {Q : State → Prop} {ls : Array Slot} {st0 rest : List Value} {a : Array Value} {D : va_G} {cl : List vw_C} {τ : Nat → ClassId} {B : Nat} {ad : Nat → Nat} {M1 : sm_M} {v : Option Value} (hr : va_Run p l e R s m args below meth c H locs cells slots mc ms (F0 m pc ls st0) rest (sm_Post D cl τ B ad M1 v a) (fun q => B ≤ q)) (hS : va_S (fun q => B ≤ q) s.heap H locs)
    (kk : ∀ (H1 : Heap) (locs1 : List Loc), va_P D cl (sm_w τ B ad 0 M1) H1 → M1.length ≤ 1000 → va_S (fun q => B ≤ q) s.heap H1 locs1 → W p l e R s m args below meth c H1 locs1 (cells + mc) (slots + ms) Q (F0 m (pc + 3) ls ((v.map (sm_cv B ad)).toList ++ rest))) : W p l e R s m args below meth c H locs cells slots Q (F0 m pc ls st0) := by
  intro T hT X
  obtain ⟨v', st₀, t, T', L, h0, X', hL, e1, e2, ⟨hv, hP1, hm1, hz, hk⟩, st⟩ := hr T hT X
  cases hv
  rw [h0] at hz hk
  obtain ⟨t2, a1, b1⟩ := kk T'.heap (locs ++ L) (by rw [e1]; exact hP1) hm1
    ⟨Nat.le_trans hS.1 (by rw [e1]; exact hz), fun q h1 h2 => by rw [e1, hk q (Nat.lt_of_lt_of_le h1 hS.1) h2]; exact hS.2.1 q h1 h2, fun q hq => by
      rcases List.mem_append.mp hq with h | h
      · exact hS.2.2 q h
      · exact hL q h⟩ T' rfl X'
  exact ⟨t2, st t2 a1, b1⟩
def sm_hdk (TB : List Cond) (yN : MethodName) (bytes : ByteArray) (mL : Nat) (rt : Option FieldType) (n : Nat) : Prop := Cond.code yN bytes mL rt ∈ TB ∧ Cond.initialized yN.cls ∈ TB ∧ (yN.cls ≠ "java/lang/invoke/MethodHandle" ∧ yN.cls ≠ "java/lang/invoke/VarHandle" ∧ (parseMethodDescriptor yN.desc).map (fun d => d.parameters.length) = some n) ∧ mL ≤ 61
def sm_lnk (TB NB : List Cond) (own : String) (x : Nat) (yN : MethodName) : Prop := Cond.methodLink own x yN ∈ TB ∨ ∃ host, Cond.methodLinkNest own x yN host ∈ NB
def sm_okM (cl : List vw_C) (TB NB : List Cond) (hds : sm_HD) (mi : sm_MI) : Prop := ∀ x kd y n ci, sm_fd mi.2.2.2.2.2.2.2.1 x = some (kd, y, n, ci) →
  (kd = 0 → ∃ yN bytes mL rt, sm_fd hds y = some (yN, bytes, mL, rt) ∧ sm_hdk TB yN bytes mL rt n ∧ sm_lnk TB NB mi.1.cls x yN ∧ Cond.static yN ∈ TB) ∧
  (kd = 1 → ∃ yN bytes mL rt C T N, sm_fd hds y = some (yN, bytes, mL, rt) ∧ sm_hdk TB yN bytes mL rt n ∧ sm_lnk TB NB mi.1.cls x yN ∧ Cond.instanceMethod yN ∈ TB ∧ Cond.selects C yN yN ∈ TB ∧ cl[ci]? = some (C, T, N)) ∧
  (kd = 2 → ∃ yN bytes mL, sm_fd hds y = some (yN, bytes, mL, none) ∧ sm_hdk TB yN bytes mL none n ∧ sm_lnk TB NB mi.1.cls x yN ∧ Cond.instanceMethod yN ∈ TB ∧ yN.name = "<init>") ∧
  (kd = 3 → Cond.methodLink mi.1.cls x Lib.objectInit ∈ TB ∧ Cond.instanceMethod Lib.objectInit ∈ TB ∧ Cond.code Lib.objectInit ⟨#[0xb1]⟩ 1 none ∈ TB)
theorem sm_goodIn {TB : List Cond} (hTB : ∀ w ∈ TB, goodWord w = true) {w0 : Cond} (h0 : w0 ∈ TB) : GoodIn TB (w0 :: TB) := by
  intro w hw
  rcases List.mem_cons.mp hw with rfl | hw
  · exact ⟨h0, good_of_word (hTB _ h0)⟩
  · exact ⟨hw, good_of_word (hTB _ hw)⟩
theorem sm_low_ok {B : Nat} {ad : Nat → Nat} {st : List Value} (h : sm_low st = true) : ((st.map (sm_cv B ad)).map fun v => v.category).sum ≤ 8 := by
  have e : (st.map (sm_cv B ad)).map (fun v => v.category) = st.map (fun v => v.category) := by
    rw [List.map_map]
    exact List.map_congr_left (fun v _ => sm_cv_cat B ad v)
  rw [e]
  exact Nat.le_of_ble_eq_true h
theorem sm_opt_map (B : Nat) (ad : Nat → Nat) (v : Option Value) (r : List Value) : (v.toList ++ r).map (sm_cv B ad) = (v.map (sm_cv B ad)).toList ++ r.map (sm_cv B ad) := by
  cases v <;> rfl
set_option maxHeartbeats 1000000 in
theorem sg_invokestatic {p : Program} {l : Launch} {e : Env} {R : Room} {s : State} {m : MethodId} {args : Array Value} {below : List Frame} {meth : Method} {c : Code} {Q : State → Prop} {D : va_G} {cl : List vw_C} {τ : Nat → ClassId} {B : Nat} {ad : Nat → Nat} {TB NB : List Cond} {SK : sm_SKt} {XT : State → Heap → Prop} {mi : sm_MI} {M' : sm_M} {m0 s0 : Nat} {cal : Nat → List Value → sm_M → sm_R} {sc : Option (Nat × (Nat → Int32))} {k : Nat → sm_L → List Value → sm_M → sm_R} {r : Option Value} {pc : Nat} {L : sm_L} {st : List Value} {M : sm_M} {x : Nat} {hds : sm_HD} {d : Nat} (hcok : sm_cok l D cl τ B ad TB NB SK XT hds d cal) (hE : sm_okE TB NB XT B) (hM : sm_okM cl TB NB hds mi) (hk : ∀ pc L st M, k pc L st M = some (M', r) → M.length ≤ M'.length ∧ sm_sl M ≤ sm_sl M') (hRc : M'.length ≤ R.cells + m0) (hRs : sm_sl M' ≤ R.slots + s0) (hR : d + 1 ≤ R.frames ∧ (d + 1) * 80 ≤ R.locals) (C0 : sm_C p s m args meth c D cl τ B ad TB NB SK XT m0 mi) (ih : ∀ pc L st M, k pc L st M = some (M', r) → sm_G p l e R s m args below meth c Q D cl τ B ad mi.2.2.1 m0 s0 pc L st M) (hd : decode mi.2.1 pc = .ok (.invokestatic x, 3)) (h : sm_ex cal sc mi k pc L st M (.invokestatic x) = some (M', r)) : sm_G p l e R s m args below meth c Q D cl τ B ad mi.2.2.1 m0 s0 pc L st M := by
  have hx := C0.1
  have hb := C0.2.1
  have hml := C0.2.2.1
  have hown := C0.2.2.2.1
  have hts := C0.2.2.2.2.1
  have hnb := C0.2.2.2.2.2.1
  have hK := C0.2.2.2.2.2.2.1
  have h0 := C0.2.2.2.2.2.2.2.2.2.1
  simp only [sm_ex] at h
  split at h
  · rename_i y n ci hf
    split at h
    · rename_i as r0 hpop
      split at h
      · rename_i hlow
        replace h := sm_inv_some h
        obtain ⟨M1, v, hcal, h⟩ := h
        obtain ⟨hl1, hl2, hmet⟩ := hcok _ _ _ _ _ hcal
        obtain ⟨yN, bytes, mL, rt, hh, hhd, hlk, hst⟩ := (hM _ _ _ _ _ hf).1 rfl
        have hMet := hmet _ _ _ _ hh
        obtain ⟨hlen, hst0⟩ := sm_pop_0 hpop
        have hmono := hk _ _ _ _ h
        obtain ⟨hcd, hini, hdd, hmL⟩ := hhd
        intro H locs ls cells slots hP hm hS hLl hL h1 h2
        refine sm_size_le (fun hle => ?_)
        have hz := sm_size hP hm hS h0 h1 hle
        have hpre := sm_preU C0 hE hP hm hz hS as
        have hstk : st.map (sm_cv B ad) = (as.map (sm_cv B ad)).reverse ++ r0.map (sm_cv B ad) := by rw [hst0, List.map_append, List.map_reverse]
        have hrm : (sm_rm d M M1).frames + 1 ≤ R.frames ∧ 8 + (mL + 11) + (sm_rm d M M1).locals ≤ R.locals := ⟨hR.1, by show 8 + (mL + 11) + d * 80 ≤ R.locals; omega⟩
        have hfit : cells + (M1.length - M.length) ≤ R.cells ∧ slots + (sm_sl M1 - sm_sl M) ≤ R.slots := ⟨by omega, by omega⟩
        refine sm_after (D := D) (cl := cl) (τ := τ) (ad := ad) (a := (as.map (sm_cv B ad)).toArray) (rest := r0.map (sm_cv B ad)) (M1 := M1) (v := v) (mc := M1.length - M.length) (ms := sm_sl M1 - sm_sl M) ?_ hS (fun H1 locs1 hP1 hm1 hS1 => ?_)
        · rcases hlk with hlk | ⟨host, hlk⟩
          · exact va_runS (As := as.map (sm_cv B ad)) ⟨hx, hb, hml, hown, hts⟩ hMet ⟨callB_of n hts (sm_goodIn hE.1 hcd) rfl rfl rfl (hts _ hini) (hts _ hlk) hdd hrm, hts _ hst⟩ ⟨sm_blind hE, hpre⟩ rfl (by rw [List.length_map]; exact hlen) hL.1 hstk (lv_room (sm_low_ok hlow)) hd hfit
          · exact va_runSN (As := as.map (sm_cv B ad)) ⟨hx, hb, hml, hown, hts⟩ hMet ⟨va_cnB n hts (sm_goodIn hE.1 hcd) rfl rfl rfl (hnb _ hlk) (hts _ hini) hdd hrm, hts _ hst, trivial⟩ ⟨sm_blind hE, hpre⟩ rfl (by rw [List.length_map]; exact hlen) hL.1 hstk (lv_room (sm_low_ok hlow)) hd hfit
        · have hW := ih _ _ _ _ h H1 locs1 ls (cells + (M1.length - M.length)) (slots + (sm_sl M1 - sm_sl M)) hP1 hm1 hS1 hLl hL (by omega) (by omega)
          rw [sm_opt_map] at hW
          exact hW
      · cases h
    · cases h
  · cases h
set_option maxHeartbeats 1000000 in
theorem sg_invokevirtual {p : Program} {l : Launch} {e : Env} {R : Room} {s : State} {m : MethodId} {args : Array Value} {below : List Frame} {meth : Method} {c : Code} {Q : State → Prop} {D : va_G} {cl : List vw_C} {τ : Nat → ClassId} {B : Nat} {ad : Nat → Nat} {TB NB : List Cond} {SK : sm_SKt} {XT : State → Heap → Prop} {mi : sm_MI} {M' : sm_M} {m0 s0 : Nat} {cal : Nat → List Value → sm_M → sm_R} {sc : Option (Nat × (Nat → Int32))} {k : Nat → sm_L → List Value → sm_M → sm_R} {r : Option Value} {pc : Nat} {L : sm_L} {st : List Value} {M : sm_M} {x : Nat} {hds : sm_HD} {d : Nat} (hcok : sm_cok l D cl τ B ad TB NB SK XT hds d cal) (hE : sm_okE TB NB XT B) (hM : sm_okM cl TB NB hds mi) (hk : ∀ pc L st M, k pc L st M = some (M', r) → M.length ≤ M'.length ∧ sm_sl M ≤ sm_sl M') (hRc : M'.length ≤ R.cells + m0) (hRs : sm_sl M' ≤ R.slots + s0) (hR : d + 1 ≤ R.frames ∧ (d + 1) * 80 ≤ R.locals) (C0 : sm_C p s m args meth c D cl τ B ad TB NB SK XT m0 mi) (ih : ∀ pc L st M, k pc L st M = some (M', r) → sm_G p l e R s m args below meth c Q D cl τ B ad mi.2.2.1 m0 s0 pc L st M) (hd : decode mi.2.1 pc = .ok (.invokevirtual x, 3)) (h : sm_ex cal sc mi k pc L st M (.invokevirtual x) = some (M', r)) : sm_G p l e R s m args below meth c Q D cl τ B ad mi.2.2.1 m0 s0 pc L st M := by
  have hx := C0.1
  have hb := C0.2.1
  have hml := C0.2.2.1
  have hown := C0.2.2.2.1
  have hts := C0.2.2.2.2.1
  have hnb := C0.2.2.2.2.2.1
  have hK := C0.2.2.2.2.2.2.1
  have h0 := C0.2.2.2.2.2.2.2.2.2.1
  simp only [sm_ex] at h
  split at h
  · rename_i y n ci hf
    split at h
    · rename_i as b r0 hpop
      split at h
      · rename_i hlow
        replace h := sm_obj_some h
        obtain ⟨cj, fs, hg, h⟩ := h
        split at h
        · rename_i hbq
          have hcj := Nat.eq_of_beq_eq_true hbq
          subst hcj
          replace h := sm_inv_some h
          obtain ⟨M1, v, hcal, h⟩ := h
          obtain ⟨hl1, hl2, hmet⟩ := hcok _ _ _ _ _ hcal
          obtain ⟨yN, bytes, mL, rt, C, T, N, hh, hhd, hlk, hst, hsel, hcl⟩ := (hM _ _ _ _ _ hf).2.1 rfl
          have hMet := hmet _ _ _ _ hh
          obtain ⟨hlen, hst0⟩ := sm_pop_0 hpop
          have hmono := hk _ _ _ _ h
          obtain ⟨hcd, hini, hdd, hmL⟩ := hhd
          intro H locs ls cells slots hP hm hS hLl hL h1 h2
          refine sm_size_le (fun hle => ?_)
          have hz := sm_size hP hm hS h0 h1 hle
          have hpre := sm_preU C0 hE hP hm hz hS (.ref b :: as)
          have hstk : st.map (sm_cv B ad) = (as.map (sm_cv B ad)).reverse ++ .ref (sm_rho B ad b) :: r0.map (sm_cv B ad) := by rw [hst0, List.map_append, List.map_reverse]; rfl
          have hrm : (sm_rm d M M1).frames + 1 ≤ R.frames ∧ 8 + (mL + 11) + (sm_rm d M M1).locals ≤ R.locals := ⟨hR.1, by show 8 + (mL + 11) + d * 80 ≤ R.locals; omega⟩
          have hfit : cells + (M1.length - M.length) ≤ R.cells ∧ slots + (sm_sl M1 - sm_sl M) ≤ R.slots := ⟨by omega, by omega⟩
          refine sm_after (D := D) (cl := cl) (τ := τ) (ad := ad) (a := ((.ref b :: as).map (sm_cv B ad)).toArray) (rest := r0.map (sm_cv B ad)) (M1 := M1) (v := v) (mc := M1.length - M.length) (ms := sm_sl M1 - sm_sl M) ?_ hS (fun H1 locs1 hP1 hm1 hS1 => ?_)
          · have hrc := va_recv hK hP hcl (sm_w_at hg)
            rcases hlk with hlk | ⟨host, hlk⟩
            · exact va_runV (As := as.map (sm_cv B ad)) (b := sm_rho B ad b) (C := C) ⟨hx, hb, hml, hown, hts⟩ hMet ⟨callB_of n hts (sm_goodIn hE.1 hcd) rfl rfl rfl (hts _ hini) (hts _ hlk) hdd hrm, hts _ hst, hts _ hsel⟩ ⟨sm_blind hE, hrc, hpre⟩ rfl (by rw [List.length_map]; exact hlen) hL.1 hstk (lv_room (sm_low_ok hlow)) hd hfit
            · exact va_runVN (As := as.map (sm_cv B ad)) (b := sm_rho B ad b) (C := C) ⟨hx, hb, hml, hown, hts⟩ hMet ⟨va_cnB n hts (sm_goodIn hE.1 hcd) rfl rfl rfl (hnb _ hlk) (hts _ hini) hdd hrm, hts _ hst, hts _ hsel⟩ ⟨sm_blind hE, hrc, hpre⟩ rfl (by rw [List.length_map]; exact hlen) hL.1 hstk (lv_room (sm_low_ok hlow)) hd hfit
          · have hW := ih _ _ _ _ h H1 locs1 ls (cells + (M1.length - M.length)) (slots + (sm_sl M1 - sm_sl M)) hP1 hm1 hS1 hLl hL (by omega) (by omega)
            rw [sm_opt_map] at hW
            exact hW
        · cases h
      · cases h
    · cases h
  · cases h
set_option maxHeartbeats 1000000 in
theorem sg_invokespecial {p : Program} {l : Launch} {e : Env} {R : Room} {s : State} {m : MethodId} {args : Array Value} {below : List Frame} {meth : Method} {c : Code} {Q : State → Prop} {D : va_G} {cl : List vw_C} {τ : Nat → ClassId} {B : Nat} {ad : Nat → Nat} {TB NB : List Cond} {SK : sm_SKt} {XT : State → Heap → Prop} {mi : sm_MI} {M' : sm_M} {m0 s0 : Nat} {cal : Nat → List Value → sm_M → sm_R} {sc : Option (Nat × (Nat → Int32))} {k : Nat → sm_L → List Value → sm_M → sm_R} {r : Option Value} {pc : Nat} {L : sm_L} {st : List Value} {M : sm_M} {x : Nat} {hds : sm_HD} {d : Nat} (hcok : sm_cok l D cl τ B ad TB NB SK XT hds d cal) (hE : sm_okE TB NB XT B) (hM : sm_okM cl TB NB hds mi) (hk : ∀ pc L st M, k pc L st M = some (M', r) → M.length ≤ M'.length ∧ sm_sl M ≤ sm_sl M') (hRc : M'.length ≤ R.cells + m0) (hRs : sm_sl M' ≤ R.slots + s0) (hR : d + 1 ≤ R.frames ∧ (d + 1) * 80 ≤ R.locals) (C0 : sm_C p s m args meth c D cl τ B ad TB NB SK XT m0 mi) (ih : ∀ pc L st M, k pc L st M = some (M', r) → sm_G p l e R s m args below meth c Q D cl τ B ad mi.2.2.1 m0 s0 pc L st M) (hd : decode mi.2.1 pc = .ok (.invokespecial x, 3)) (h : sm_ex cal sc mi k pc L st M (.invokespecial x) = some (M', r)) : sm_G p l e R s m args below meth c Q D cl τ B ad mi.2.2.1 m0 s0 pc L st M := by
  have hx := C0.1
  have hb := C0.2.1
  have hml := C0.2.2.1
  have hown := C0.2.2.2.1
  have hts := C0.2.2.2.2.1
  have hnb := C0.2.2.2.2.2.1
  have hK := C0.2.2.2.2.2.2.1
  have h0 := C0.2.2.2.2.2.2.2.2.2.1
  simp only [sm_ex] at h
  split at h
  · rename_i y n ci hf
    split at h
    · rename_i as b r0 hpop
      split at h
      · rename_i hlow
        replace h := sm_inv_some h
        obtain ⟨M1, v, hcal, h⟩ := h
        obtain ⟨hl1, hl2, hmet⟩ := hcok _ _ _ _ _ hcal
        obtain ⟨yN, bytes, mL, hh, hhd, hlk, hst, hnm⟩ := (hM _ _ _ _ _ hf).2.2.1 rfl
        have hMet := hmet _ _ _ _ hh
        obtain ⟨hlen, hst0⟩ := sm_pop_0 hpop
        have hmono := hk _ _ _ _ h
        obtain ⟨hcd, hini, hdd, hmL⟩ := hhd
        intro H locs ls cells slots hP hm hS hLl hL h1 h2
        refine sm_size_le (fun hle => ?_)
        have hz := sm_size hP hm hS h0 h1 hle
        have hpre := sm_preU C0 hE hP hm hz hS (.ref b :: as)
        have hstk : st.map (sm_cv B ad) = (as.map (sm_cv B ad)).reverse ++ .ref (sm_rho B ad b) :: r0.map (sm_cv B ad) := by rw [hst0, List.map_append, List.map_reverse]; rfl
        have hrm : (sm_rm d M M1).frames + 1 ≤ R.frames ∧ 8 + (mL + 11) + (sm_rm d M M1).locals ≤ R.locals := ⟨hR.1, by show 8 + (mL + 11) + d * 80 ≤ R.locals; omega⟩
        have hfit : cells + (M1.length - M.length) ≤ R.cells ∧ slots + (sm_sl M1 - sm_sl M) ≤ R.slots := ⟨by omega, by omega⟩
        refine sm_after (D := D) (cl := cl) (τ := τ) (ad := ad) (a := ((.ref b :: as).map (sm_cv B ad)).toArray) (rest := r0.map (sm_cv B ad)) (M1 := M1) (v := v) (mc := M1.length - M.length) (ms := sm_sl M1 - sm_sl M) ?_ hS (fun H1 locs1 hP1 hm1 hS1 => ?_)
        · rcases hlk with hlk | ⟨host, hlk⟩
          · exact va_runI (As := as.map (sm_cv B ad)) (b := sm_rho B ad b) ⟨hx, hb, hml, hown, hts⟩ hMet ⟨callB_of n hts (sm_goodIn hE.1 hcd) rfl rfl rfl (hts _ hini) (hts _ hlk) hdd hrm, hnm, hts _ hst⟩ ⟨sm_blind hE, hpre⟩ rfl (by rw [List.length_map]; exact hlen) hL.1 hstk (lv_room (sm_low_ok hlow)) hd hfit
          · exact va_runIN (As := as.map (sm_cv B ad)) (b := sm_rho B ad b) ⟨hx, hb, hml, hown, hts⟩ hMet ⟨va_cnB n hts (sm_goodIn hE.1 hcd) rfl rfl rfl (hnb _ hlk) (hts _ hini) hdd hrm, hnm, hts _ hst⟩ ⟨sm_blind hE, hpre⟩ rfl (by rw [List.length_map]; exact hlen) hL.1 hstk (lv_room (sm_low_ok hlow)) hd hfit
        · have hW := ih _ _ _ _ h H1 locs1 ls (cells + (M1.length - M.length)) (slots + (sm_sl M1 - sm_sl M)) hP1 hm1 hS1 hLl hL (by omega) (by omega)
          rw [sm_opt_map] at hW
          exact hW
      · cases h
    · cases h
  · rename_i hf
    obtain ⟨hw1, hw2, hw3⟩ := (hM _ _ _ _ _ hf).2.2.2 rfl
    replace h := sm_r1_some h
    obtain ⟨a, r0, rfl, h⟩ := h
    split at h
    · rename_i hlow
      have hlw := sm_low_ok (B := B) (ad := ad) hlow
      intro H locs ls cells slots hP hm hS hLl hL h1 h2
      refine W.objInit hx hb hown (hts _ hw1) (hts _ hw2) (hts _ hw3) rfl (by rw [hml]; exact hL.1) rfl hd (by omega) (by show 2 * 0 + _ + 12 ≤ R.locals; omega) ?_
      exact ih _ _ _ _ h H locs ls cells slots hP hm hS hLl hL h1 h2
    · cases h
  · cases h
end
section
/-! THE SIMULATOR IS SOUND: a method's run, a call -/
def sm_okT (mi : sm_MI) : Prop := ∀ pc i, sm_fd mi.2.2.2.2.1 pc = some i → ∃ len, decode mi.2.1 pc = .ok (i, len) ∧ (len = sm_ln i ∨ sm_ln i = 0)
def sm_ok (cl : List vw_C) (TB NB : List Cond) (SK : sm_SKt) (hds : sm_HD) (mi : sm_MI) : Prop := sm_okT mi ∧ sm_okF cl TB NB mi ∧ sm_okM cl TB NB hds mi ∧ sm_okK TB SK mi ∧ sm_okN cl TB mi
/-- at a method's end -/
def sm_End (p : Program) (l : Launch) (e : Env) (R : Room) (s : State) (m : MethodId) (args : Array Value) (below : List Frame) (meth : Method) (c : Code) (Q : State → Prop) (D : va_G) (cl : List vw_C) (τ : Nat → ClassId) (B : Nat) (ad : Nat → Nat) (mi : sm_MI) (m0 s0 : Nat) (M' : sm_M) (r : Option Value) : Prop :=
  ∀ (pc : Nat) (i : Instr) (H : Heap) (locs : List Loc) (ls : Array Slot) (cells slots : Nat), decode mi.2.1 pc = .ok (i, 1) → sm_rk mi.2.2.2.1 i r → va_P D cl (sm_w τ B ad 0 M') H → M'.length ≤ 1000 → va_S (fun q => B ≤ q) s.heap H locs → cells + m0 = M'.length → slots + s0 = sm_sl M' → W p l e R s m args below meth c H locs cells slots Q (F0 m pc ls (r.map (sm_cv B ad)).toList)
set_option maxHeartbeats 4000000 in
theorem sm_step {p : Program} {l : Launch} {e : Env} {R : Room} {s : State} {m : MethodId} {args : Array Value} {below : List Frame} {meth : Method} {c : Code} {Q : State → Prop} {D : va_G} {cl : List vw_C} {τ : Nat → ClassId} {B : Nat} {ad : Nat → Nat} {TB NB : List Cond} {SK : sm_SKt} {XT : State → Heap → Prop} {mi : sm_MI} {M' : sm_M} {m0 s0 : Nat} {cal : Nat → List Value → sm_M → sm_R} {sc : Option (Nat × (Nat → Int32))} {k : Nat → sm_L → List Value → sm_M → sm_R} {r : Option Value} {pc : Nat} {L : sm_L} {st : List Value} {M : sm_M} {hds : sm_HD} {d : Nat} {i : Instr} {len : Nat} (C0 : sm_C p s m args meth c D cl τ B ad TB NB SK XT m0 mi) (ok : sm_ok cl TB NB SK hds mi) (hE : sm_okE TB NB XT B) (hsc : sm_okX B ad s sc) (hAI : Cond.arrayClass .int ∈ TB) (hAL : Cond.arrayClass .long ∈ TB) (hcok : sm_cok l D cl τ B ad TB NB SK XT hds d cal) (hk : ∀ pc L st M, k pc L st M = some (M', r) → M.length ≤ M'.length ∧ sm_sl M ≤ sm_sl M') (hRc : M'.length ≤ R.cells + m0) (hRs : sm_sl M' ≤ R.slots + s0) (hR : d + 1 ≤ R.frames ∧ (d + 1) * 80 ≤ R.locals) (hK : sm_End p l e R s m args below meth c Q D cl τ B ad mi m0 s0 M' r) (ih : ∀ pc L st M, k pc L st M = some (M', r) → sm_G p l e R s m args below meth c Q D cl τ B ad mi.2.2.1 m0 s0 pc L st M) (hd : decode mi.2.1 pc = .ok (i, len)) (hln : len = sm_ln i ∨ sm_ln i = 0) (h : sm_ex cal sc mi k pc L st M i = some (M', r)) : sm_G p l e R s m args below meth c Q D cl τ B ad mi.2.2.1 m0 s0 pc L st M := by
  have hNB : ∀ w ∈ NB, w.onTables = true := fun w hw => (hE.2.1 w hw).1
  cases i with
  | iconst n => exact sg_iconst C0 ih (sm_dl hd hln 1 rfl (by decide)) h
  | bipush n => exact sg_bipush C0 ih (sm_dl hd hln 2 rfl (by decide)) h
  | sipush n => exact sg_sipush C0 ih (sm_dl hd hln 3 rfl (by decide)) h
  | lconst n => exact sg_lconst C0 ih (sm_dl hd hln 1 rfl (by decide)) h
  | iload_n j => exact sg_iload_n C0 ih (sm_dl hd hln 1 rfl (by decide)) h
  | iload j => exact sg_iload C0 ih (sm_dl hd hln 2 rfl (by decide)) h
  | lload_n j => exact sg_lload_n C0 ih (sm_dl hd hln 1 rfl (by decide)) h
  | lload j => exact sg_lload C0 ih (sm_dl hd hln 2 rfl (by decide)) h
  | aload_n j => exact sg_aload_n C0 ih (sm_dl hd hln 1 rfl (by decide)) h
  | aload j => exact sg_aload C0 ih (sm_dl hd hln 2 rfl (by decide)) h
  | istore_n j => exact sg_istore_n C0 ih (sm_dl hd hln 1 rfl (by decide)) h
  | istore j => exact sg_istore C0 ih (sm_dl hd hln 2 rfl (by decide)) h
  | lstore_n j => exact sg_lstore_n C0 ih (sm_dl hd hln 1 rfl (by decide)) h
  | lstore j => exact sg_lstore C0 ih (sm_dl hd hln 2 rfl (by decide)) h
  | astore_n j => exact sg_astore_n C0 ih (sm_dl hd hln 1 rfl (by decide)) h
  | astore j => exact sg_astore C0 ih (sm_dl hd hln 2 rfl (by decide)) h
  | iinc j n => exact sg_iinc C0 ih (sm_dl hd hln 3 rfl (by decide)) h
  | iadd => exact sg_iadd C0 ih (sm_dl hd hln 1 rfl (by decide)) h
  | isub => exact sg_isub C0 ih (sm_dl hd hln 1 rfl (by decide)) h
  | imul => exact sg_imul C0 ih (sm_dl hd hln 1 rfl (by decide)) h
  | iand => exact sg_iand C0 ih (sm_dl hd hln 1 rfl (by decide)) h
  | ior => exact sg_ior C0 ih (sm_dl hd hln 1 rfl (by decide)) h
  | ixor => exact sg_ixor C0 ih (sm_dl hd hln 1 rfl (by decide)) h
  | ishl => exact sg_ishl C0 ih (sm_dl hd hln 1 rfl (by decide)) h
  | ishr => exact sg_ishr C0 ih (sm_dl hd hln 1 rfl (by decide)) h
  | iushr => exact sg_iushr C0 ih (sm_dl hd hln 1 rfl (by decide)) h
  | idiv => exact sg_idiv C0 ih (sm_dl hd hln 1 rfl (by decide)) h
  | irem => exact sg_irem C0 ih (sm_dl hd hln 1 rfl (by decide)) h
  | ineg => exact sg_ineg C0 ih (sm_dl hd hln 1 rfl (by decide)) h
  | ladd => exact sg_ladd C0 ih (sm_dl hd hln 1 rfl (by decide)) h
  | lsub => exact sg_lsub C0 ih (sm_dl hd hln 1 rfl (by decide)) h
  | land => exact sg_land C0 ih (sm_dl hd hln 1 rfl (by decide)) h
  | lor => exact sg_lor C0 ih (sm_dl hd hln 1 rfl (by decide)) h
  | lxor => exact sg_lxor C0 ih (sm_dl hd hln 1 rfl (by decide)) h
  | lshl => exact sg_lshl C0 ih (sm_dl hd hln 1 rfl (by decide)) h
  | lshr => exact sg_lshr C0 ih (sm_dl hd hln 1 rfl (by decide)) h
  | lushr => exact sg_lushr C0 ih (sm_dl hd hln 1 rfl (by decide)) h
  | lcmp => exact sg_lcmp C0 ih (sm_dl hd hln 1 rfl (by decide)) h
  | i2l => exact sg_i2l C0 ih (sm_dl hd hln 1 rfl (by decide)) h
  | l2i => exact sg_l2i C0 ih (sm_dl hd hln 1 rfl (by decide)) h
  | dup => exact sg_dup C0 ih (sm_dl hd hln 1 rfl (by decide)) h
  | dup2 => exact sg_dup2 C0 ih (sm_dl hd hln 1 rfl (by decide)) h
  | goto off => exact sg_goto C0 ih (sm_dl hd hln 3 rfl (by decide)) h
  | ifCond cd off => exact sg_ifCond C0 ih (sm_dl hd hln 3 rfl (by decide)) h
  | if_icmp cd off => exact sg_if_icmp C0 ih (sm_dl hd hln 3 rfl (by decide)) h
  | laload => exact sg_laload C0 ih (sm_dl hd hln 1 rfl (by decide)) h
  | iastore => exact sg_iastore C0 ih (sm_dl hd hln 1 rfl (by decide)) h
  | lastore => exact sg_lastore C0 ih (sm_dl hd hln 1 rfl (by decide)) h
  | ldc x => exact sg_ldc ok.2.2.2.1 C0 ih (sm_dl hd hln 2 rfl (by decide)) h
  | ldc_w x => exact sg_ldc_w ok.2.2.2.1 C0 ih (sm_dl hd hln 3 rfl (by decide)) h
  | ldc2_w x => exact sg_ldc2_w ok.2.2.2.1 C0 ih (sm_dl hd hln 3 rfl (by decide)) h
  | getfield x => exact sg_getfield ok.2.1 hNB C0 ih (sm_dl hd hln 3 rfl (by decide)) h
  | putfield x => exact sg_putfield ok.2.1 hNB C0 ih (sm_dl hd hln 3 rfl (by decide)) h
  | iaload => exact sg_iaload hsc C0 ih (sm_dl hd hln 1 rfl (by decide)) h
  | arraylength => exact sg_arraylength hsc C0 ih (sm_dl hd hln 1 rfl (by decide)) h
  | newarray t => exact sg_newarray hAI hAL hk hRc hRs C0 ih (sm_dl hd hln 2 rfl (by decide)) h
  | new x => exact sg_new ok.2.2.2.2 hk hRc hRs C0 ih (sm_dl hd hln 3 rfl (by decide)) h
  | invokestatic x => exact sg_invokestatic hcok hE ok.2.2.1 hk hRc hRs hR C0 ih (sm_dl hd hln 3 rfl (by decide)) h
  | invokevirtual x => exact sg_invokevirtual hcok hE ok.2.2.1 hk hRc hRs hR C0 ih (sm_dl hd hln 3 rfl (by decide)) h
  | invokespecial x => exact sg_invokespecial hcok hE ok.2.2.1 hk hRc hRs hR C0 ih (sm_dl hd hln 3 rfl (by decide)) h
  | tableswitch dflt lo hi offs => exact sg_tableswitch hd C0 ih h
  | lookupswitch dflt ps => exact sg_lookupswitch hd C0 ih h
  | ireturn =>
    replace h := sm_i1_some h
    obtain ⟨x, r0, rfl, h⟩ := h
    split at h
    · rename_i hz
      replace h := sm_ret_some h
      obtain ⟨rfl, h⟩ := h
      cases h
      intro H locs ls cells slots hP hm hS hLl hL h1 h2
      exact hK pc _ H locs ls cells slots (sm_dl hd hln 1 rfl (by decide)) (Or.inl ⟨rfl, x, rfl, hz⟩) hP hm hS h1 h2
    · cases h
  | lreturn =>
    replace h := sm_l1_some h
    obtain ⟨x, r0, rfl, h⟩ := h
    split at h
    · rename_i hz
      replace h := sm_ret_some h
      obtain ⟨rfl, h⟩ := h
      cases h
      intro H locs ls cells slots hP hm hS hLl hL h1 h2
      exact hK pc _ H locs ls cells slots (sm_dl hd hln 1 rfl (by decide)) (Or.inr (Or.inl ⟨rfl, x, rfl, hz⟩)) hP hm hS h1 h2
    · cases h
  | return_ =>
    simp only [sm_ex] at h
    split at h
    · rename_i hz
      replace h := sm_ret_some h
      obtain ⟨rfl, h⟩ := h
      cases h
      intro H locs ls cells slots hP hm hS hLl hL h1 h2
      exact hK pc _ H locs ls cells slots (sm_dl hd hln 1 rfl (by decide)) (Or.inr (Or.inr ⟨rfl, rfl, hz⟩)) hP hm hS h1 h2
    · cases h
  | _ => exact absurd (show (none : sm_R) = some (M', r) from h) (by simp)
set_option maxHeartbeats 1000000 in
theorem sm_run_ok {p : Program} {l : Launch} {e : Env} {R : Room} {s : State} {m : MethodId} {args : Array Value} {below : List Frame} {meth : Method} {c : Code} {Q : State → Prop} {D : va_G} {cl : List vw_C} {τ : Nat → ClassId} {B : Nat} {ad : Nat → Nat} {TB NB : List Cond} {SK : sm_SKt} {XT : State → Heap → Prop} {mi : sm_MI} {M' : sm_M} {m0 s0 : Nat} {cal : Nat → List Value → sm_M → sm_R} {sc : Option (Nat × (Nat → Int32))} {r : Option Value} {hds : sm_HD} {d : Nat} (C0 : sm_C p s m args meth c D cl τ B ad TB NB SK XT m0 mi) (ok : sm_ok cl TB NB SK hds mi) (hE : sm_okE TB NB XT B) (hsc : sm_okX B ad s sc) (hAI : Cond.arrayClass .int ∈ TB) (hAL : Cond.arrayClass .long ∈ TB) (hcok : sm_cok l D cl τ B ad TB NB SK XT hds d cal) (hRc : M'.length ≤ R.cells + m0) (hRs : sm_sl M' ≤ R.slots + s0) (hR : d + 1 ≤ R.frames ∧ (d + 1) * 80 ≤ R.locals) (hK : sm_End p l e R s m args below meth c Q D cl τ B ad mi m0 s0 M' r) : ∀ (n pc : Nat) (L : sm_L) (st : List Value) (M : sm_M), sm_run cal sc mi n pc L st M = some (M', r) → sm_G p l e R s m args below meth c Q D cl τ B ad mi.2.2.1 m0 s0 pc L st M := by
  intro n
  induction n with
  | zero => intro pc L st M h; cases h
  | succ n ih =>
    intro pc L st M h
    simp only [sm_run] at h
    split at h
    · cases h
    · rename_i i hi
      obtain ⟨len, hd, hln⟩ := ok.1 _ _ hi
      have hG := sm_step C0 ok hE hsc hAI hAL hcok (sm_run_mono (fun y as M M1 v hc => ⟨(hcok y as M M1 v hc).1, (hcok y as M M1 v hc).2.1⟩) n) hRc hRs hR hK ih hd hln h
      intro H locs ls cells slots hP hm hS hLl hL h1 h2
      exact hG H locs ls cells slots hP hm hS (by rw [sm_kp_len]; exact hLl) (sm_has_kp hL) h1 h2
theorem sm_pad_len : ∀ (n : Nat) (L : sm_L), (sm_pad n L).length = n := by
  intro n
  induction n with
  | zero => intro L; rfl
  | succ n ih => intro L; cases L <;> simp [sm_pad, ih]
theorem sm_al_none {B : Nat} {ad : Nat → Nat} {q : Nat × Value} : ∀ (n j : Nat), ¬ q ∈ sm_al B ad j (sm_pad n []) := by
  intro n
  induction n with
  | zero => intro j h; cases h
  | succ n ih => intro j h; exact ih (j + 1) h
theorem sm_al_ent {B : Nat} {ad : Nat → Nat} {q : Nat × Value} : ∀ (as : List Value) (n j : Nat), q ∈ sm_al B ad j (sm_pad n (sm_ent as)) → q ∈ lv_args j (as.map (sm_cv B ad)) := by
  intro as
  induction as with
  | nil => intro n j h; exact absurd h (sm_al_none n j)
  | cons v t ih =>
    intro n j h
    have hc : (sm_cv B ad v).category = v.category := sm_cv_cat B ad v
    cases hv : sm_is2 (some v) with
    | true =>
      have hc2 : v.category = 2 := by cases v <;> first | rfl | cases hv
      rw [show sm_ent (v :: t) = some v :: none :: sm_ent t from by simp only [sm_ent, hv]] at h
      cases n with
      | zero => cases h
      | succ n =>
        rcases List.mem_cons.mp (show q ∈ (j, sm_cv B ad v) :: sm_al B ad (j + 1) (sm_pad n (none :: sm_ent t)) from h) with h | h
        · rw [h]; simp [lv_args]
        · cases n with
          | zero => cases h
          | succ n =>
            have h2 := ih n (j + 2) h
            simp only [List.map_cons, lv_args, hc, hc2]
            exact List.mem_cons_of_mem _ h2
    | false =>
      have hc1 : v.category = 1 := by cases v <;> first | rfl | cases hv
      rw [show sm_ent (v :: t) = some v :: sm_ent t from by simp only [sm_ent, hv]] at h
      cases n with
      | zero => cases h
      | succ n =>
        rcases List.mem_cons.mp (show q ∈ (j, sm_cv B ad v) :: sm_al B ad (j + 1) (sm_pad n (sm_ent t)) from h) with h | h
        · rw [h]; simp [lv_args]
        · have h2 := ih n (j + 1) h
          simp only [List.map_cons, lv_args, hc, hc1]
          exact List.mem_cons_of_mem _ h2
theorem sm_ent_len {B : Nat} {ad : Nat → Nat} : ∀ (as : List Value), (lg_sl (as.map (sm_cv B ad))).length = (sm_ent as).length := by
  intro as
  induction as with
  | nil => rfl
  | cons v t ih =>
    have e : lg_sl ((v :: t).map (sm_cv B ad)) = (if (sm_cv B ad v).category = 2 then [Slot.val (sm_cv B ad v), Slot.second] else [Slot.val (sm_cv B ad v)]) ++ lg_sl (t.map (sm_cv B ad)) := by simp [lg_sl]
    rw [e, List.length_append, ih, sm_cv_cat]
    cases hv : sm_is2 (some v) with
    | true =>
      have hc2 : v.category = 2 := by cases v <;> first | rfl | cases hv
      rw [if_pos hc2, show sm_ent (v :: t) = some v :: none :: sm_ent t from by simp only [sm_ent, hv]]
      simp; omega
    | false =>
      have hc1 : ¬ v.category = 2 := by cases v <;> first | (simp [Value.category]; done) | cases hv
      rw [if_neg hc1, show sm_ent (v :: t) = some v :: sm_ent t from by simp only [sm_ent, hv]]
      simp; omega
set_option maxHeartbeats 1000000 in
/-- calls down to any depth are sound -/
theorem sm_sim_ok {l : Launch} {D : va_G} {cl : List vw_C} {τ : Nat → ClassId} {B : Nat} {ad : Nat → Nat} {TB NB : List Cond} {SK : sm_SKt} {XT : State → Heap → Prop} {hds : sm_HD} {pg : List (Nat × sm_MI)} {bi : Nat → List Value → sm_M → sm_R} (hE : sm_okE TB NB XT B) (hAI : Cond.arrayClass .int ∈ TB) (hAL : Cond.arrayClass .long ∈ TB) (hpg : ∀ y mi, sm_fd pg y = some mi → sm_ok cl TB NB SK hds mi ∧ plainName mi.1.cls = true ∧ sm_fd hds y = some (mi.1, mi.2.1, mi.2.2.1, mi.2.2.2.1)) (hbi : ∀ d y as M M1 v, sm_fd pg y = none → bi y as M = some (M1, v) → M.length ≤ M1.length ∧ sm_sl M ≤ sm_sl M1 ∧ ∀ yN bytes mL rt, sm_fd hds y = some (yN, bytes, mL, rt) → Met l yN (.code yN bytes mL rt :: TB) (sm_rm (d + 1) M M1) (sm_Pre D cl τ B ad NB SK XT as M) (sm_Post D cl τ B ad M1 v) (M1.length - M.length) (sm_sl M1 - sm_sl M) (fun q => B ≤ q)) (N : Nat) : ∀ d, sm_cok l D cl τ B ad TB NB SK XT hds d (sm_sim pg bi d N) := by
  intro d
  induction d with
  | zero => intro y as M M1 v h; cases h
  | succ d ih =>
    intro y as M M1 v h
    simp only [sm_sim] at h
    split at h
    · rename_i mi hmi
      split at h
      · rename_i hble
        have hble : (sm_ent as).length ≤ mi.2.2.1 := Nat.le_of_ble_eq_true hble
        have hmono := sm_run_mono (fun y as M M1 v hc => ⟨(ih y as M M1 v hc).1, (ih y as M M1 v hc).2.1⟩) _ _ _ _ _ h
        refine ⟨hmono.1, hmono.2, fun yN bytes mL rt hh => ?_⟩
        obtain ⟨ok, hpl, hh2⟩ := hpg y mi hmi
        rw [hh2] at hh
        cases hh
        refine Met.ofW (cc := mi.2.1) (maxL := mi.2.2.1) (ret := mi.2.2.2.1) hpl rfl ?_
        intro p e s m args below meth c s₁ Bd hml hv
        obtain ⟨rfl, hP, hm, hz, hK, hN, hS, hX⟩ := hv
        have hts := atoms_spec (ws := Cond.code mi.1 mi.2.1 mi.2.2.1 mi.2.2.2.1 :: TB) Bd.pre
        have C0 : sm_C p s m ((as.map (sm_cv B ad)).toArray) meth c D cl τ B ad TB NB SK XT M.length mi := ⟨Bd.exec, Bd.bytes, hml, findClass_of_methodNamed Bd.named, fun w hw => hts w (List.mem_cons_of_mem _ hw), hN, hK, hS, hX, hz, (name_of_methodNamed Bd.named Bd.method).1⟩
        have hlocks : meth.locks = false := Bd.notSynchronized
        have hret := Bd.returns
        have hb := Bd.bytes
        have hx := Bd.exec
        have hl := lv_entry (as.map (sm_cv B ad)) (n := mi.2.2.1) (by rw [sm_ent_len]; exact hble)
        rw [lg_entry_eq]
        generalize (lg_sl (as.map (sm_cv B ad)) ++ List.replicate (mi.2.2.1 - (lg_sl (as.map (sm_cv B ad))).length) Slot.unset).toArray = ls at hl ⊢
        refine sm_run_ok (R := sm_rm (d + 1) M M1) (m0 := M.length) (s0 := sm_sl M) C0 ok hE (sc := none) (fun n g hng => by cases hng) hAI hAL ih (by show _ ≤ M1.length - M.length + _; omega) (by show _ ≤ sm_sl M1 - sm_sl M + _; omega) ⟨Nat.le_refl _, Nat.le_refl _⟩ ?_ N 0 _ [] M h s.heap [] ls 0 0 hP hm va_S.rf (by rw [sm_pad_len]; exact Nat.le_refl _) (sm_has_le hl (fun q hq => sm_al_ent as _ 0 hq)) (Nat.zero_add _) (Nat.zero_add _)
        intro pc i H locs ls cells slots hd hrk hP' hm' hS' h1 h2
        have e1 : cells = M1.length - M.length := by omega
        have e2 : slots = sm_sl M1 - sm_sl M := by omega
        subst e1; subst e2
        rcases hrk with ⟨rfl, x, rfl, hzr⟩ | ⟨rfl, x, rfl, hrt⟩ | ⟨rfl, rfl, hrt⟩
        · have hn : ∃ ty, mi.2.2.2.1 = some ty ∧ narrow ty (.int x) = .int x := by
            unfold sm_zr at hzr
            split at hzr
            · rename_i hq; exact ⟨_, hq, rfl⟩
            · rename_i hq
              refine ⟨_, hq, ?_⟩
              simp only [Bool.or_eq_true, beq_iff_eq] at hzr
              rcases hzr with rfl | rfl <;> decide
            · cases hzr
          obtain ⟨ty, hty, hnar⟩ := hn
          exact W.zret hx hb (hret.trans hty) hnar (fun t ht hW => ⟨rfl, by rw [ht]; exact hP', hm', hS'.F ht⟩) hS'.2.2 hd hlocks
        · exact W.lret hx hb (hret.trans hrt) (fun t ht hW => ⟨rfl, by rw [ht]; exact hP', hm', hS'.F ht⟩) hS'.2.2 hd hlocks
        · exact W.vret hx hb (hret.trans hrt) (fun t ht hW => ⟨rfl, by rw [ht]; exact hP', hm', hS'.F ht⟩) hS'.2.2 hd hlocks
      · cases h
    · rename_i hmi
      exact hbi d y as M M1 v hmi h
end
